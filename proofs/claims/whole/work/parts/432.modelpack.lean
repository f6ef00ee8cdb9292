theorem dX16_inTurn_0 : decode cX16_inTurn 0 = .ok (.iload_n 2, 1) := by decide +kernel
theorem dX16_inTurn_1 : decode cX16_inTurn 1 = .ok (.istore_n 3, 1) := by decide +kernel
theorem dX16_inTurn_2 : decode cX16_inTurn 2 = .ok (.iconst 0, 1) := by decide +kernel
theorem dX16_inTurn_3 : decode cX16_inTurn 3 = .ok (.istore 4, 2) := by decide +kernel
theorem dX16_inTurn_5 : decode cX16_inTurn 5 = .ok (.iload 4, 2) := by decide +kernel
theorem dX16_inTurn_7 : decode cX16_inTurn 7 = .ok (.iload_n 1, 1) := by decide +kernel
theorem dX16_inTurn_8 : decode cX16_inTurn 8 = .ok (.if_icmp .ge 120, 3) := by decide +kernel
theorem dX16_inTurn_11 : decode cX16_inTurn 11 = .ok (.aload_n 0, 1) := by decide +kernel
theorem dX16_inTurn_12 : decode cX16_inTurn 12 = .ok (.getfield 62, 3) := by decide +kernel
theorem dX16_inTurn_15 : decode cX16_inTurn 15 = .ok (.iload 4, 2) := by decide +kernel
theorem dX16_inTurn_17 : decode cX16_inTurn 17 = .ok (.iaload, 1) := by decide +kernel
theorem dX16_inTurn_18 : decode cX16_inTurn 18 = .ok (.istore 5, 2) := by decide +kernel
theorem dX16_inTurn_20 : decode cX16_inTurn 20 = .ok (.iconst (-1), 1) := by decide +kernel
theorem dX16_inTurn_21 : decode cX16_inTurn 21 = .ok (.istore 6, 2) := by decide +kernel
theorem dX16_inTurn_23 : decode cX16_inTurn 23 = .ok (.iconst 0, 1) := by decide +kernel
theorem dX16_inTurn_24 : decode cX16_inTurn 24 = .ok (.istore 7, 2) := by decide +kernel
theorem dX16_inTurn_26 : decode cX16_inTurn 26 = .ok (.iconst 0, 1) := by decide +kernel
theorem dX16_inTurn_27 : decode cX16_inTurn 27 = .ok (.istore 8, 2) := by decide +kernel
theorem dX16_inTurn_29 : decode cX16_inTurn 29 = .ok (.iload 8, 2) := by decide +kernel
theorem dX16_inTurn_31 : decode cX16_inTurn 31 = .ok (.iload_n 3, 1) := by decide +kernel
theorem dX16_inTurn_32 : decode cX16_inTurn 32 = .ok (.if_icmp .ge 38, 3) := by decide +kernel
theorem dX16_inTurn_35 : decode cX16_inTurn 35 = .ok (.iload 6, 2) := by decide +kernel
theorem dX16_inTurn_37 : decode cX16_inTurn 37 = .ok (.ifCond .ge 33, 3) := by decide +kernel
theorem dX16_inTurn_40 : decode cX16_inTurn 40 = .ok (.aload_n 0, 1) := by decide +kernel
theorem dX16_inTurn_41 : decode cX16_inTurn 41 = .ok (.getfield 65, 3) := by decide +kernel
theorem dX16_inTurn_44 : decode cX16_inTurn 44 = .ok (.iload 8, 2) := by decide +kernel
theorem dX16_inTurn_46 : decode cX16_inTurn 46 = .ok (.iaload, 1) := by decide +kernel
theorem dX16_inTurn_47 : decode cX16_inTurn 47 = .ok (.istore 7, 2) := by decide +kernel
theorem dX16_inTurn_49 : decode cX16_inTurn 49 = .ok (.aload_n 0, 1) := by decide +kernel
theorem dX16_inTurn_50 : decode cX16_inTurn 50 = .ok (.iload 7, 2) := by decide +kernel
theorem dX16_inTurn_52 : decode cX16_inTurn 52 = .ok (.aload_n 0, 1) := by decide +kernel
theorem dX16_inTurn_53 : decode cX16_inTurn 53 = .ok (.getfield 74, 3) := by decide +kernel
theorem dX16_inTurn_56 : decode cX16_inTurn 56 = .ok (.iload 5, 2) := by decide +kernel
theorem dX16_inTurn_58 : decode cX16_inTurn 58 = .ok (.iaload, 1) := by decide +kernel
theorem dX16_inTurn_59 : decode cX16_inTurn 59 = .ok (.invokevirtual 124, 3) := by decide +kernel
theorem dX16_inTurn_62 : decode cX16_inTurn 62 = .ok (.istore 6, 2) := by decide +kernel
theorem dX16_inTurn_64 : decode cX16_inTurn 64 = .ok (.iinc 8 1, 3) := by decide +kernel
theorem dX16_inTurn_67 : decode cX16_inTurn 67 = .ok (.goto (-38), 3) := by decide +kernel
theorem dX16_inTurn_70 : decode cX16_inTurn 70 = .ok (.iload 6, 2) := by decide +kernel
theorem dX16_inTurn_72 : decode cX16_inTurn 72 = .ok (.ifCond .ge 32, 3) := by decide +kernel
theorem dX16_inTurn_75 : decode cX16_inTurn 75 = .ok (.aload_n 0, 1) := by decide +kernel
theorem dX16_inTurn_76 : decode cX16_inTurn 76 = .ok (.invokevirtual 120, 3) := by decide +kernel
theorem dX16_inTurn_79 : decode cX16_inTurn 79 = .ok (.istore 7, 2) := by decide +kernel
theorem dX16_inTurn_81 : decode cX16_inTurn 81 = .ok (.iload 7, 2) := by decide +kernel
theorem dX16_inTurn_83 : decode cX16_inTurn 83 = .ok (.bipush 65, 2) := by decide +kernel
theorem dX16_inTurn_85 : decode cX16_inTurn 85 = .ok (.if_icmp .ne 5, 3) := by decide +kernel
theorem dX16_inTurn_88 : decode cX16_inTurn 88 = .ok (.iconst 0, 1) := by decide +kernel
theorem dX16_inTurn_89 : decode cX16_inTurn 89 = .ok (.ireturn, 1) := by decide +kernel
theorem dX16_inTurn_90 : decode cX16_inTurn 90 = .ok (.iconst 0, 1) := by decide +kernel
theorem dX16_inTurn_91 : decode cX16_inTurn 91 = .ok (.istore 6, 2) := by decide +kernel
theorem dX16_inTurn_93 : decode cX16_inTurn 93 = .ok (.aload_n 0, 1) := by decide +kernel
theorem dX16_inTurn_94 : decode cX16_inTurn 94 = .ok (.getfield 65, 3) := by decide +kernel
theorem dX16_inTurn_97 : decode cX16_inTurn 97 = .ok (.iload_n 3, 1) := by decide +kernel
theorem dX16_inTurn_98 : decode cX16_inTurn 98 = .ok (.iload 7, 2) := by decide +kernel
theorem dX16_inTurn_100 : decode cX16_inTurn 100 = .ok (.iastore, 1) := by decide +kernel
theorem dX16_inTurn_101 : decode cX16_inTurn 101 = .ok (.iinc 3 1, 3) := by decide +kernel
theorem dX16_inTurn_104 : decode cX16_inTurn 104 = .ok (.aload_n 0, 1) := by decide +kernel
theorem dX16_inTurn_105 : decode cX16_inTurn 105 = .ok (.getfield 56, 3) := by decide +kernel
theorem dX16_inTurn_108 : decode cX16_inTurn 108 = .ok (.iload 5, 2) := by decide +kernel
theorem dX16_inTurn_110 : decode cX16_inTurn 110 = .ok (.iload 7, 2) := by decide +kernel
theorem dX16_inTurn_112 : decode cX16_inTurn 112 = .ok (.iastore, 1) := by decide +kernel
theorem dX16_inTurn_113 : decode cX16_inTurn 113 = .ok (.aload_n 0, 1) := by decide +kernel
theorem dX16_inTurn_114 : decode cX16_inTurn 114 = .ok (.getfield 59, 3) := by decide +kernel
theorem dX16_inTurn_117 : decode cX16_inTurn 117 = .ok (.iload 5, 2) := by decide +kernel
theorem dX16_inTurn_119 : decode cX16_inTurn 119 = .ok (.iload 6, 2) := by decide +kernel
theorem dX16_inTurn_121 : decode cX16_inTurn 121 = .ok (.iastore, 1) := by decide +kernel
theorem dX16_inTurn_122 : decode cX16_inTurn 122 = .ok (.iinc 4 1, 3) := by decide +kernel
theorem dX16_inTurn_125 : decode cX16_inTurn 125 = .ok (.goto (-120), 3) := by decide +kernel
theorem dX16_inTurn_128 : decode cX16_inTurn 128 = .ok (.iconst 1, 1) := by decide +kernel
theorem dX16_inTurn_129 : decode cX16_inTurn 129 = .ok (.ireturn, 1) := by decide +kernel
theorem cwX16_inTurn : mw_cwV yX16_inTurn cX16_inTurn 9 ((some .boolean)) 2 := ⟨⟨wd_19, wd_3457, by decide +kernel⟩, wd_3456, sl_205⟩
set_option maxHeartbeats 4000000 in
set_option maxRecDepth 100000 in
theorem tX16_inTurn (l : Launch) (G : mwG) (ad : Nat → Nat) (fu : Nat) (k : Nat) (a1 : Int32) (a2 : Int32) (M : mwM) (L : mwL) {r0 : Int32} {M0 : mwM} {L0 : mwL} (hD : DX16_inTurn fu k a1 a2 M L = some (r0, M0, L0)) (hk0 : isMp k) : Met l yX16_inTurn (Cond.code yX16_inTurn cX16_inTurn 9 ((some .boolean)) :: GT) ({ frames := 3, cells := 0, slots := 0, locals := 71 }) (mw_Pre G ad NF TF FF M L [.ref (ad k), .int a1, .int a2]) (mw_Qi G ad NF TF FF (mw_eqI r0 M0 L0)) 0 0 (mw_fr G) := by
  refine mw_enter (by decide) (Nat.le_of_ble_eq_true rfl) ?_
  intro p e s m below meth c ls C hr hlocks hnm hw hl
  have hl : lv_has ls 9 [(0, .ref (ad k)), (1, .int a1), (2, .int a2)] := hl
  have hh5 : ∀ (f : Nat) (v3 : Int32) (v4 : Int32) (M : mwM) (L : mwL) (H : Heap) (locs : List Loc) (ls : Array Slot), fX16_inTurn_h5 fu k a1 a2 f (v3, v4, M, L) = some (r0, M0, L0) → mw_W G ad NF TF FF M L H locs → lv_has ls 9 [(0, .ref (ad k)), (1, .int a1), (3, .int v3), (4, .int v4)] → W p l e ({ frames := 3, cells := 0, slots := 0, locals := 71 }) s m [.ref (ad k), .int a1, .int a2].toArray below meth c H locs 0 0 (MQ below (mw_Qi G ad NF TF FF (mw_eqI r0 M0 L0)) [.ref (ad k), .int a1, .int a2].toArray s 0 0 (mw_fr G)) (F0 m 5 ls []) := by
    intro f
    induction f with
    | zero => intro v3 v4 M L H locs ls hD; cases hD
    | succ f5 ih5 =>
      intro v3 v4 M L H locs ls hD hw hl
      replace hD : fX16_inTurn_i5 fu k a1 a2 (fX16_inTurn_h5 fu k a1 a2 f5) v3 v4 M L = some (r0, M0, L0) := hD
      have hb104 : ∀ (v3 : Int32) (v4 : Int32) (v5 : Int32) (v6 : Int32) (v7 : Int32) (M : mwM) (L : mwL) (H : Heap) (locs : List Loc) (ls : Array Slot), fX16_inTurn_b104 fu k a1 a2 (fX16_inTurn_h5 fu k a1 a2 f5) v3 v4 v5 v6 v7 M L = some (r0, M0, L0) → mw_W G ad NF TF FF M L H locs → lv_has ls 9 [(0, .ref (ad k)), (1, .int a1), (3, .int v3), (4, .int v4), (5, .int v5), (6, .int v6), (7, .int v7)] → W p l e ({ frames := 3, cells := 0, slots := 0, locals := 71 }) s m [.ref (ad k), .int a1, .int a2].toArray below meth c H locs 0 0 (MQ below (mw_Qi G ad NF TF FF (mw_eqI r0 M0 L0)) [.ref (ad k), .int a1, .int a2].toArray s 0 0 (mw_fr G)) (F0 m 104 ls []) := by
        intro v3 v4 v5 v6 v7 M L H locs ls hD hw hl
        unfold fX16_inTurn_b104 at hD
        refine lv_aload_n C.1.1 C.1.2.1 dX16_inTurn_104 rfl (lv_at hl 0 rfl) ?_
        refine mr_getR C hw kc_16 20 (Mp_N0 hk0) (Mp_T0 hk0) (Mp_F0_20 hk0) wd_2575 dX16_inTurn_105 (by decide) rfl ?_
        refine lv_iload C.1.1 C.1.2.1 dX16_inTurn_108 (lv_at hl 4 rfl) ?_
        refine lv_iload C.1.1 C.1.2.1 dX16_inTurn_110 (lv_at hl 6 rfl) ?_
        obtain ⟨q21, hD⟩ := g_ck hD
        obtain ⟨M22, eM22, hD⟩ := g_let hD
        refine mr_iast C hw (Mp_N16 hk0) (Mp_T16 hk0) q21 dX16_inTurn_112 (fun H locs hw => ?_)
        replace hw : mw_W G ad NF TF FF M22 L H locs := by rw [eM22]; exact hw
        refine lv_aload_n C.1.1 C.1.2.1 dX16_inTurn_113 rfl (lv_at hl 0 rfl) ?_
        refine mr_getR C hw kc_16 21 (Mp_N0 hk0) (Mp_T0 hk0) (Mp_F0_21 hk0) wd_2576 dX16_inTurn_114 (by decide) rfl ?_
        refine lv_iload C.1.1 C.1.2.1 dX16_inTurn_117 (lv_at hl 4 rfl) ?_
        refine lv_iload C.1.1 C.1.2.1 dX16_inTurn_119 (lv_at hl 5 rfl) ?_
        obtain ⟨q23, hD⟩ := g_ck hD
        obtain ⟨M24, eM24, hD⟩ := g_let hD
        refine mr_iast C hw (Mp_N17 hk0) (Mp_T17 hk0) q23 dX16_inTurn_121 (fun H locs hw => ?_)
        replace hw : mw_W G ad NF TF FF M24 L H locs := by rw [eM24]; exact hw
        obtain ⟨x25, ex25, hD⟩ := g_let hD
        refine lv_iinc (v := x25) (lv' := [(4, .int x25), (0, .ref (ad k)), (1, .int a1), (3, .int v3), (5, .int v5), (6, .int v6), (7, .int v7)]) C.1.1 C.1.2.1 dX16_inTurn_122 hl (k := 3) rfl (by rw [ex25]; rfl) (by decide) rfl (fun ls hl => ?_)
        refine lv_goto (tgt := 5) C.1.1 C.1.2.1 dX16_inTurn_125 (by decide) ?_
        exact ih5 v3 x25 M24 L _ _ ls hD hw (lv_sub hl [1, 2, 3, 0] rfl)
      have hb70 : ∀ (v3 : Int32) (v4 : Int32) (v5 : Int32) (v6 : Int32) (v7 : Int32) (M : mwM) (L : mwL) (H : Heap) (locs : List Loc) (ls : Array Slot), fX16_inTurn_b70 fu k a1 a2 (fX16_inTurn_h5 fu k a1 a2 f5) v3 v4 v5 v6 v7 M L = some (r0, M0, L0) → mw_W G ad NF TF FF M L H locs → lv_has ls 9 [(0, .ref (ad k)), (1, .int a1), (3, .int v3), (4, .int v4), (5, .int v5), (6, .int v6), (7, .int v7)] → W p l e ({ frames := 3, cells := 0, slots := 0, locals := 71 }) s m [.ref (ad k), .int a1, .int a2].toArray below meth c H locs 0 0 (MQ below (mw_Qi G ad NF TF FF (mw_eqI r0 M0 L0)) [.ref (ad k), .int a1, .int a2].toArray s 0 0 (mw_fr G)) (F0 m 70 ls []) := by
        intro v3 v4 v5 v6 v7 M L H locs ls hD hw hl
        unfold fX16_inTurn_b70 at hD
        refine lv_iload C.1.1 C.1.2.1 dX16_inTurn_70 (lv_at hl 5 rfl) ?_
        refine lv_if_ge (tgt := 104) C.1.1 C.1.2.1 dX16_inTurn_72 (by decide) (fun c13 => ?_) (fun c13 => ?_)
        · replace hD := g_pos c13 hD
          exact hb104 v3 v4 v5 v6 v7 M L _ _ ls hD hw (lv_sub hl [0, 1, 2, 3, 4, 5, 6] rfl)
        · replace hD := g_neg c13 hD
          refine lv_aload_n C.1.1 C.1.2.1 dX16_inTurn_75 rfl (lv_at hl 0 rfl) ?_
          obtain ⟨r16, M14, L15, h1, hD⟩ := g_b3 hD
          refine md_cvI (As := []) (rest := []) C hw (tX16_newFrame l G ad fu k M L h1 hk0) kc_16 (Mp_N0 hk0) (Mp_T0 hk0) wd_3462 cwX16_newFrame ⟨Nat.le_of_ble_eq_true rfl, Nat.le_of_ble_eq_true rfl⟩ rfl hl.1 (Nat.le_of_ble_eq_true rfl) dX16_inTurn_76 rfl rfl ⟨Nat.zero_le _, Nat.zero_le _⟩ rfl (fun H locs hw => ?_)
          refine lv_istore (lv' := [(7, .int r16), (0, .ref (ad k)), (1, .int a1), (3, .int v3), (4, .int v4), (5, .int v5), (6, .int v6)]) C.1.1 C.1.2.1 dX16_inTurn_79 hl (by decide) rfl (fun ls hl => ?_)
          refine lv_iload C.1.1 C.1.2.1 dX16_inTurn_81 (lv_at hl 0 rfl) ?_
          refine lv_bipush (v := 65) C.1.1 C.1.2.1 dX16_inTurn_83 (by decide) ?_
          refine lv_icmp_ne (tgt := 90) C.1.1 C.1.2.1 dX16_inTurn_85 (by decide) (fun c17 => ?_) (fun c17 => ?_)
          · replace hD := g_neg c17 hD
            refine lv_iconst (v := 0) C.1.1 C.1.2.1 dX16_inTurn_90 (by decide) ?_
            refine lv_istore (lv' := [(6, .int 0), (7, .int r16), (0, .ref (ad k)), (1, .int a1), (3, .int v3), (4, .int v4), (5, .int v5)]) C.1.1 C.1.2.1 dX16_inTurn_91 hl (by decide) rfl (fun ls hl => ?_)
            refine lv_aload_n C.1.1 C.1.2.1 dX16_inTurn_93 rfl (lv_at hl 2 rfl) ?_
            refine mr_getR C hw kc_16 23 (Mp_N0 hk0) (Mp_T0 hk0) (Mp_F0_23 hk0) wd_2578 dX16_inTurn_94 (by decide) rfl ?_
            refine lv_iload_n C.1.1 C.1.2.1 dX16_inTurn_97 rfl (lv_at hl 4 rfl) ?_
            refine lv_iload C.1.1 C.1.2.1 dX16_inTurn_98 (lv_at hl 1 rfl) ?_
            obtain ⟨q18, hD⟩ := g_ck hD
            obtain ⟨M19, eM19, hD⟩ := g_let hD
            refine mr_iast C hw (Mp_N19 hk0) (Mp_T19 hk0) q18 dX16_inTurn_100 (fun H locs hw => ?_)
            replace hw : mw_W G ad NF TF FF M19 L15 H locs := by rw [eM19]; exact hw
            obtain ⟨x20, ex20, hD⟩ := g_let hD
            refine lv_iinc (v := x20) (lv' := [(3, .int x20), (6, .int 0), (7, .int r16), (0, .ref (ad k)), (1, .int a1), (4, .int v4), (5, .int v5)]) C.1.1 C.1.2.1 dX16_inTurn_101 hl (k := 4) rfl (by rw [ex20]; rfl) (by decide) rfl (fun ls hl => ?_)
            exact hb104 x20 v4 v5 0 r16 M19 L15 _ _ ls hD hw (lv_sub hl [3, 4, 0, 5, 6, 1, 2] rfl)
          · replace hD := g_pos c17 hD
            refine lv_iconst (v := 0) C.1.1 C.1.2.1 dX16_inTurn_88 (by decide) ?_
            exact mr_iret C hr hlocks hw (by decide +kernel) (Option.some.inj hD) dX16_inTurn_89
      have hh29 : ∀ (f : Nat) (v3 : Int32) (v4 : Int32) (v5 : Int32) (v6 : Int32) (v7 : Int32) (v8 : Int32) (M : mwM) (L : mwL) (H : Heap) (locs : List Loc) (ls : Array Slot), fX16_inTurn_h29 fu k a1 a2 (fX16_inTurn_h5 fu k a1 a2 f5) f (v3, v4, v5, v6, v7, v8, M, L) = some (r0, M0, L0) → mw_W G ad NF TF FF M L H locs → lv_has ls 9 [(0, .ref (ad k)), (1, .int a1), (3, .int v3), (4, .int v4), (5, .int v5), (6, .int v6), (7, .int v7), (8, .int v8)] → W p l e ({ frames := 3, cells := 0, slots := 0, locals := 71 }) s m [.ref (ad k), .int a1, .int a2].toArray below meth c H locs 0 0 (MQ below (mw_Qi G ad NF TF FF (mw_eqI r0 M0 L0)) [.ref (ad k), .int a1, .int a2].toArray s 0 0 (mw_fr G)) (F0 m 29 ls []) := by
        intro f
        induction f with
        | zero => intro v3 v4 v5 v6 v7 v8 M L H locs ls hD; cases hD
        | succ f29 ih29 =>
          intro v3 v4 v5 v6 v7 v8 M L H locs ls hD hw hl
          replace hD : fX16_inTurn_i29 fu k a1 a2 (fX16_inTurn_h5 fu k a1 a2 f5) (fX16_inTurn_h29 fu k a1 a2 (fX16_inTurn_h5 fu k a1 a2 f5) f29) v3 v4 v5 v6 v7 v8 M L = some (r0, M0, L0) := hD
          unfold fX16_inTurn_i29 at hD
          refine lv_iload C.1.1 C.1.2.1 dX16_inTurn_29 (lv_at hl 7 rfl) ?_
          refine lv_iload_n C.1.1 C.1.2.1 dX16_inTurn_31 rfl (lv_at hl 2 rfl) ?_
          refine lv_icmp_ge (tgt := 70) C.1.1 C.1.2.1 dX16_inTurn_32 (by decide) (fun c4 => ?_) (fun c4 => ?_)
          · replace hD := g_pos c4 hD
            exact hb70 v3 v4 v5 v6 v7 M L _ _ ls hD hw (lv_sub hl [0, 1, 2, 3, 4, 5, 6] rfl)
          · replace hD := g_neg c4 hD
            refine lv_iload C.1.1 C.1.2.1 dX16_inTurn_35 (lv_at hl 5 rfl) ?_
            refine lv_if_ge (tgt := 70) C.1.1 C.1.2.1 dX16_inTurn_37 (by decide) (fun c5 => ?_) (fun c5 => ?_)
            · replace hD := g_pos c5 hD
              exact hb70 v3 v4 v5 v6 v7 M L _ _ ls hD hw (lv_sub hl [0, 1, 2, 3, 4, 5, 6] rfl)
            · replace hD := g_neg c5 hD
              refine lv_aload_n C.1.1 C.1.2.1 dX16_inTurn_40 rfl (lv_at hl 0 rfl) ?_
              refine mr_getR C hw kc_16 23 (Mp_N0 hk0) (Mp_T0 hk0) (Mp_F0_23 hk0) wd_2578 dX16_inTurn_41 (by decide) rfl ?_
              refine lv_iload C.1.1 C.1.2.1 dX16_inTurn_44 (lv_at hl 7 rfl) ?_
              obtain ⟨q6, hD⟩ := g_ck hD
              refine mr_iald C hw (Mp_N19 hk0) (Mp_T19 hk0) q6 dX16_inTurn_46 ?_
              obtain ⟨x7, ex7, hD⟩ := g_let hD
              refine W.eq (g2 := F0 m 47 ls (.int x7 :: [])) (by rw [ex7]) ?_
              refine lv_istore (lv' := [(7, .int x7), (0, .ref (ad k)), (1, .int a1), (3, .int v3), (4, .int v4), (5, .int v5), (6, .int v6), (8, .int v8)]) C.1.1 C.1.2.1 dX16_inTurn_47 hl (by decide) rfl (fun ls hl => ?_)
              refine lv_aload_n C.1.1 C.1.2.1 dX16_inTurn_49 rfl (lv_at hl 1 rfl) ?_
              refine lv_iload C.1.1 C.1.2.1 dX16_inTurn_50 (lv_at hl 0 rfl) ?_
              refine lv_aload_n C.1.1 C.1.2.1 dX16_inTurn_52 rfl (lv_at hl 1 rfl) ?_
              refine mr_getR C hw kc_16 26 (Mp_N0 hk0) (Mp_T0 hk0) (Mp_F0_26 hk0) wd_2581 dX16_inTurn_53 (by decide) rfl ?_
              refine lv_iload C.1.1 C.1.2.1 dX16_inTurn_56 (lv_at hl 5 rfl) ?_
              obtain ⟨q8, hD⟩ := g_ck hD
              refine mr_iald C hw (Mp_N22 hk0) (Mp_T22 hk0) q8 dX16_inTurn_58 ?_
              obtain ⟨r11, M9, L10, h1, hD⟩ := g_b3 hD
              refine md_cvI (As := [.int x7, .int (M (k + 22) v5.toNatClampNeg)]) (rest := []) C hw (tX16_room l G ad fu k x7 (M (k + 22) v5.toNatClampNeg) M L h1 hk0) kc_16 (Mp_N0 hk0) (Mp_T0 hk0) wd_3458 cwX16_room ⟨Nat.le_of_ble_eq_true rfl, Nat.le_of_ble_eq_true rfl⟩ rfl hl.1 (Nat.le_of_ble_eq_true rfl) dX16_inTurn_59 rfl rfl ⟨Nat.zero_le _, Nat.zero_le _⟩ rfl (fun H locs hw => ?_)
              refine lv_istore (lv' := [(6, .int r11), (7, .int x7), (0, .ref (ad k)), (1, .int a1), (3, .int v3), (4, .int v4), (5, .int v5), (8, .int v8)]) C.1.1 C.1.2.1 dX16_inTurn_62 hl (by decide) rfl (fun ls hl => ?_)
              obtain ⟨x12, ex12, hD⟩ := g_let hD
              refine lv_iinc (v := x12) (lv' := [(8, .int x12), (6, .int r11), (7, .int x7), (0, .ref (ad k)), (1, .int a1), (3, .int v3), (4, .int v4), (5, .int v5)]) C.1.1 C.1.2.1 dX16_inTurn_64 hl (k := 7) rfl (by rw [ex12]; rfl) (by decide) rfl (fun ls hl => ?_)
              refine lv_goto (tgt := 29) C.1.1 C.1.2.1 dX16_inTurn_67 (by decide) ?_
              exact ih29 v3 v4 v5 r11 x7 x12 M9 L10 _ _ ls hD hw (lv_sub hl [3, 4, 5, 6, 7, 1, 2, 0] rfl)
      unfold fX16_inTurn_i5 at hD
      refine lv_iload C.1.1 C.1.2.1 dX16_inTurn_5 (lv_at hl 3 rfl) ?_
      refine lv_iload_n C.1.1 C.1.2.1 dX16_inTurn_7 rfl (lv_at hl 1 rfl) ?_
      refine lv_icmp_ge (tgt := 128) C.1.1 C.1.2.1 dX16_inTurn_8 (by decide) (fun c1 => ?_) (fun c1 => ?_)
      · replace hD := g_pos c1 hD
        refine lv_iconst (v := 1) C.1.1 C.1.2.1 dX16_inTurn_128 (by decide) ?_
        exact mr_iret C hr hlocks hw (by decide +kernel) (Option.some.inj hD) dX16_inTurn_129
      · replace hD := g_neg c1 hD
        refine lv_aload_n C.1.1 C.1.2.1 dX16_inTurn_11 rfl (lv_at hl 0 rfl) ?_
        refine mr_getR C hw kc_16 22 (Mp_N0 hk0) (Mp_T0 hk0) (Mp_F0_22 hk0) wd_2577 dX16_inTurn_12 (by decide) rfl ?_
        refine lv_iload C.1.1 C.1.2.1 dX16_inTurn_15 (lv_at hl 3 rfl) ?_
        obtain ⟨q2, hD⟩ := g_ck hD
        refine mr_iald C hw (Mp_N18 hk0) (Mp_T18 hk0) q2 dX16_inTurn_17 ?_
        obtain ⟨x3, ex3, hD⟩ := g_let hD
        refine W.eq (g2 := F0 m 18 ls (.int x3 :: [])) (by rw [ex3]) ?_
        refine lv_istore (lv' := [(5, .int x3), (0, .ref (ad k)), (1, .int a1), (3, .int v3), (4, .int v4)]) C.1.1 C.1.2.1 dX16_inTurn_18 hl (by decide) rfl (fun ls hl => ?_)
        refine lv_iconst (v := (-1)) C.1.1 C.1.2.1 dX16_inTurn_20 (by decide) ?_
        refine lv_istore (lv' := [(6, .int ((-1))), (5, .int x3), (0, .ref (ad k)), (1, .int a1), (3, .int v3), (4, .int v4)]) C.1.1 C.1.2.1 dX16_inTurn_21 hl (by decide) rfl (fun ls hl => ?_)
        refine lv_iconst (v := 0) C.1.1 C.1.2.1 dX16_inTurn_23 (by decide) ?_
        refine lv_istore (lv' := [(7, .int 0), (6, .int ((-1))), (5, .int x3), (0, .ref (ad k)), (1, .int a1), (3, .int v3), (4, .int v4)]) C.1.1 C.1.2.1 dX16_inTurn_24 hl (by decide) rfl (fun ls hl => ?_)
        refine lv_iconst (v := 0) C.1.1 C.1.2.1 dX16_inTurn_26 (by decide) ?_
        refine lv_istore (lv' := [(8, .int 0), (7, .int 0), (6, .int ((-1))), (5, .int x3), (0, .ref (ad k)), (1, .int a1), (3, .int v3), (4, .int v4)]) C.1.1 C.1.2.1 dX16_inTurn_27 hl (by decide) rfl (fun ls hl => ?_)
        exact hh29 fu v3 v4 x3 ((-1)) 0 0 M L _ _ ls hD hw (lv_sub hl [4, 5, 6, 7, 3, 2, 1, 0] rfl)
  unfold DX16_inTurn at hD
  refine lv_iload_n C.1.1 C.1.2.1 dX16_inTurn_0 rfl (lv_at hl 2 rfl) ?_
  refine lv_istore_n (lv' := [(3, .int a2), (0, .ref (ad k)), (1, .int a1), (2, .int a2)]) C.1.1 C.1.2.1 dX16_inTurn_1 rfl hl (by decide) rfl (fun ls hl => ?_)
  refine lv_iconst (v := 0) C.1.1 C.1.2.1 dX16_inTurn_2 (by decide) ?_
  refine lv_istore (lv' := [(4, .int 0), (3, .int a2), (0, .ref (ad k)), (1, .int a1), (2, .int a2)]) C.1.1 C.1.2.1 dX16_inTurn_3 hl (by decide) rfl (fun ls hl => ?_)
  exact hh5 fu a2 0 M L _ _ ls hD hw (lv_sub hl [2, 3, 1, 0] rfl)

theorem dX16_listed_0 : decode cX16_listed 0 = .ok (.iconst 0, 1) := by decide +kernel
theorem dX16_listed_1 : decode cX16_listed 1 = .ok (.istore_n 2, 1) := by decide +kernel
theorem dX16_listed_2 : decode cX16_listed 2 = .ok (.iconst 0, 1) := by decide +kernel
theorem dX16_listed_3 : decode cX16_listed 3 = .ok (.istore_n 3, 1) := by decide +kernel
theorem dX16_listed_4 : decode cX16_listed 4 = .ok (.iload_n 3, 1) := by decide +kernel
theorem dX16_listed_5 : decode cX16_listed 5 = .ok (.ifCond .lt 184, 3) := by decide +kernel
theorem dX16_listed_8 : decode cX16_listed 8 = .ok (.iconst (-1), 1) := by decide +kernel
theorem dX16_listed_9 : decode cX16_listed 9 = .ok (.istore_n 3, 1) := by decide +kernel
theorem dX16_listed_10 : decode cX16_listed 10 = .ok (.iconst 1, 1) := by decide +kernel
theorem dX16_listed_11 : decode cX16_listed 11 = .ok (.istore 4, 2) := by decide +kernel
theorem dX16_listed_13 : decode cX16_listed 13 = .ok (.iload 4, 2) := by decide +kernel
theorem dX16_listed_15 : decode cX16_listed 15 = .ok (.aload_n 0, 1) := by decide +kernel
theorem dX16_listed_16 : decode cX16_listed 16 = .ok (.getfield 81, 3) := by decide +kernel
theorem dX16_listed_19 : decode cX16_listed 19 = .ok (.if_icmp .gt 153, 3) := by decide +kernel
theorem dX16_listed_22 : decode cX16_listed 22 = .ok (.aload_n 0, 1) := by decide +kernel
theorem dX16_listed_23 : decode cX16_listed 23 = .ok (.iload 4, 2) := by decide +kernel
theorem dX16_listed_25 : decode cX16_listed 25 = .ok (.invokevirtual 110, 3) := by decide +kernel
theorem dX16_listed_28 : decode cX16_listed 28 = .ok (.ifCond .eq 28, 3) := by decide +kernel
theorem dX16_listed_31 : decode cX16_listed 31 = .ok (.aload_n 0, 1) := by decide +kernel
theorem dX16_listed_32 : decode cX16_listed 32 = .ok (.getfield 56, 3) := by decide +kernel
theorem dX16_listed_35 : decode cX16_listed 35 = .ok (.iload 4, 2) := by decide +kernel
theorem dX16_listed_37 : decode cX16_listed 37 = .ok (.iaload, 1) := by decide +kernel
theorem dX16_listed_38 : decode cX16_listed 38 = .ok (.ifCond .ne 18, 3) := by decide +kernel
theorem dX16_listed_41 : decode cX16_listed 41 = .ok (.aload_n 0, 1) := by decide +kernel
theorem dX16_listed_42 : decode cX16_listed 42 = .ok (.getfield 13, 3) := by decide +kernel
theorem dX16_listed_45 : decode cX16_listed 45 = .ok (.iload 4, 2) := by decide +kernel
theorem dX16_listed_47 : decode cX16_listed 47 = .ok (.iaload, 1) := by decide +kernel
theorem dX16_listed_48 : decode cX16_listed 48 = .ok (.iload_n 1, 1) := by decide +kernel
theorem dX16_listed_49 : decode cX16_listed 49 = .ok (.if_icmp .ne 7, 3) := by decide +kernel
theorem dX16_listed_52 : decode cX16_listed 52 = .ok (.iconst 1, 1) := by decide +kernel
theorem dX16_listed_53 : decode cX16_listed 53 = .ok (.goto 4, 3) := by decide +kernel
theorem dX16_listed_56 : decode cX16_listed 56 = .ok (.iconst 0, 1) := by decide +kernel
theorem dX16_listed_57 : decode cX16_listed 57 = .ok (.istore 5, 2) := by decide +kernel
theorem dX16_listed_59 : decode cX16_listed 59 = .ok (.iload_n 2, 1) := by decide +kernel
theorem dX16_listed_60 : decode cX16_listed 60 = .ok (.ifCond .eq 62, 3) := by decide +kernel
theorem dX16_listed_63 : decode cX16_listed 63 = .ok (.aload_n 0, 1) := by decide +kernel
theorem dX16_listed_64 : decode cX16_listed 64 = .ok (.getfield 74, 3) := by decide +kernel
theorem dX16_listed_67 : decode cX16_listed 67 = .ok (.iload 4, 2) := by decide +kernel
theorem dX16_listed_69 : decode cX16_listed 69 = .ok (.iaload, 1) := by decide +kernel
theorem dX16_listed_70 : decode cX16_listed 70 = .ok (.aload_n 0, 1) := by decide +kernel
theorem dX16_listed_71 : decode cX16_listed 71 = .ok (.getfield 74, 3) := by decide +kernel
theorem dX16_listed_74 : decode cX16_listed 74 = .ok (.aload_n 0, 1) := by decide +kernel
theorem dX16_listed_75 : decode cX16_listed 75 = .ok (.getfield 62, 3) := by decide +kernel
theorem dX16_listed_78 : decode cX16_listed 78 = .ok (.iload_n 2, 1) := by decide +kernel
theorem dX16_listed_79 : decode cX16_listed 79 = .ok (.iconst 1, 1) := by decide +kernel
theorem dX16_listed_80 : decode cX16_listed 80 = .ok (.isub, 1) := by decide +kernel
theorem dX16_listed_81 : decode cX16_listed 81 = .ok (.iaload, 1) := by decide +kernel
theorem dX16_listed_82 : decode cX16_listed 82 = .ok (.iaload, 1) := by decide +kernel
theorem dX16_listed_83 : decode cX16_listed 83 = .ok (.if_icmp .lt 39, 3) := by decide +kernel
theorem dX16_listed_86 : decode cX16_listed 86 = .ok (.aload_n 0, 1) := by decide +kernel
theorem dX16_listed_87 : decode cX16_listed 87 = .ok (.getfield 74, 3) := by decide +kernel
theorem dX16_listed_90 : decode cX16_listed 90 = .ok (.iload 4, 2) := by decide +kernel
theorem dX16_listed_92 : decode cX16_listed 92 = .ok (.iaload, 1) := by decide +kernel
theorem dX16_listed_93 : decode cX16_listed 93 = .ok (.aload_n 0, 1) := by decide +kernel
theorem dX16_listed_94 : decode cX16_listed 94 = .ok (.getfield 74, 3) := by decide +kernel
theorem dX16_listed_97 : decode cX16_listed 97 = .ok (.aload_n 0, 1) := by decide +kernel
theorem dX16_listed_98 : decode cX16_listed 98 = .ok (.getfield 62, 3) := by decide +kernel
theorem dX16_listed_101 : decode cX16_listed 101 = .ok (.iload_n 2, 1) := by decide +kernel
theorem dX16_listed_102 : decode cX16_listed 102 = .ok (.iconst 1, 1) := by decide +kernel
theorem dX16_listed_103 : decode cX16_listed 103 = .ok (.isub, 1) := by decide +kernel
theorem dX16_listed_104 : decode cX16_listed 104 = .ok (.iaload, 1) := by decide +kernel
theorem dX16_listed_105 : decode cX16_listed 105 = .ok (.iaload, 1) := by decide +kernel
theorem dX16_listed_106 : decode cX16_listed 106 = .ok (.if_icmp .ne 20, 3) := by decide +kernel
theorem dX16_listed_109 : decode cX16_listed 109 = .ok (.iload 4, 2) := by decide +kernel
theorem dX16_listed_111 : decode cX16_listed 111 = .ok (.aload_n 0, 1) := by decide +kernel
theorem dX16_listed_112 : decode cX16_listed 112 = .ok (.getfield 62, 3) := by decide +kernel
theorem dX16_listed_115 : decode cX16_listed 115 = .ok (.iload_n 2, 1) := by decide +kernel
theorem dX16_listed_116 : decode cX16_listed 116 = .ok (.iconst 1, 1) := by decide +kernel
theorem dX16_listed_117 : decode cX16_listed 117 = .ok (.isub, 1) := by decide +kernel
theorem dX16_listed_118 : decode cX16_listed 118 = .ok (.iaload, 1) := by decide +kernel
theorem dX16_listed_119 : decode cX16_listed 119 = .ok (.if_icmp .le 7, 3) := by decide +kernel
theorem dX16_listed_122 : decode cX16_listed 122 = .ok (.iconst 1, 1) := by decide +kernel
theorem dX16_listed_123 : decode cX16_listed 123 = .ok (.goto 4, 3) := by decide +kernel
theorem dX16_listed_126 : decode cX16_listed 126 = .ok (.iconst 0, 1) := by decide +kernel
theorem dX16_listed_127 : decode cX16_listed 127 = .ok (.istore 6, 2) := by decide +kernel
theorem dX16_listed_129 : decode cX16_listed 129 = .ok (.iload 5, 2) := by decide +kernel
theorem dX16_listed_131 : decode cX16_listed 131 = .ok (.ifCond .eq 33, 3) := by decide +kernel
theorem dX16_listed_134 : decode cX16_listed 134 = .ok (.iload 6, 2) := by decide +kernel
theorem dX16_listed_136 : decode cX16_listed 136 = .ok (.ifCond .eq 28, 3) := by decide +kernel
theorem dX16_listed_139 : decode cX16_listed 139 = .ok (.iload_n 3, 1) := by decide +kernel
theorem dX16_listed_140 : decode cX16_listed 140 = .ok (.ifCond .lt 19, 3) := by decide +kernel
theorem dX16_listed_143 : decode cX16_listed 143 = .ok (.aload_n 0, 1) := by decide +kernel
theorem dX16_listed_144 : decode cX16_listed 144 = .ok (.getfield 74, 3) := by decide +kernel
theorem dX16_listed_147 : decode cX16_listed 147 = .ok (.iload 4, 2) := by decide +kernel
theorem dX16_listed_149 : decode cX16_listed 149 = .ok (.iaload, 1) := by decide +kernel
theorem dX16_listed_150 : decode cX16_listed 150 = .ok (.aload_n 0, 1) := by decide +kernel
theorem dX16_listed_151 : decode cX16_listed 151 = .ok (.getfield 74, 3) := by decide +kernel
theorem dX16_listed_154 : decode cX16_listed 154 = .ok (.iload_n 3, 1) := by decide +kernel
theorem dX16_listed_155 : decode cX16_listed 155 = .ok (.iaload, 1) := by decide +kernel
theorem dX16_listed_156 : decode cX16_listed 156 = .ok (.if_icmp .le 8, 3) := by decide +kernel
theorem dX16_listed_159 : decode cX16_listed 159 = .ok (.iload 4, 2) := by decide +kernel
theorem dX16_listed_161 : decode cX16_listed 161 = .ok (.goto 4, 3) := by decide +kernel
theorem dX16_listed_164 : decode cX16_listed 164 = .ok (.iload_n 3, 1) := by decide +kernel
theorem dX16_listed_165 : decode cX16_listed 165 = .ok (.istore_n 3, 1) := by decide +kernel
theorem dX16_listed_166 : decode cX16_listed 166 = .ok (.iinc 4 1, 3) := by decide +kernel
theorem dX16_listed_169 : decode cX16_listed 169 = .ok (.goto (-156), 3) := by decide +kernel
theorem dX16_listed_172 : decode cX16_listed 172 = .ok (.iload_n 3, 1) := by decide +kernel
theorem dX16_listed_173 : decode cX16_listed 173 = .ok (.ifCond .le (-169), 3) := by decide +kernel
theorem dX16_listed_176 : decode cX16_listed 176 = .ok (.aload_n 0, 1) := by decide +kernel
theorem dX16_listed_177 : decode cX16_listed 177 = .ok (.getfield 62, 3) := by decide +kernel
theorem dX16_listed_180 : decode cX16_listed 180 = .ok (.iload_n 2, 1) := by decide +kernel
theorem dX16_listed_181 : decode cX16_listed 181 = .ok (.iload_n 3, 1) := by decide +kernel
theorem dX16_listed_182 : decode cX16_listed 182 = .ok (.iastore, 1) := by decide +kernel
theorem dX16_listed_183 : decode cX16_listed 183 = .ok (.iinc 2 1, 3) := by decide +kernel
theorem dX16_listed_186 : decode cX16_listed 186 = .ok (.goto (-182), 3) := by decide +kernel
theorem dX16_listed_189 : decode cX16_listed 189 = .ok (.iload_n 2, 1) := by decide +kernel
theorem dX16_listed_190 : decode cX16_listed 190 = .ok (.ireturn, 1) := by decide +kernel
theorem cwX16_listed : mw_cwV yX16_listed cX16_listed 7 ((some .int)) 1 := ⟨⟨wd_19, wd_3449, by decide +kernel⟩, wd_3448, sl_203⟩
set_option maxHeartbeats 4000000 in
set_option maxRecDepth 100000 in
theorem tX16_listed (l : Launch) (G : mwG) (ad : Nat → Nat) (fu : Nat) (k : Nat) (a1 : Int32) (M : mwM) (L : mwL) {r0 : Int32} {M0 : mwM} {L0 : mwL} (hD : DX16_listed fu k a1 M L = some (r0, M0, L0)) (hk0 : isMp k) : Met l yX16_listed (Cond.code yX16_listed cX16_listed 7 ((some .int)) :: GT) ({ frames := 1, cells := 0, slots := 0, locals := 21 }) (mw_Pre G ad NF TF FF M L [.ref (ad k), .int a1]) (mw_Qi G ad NF TF FF (mw_eqI r0 M0 L0)) 0 0 (mw_fr G) := by
  refine mw_enter (by decide) (Nat.le_of_ble_eq_true rfl) ?_
  intro p e s m below meth c ls C hr hlocks hnm hw hl
  have hl : lv_has ls 7 [(0, .ref (ad k)), (1, .int a1)] := hl
  have hh4 : ∀ (f : Nat) (v2 : Int32) (v3 : Int32) (M : mwM) (L : mwL) (H : Heap) (locs : List Loc) (ls : Array Slot), fX16_listed_h4 fu k a1 f (v2, v3, M, L) = some (r0, M0, L0) → mw_W G ad NF TF FF M L H locs → lv_has ls 7 [(0, .ref (ad k)), (1, .int a1), (2, .int v2), (3, .int v3)] → W p l e ({ frames := 1, cells := 0, slots := 0, locals := 21 }) s m [.ref (ad k), .int a1].toArray below meth c H locs 0 0 (MQ below (mw_Qi G ad NF TF FF (mw_eqI r0 M0 L0)) [.ref (ad k), .int a1].toArray s 0 0 (mw_fr G)) (F0 m 4 ls []) := by
    intro f
    induction f with
    | zero => intro v2 v3 M L H locs ls hD; cases hD
    | succ f4 ih4 =>
      intro v2 v3 M L H locs ls hD hw hl
      replace hD : fX16_listed_i4 fu k a1 (fX16_listed_h4 fu k a1 f4) v2 v3 M L = some (r0, M0, L0) := hD
      have hh13 : ∀ (f : Nat) (v2 : Int32) (v3 : Int32) (v4 : Int32) (M : mwM) (L : mwL) (H : Heap) (locs : List Loc) (ls : Array Slot), fX16_listed_h13 fu k a1 (fX16_listed_h4 fu k a1 f4) f (v2, v3, v4, M, L) = some (r0, M0, L0) → mw_W G ad NF TF FF M L H locs → lv_has ls 7 [(0, .ref (ad k)), (1, .int a1), (2, .int v2), (3, .int v3), (4, .int v4)] → W p l e ({ frames := 1, cells := 0, slots := 0, locals := 21 }) s m [.ref (ad k), .int a1].toArray below meth c H locs 0 0 (MQ below (mw_Qi G ad NF TF FF (mw_eqI r0 M0 L0)) [.ref (ad k), .int a1].toArray s 0 0 (mw_fr G)) (F0 m 13 ls []) := by
        intro f
        induction f with
        | zero => intro v2 v3 v4 M L H locs ls hD; cases hD
        | succ f13 ih13 =>
          intro v2 v3 v4 M L H locs ls hD hw hl
          replace hD : fX16_listed_i13 fu k a1 (fX16_listed_h4 fu k a1 f4) (fX16_listed_h13 fu k a1 (fX16_listed_h4 fu k a1 f4) f13) v2 v3 v4 M L = some (r0, M0, L0) := hD
          have hb165 : ∀ (v2 : Int32) (v4 : Int32) (s0 : Int32) (M : mwM) (L : mwL) (H : Heap) (locs : List Loc) (ls : Array Slot), fX16_listed_b165 fu k a1 (fX16_listed_h4 fu k a1 f4) (fX16_listed_h13 fu k a1 (fX16_listed_h4 fu k a1 f4) f13) v2 v4 s0 M L = some (r0, M0, L0) → mw_W G ad NF TF FF M L H locs → lv_has ls 7 [(0, .ref (ad k)), (1, .int a1), (2, .int v2), (4, .int v4)] → W p l e ({ frames := 1, cells := 0, slots := 0, locals := 21 }) s m [.ref (ad k), .int a1].toArray below meth c H locs 0 0 (MQ below (mw_Qi G ad NF TF FF (mw_eqI r0 M0 L0)) [.ref (ad k), .int a1].toArray s 0 0 (mw_fr G)) (F0 m 165 ls [.int s0]) := by
            intro v2 v4 s0 M L H locs ls hD hw hl
            unfold fX16_listed_b165 at hD
            refine lv_istore_n (lv' := [(3, .int s0), (0, .ref (ad k)), (1, .int a1), (2, .int v2), (4, .int v4)]) C.1.1 C.1.2.1 dX16_listed_165 rfl hl (by decide) rfl (fun ls hl => ?_)
            obtain ⟨x32, ex32, hD⟩ := g_let hD
            refine lv_iinc (v := x32) (lv' := [(4, .int x32), (3, .int s0), (0, .ref (ad k)), (1, .int a1), (2, .int v2)]) C.1.1 C.1.2.1 dX16_listed_166 hl (k := 4) rfl (by rw [ex32]; rfl) (by decide) rfl (fun ls hl => ?_)
            refine lv_goto (tgt := 13) C.1.1 C.1.2.1 dX16_listed_169 (by decide) ?_
            exact ih13 v2 s0 x32 M L _ _ ls hD hw (lv_sub hl [2, 3, 4, 1, 0] rfl)
          have hb164 : ∀ (v2 : Int32) (v3 : Int32) (v4 : Int32) (M : mwM) (L : mwL) (H : Heap) (locs : List Loc) (ls : Array Slot), fX16_listed_b164 fu k a1 (fX16_listed_h4 fu k a1 f4) (fX16_listed_h13 fu k a1 (fX16_listed_h4 fu k a1 f4) f13) v2 v3 v4 M L = some (r0, M0, L0) → mw_W G ad NF TF FF M L H locs → lv_has ls 7 [(0, .ref (ad k)), (1, .int a1), (2, .int v2), (3, .int v3), (4, .int v4)] → W p l e ({ frames := 1, cells := 0, slots := 0, locals := 21 }) s m [.ref (ad k), .int a1].toArray below meth c H locs 0 0 (MQ below (mw_Qi G ad NF TF FF (mw_eqI r0 M0 L0)) [.ref (ad k), .int a1].toArray s 0 0 (mw_fr G)) (F0 m 164 ls []) := by
            intro v2 v3 v4 M L H locs ls hD hw hl
            unfold fX16_listed_b164 at hD
            refine lv_iload_n C.1.1 C.1.2.1 dX16_listed_164 rfl (lv_at hl 3 rfl) ?_
            exact hb165 v2 v4 v3 M L _ _ ls hD hw (lv_sub hl [0, 1, 2, 4] rfl)
          have hb159 : ∀ (v2 : Int32) (v4 : Int32) (M : mwM) (L : mwL) (H : Heap) (locs : List Loc) (ls : Array Slot), fX16_listed_b159 fu k a1 (fX16_listed_h4 fu k a1 f4) (fX16_listed_h13 fu k a1 (fX16_listed_h4 fu k a1 f4) f13) v2 v4 M L = some (r0, M0, L0) → mw_W G ad NF TF FF M L H locs → lv_has ls 7 [(0, .ref (ad k)), (1, .int a1), (2, .int v2), (4, .int v4)] → W p l e ({ frames := 1, cells := 0, slots := 0, locals := 21 }) s m [.ref (ad k), .int a1].toArray below meth c H locs 0 0 (MQ below (mw_Qi G ad NF TF FF (mw_eqI r0 M0 L0)) [.ref (ad k), .int a1].toArray s 0 0 (mw_fr G)) (F0 m 159 ls []) := by
            intro v2 v4 M L H locs ls hD hw hl
            unfold fX16_listed_b159 at hD
            refine lv_iload C.1.1 C.1.2.1 dX16_listed_159 (lv_at hl 3 rfl) ?_
            refine lv_goto (tgt := 165) C.1.1 C.1.2.1 dX16_listed_161 (by decide) ?_
            exact hb165 v2 v4 v4 M L _ _ ls hD hw (lv_sub hl [0, 1, 2, 3] rfl)
          have hb127 : ∀ (v2 : Int32) (v3 : Int32) (v4 : Int32) (v5 : Int32) (s0 : Int32) (M : mwM) (L : mwL) (H : Heap) (locs : List Loc) (ls : Array Slot), fX16_listed_b127 fu k a1 (fX16_listed_h4 fu k a1 f4) (fX16_listed_h13 fu k a1 (fX16_listed_h4 fu k a1 f4) f13) v2 v3 v4 v5 s0 M L = some (r0, M0, L0) → mw_W G ad NF TF FF M L H locs → lv_has ls 7 [(0, .ref (ad k)), (1, .int a1), (2, .int v2), (3, .int v3), (4, .int v4), (5, .int v5)] → W p l e ({ frames := 1, cells := 0, slots := 0, locals := 21 }) s m [.ref (ad k), .int a1].toArray below meth c H locs 0 0 (MQ below (mw_Qi G ad NF TF FF (mw_eqI r0 M0 L0)) [.ref (ad k), .int a1].toArray s 0 0 (mw_fr G)) (F0 m 127 ls [.int s0]) := by
            intro v2 v3 v4 v5 s0 M L H locs ls hD hw hl
            unfold fX16_listed_b127 at hD
            refine lv_istore (lv' := [(6, .int s0), (0, .ref (ad k)), (1, .int a1), (2, .int v2), (3, .int v3), (4, .int v4), (5, .int v5)]) C.1.1 C.1.2.1 dX16_listed_127 hl (by decide) rfl (fun ls hl => ?_)
            refine lv_iload C.1.1 C.1.2.1 dX16_listed_129 (lv_at hl 6 rfl) ?_
            refine lv_if_eq (tgt := 164) C.1.1 C.1.2.1 dX16_listed_131 (by decide) (fun c26 => ?_) (fun c26 => ?_)
            · replace hD := g_pos c26 hD
              exact hb164 v2 v3 v4 M L _ _ ls hD hw (lv_sub hl [1, 2, 3, 4, 5] rfl)
            · replace hD := g_neg c26 hD
              refine lv_iload C.1.1 C.1.2.1 dX16_listed_134 (lv_at hl 0 rfl) ?_
              refine lv_if_eq (tgt := 164) C.1.1 C.1.2.1 dX16_listed_136 (by decide) (fun c27 => ?_) (fun c27 => ?_)
              · replace hD := g_pos c27 hD
                exact hb164 v2 v3 v4 M L _ _ ls hD hw (lv_sub hl [1, 2, 3, 4, 5] rfl)
              · replace hD := g_neg c27 hD
                refine lv_iload_n C.1.1 C.1.2.1 dX16_listed_139 rfl (lv_at hl 4 rfl) ?_
                refine lv_if_lt (tgt := 159) C.1.1 C.1.2.1 dX16_listed_140 (by decide) (fun c28 => ?_) (fun c28 => ?_)
                · replace hD := g_pos c28 hD
                  exact hb159 v2 v4 M L _ _ ls hD hw (lv_sub hl [1, 2, 3, 5] rfl)
                · replace hD := g_neg c28 hD
                  refine lv_aload_n C.1.1 C.1.2.1 dX16_listed_143 rfl (lv_at hl 1 rfl) ?_
                  refine mr_getR C hw kc_16 26 (Mp_N0 hk0) (Mp_T0 hk0) (Mp_F0_26 hk0) wd_2581 dX16_listed_144 (by decide) rfl ?_
                  refine lv_iload C.1.1 C.1.2.1 dX16_listed_147 (lv_at hl 5 rfl) ?_
                  obtain ⟨q29, hD⟩ := g_ck hD
                  refine mr_iald C hw (Mp_N22 hk0) (Mp_T22 hk0) q29 dX16_listed_149 ?_
                  refine lv_aload_n C.1.1 C.1.2.1 dX16_listed_150 rfl (lv_at hl 1 rfl) ?_
                  refine mr_getR C hw kc_16 26 (Mp_N0 hk0) (Mp_T0 hk0) (Mp_F0_26 hk0) wd_2581 dX16_listed_151 (by decide) rfl ?_
                  refine lv_iload_n C.1.1 C.1.2.1 dX16_listed_154 rfl (lv_at hl 4 rfl) ?_
                  obtain ⟨q30, hD⟩ := g_ck hD
                  refine mr_iald C hw (Mp_N22 hk0) (Mp_T22 hk0) q30 dX16_listed_155 ?_
                  refine lv_icmp_le (tgt := 164) C.1.1 C.1.2.1 dX16_listed_156 (by decide) (fun c31 => ?_) (fun c31 => ?_)
                  · replace hD := g_pos c31 hD
                    exact hb164 v2 v3 v4 M L _ _ ls hD hw (lv_sub hl [1, 2, 3, 4, 5] rfl)
                  · replace hD := g_neg c31 hD
                    exact hb159 v2 v4 M L _ _ ls hD hw (lv_sub hl [1, 2, 3, 5] rfl)
          have hb122 : ∀ (v2 : Int32) (v3 : Int32) (v4 : Int32) (v5 : Int32) (M : mwM) (L : mwL) (H : Heap) (locs : List Loc) (ls : Array Slot), fX16_listed_b122 fu k a1 (fX16_listed_h4 fu k a1 f4) (fX16_listed_h13 fu k a1 (fX16_listed_h4 fu k a1 f4) f13) v2 v3 v4 v5 M L = some (r0, M0, L0) → mw_W G ad NF TF FF M L H locs → lv_has ls 7 [(0, .ref (ad k)), (1, .int a1), (2, .int v2), (3, .int v3), (4, .int v4), (5, .int v5)] → W p l e ({ frames := 1, cells := 0, slots := 0, locals := 21 }) s m [.ref (ad k), .int a1].toArray below meth c H locs 0 0 (MQ below (mw_Qi G ad NF TF FF (mw_eqI r0 M0 L0)) [.ref (ad k), .int a1].toArray s 0 0 (mw_fr G)) (F0 m 122 ls []) := by
            intro v2 v3 v4 v5 M L H locs ls hD hw hl
            unfold fX16_listed_b122 at hD
            refine lv_iconst (v := 1) C.1.1 C.1.2.1 dX16_listed_122 (by decide) ?_
            refine lv_goto (tgt := 127) C.1.1 C.1.2.1 dX16_listed_123 (by decide) ?_
            exact hb127 v2 v3 v4 v5 1 M L _ _ ls hD hw (lv_sub hl [0, 1, 2, 3, 4, 5] rfl)
          have hb126 : ∀ (v2 : Int32) (v3 : Int32) (v4 : Int32) (v5 : Int32) (M : mwM) (L : mwL) (H : Heap) (locs : List Loc) (ls : Array Slot), fX16_listed_b126 fu k a1 (fX16_listed_h4 fu k a1 f4) (fX16_listed_h13 fu k a1 (fX16_listed_h4 fu k a1 f4) f13) v2 v3 v4 v5 M L = some (r0, M0, L0) → mw_W G ad NF TF FF M L H locs → lv_has ls 7 [(0, .ref (ad k)), (1, .int a1), (2, .int v2), (3, .int v3), (4, .int v4), (5, .int v5)] → W p l e ({ frames := 1, cells := 0, slots := 0, locals := 21 }) s m [.ref (ad k), .int a1].toArray below meth c H locs 0 0 (MQ below (mw_Qi G ad NF TF FF (mw_eqI r0 M0 L0)) [.ref (ad k), .int a1].toArray s 0 0 (mw_fr G)) (F0 m 126 ls []) := by
            intro v2 v3 v4 v5 M L H locs ls hD hw hl
            unfold fX16_listed_b126 at hD
            refine lv_iconst (v := 0) C.1.1 C.1.2.1 dX16_listed_126 (by decide) ?_
            exact hb127 v2 v3 v4 v5 0 M L _ _ ls hD hw (lv_sub hl [0, 1, 2, 3, 4, 5] rfl)
          have hb57 : ∀ (v2 : Int32) (v3 : Int32) (v4 : Int32) (s0 : Int32) (M : mwM) (L : mwL) (H : Heap) (locs : List Loc) (ls : Array Slot), fX16_listed_b57 fu k a1 (fX16_listed_h4 fu k a1 f4) (fX16_listed_h13 fu k a1 (fX16_listed_h4 fu k a1 f4) f13) v2 v3 v4 s0 M L = some (r0, M0, L0) → mw_W G ad NF TF FF M L H locs → lv_has ls 7 [(0, .ref (ad k)), (1, .int a1), (2, .int v2), (3, .int v3), (4, .int v4)] → W p l e ({ frames := 1, cells := 0, slots := 0, locals := 21 }) s m [.ref (ad k), .int a1].toArray below meth c H locs 0 0 (MQ below (mw_Qi G ad NF TF FF (mw_eqI r0 M0 L0)) [.ref (ad k), .int a1].toArray s 0 0 (mw_fr G)) (F0 m 57 ls [.int s0]) := by
            intro v2 v3 v4 s0 M L H locs ls hD hw hl
            unfold fX16_listed_b57 at hD
            refine lv_istore (lv' := [(5, .int s0), (0, .ref (ad k)), (1, .int a1), (2, .int v2), (3, .int v3), (4, .int v4)]) C.1.1 C.1.2.1 dX16_listed_57 hl (by decide) rfl (fun ls hl => ?_)
            refine lv_iload_n C.1.1 C.1.2.1 dX16_listed_59 rfl (lv_at hl 3 rfl) ?_
            refine lv_if_eq (tgt := 122) C.1.1 C.1.2.1 dX16_listed_60 (by decide) (fun c15 => ?_) (fun c15 => ?_)
            · replace hD := g_pos c15 hD
              exact hb122 v2 v3 v4 s0 M L _ _ ls hD hw (lv_sub hl [1, 2, 3, 4, 5, 0] rfl)
            · replace hD := g_neg c15 hD
              refine lv_aload_n C.1.1 C.1.2.1 dX16_listed_63 rfl (lv_at hl 1 rfl) ?_
              refine mr_getR C hw kc_16 26 (Mp_N0 hk0) (Mp_T0 hk0) (Mp_F0_26 hk0) wd_2581 dX16_listed_64 (by decide) rfl ?_
              refine lv_iload C.1.1 C.1.2.1 dX16_listed_67 (lv_at hl 5 rfl) ?_
              obtain ⟨q16, hD⟩ := g_ck hD
              refine mr_iald C hw (Mp_N22 hk0) (Mp_T22 hk0) q16 dX16_listed_69 ?_
              refine lv_aload_n C.1.1 C.1.2.1 dX16_listed_70 rfl (lv_at hl 1 rfl) ?_
              refine mr_getR C hw kc_16 26 (Mp_N0 hk0) (Mp_T0 hk0) (Mp_F0_26 hk0) wd_2581 dX16_listed_71 (by decide) rfl ?_
              refine lv_aload_n C.1.1 C.1.2.1 dX16_listed_74 rfl (lv_at hl 1 rfl) ?_
              refine mr_getR C hw kc_16 22 (Mp_N0 hk0) (Mp_T0 hk0) (Mp_F0_22 hk0) wd_2577 dX16_listed_75 (by decide) rfl ?_
              refine lv_iload_n C.1.1 C.1.2.1 dX16_listed_78 rfl (lv_at hl 3 rfl) ?_
              refine lv_iconst (v := 1) C.1.1 C.1.2.1 dX16_listed_79 (by decide) ?_
              refine lv_isub C.1.1 C.1.2.1 dX16_listed_80 ?_
              obtain ⟨q17, hD⟩ := g_ck hD
              refine mr_iald C hw (Mp_N18 hk0) (Mp_T18 hk0) q17 dX16_listed_81 ?_
              obtain ⟨q18, hD⟩ := g_ck hD
              refine mr_iald C hw (Mp_N22 hk0) (Mp_T22 hk0) q18 dX16_listed_82 ?_
              refine lv_icmp_lt (tgt := 122) C.1.1 C.1.2.1 dX16_listed_83 (by decide) (fun c19 => ?_) (fun c19 => ?_)
              · replace hD := g_pos c19 hD
                exact hb122 v2 v3 v4 s0 M L _ _ ls hD hw (lv_sub hl [1, 2, 3, 4, 5, 0] rfl)
              · replace hD := g_neg c19 hD
                refine lv_aload_n C.1.1 C.1.2.1 dX16_listed_86 rfl (lv_at hl 1 rfl) ?_
                refine mr_getR C hw kc_16 26 (Mp_N0 hk0) (Mp_T0 hk0) (Mp_F0_26 hk0) wd_2581 dX16_listed_87 (by decide) rfl ?_
                refine lv_iload C.1.1 C.1.2.1 dX16_listed_90 (lv_at hl 5 rfl) ?_
                obtain ⟨q20, hD⟩ := g_ck hD
                refine mr_iald C hw (Mp_N22 hk0) (Mp_T22 hk0) q20 dX16_listed_92 ?_
                refine lv_aload_n C.1.1 C.1.2.1 dX16_listed_93 rfl (lv_at hl 1 rfl) ?_
                refine mr_getR C hw kc_16 26 (Mp_N0 hk0) (Mp_T0 hk0) (Mp_F0_26 hk0) wd_2581 dX16_listed_94 (by decide) rfl ?_
                refine lv_aload_n C.1.1 C.1.2.1 dX16_listed_97 rfl (lv_at hl 1 rfl) ?_
                refine mr_getR C hw kc_16 22 (Mp_N0 hk0) (Mp_T0 hk0) (Mp_F0_22 hk0) wd_2577 dX16_listed_98 (by decide) rfl ?_
                refine lv_iload_n C.1.1 C.1.2.1 dX16_listed_101 rfl (lv_at hl 3 rfl) ?_
                refine lv_iconst (v := 1) C.1.1 C.1.2.1 dX16_listed_102 (by decide) ?_
                refine lv_isub C.1.1 C.1.2.1 dX16_listed_103 ?_
                obtain ⟨q21, hD⟩ := g_ck hD
                refine mr_iald C hw (Mp_N18 hk0) (Mp_T18 hk0) q21 dX16_listed_104 ?_
                obtain ⟨q22, hD⟩ := g_ck hD
                refine mr_iald C hw (Mp_N22 hk0) (Mp_T22 hk0) q22 dX16_listed_105 ?_
                refine lv_icmp_ne (tgt := 126) C.1.1 C.1.2.1 dX16_listed_106 (by decide) (fun c23 => ?_) (fun c23 => ?_)
                · replace hD := g_neg c23 hD
                  exact hb126 v2 v3 v4 s0 M L _ _ ls hD hw (lv_sub hl [1, 2, 3, 4, 5, 0] rfl)
                · replace hD := g_pos c23 hD
                  refine lv_iload C.1.1 C.1.2.1 dX16_listed_109 (lv_at hl 5 rfl) ?_
                  refine lv_aload_n C.1.1 C.1.2.1 dX16_listed_111 rfl (lv_at hl 1 rfl) ?_
                  refine mr_getR C hw kc_16 22 (Mp_N0 hk0) (Mp_T0 hk0) (Mp_F0_22 hk0) wd_2577 dX16_listed_112 (by decide) rfl ?_
                  refine lv_iload_n C.1.1 C.1.2.1 dX16_listed_115 rfl (lv_at hl 3 rfl) ?_
                  refine lv_iconst (v := 1) C.1.1 C.1.2.1 dX16_listed_116 (by decide) ?_
                  refine lv_isub C.1.1 C.1.2.1 dX16_listed_117 ?_
                  obtain ⟨q24, hD⟩ := g_ck hD
                  refine mr_iald C hw (Mp_N18 hk0) (Mp_T18 hk0) q24 dX16_listed_118 ?_
                  refine lv_icmp_le (tgt := 126) C.1.1 C.1.2.1 dX16_listed_119 (by decide) (fun c25 => ?_) (fun c25 => ?_)
                  · replace hD := g_pos c25 hD
                    exact hb126 v2 v3 v4 s0 M L _ _ ls hD hw (lv_sub hl [1, 2, 3, 4, 5, 0] rfl)
                  · replace hD := g_neg c25 hD
                    exact hb122 v2 v3 v4 s0 M L _ _ ls hD hw (lv_sub hl [1, 2, 3, 4, 5, 0] rfl)
          have hb56 : ∀ (v2 : Int32) (v3 : Int32) (v4 : Int32) (M : mwM) (L : mwL) (H : Heap) (locs : List Loc) (ls : Array Slot), fX16_listed_b56 fu k a1 (fX16_listed_h4 fu k a1 f4) (fX16_listed_h13 fu k a1 (fX16_listed_h4 fu k a1 f4) f13) v2 v3 v4 M L = some (r0, M0, L0) → mw_W G ad NF TF FF M L H locs → lv_has ls 7 [(0, .ref (ad k)), (1, .int a1), (2, .int v2), (3, .int v3), (4, .int v4)] → W p l e ({ frames := 1, cells := 0, slots := 0, locals := 21 }) s m [.ref (ad k), .int a1].toArray below meth c H locs 0 0 (MQ below (mw_Qi G ad NF TF FF (mw_eqI r0 M0 L0)) [.ref (ad k), .int a1].toArray s 0 0 (mw_fr G)) (F0 m 56 ls []) := by
            intro v2 v3 v4 M L H locs ls hD hw hl
            unfold fX16_listed_b56 at hD
            refine lv_iconst (v := 0) C.1.1 C.1.2.1 dX16_listed_56 (by decide) ?_
            exact hb57 v2 v3 v4 0 M L _ _ ls hD hw (lv_sub hl [0, 1, 2, 3, 4] rfl)
          unfold fX16_listed_i13 at hD
          refine lv_iload C.1.1 C.1.2.1 dX16_listed_13 (lv_at hl 4 rfl) ?_
          refine lv_aload_n C.1.1 C.1.2.1 dX16_listed_15 rfl (lv_at hl 0 rfl) ?_
          refine mr_getI C hw kc_16 2 (Mp_N0 hk0) (Mp_T0 hk0) wd_2557 dX16_listed_16 (by decide) rfl ?_
          refine lv_icmp_gt (tgt := 172) C.1.1 C.1.2.1 dX16_listed_19 (by decide) (fun c2 => ?_) (fun c2 => ?_)
          · replace hD := g_pos c2 hD
            refine lv_iload_n C.1.1 C.1.2.1 dX16_listed_172 rfl (lv_at hl 3 rfl) ?_
            refine lv_if_le (tgt := 4) C.1.1 C.1.2.1 dX16_listed_173 (by decide) (fun c3 => ?_) (fun c3 => ?_)
            · replace hD := g_pos c3 hD
              exact ih4 v2 v3 M L _ _ ls hD hw (lv_sub hl [0, 1, 2, 3] rfl)
            · replace hD := g_neg c3 hD
              refine lv_aload_n C.1.1 C.1.2.1 dX16_listed_176 rfl (lv_at hl 0 rfl) ?_
              refine mr_getR C hw kc_16 22 (Mp_N0 hk0) (Mp_T0 hk0) (Mp_F0_22 hk0) wd_2577 dX16_listed_177 (by decide) rfl ?_
              refine lv_iload_n C.1.1 C.1.2.1 dX16_listed_180 rfl (lv_at hl 2 rfl) ?_
              refine lv_iload_n C.1.1 C.1.2.1 dX16_listed_181 rfl (lv_at hl 3 rfl) ?_
              obtain ⟨q4, hD⟩ := g_ck hD
              obtain ⟨M5, eM5, hD⟩ := g_let hD
              refine mr_iast C hw (Mp_N18 hk0) (Mp_T18 hk0) q4 dX16_listed_182 (fun H locs hw => ?_)
              replace hw : mw_W G ad NF TF FF M5 L H locs := by rw [eM5]; exact hw
              obtain ⟨x6, ex6, hD⟩ := g_let hD
              refine lv_iinc (v := x6) (lv' := [(2, .int x6), (0, .ref (ad k)), (1, .int a1), (3, .int v3), (4, .int v4)]) C.1.1 C.1.2.1 dX16_listed_183 hl (k := 2) rfl (by rw [ex6]; rfl) (by decide) rfl (fun ls hl => ?_)
              refine lv_goto (tgt := 4) C.1.1 C.1.2.1 dX16_listed_186 (by decide) ?_
              exact ih4 x6 v3 M5 L _ _ ls hD hw (lv_sub hl [1, 2, 0, 3] rfl)
          · replace hD := g_neg c2 hD
            refine lv_aload_n C.1.1 C.1.2.1 dX16_listed_22 rfl (lv_at hl 0 rfl) ?_
            refine lv_iload C.1.1 C.1.2.1 dX16_listed_23 (lv_at hl 4 rfl) ?_
            obtain ⟨r9, M7, L8, h1, hD⟩ := g_b3 hD
            refine md_cvI (As := [.int v4]) (rest := []) C hw (tX16_isGroup l G ad fu k v4 M L h1 hk0) kc_16 (Mp_N0 hk0) (Mp_T0 hk0) wd_3417 cwX16_isGroup ⟨Nat.le_of_ble_eq_true rfl, Nat.le_of_ble_eq_true rfl⟩ rfl hl.1 (Nat.le_of_ble_eq_true rfl) dX16_listed_25 rfl rfl ⟨Nat.zero_le _, Nat.zero_le _⟩ rfl (fun H locs hw => ?_)
            refine lv_if_eq (tgt := 56) C.1.1 C.1.2.1 dX16_listed_28 (by decide) (fun c10 => ?_) (fun c10 => ?_)
            · replace hD := g_pos c10 hD
              exact hb56 v2 v3 v4 M7 L8 _ _ ls hD hw (lv_sub hl [0, 1, 2, 3, 4] rfl)
            · replace hD := g_neg c10 hD
              refine lv_aload_n C.1.1 C.1.2.1 dX16_listed_31 rfl (lv_at hl 0 rfl) ?_
              refine mr_getR C hw kc_16 20 (Mp_N0 hk0) (Mp_T0 hk0) (Mp_F0_20 hk0) wd_2575 dX16_listed_32 (by decide) rfl ?_
              refine lv_iload C.1.1 C.1.2.1 dX16_listed_35 (lv_at hl 4 rfl) ?_
              obtain ⟨q11, hD⟩ := g_ck hD
              refine mr_iald C hw (Mp_N16 hk0) (Mp_T16 hk0) q11 dX16_listed_37 ?_
              refine lv_if_ne (tgt := 56) C.1.1 C.1.2.1 dX16_listed_38 (by decide) (fun c12 => ?_) (fun c12 => ?_)
              · replace hD := g_neg c12 hD
                exact hb56 v2 v3 v4 M7 L8 _ _ ls hD hw (lv_sub hl [0, 1, 2, 3, 4] rfl)
              · replace hD := g_pos c12 hD
                refine lv_aload_n C.1.1 C.1.2.1 dX16_listed_41 rfl (lv_at hl 0 rfl) ?_
                refine mr_getR C hw kc_16 4 (Mp_N0 hk0) (Mp_T0 hk0) (Mp_F0_4 hk0) wd_2559 dX16_listed_42 (by decide) rfl ?_
                refine lv_iload C.1.1 C.1.2.1 dX16_listed_45 (lv_at hl 4 rfl) ?_
                obtain ⟨q13, hD⟩ := g_ck hD
                refine mr_iald C hw (Mp_N2 hk0) (Mp_T2 hk0) q13 dX16_listed_47 ?_
                refine lv_iload_n C.1.1 C.1.2.1 dX16_listed_48 rfl (lv_at hl 1 rfl) ?_
                refine lv_icmp_ne (tgt := 56) C.1.1 C.1.2.1 dX16_listed_49 (by decide) (fun c14 => ?_) (fun c14 => ?_)
                · replace hD := g_neg c14 hD
                  exact hb56 v2 v3 v4 M7 L8 _ _ ls hD hw (lv_sub hl [0, 1, 2, 3, 4] rfl)
                · replace hD := g_pos c14 hD
                  refine lv_iconst (v := 1) C.1.1 C.1.2.1 dX16_listed_52 (by decide) ?_
                  refine lv_goto (tgt := 57) C.1.1 C.1.2.1 dX16_listed_53 (by decide) ?_
                  exact hb57 v2 v3 v4 1 M7 L8 _ _ ls hD hw (lv_sub hl [0, 1, 2, 3, 4] rfl)
      unfold fX16_listed_i4 at hD
      refine lv_iload_n C.1.1 C.1.2.1 dX16_listed_4 rfl (lv_at hl 3 rfl) ?_
      refine lv_if_lt (tgt := 189) C.1.1 C.1.2.1 dX16_listed_5 (by decide) (fun c1 => ?_) (fun c1 => ?_)
      · replace hD := g_pos c1 hD
        refine lv_iload_n C.1.1 C.1.2.1 dX16_listed_189 rfl (lv_at hl 2 rfl) ?_
        exact mr_iret C hr hlocks hw rfl (Option.some.inj hD) dX16_listed_190
      · replace hD := g_neg c1 hD
        refine lv_iconst (v := (-1)) C.1.1 C.1.2.1 dX16_listed_8 (by decide) ?_
        refine lv_istore_n (lv' := [(3, .int ((-1))), (0, .ref (ad k)), (1, .int a1), (2, .int v2)]) C.1.1 C.1.2.1 dX16_listed_9 rfl hl (by decide) rfl (fun ls hl => ?_)
        refine lv_iconst (v := 1) C.1.1 C.1.2.1 dX16_listed_10 (by decide) ?_
        refine lv_istore (lv' := [(4, .int 1), (3, .int ((-1))), (0, .ref (ad k)), (1, .int a1), (2, .int v2)]) C.1.1 C.1.2.1 dX16_listed_11 hl (by decide) rfl (fun ls hl => ?_)
        exact hh13 fu v2 ((-1)) 1 M L _ _ ls hD hw (lv_sub hl [2, 3, 4, 1, 0] rfl)
  unfold DX16_listed at hD
  refine lv_iconst (v := 0) C.1.1 C.1.2.1 dX16_listed_0 (by decide) ?_
  refine lv_istore_n (lv' := [(2, .int 0), (0, .ref (ad k)), (1, .int a1)]) C.1.1 C.1.2.1 dX16_listed_1 rfl hl (by decide) rfl (fun ls hl => ?_)
  refine lv_iconst (v := 0) C.1.1 C.1.2.1 dX16_listed_2 (by decide) ?_
  refine lv_istore_n (lv' := [(3, .int 0), (2, .int 0), (0, .ref (ad k)), (1, .int a1)]) C.1.1 C.1.2.1 dX16_listed_3 rfl hl (by decide) rfl (fun ls hl => ?_)
  exact hh4 fu 0 0 M L _ _ ls hD hw (lv_sub hl [2, 3, 1, 0] rfl)

theorem dX16_packPeriod_0 : decode cX16_packPeriod 0 = .ok (.aload_n 0, 1) := by decide +kernel
theorem dX16_packPeriod_1 : decode cX16_packPeriod 1 = .ok (.iload_n 1, 1) := by decide +kernel
theorem dX16_packPeriod_2 : decode cX16_packPeriod 2 = .ok (.invokevirtual 128, 3) := by decide +kernel
theorem dX16_packPeriod_5 : decode cX16_packPeriod 5 = .ok (.istore 4, 2) := by decide +kernel
theorem dX16_packPeriod_7 : decode cX16_packPeriod 7 = .ok (.iconst 0, 1) := by decide +kernel
theorem dX16_packPeriod_8 : decode cX16_packPeriod 8 = .ok (.istore 5, 2) := by decide +kernel
theorem dX16_packPeriod_10 : decode cX16_packPeriod 10 = .ok (.iconst 1, 1) := by decide +kernel
theorem dX16_packPeriod_11 : decode cX16_packPeriod 11 = .ok (.istore 6, 2) := by decide +kernel
theorem dX16_packPeriod_13 : decode cX16_packPeriod 13 = .ok (.iload 6, 2) := by decide +kernel
theorem dX16_packPeriod_15 : decode cX16_packPeriod 15 = .ok (.bipush 65, 2) := by decide +kernel
theorem dX16_packPeriod_17 : decode cX16_packPeriod 17 = .ok (.if_icmp .ge 40, 3) := by decide +kernel
theorem dX16_packPeriod_20 : decode cX16_packPeriod 20 = .ok (.aload_n 0, 1) := by decide +kernel
theorem dX16_packPeriod_21 : decode cX16_packPeriod 21 = .ok (.iload 6, 2) := by decide +kernel
theorem dX16_packPeriod_23 : decode cX16_packPeriod 23 = .ok (.invokevirtual 117, 3) := by decide +kernel
theorem dX16_packPeriod_26 : decode cX16_packPeriod 26 = .ok (.ifCond .eq 25, 3) := by decide +kernel
theorem dX16_packPeriod_29 : decode cX16_packPeriod 29 = .ok (.aload_n 0, 1) := by decide +kernel
theorem dX16_packPeriod_30 : decode cX16_packPeriod 30 = .ok (.iload 6, 2) := by decide +kernel
theorem dX16_packPeriod_32 : decode cX16_packPeriod 32 = .ok (.iload_n 1, 1) := by decide +kernel
theorem dX16_packPeriod_33 : decode cX16_packPeriod 33 = .ok (.invokevirtual 131, 3) := by decide +kernel
theorem dX16_packPeriod_36 : decode cX16_packPeriod 36 = .ok (.ifCond .ne 15, 3) := by decide +kernel
theorem dX16_packPeriod_39 : decode cX16_packPeriod 39 = .ok (.aload_n 0, 1) := by decide +kernel
theorem dX16_packPeriod_40 : decode cX16_packPeriod 40 = .ok (.getfield 65, 3) := by decide +kernel
theorem dX16_packPeriod_43 : decode cX16_packPeriod 43 = .ok (.iload 5, 2) := by decide +kernel
theorem dX16_packPeriod_45 : decode cX16_packPeriod 45 = .ok (.iload 6, 2) := by decide +kernel
theorem dX16_packPeriod_47 : decode cX16_packPeriod 47 = .ok (.iastore, 1) := by decide +kernel
theorem dX16_packPeriod_48 : decode cX16_packPeriod 48 = .ok (.iinc 5 1, 3) := by decide +kernel
theorem dX16_packPeriod_51 : decode cX16_packPeriod 51 = .ok (.iinc 6 1, 3) := by decide +kernel
theorem dX16_packPeriod_54 : decode cX16_packPeriod 54 = .ok (.goto (-41), 3) := by decide +kernel
theorem dX16_packPeriod_57 : decode cX16_packPeriod 57 = .ok (.lconst 1, 1) := by decide +kernel
theorem dX16_packPeriod_58 : decode cX16_packPeriod 58 = .ok (.lstore 6, 2) := by decide +kernel
theorem dX16_packPeriod_60 : decode cX16_packPeriod 60 = .ok (.iconst 2, 1) := by decide +kernel
theorem dX16_packPeriod_61 : decode cX16_packPeriod 61 = .ok (.istore 8, 2) := by decide +kernel
theorem dX16_packPeriod_63 : decode cX16_packPeriod 63 = .ok (.iload 8, 2) := by decide +kernel
theorem dX16_packPeriod_65 : decode cX16_packPeriod 65 = .ok (.iload 4, 2) := by decide +kernel
theorem dX16_packPeriod_67 : decode cX16_packPeriod 67 = .ok (.if_icmp .gt 24, 3) := by decide +kernel
theorem dX16_packPeriod_70 : decode cX16_packPeriod 70 = .ok (.iload 4, 2) := by decide +kernel
theorem dX16_packPeriod_72 : decode cX16_packPeriod 72 = .ok (.bipush 8, 2) := by decide +kernel
theorem dX16_packPeriod_74 : decode cX16_packPeriod 74 = .ok (.if_icmp .ge 17, 3) := by decide +kernel
theorem dX16_packPeriod_77 : decode cX16_packPeriod 77 = .ok (.lload 6, 2) := by decide +kernel
theorem dX16_packPeriod_79 : decode cX16_packPeriod 79 = .ok (.iload 8, 2) := by decide +kernel
theorem dX16_packPeriod_81 : decode cX16_packPeriod 81 = .ok (.i2l, 1) := by decide +kernel
theorem dX16_packPeriod_82 : decode cX16_packPeriod 82 = .ok (.lmul, 1) := by decide +kernel
theorem dX16_packPeriod_83 : decode cX16_packPeriod 83 = .ok (.lstore 6, 2) := by decide +kernel
theorem dX16_packPeriod_85 : decode cX16_packPeriod 85 = .ok (.iinc 8 1, 3) := by decide +kernel
theorem dX16_packPeriod_88 : decode cX16_packPeriod 88 = .ok (.goto (-25), 3) := by decide +kernel
theorem dX16_packPeriod_91 : decode cX16_packPeriod 91 = .ok (.iload 4, 2) := by decide +kernel
theorem dX16_packPeriod_93 : decode cX16_packPeriod 93 = .ok (.bipush 7, 2) := by decide +kernel
theorem dX16_packPeriod_95 : decode cX16_packPeriod 95 = .ok (.if_icmp .gt 10, 3) := by decide +kernel
theorem dX16_packPeriod_98 : decode cX16_packPeriod 98 = .ok (.lload 6, 2) := by decide +kernel
theorem dX16_packPeriod_100 : decode cX16_packPeriod 100 = .ok (.lload_n 2, 1) := by decide +kernel
theorem dX16_packPeriod_101 : decode cX16_packPeriod 101 = .ok (.lcmp, 1) := by decide +kernel
theorem dX16_packPeriod_102 : decode cX16_packPeriod 102 = .ok (.ifCond .le 17, 3) := by decide +kernel
theorem dX16_packPeriod_105 : decode cX16_packPeriod 105 = .ok (.aload_n 0, 1) := by decide +kernel
theorem dX16_packPeriod_106 : decode cX16_packPeriod 106 = .ok (.iconst 0, 1) := by decide +kernel
theorem dX16_packPeriod_107 : decode cX16_packPeriod 107 = .ok (.putfield 87, 3) := by decide +kernel
theorem dX16_packPeriod_110 : decode cX16_packPeriod 110 = .ok (.aload_n 0, 1) := by decide +kernel
theorem dX16_packPeriod_111 : decode cX16_packPeriod 111 = .ok (.iload 4, 2) := by decide +kernel
theorem dX16_packPeriod_113 : decode cX16_packPeriod 113 = .ok (.iload 5, 2) := by decide +kernel
theorem dX16_packPeriod_115 : decode cX16_packPeriod 115 = .ok (.invokevirtual 135, 3) := by decide +kernel
theorem dX16_packPeriod_118 : decode cX16_packPeriod 118 = .ok (.ireturn, 1) := by decide +kernel
theorem dX16_packPeriod_119 : decode cX16_packPeriod 119 = .ok (.iconst 0, 1) := by decide +kernel
theorem dX16_packPeriod_120 : decode cX16_packPeriod 120 = .ok (.istore 8, 2) := by decide +kernel
theorem dX16_packPeriod_122 : decode cX16_packPeriod 122 = .ok (.iload 8, 2) := by decide +kernel
theorem dX16_packPeriod_124 : decode cX16_packPeriod 124 = .ok (.iload 4, 2) := by decide +kernel
theorem dX16_packPeriod_126 : decode cX16_packPeriod 126 = .ok (.if_icmp .gt 24, 3) := by decide +kernel
theorem dX16_packPeriod_129 : decode cX16_packPeriod 129 = .ok (.aload_n 0, 1) := by decide +kernel
theorem dX16_packPeriod_130 : decode cX16_packPeriod 130 = .ok (.iload 4, 2) := by decide +kernel
theorem dX16_packPeriod_132 : decode cX16_packPeriod 132 = .ok (.iload 5, 2) := by decide +kernel
theorem dX16_packPeriod_134 : decode cX16_packPeriod 134 = .ok (.iload 8, 2) := by decide +kernel
theorem dX16_packPeriod_136 : decode cX16_packPeriod 136 = .ok (.invokevirtual 138, 3) := by decide +kernel
theorem dX16_packPeriod_139 : decode cX16_packPeriod 139 = .ok (.ifCond .eq 5, 3) := by decide +kernel
theorem dX16_packPeriod_142 : decode cX16_packPeriod 142 = .ok (.iconst 1, 1) := by decide +kernel
theorem dX16_packPeriod_143 : decode cX16_packPeriod 143 = .ok (.ireturn, 1) := by decide +kernel
theorem dX16_packPeriod_144 : decode cX16_packPeriod 144 = .ok (.iinc 8 1, 3) := by decide +kernel
theorem dX16_packPeriod_147 : decode cX16_packPeriod 147 = .ok (.goto (-25), 3) := by decide +kernel
theorem dX16_packPeriod_150 : decode cX16_packPeriod 150 = .ok (.iconst 0, 1) := by decide +kernel
theorem dX16_packPeriod_151 : decode cX16_packPeriod 151 = .ok (.ireturn, 1) := by decide +kernel
theorem cwX16_packPeriod : mw_cwV yX16_packPeriod cX16_packPeriod 9 ((some .boolean)) 2 := ⟨⟨wd_19, wd_3445, by decide +kernel⟩, wd_3444, sl_202⟩
set_option maxHeartbeats 4000000 in
set_option maxRecDepth 100000 in
theorem tX16_packPeriod (l : Launch) (G : mwG) (ad : Nat → Nat) (fu : Nat) (k : Nat) (a1 : Int32) (a2 : Int64) (M : mwM) (L : mwL) {r0 : Int32} {M0 : mwM} {L0 : mwL} (hD : DX16_packPeriod fu k a1 a2 M L = some (r0, M0, L0)) (hk0 : isMp k) : Met l yX16_packPeriod (Cond.code yX16_packPeriod cX16_packPeriod 9 ((some .boolean)) :: GT) ({ frames := 4, cells := 0, slots := 0, locals := 100 }) (mw_Pre G ad NF TF FF M L [.ref (ad k), .int a1, .long a2]) (mw_Qi G ad NF TF FF (mw_eqI r0 M0 L0)) 0 0 (mw_fr G) := by
  refine mw_enter (by decide) (Nat.le_of_ble_eq_true rfl) ?_
  intro p e s m below meth c ls C hr hlocks hnm hw hl
  have hl : lv_has ls 9 [(0, .ref (ad k)), (1, .int a1), (2, .long a2)] := hl
  have hb105 : ∀ (v4 : Int32) (v5 : Int32) (M : mwM) (L : mwL) (H : Heap) (locs : List Loc) (ls : Array Slot), fX16_packPeriod_b105 fu k a1 a2 v4 v5 M L = some (r0, M0, L0) → mw_W G ad NF TF FF M L H locs → lv_has ls 9 [(0, .ref (ad k)), (4, .int v4), (5, .int v5)] → W p l e ({ frames := 4, cells := 0, slots := 0, locals := 100 }) s m [.ref (ad k), .int a1, .long a2].toArray below meth c H locs 0 0 (MQ below (mw_Qi G ad NF TF FF (mw_eqI r0 M0 L0)) [.ref (ad k), .int a1, .long a2].toArray s 0 0 (mw_fr G)) (F0 m 105 ls []) := by
    intro v4 v5 M L H locs ls hD hw hl
    unfold fX16_packPeriod_b105 at hD
    refine lv_aload_n C.1.1 C.1.2.1 dX16_packPeriod_105 rfl (lv_at hl 0 rfl) ?_
    refine lv_iconst (v := 0) C.1.1 C.1.2.1 dX16_packPeriod_106 (by decide) ?_
    obtain ⟨M20, eM20, hD⟩ := g_let hD
    refine mr_putI C hw kc_16 14 (Mp_N0 hk0) (Mp_T0 hk0) wd_2569 dX16_packPeriod_107 (by decide) rfl rfl (by decide +kernel) (by decide +kernel) (fun H locs hw => ?_)
    replace hw : mw_W G ad NF TF FF M20 L H locs := by rw [eM20]; exact hw
    refine lv_aload_n C.1.1 C.1.2.1 dX16_packPeriod_110 rfl (lv_at hl 0 rfl) ?_
    refine lv_iload C.1.1 C.1.2.1 dX16_packPeriod_111 (lv_at hl 1 rfl) ?_
    refine lv_iload C.1.1 C.1.2.1 dX16_packPeriod_113 (lv_at hl 2 rfl) ?_
    obtain ⟨r23, M21, L22, h1, hD⟩ := g_b3 hD
    refine md_cvI (As := [.int v4, .int v5]) (rest := []) C hw (tX16_inTurn l G ad fu k v4 v5 M20 L h1 hk0) kc_16 (Mp_N0 hk0) (Mp_T0 hk0) wd_3454 cwX16_inTurn ⟨Nat.le_of_ble_eq_true rfl, Nat.le_of_ble_eq_true rfl⟩ rfl hl.1 (Nat.le_of_ble_eq_true rfl) dX16_packPeriod_115 rfl rfl ⟨Nat.zero_le _, Nat.zero_le _⟩ rfl (fun H locs hw => ?_)
    obtain ⟨z24, hD⟩ := g_zz hD
    exact mr_iret C hr hlocks hw (nz_zz z24) (Option.some.inj hD) dX16_packPeriod_118
  have hh122 : ∀ (f : Nat) (v4 : Int32) (v5 : Int32) (v8 : Int32) (M : mwM) (L : mwL) (H : Heap) (locs : List Loc) (ls : Array Slot), fX16_packPeriod_h122 fu k a1 a2 f (v4, v5, v8, M, L) = some (r0, M0, L0) → mw_W G ad NF TF FF M L H locs → lv_has ls 9 [(0, .ref (ad k)), (4, .int v4), (5, .int v5), (8, .int v8)] → W p l e ({ frames := 4, cells := 0, slots := 0, locals := 100 }) s m [.ref (ad k), .int a1, .long a2].toArray below meth c H locs 0 0 (MQ below (mw_Qi G ad NF TF FF (mw_eqI r0 M0 L0)) [.ref (ad k), .int a1, .long a2].toArray s 0 0 (mw_fr G)) (F0 m 122 ls []) := by
    intro f
    induction f with
    | zero => intro v4 v5 v8 M L H locs ls hD; cases hD
    | succ f122 ih122 =>
      intro v4 v5 v8 M L H locs ls hD hw hl
      replace hD : fX16_packPeriod_i122 fu k a1 a2 (fX16_packPeriod_h122 fu k a1 a2 f122) v4 v5 v8 M L = some (r0, M0, L0) := hD
      unfold fX16_packPeriod_i122 at hD
      refine lv_iload C.1.1 C.1.2.1 dX16_packPeriod_122 (lv_at hl 3 rfl) ?_
      refine lv_iload C.1.1 C.1.2.1 dX16_packPeriod_124 (lv_at hl 1 rfl) ?_
      refine lv_icmp_gt (tgt := 150) C.1.1 C.1.2.1 dX16_packPeriod_126 (by decide) (fun c25 => ?_) (fun c25 => ?_)
      · replace hD := g_pos c25 hD
        refine lv_iconst (v := 0) C.1.1 C.1.2.1 dX16_packPeriod_150 (by decide) ?_
        exact mr_iret C hr hlocks hw (by decide +kernel) (Option.some.inj hD) dX16_packPeriod_151
      · replace hD := g_neg c25 hD
        refine lv_aload_n C.1.1 C.1.2.1 dX16_packPeriod_129 rfl (lv_at hl 0 rfl) ?_
        refine lv_iload C.1.1 C.1.2.1 dX16_packPeriod_130 (lv_at hl 1 rfl) ?_
        refine lv_iload C.1.1 C.1.2.1 dX16_packPeriod_132 (lv_at hl 2 rfl) ?_
        refine lv_iload C.1.1 C.1.2.1 dX16_packPeriod_134 (lv_at hl 3 rfl) ?_
        obtain ⟨r28, M26, L27, h1, hD⟩ := g_b3 hD
        refine md_cvI (As := [.int v4, .int v5, .int v8]) (rest := []) C hw (tX16_search l G ad fu k v4 v5 v8 M L h1 hk0) kc_16 (Mp_N0 hk0) (Mp_T0 hk0) wd_3466 cwX16_search ⟨Nat.le_of_ble_eq_true rfl, Nat.le_of_ble_eq_true rfl⟩ rfl hl.1 (Nat.le_of_ble_eq_true rfl) dX16_packPeriod_136 rfl rfl ⟨Nat.zero_le _, Nat.zero_le _⟩ rfl (fun H locs hw => ?_)
        refine lv_if_eq (tgt := 144) C.1.1 C.1.2.1 dX16_packPeriod_139 (by decide) (fun c29 => ?_) (fun c29 => ?_)
        · replace hD := g_pos c29 hD
          obtain ⟨x30, ex30, hD⟩ := g_let hD
          refine lv_iinc (v := x30) (lv' := [(8, .int x30), (0, .ref (ad k)), (4, .int v4), (5, .int v5)]) C.1.1 C.1.2.1 dX16_packPeriod_144 hl (k := 3) rfl (by rw [ex30]; rfl) (by decide) rfl (fun ls hl => ?_)
          refine lv_goto (tgt := 122) C.1.1 C.1.2.1 dX16_packPeriod_147 (by decide) ?_
          exact ih122 v4 v5 x30 M26 L27 _ _ ls hD hw (lv_sub hl [1, 2, 3, 0] rfl)
        · replace hD := g_neg c29 hD
          refine lv_iconst (v := 1) C.1.1 C.1.2.1 dX16_packPeriod_142 (by decide) ?_
          exact mr_iret C hr hlocks hw (by decide +kernel) (Option.some.inj hD) dX16_packPeriod_143
  have hb91 : ∀ (v4 : Int32) (v5 : Int32) (v6 : Int64) (M : mwM) (L : mwL) (H : Heap) (locs : List Loc) (ls : Array Slot), fX16_packPeriod_b91 fu k a1 a2 v4 v5 v6 M L = some (r0, M0, L0) → mw_W G ad NF TF FF M L H locs → lv_has ls 9 [(0, .ref (ad k)), (2, .long a2), (4, .int v4), (5, .int v5), (6, .long v6)] → W p l e ({ frames := 4, cells := 0, slots := 0, locals := 100 }) s m [.ref (ad k), .int a1, .long a2].toArray below meth c H locs 0 0 (MQ below (mw_Qi G ad NF TF FF (mw_eqI r0 M0 L0)) [.ref (ad k), .int a1, .long a2].toArray s 0 0 (mw_fr G)) (F0 m 91 ls []) := by
    intro v4 v5 v6 M L H locs ls hD hw hl
    unfold fX16_packPeriod_b91 at hD
    refine lv_iload C.1.1 C.1.2.1 dX16_packPeriod_91 (lv_at hl 2 rfl) ?_
    refine lv_bipush (v := 7) C.1.1 C.1.2.1 dX16_packPeriod_93 (by decide) ?_
    refine lv_icmp_gt (tgt := 105) C.1.1 C.1.2.1 dX16_packPeriod_95 (by decide) (fun c18 => ?_) (fun c18 => ?_)
    · replace hD := g_pos c18 hD
      exact hb105 v4 v5 M L _ _ ls hD hw (lv_sub hl [0, 2, 3] rfl)
    · replace hD := g_neg c18 hD
      refine lv_lload C.1.1 C.1.2.1 dX16_packPeriod_98 (lv_at hl 4 rfl) ?_
      refine lv_lload_n C.1.1 C.1.2.1 dX16_packPeriod_100 rfl (lv_at hl 1 rfl) ?_
      refine W.lcmp C.1.1 C.1.2.1 dX16_packPeriod_101 ?_
      refine lv_if_le (tgt := 119) C.1.1 C.1.2.1 dX16_packPeriod_102 (by decide) (fun c19 => ?_) (fun c19 => ?_)
      · replace hD := g_pos c19 hD
        refine lv_iconst (v := 0) C.1.1 C.1.2.1 dX16_packPeriod_119 (by decide) ?_
        refine lv_istore (lv' := [(8, .int 0), (0, .ref (ad k)), (2, .long a2), (4, .int v4), (5, .int v5), (6, .long v6)]) C.1.1 C.1.2.1 dX16_packPeriod_120 hl (by decide) rfl (fun ls hl => ?_)
        exact hh122 fu v4 v5 0 M L _ _ ls hD hw (lv_sub hl [1, 3, 4, 0] rfl)
      · replace hD := g_neg c19 hD
        exact hb105 v4 v5 M L _ _ ls hD hw (lv_sub hl [0, 2, 3] rfl)
  have hh63 : ∀ (f : Nat) (v4 : Int32) (v5 : Int32) (v6 : Int64) (v8 : Int32) (M : mwM) (L : mwL) (H : Heap) (locs : List Loc) (ls : Array Slot), fX16_packPeriod_h63 fu k a1 a2 f (v4, v5, v6, v8, M, L) = some (r0, M0, L0) → mw_W G ad NF TF FF M L H locs → lv_has ls 9 [(0, .ref (ad k)), (2, .long a2), (4, .int v4), (5, .int v5), (6, .long v6), (8, .int v8)] → W p l e ({ frames := 4, cells := 0, slots := 0, locals := 100 }) s m [.ref (ad k), .int a1, .long a2].toArray below meth c H locs 0 0 (MQ below (mw_Qi G ad NF TF FF (mw_eqI r0 M0 L0)) [.ref (ad k), .int a1, .long a2].toArray s 0 0 (mw_fr G)) (F0 m 63 ls []) := by
    intro f
    induction f with
    | zero => intro v4 v5 v6 v8 M L H locs ls hD; cases hD
    | succ f63 ih63 =>
      intro v4 v5 v6 v8 M L H locs ls hD hw hl
      replace hD : fX16_packPeriod_i63 fu k a1 a2 (fX16_packPeriod_h63 fu k a1 a2 f63) v4 v5 v6 v8 M L = some (r0, M0, L0) := hD
      unfold fX16_packPeriod_i63 at hD
      refine lv_iload C.1.1 C.1.2.1 dX16_packPeriod_63 (lv_at hl 5 rfl) ?_
      refine lv_iload C.1.1 C.1.2.1 dX16_packPeriod_65 (lv_at hl 2 rfl) ?_
      refine lv_icmp_gt (tgt := 91) C.1.1 C.1.2.1 dX16_packPeriod_67 (by decide) (fun c14 => ?_) (fun c14 => ?_)
      · replace hD := g_pos c14 hD
        exact hb91 v4 v5 v6 M L _ _ ls hD hw (lv_sub hl [0, 1, 2, 3, 4] rfl)
      · replace hD := g_neg c14 hD
        refine lv_iload C.1.1 C.1.2.1 dX16_packPeriod_70 (lv_at hl 2 rfl) ?_
        refine lv_bipush (v := 8) C.1.1 C.1.2.1 dX16_packPeriod_72 (by decide) ?_
        refine lv_icmp_ge (tgt := 91) C.1.1 C.1.2.1 dX16_packPeriod_74 (by decide) (fun c15 => ?_) (fun c15 => ?_)
        · replace hD := g_pos c15 hD
          exact hb91 v4 v5 v6 M L _ _ ls hD hw (lv_sub hl [0, 1, 2, 3, 4] rfl)
        · replace hD := g_neg c15 hD
          refine lv_lload C.1.1 C.1.2.1 dX16_packPeriod_77 (lv_at hl 4 rfl) ?_
          refine lv_iload C.1.1 C.1.2.1 dX16_packPeriod_79 (lv_at hl 5 rfl) ?_
          refine lv_i2l C.1.1 C.1.2.1 dX16_packPeriod_81 rfl ?_
          refine lv_lmul C.1.1 C.1.2.1 dX16_packPeriod_82 ?_
          obtain ⟨x16, ex16, hD⟩ := g_let hD
          refine W.eq (g2 := F0 m 83 ls (.long x16 :: [])) (by rw [ex16]) ?_
          refine lv_lstore (lv' := [(6, .long x16), (0, .ref (ad k)), (2, .long a2), (4, .int v4), (5, .int v5), (8, .int v8)]) C.1.1 C.1.2.1 dX16_packPeriod_83 hl (by decide) rfl (fun ls hl => ?_)
          obtain ⟨x17, ex17, hD⟩ := g_let hD
          refine lv_iinc (v := x17) (lv' := [(8, .int x17), (6, .long x16), (0, .ref (ad k)), (2, .long a2), (4, .int v4), (5, .int v5)]) C.1.1 C.1.2.1 dX16_packPeriod_85 hl (k := 5) rfl (by rw [ex17]; rfl) (by decide) rfl (fun ls hl => ?_)
          refine lv_goto (tgt := 63) C.1.1 C.1.2.1 dX16_packPeriod_88 (by decide) ?_
          exact ih63 v4 v5 x16 x17 M L _ _ ls hD hw (lv_sub hl [2, 3, 4, 5, 1, 0] rfl)
  have hh13 : ∀ (f : Nat) (v4 : Int32) (v5 : Int32) (v6 : Int32) (M : mwM) (L : mwL) (H : Heap) (locs : List Loc) (ls : Array Slot), fX16_packPeriod_h13 fu k a1 a2 f (v4, v5, v6, M, L) = some (r0, M0, L0) → mw_W G ad NF TF FF M L H locs → lv_has ls 9 [(0, .ref (ad k)), (1, .int a1), (2, .long a2), (4, .int v4), (5, .int v5), (6, .int v6)] → W p l e ({ frames := 4, cells := 0, slots := 0, locals := 100 }) s m [.ref (ad k), .int a1, .long a2].toArray below meth c H locs 0 0 (MQ below (mw_Qi G ad NF TF FF (mw_eqI r0 M0 L0)) [.ref (ad k), .int a1, .long a2].toArray s 0 0 (mw_fr G)) (F0 m 13 ls []) := by
    intro f
    induction f with
    | zero => intro v4 v5 v6 M L H locs ls hD; cases hD
    | succ f13 ih13 =>
      intro v4 v5 v6 M L H locs ls hD hw hl
      replace hD : fX16_packPeriod_i13 fu k a1 a2 (fX16_packPeriod_h13 fu k a1 a2 f13) v4 v5 v6 M L = some (r0, M0, L0) := hD
      have hb51 : ∀ (v4 : Int32) (v5 : Int32) (v6 : Int32) (M : mwM) (L : mwL) (H : Heap) (locs : List Loc) (ls : Array Slot), fX16_packPeriod_b51 fu k a1 a2 (fX16_packPeriod_h13 fu k a1 a2 f13) v4 v5 v6 M L = some (r0, M0, L0) → mw_W G ad NF TF FF M L H locs → lv_has ls 9 [(0, .ref (ad k)), (1, .int a1), (2, .long a2), (4, .int v4), (5, .int v5), (6, .int v6)] → W p l e ({ frames := 4, cells := 0, slots := 0, locals := 100 }) s m [.ref (ad k), .int a1, .long a2].toArray below meth c H locs 0 0 (MQ below (mw_Qi G ad NF TF FF (mw_eqI r0 M0 L0)) [.ref (ad k), .int a1, .long a2].toArray s 0 0 (mw_fr G)) (F0 m 51 ls []) := by
        intro v4 v5 v6 M L H locs ls hD hw hl
        unfold fX16_packPeriod_b51 at hD
        obtain ⟨x13, ex13, hD⟩ := g_let hD
        refine lv_iinc (v := x13) (lv' := [(6, .int x13), (0, .ref (ad k)), (1, .int a1), (2, .long a2), (4, .int v4), (5, .int v5)]) C.1.1 C.1.2.1 dX16_packPeriod_51 hl (k := 5) rfl (by rw [ex13]; rfl) (by decide) rfl (fun ls hl => ?_)
        refine lv_goto (tgt := 13) C.1.1 C.1.2.1 dX16_packPeriod_54 (by decide) ?_
        exact ih13 v4 v5 x13 M L _ _ ls hD hw (lv_sub hl [1, 2, 3, 4, 5, 0] rfl)
      unfold fX16_packPeriod_i13 at hD
      refine lv_iload C.1.1 C.1.2.1 dX16_packPeriod_13 (lv_at hl 5 rfl) ?_
      refine lv_bipush (v := 65) C.1.1 C.1.2.1 dX16_packPeriod_15 (by decide) ?_
      refine lv_icmp_ge (tgt := 57) C.1.1 C.1.2.1 dX16_packPeriod_17 (by decide) (fun c1 => ?_) (fun c1 => ?_)
      · replace hD := g_pos c1 hD
        refine lv_lconst (v := 1) C.1.1 C.1.2.1 dX16_packPeriod_57 (by decide) ?_
        refine lv_lstore (lv' := [(6, .long 1), (0, .ref (ad k)), (1, .int a1), (2, .long a2), (4, .int v4), (5, .int v5)]) C.1.1 C.1.2.1 dX16_packPeriod_58 hl (by decide) rfl (fun ls hl => ?_)
        refine lv_iconst (v := 2) C.1.1 C.1.2.1 dX16_packPeriod_60 (by decide) ?_
        refine lv_istore (lv' := [(8, .int 2), (6, .long 1), (0, .ref (ad k)), (1, .int a1), (2, .long a2), (4, .int v4), (5, .int v5)]) C.1.1 C.1.2.1 dX16_packPeriod_61 hl (by decide) rfl (fun ls hl => ?_)
        exact hh63 fu v4 v5 1 2 M L _ _ ls hD hw (lv_sub hl [2, 4, 5, 6, 1, 0] rfl)
      · replace hD := g_neg c1 hD
        refine lv_aload_n C.1.1 C.1.2.1 dX16_packPeriod_20 rfl (lv_at hl 0 rfl) ?_
        refine lv_iload C.1.1 C.1.2.1 dX16_packPeriod_21 (lv_at hl 5 rfl) ?_
        obtain ⟨r4, M2, L3, h1, hD⟩ := g_b3 hD
        refine md_cvI (As := [.int v6]) (rest := []) C hw (tX16_isUsed l G ad fu k v6 M L h1 hk0) kc_16 (Mp_N0 hk0) (Mp_T0 hk0) wd_3450 cwX16_isUsed ⟨Nat.le_of_ble_eq_true rfl, Nat.le_of_ble_eq_true rfl⟩ rfl hl.1 (Nat.le_of_ble_eq_true rfl) dX16_packPeriod_23 rfl rfl ⟨Nat.zero_le _, Nat.zero_le _⟩ rfl (fun H locs hw => ?_)
        refine lv_if_eq (tgt := 51) C.1.1 C.1.2.1 dX16_packPeriod_26 (by decide) (fun c5 => ?_) (fun c5 => ?_)
        · replace hD := g_pos c5 hD
          exact hb51 v4 v5 v6 M2 L3 _ _ ls hD hw (lv_sub hl [0, 1, 2, 3, 4, 5] rfl)
        · replace hD := g_neg c5 hD
          refine lv_aload_n C.1.1 C.1.2.1 dX16_packPeriod_29 rfl (lv_at hl 0 rfl) ?_
          refine lv_iload C.1.1 C.1.2.1 dX16_packPeriod_30 (lv_at hl 5 rfl) ?_
          refine lv_iload_n C.1.1 C.1.2.1 dX16_packPeriod_32 rfl (lv_at hl 1 rfl) ?_
          obtain ⟨r8, M6, L7, h1, hD⟩ := g_b3 hD
          refine md_cvI (As := [.int v6, .int a1]) (rest := []) C hw (tX16_hasOther l G ad fu k v6 a1 M2 L3 h1 hk0) kc_16 (Mp_N0 hk0) (Mp_T0 hk0) wd_3433 cwX16_hasOther ⟨Nat.le_of_ble_eq_true rfl, Nat.le_of_ble_eq_true rfl⟩ rfl hl.1 (Nat.le_of_ble_eq_true rfl) dX16_packPeriod_33 rfl rfl ⟨Nat.zero_le _, Nat.zero_le _⟩ rfl (fun H locs hw => ?_)
          refine lv_if_ne (tgt := 51) C.1.1 C.1.2.1 dX16_packPeriod_36 (by decide) (fun c9 => ?_) (fun c9 => ?_)
          · replace hD := g_neg c9 hD
            exact hb51 v4 v5 v6 M6 L7 _ _ ls hD hw (lv_sub hl [0, 1, 2, 3, 4, 5] rfl)
          · replace hD := g_pos c9 hD
            refine lv_aload_n C.1.1 C.1.2.1 dX16_packPeriod_39 rfl (lv_at hl 0 rfl) ?_
            refine mr_getR C hw kc_16 23 (Mp_N0 hk0) (Mp_T0 hk0) (Mp_F0_23 hk0) wd_2578 dX16_packPeriod_40 (by decide) rfl ?_
            refine lv_iload C.1.1 C.1.2.1 dX16_packPeriod_43 (lv_at hl 4 rfl) ?_
            refine lv_iload C.1.1 C.1.2.1 dX16_packPeriod_45 (lv_at hl 5 rfl) ?_
            obtain ⟨q10, hD⟩ := g_ck hD
            obtain ⟨M11, eM11, hD⟩ := g_let hD
            refine mr_iast C hw (Mp_N19 hk0) (Mp_T19 hk0) q10 dX16_packPeriod_47 (fun H locs hw => ?_)
            replace hw : mw_W G ad NF TF FF M11 L7 H locs := by rw [eM11]; exact hw
            obtain ⟨x12, ex12, hD⟩ := g_let hD
            refine lv_iinc (v := x12) (lv' := [(5, .int x12), (0, .ref (ad k)), (1, .int a1), (2, .long a2), (4, .int v4), (6, .int v6)]) C.1.1 C.1.2.1 dX16_packPeriod_48 hl (k := 4) rfl (by rw [ex12]; rfl) (by decide) rfl (fun ls hl => ?_)
            exact hb51 v4 x12 v6 M11 L7 _ _ ls hD hw (lv_sub hl [1, 2, 3, 4, 0, 5] rfl)
  unfold DX16_packPeriod at hD
  refine lv_aload_n C.1.1 C.1.2.1 dX16_packPeriod_0 rfl (lv_at hl 0 rfl) ?_
  refine lv_iload_n C.1.1 C.1.2.1 dX16_packPeriod_1 rfl (lv_at hl 1 rfl) ?_
  obtain ⟨r33, M31, L32, h1, hD⟩ := g_b3 hD
  refine md_cvI (As := [.int a1]) (rest := []) C hw (tX16_listed l G ad fu k a1 M L h1 hk0) kc_16 (Mp_N0 hk0) (Mp_T0 hk0) wd_3446 cwX16_listed ⟨Nat.le_of_ble_eq_true rfl, Nat.le_of_ble_eq_true rfl⟩ rfl hl.1 (Nat.le_of_ble_eq_true rfl) dX16_packPeriod_2 rfl rfl ⟨Nat.zero_le _, Nat.zero_le _⟩ rfl (fun H locs hw => ?_)
  refine lv_istore (lv' := [(4, .int r33), (0, .ref (ad k)), (1, .int a1), (2, .long a2)]) C.1.1 C.1.2.1 dX16_packPeriod_5 hl (by decide) rfl (fun ls hl => ?_)
  refine lv_iconst (v := 0) C.1.1 C.1.2.1 dX16_packPeriod_7 (by decide) ?_
  refine lv_istore (lv' := [(5, .int 0), (4, .int r33), (0, .ref (ad k)), (1, .int a1), (2, .long a2)]) C.1.1 C.1.2.1 dX16_packPeriod_8 hl (by decide) rfl (fun ls hl => ?_)
  refine lv_iconst (v := 1) C.1.1 C.1.2.1 dX16_packPeriod_10 (by decide) ?_
  refine lv_istore (lv' := [(6, .int 1), (5, .int 0), (4, .int r33), (0, .ref (ad k)), (1, .int a1), (2, .long a2)]) C.1.1 C.1.2.1 dX16_packPeriod_11 hl (by decide) rfl (fun ls hl => ?_)
  exact hh13 fu r33 0 1 M31 L32 _ _ ls hD hw (lv_sub hl [3, 4, 5, 2, 1, 0] rfl)

theorem dX16_frames_0 : decode cX16_frames 0 = .ok (.iconst 0, 1) := by decide +kernel
theorem dX16_frames_1 : decode cX16_frames 1 = .ok (.istore_n 1, 1) := by decide +kernel
theorem dX16_frames_2 : decode cX16_frames 2 = .ok (.iconst 1, 1) := by decide +kernel
theorem dX16_frames_3 : decode cX16_frames 3 = .ok (.istore_n 2, 1) := by decide +kernel
theorem dX16_frames_4 : decode cX16_frames 4 = .ok (.iload_n 2, 1) := by decide +kernel
theorem dX16_frames_5 : decode cX16_frames 5 = .ok (.bipush 65, 2) := by decide +kernel
theorem dX16_frames_7 : decode cX16_frames 7 = .ok (.if_icmp .ge 25, 3) := by decide +kernel
theorem dX16_frames_10 : decode cX16_frames 10 = .ok (.aload_n 0, 1) := by decide +kernel
theorem dX16_frames_11 : decode cX16_frames 11 = .ok (.iload_n 2, 1) := by decide +kernel
theorem dX16_frames_12 : decode cX16_frames 12 = .ok (.invokevirtual 117, 3) := by decide +kernel
theorem dX16_frames_15 : decode cX16_frames 15 = .ok (.ifCond .eq 9, 3) := by decide +kernel
theorem dX16_frames_18 : decode cX16_frames 18 = .ok (.iload_n 1, 1) := by decide +kernel
theorem dX16_frames_19 : decode cX16_frames 19 = .ok (.iconst 1, 1) := by decide +kernel
theorem dX16_frames_20 : decode cX16_frames 20 = .ok (.iadd, 1) := by decide +kernel
theorem dX16_frames_21 : decode cX16_frames 21 = .ok (.goto 4, 3) := by decide +kernel
theorem dX16_frames_24 : decode cX16_frames 24 = .ok (.iload_n 1, 1) := by decide +kernel
theorem dX16_frames_25 : decode cX16_frames 25 = .ok (.istore_n 1, 1) := by decide +kernel
theorem dX16_frames_26 : decode cX16_frames 26 = .ok (.iinc 2 1, 3) := by decide +kernel
theorem dX16_frames_29 : decode cX16_frames 29 = .ok (.goto (-25), 3) := by decide +kernel
theorem dX16_frames_32 : decode cX16_frames 32 = .ok (.iload_n 1, 1) := by decide +kernel
theorem dX16_frames_33 : decode cX16_frames 33 = .ok (.ireturn, 1) := by decide +kernel
theorem cwX16_frames : mw_cwV yX16_frames cX16_frames 3 ((some .int)) 0 := ⟨⟨wd_19, wd_3473, by decide +kernel⟩, wd_3472, sl_209⟩
set_option maxHeartbeats 4000000 in
set_option maxRecDepth 100000 in
theorem tX16_frames (l : Launch) (G : mwG) (ad : Nat → Nat) (fu : Nat) (k : Nat) (M : mwM) (L : mwL) {r0 : Int32} {M0 : mwM} {L0 : mwL} (hD : DX16_frames fu k M L = some (r0, M0, L0)) (hk0 : isMp k) : Met l yX16_frames (Cond.code yX16_frames cX16_frames 3 ((some .int)) :: GT) ({ frames := 2, cells := 0, slots := 0, locals := 44 }) (mw_Pre G ad NF TF FF M L [.ref (ad k)]) (mw_Qi G ad NF TF FF (mw_eqI r0 M0 L0)) 0 0 (mw_fr G) := by
  refine mw_enter (by decide) (Nat.le_of_ble_eq_true rfl) ?_
  intro p e s m below meth c ls C hr hlocks hnm hw hl
  have hl : lv_has ls 3 [(0, .ref (ad k))] := hl
  have hh4 : ∀ (f : Nat) (v1 : Int32) (v2 : Int32) (M : mwM) (L : mwL) (H : Heap) (locs : List Loc) (ls : Array Slot), fX16_frames_h4 fu k f (v1, v2, M, L) = some (r0, M0, L0) → mw_W G ad NF TF FF M L H locs → lv_has ls 3 [(0, .ref (ad k)), (1, .int v1), (2, .int v2)] → W p l e ({ frames := 2, cells := 0, slots := 0, locals := 44 }) s m [.ref (ad k)].toArray below meth c H locs 0 0 (MQ below (mw_Qi G ad NF TF FF (mw_eqI r0 M0 L0)) [.ref (ad k)].toArray s 0 0 (mw_fr G)) (F0 m 4 ls []) := by
    intro f
    induction f with
    | zero => intro v1 v2 M L H locs ls hD; cases hD
    | succ f4 ih4 =>
      intro v1 v2 M L H locs ls hD hw hl
      replace hD : fX16_frames_i4 fu k (fX16_frames_h4 fu k f4) v1 v2 M L = some (r0, M0, L0) := hD
      have hb25 : ∀ (v2 : Int32) (s0 : Int32) (M : mwM) (L : mwL) (H : Heap) (locs : List Loc) (ls : Array Slot), fX16_frames_b25 fu k (fX16_frames_h4 fu k f4) v2 s0 M L = some (r0, M0, L0) → mw_W G ad NF TF FF M L H locs → lv_has ls 3 [(0, .ref (ad k)), (2, .int v2)] → W p l e ({ frames := 2, cells := 0, slots := 0, locals := 44 }) s m [.ref (ad k)].toArray below meth c H locs 0 0 (MQ below (mw_Qi G ad NF TF FF (mw_eqI r0 M0 L0)) [.ref (ad k)].toArray s 0 0 (mw_fr G)) (F0 m 25 ls [.int s0]) := by
        intro v2 s0 M L H locs ls hD hw hl
        unfold fX16_frames_b25 at hD
        refine lv_istore_n (lv' := [(1, .int s0), (0, .ref (ad k)), (2, .int v2)]) C.1.1 C.1.2.1 dX16_frames_25 rfl hl (by decide) rfl (fun ls hl => ?_)
        obtain ⟨x7, ex7, hD⟩ := g_let hD
        refine lv_iinc (v := x7) (lv' := [(2, .int x7), (1, .int s0), (0, .ref (ad k))]) C.1.1 C.1.2.1 dX16_frames_26 hl (k := 2) rfl (by rw [ex7]; rfl) (by decide) rfl (fun ls hl => ?_)
        refine lv_goto (tgt := 4) C.1.1 C.1.2.1 dX16_frames_29 (by decide) ?_
        exact ih4 s0 x7 M L _ _ ls hD hw (lv_sub hl [2, 1, 0] rfl)
      unfold fX16_frames_i4 at hD
      refine lv_iload_n C.1.1 C.1.2.1 dX16_frames_4 rfl (lv_at hl 2 rfl) ?_
      refine lv_bipush (v := 65) C.1.1 C.1.2.1 dX16_frames_5 (by decide) ?_
      refine lv_icmp_ge (tgt := 32) C.1.1 C.1.2.1 dX16_frames_7 (by decide) (fun c1 => ?_) (fun c1 => ?_)
      · replace hD := g_pos c1 hD
        refine lv_iload_n C.1.1 C.1.2.1 dX16_frames_32 rfl (lv_at hl 1 rfl) ?_
        exact mr_iret C hr hlocks hw rfl (Option.some.inj hD) dX16_frames_33
      · replace hD := g_neg c1 hD
        refine lv_aload_n C.1.1 C.1.2.1 dX16_frames_10 rfl (lv_at hl 0 rfl) ?_
        refine lv_iload_n C.1.1 C.1.2.1 dX16_frames_11 rfl (lv_at hl 2 rfl) ?_
        obtain ⟨r5, M2, L3, h1, hD⟩ := g_b3 hD
        refine md_cvI (As := [.int v2]) (rest := []) C hw (tX16_isUsed l G ad fu k v2 M L h1 hk0) kc_16 (Mp_N0 hk0) (Mp_T0 hk0) wd_3450 cwX16_isUsed ⟨Nat.le_of_ble_eq_true rfl, Nat.le_of_ble_eq_true rfl⟩ rfl hl.1 (Nat.le_of_ble_eq_true rfl) dX16_frames_12 rfl rfl ⟨Nat.zero_le _, Nat.zero_le _⟩ rfl (fun H locs hw => ?_)
        refine lv_if_eq (tgt := 24) C.1.1 C.1.2.1 dX16_frames_15 (by decide) (fun c6 => ?_) (fun c6 => ?_)
        · replace hD := g_pos c6 hD
          refine lv_iload_n C.1.1 C.1.2.1 dX16_frames_24 rfl (lv_at hl 1 rfl) ?_
          exact hb25 v2 v1 M2 L3 _ _ ls hD hw (lv_sub hl [0, 2] rfl)
        · replace hD := g_neg c6 hD
          refine lv_iload_n C.1.1 C.1.2.1 dX16_frames_18 rfl (lv_at hl 1 rfl) ?_
          refine lv_iconst (v := 1) C.1.1 C.1.2.1 dX16_frames_19 (by decide) ?_
          refine lv_iadd C.1.1 C.1.2.1 dX16_frames_20 ?_
          refine lv_goto (tgt := 25) C.1.1 C.1.2.1 dX16_frames_21 (by decide) ?_
          exact hb25 v2 (v1 + 1) M2 L3 _ _ ls hD hw (lv_sub hl [0, 2] rfl)
  unfold DX16_frames at hD
  refine lv_iconst (v := 0) C.1.1 C.1.2.1 dX16_frames_0 (by decide) ?_
  refine lv_istore_n (lv' := [(1, .int 0), (0, .ref (ad k))]) C.1.1 C.1.2.1 dX16_frames_1 rfl hl (by decide) rfl (fun ls hl => ?_)
  refine lv_iconst (v := 1) C.1.1 C.1.2.1 dX16_frames_2 (by decide) ?_
  refine lv_istore_n (lv' := [(2, .int 1), (1, .int 0), (0, .ref (ad k))]) C.1.1 C.1.2.1 dX16_frames_3 rfl hl (by decide) rfl (fun ls hl => ?_)
  exact hh4 fu 0 1 M L _ _ ls hD hw (lv_sub hl [2, 1, 0] rfl)

theorem dX16_packs_0 : decode cX16_packs 0 = .ok (.iconst 1, 1) := by decide +kernel
theorem dX16_packs_1 : decode cX16_packs 1 = .ok (.istore_n 3, 1) := by decide +kernel
theorem dX16_packs_2 : decode cX16_packs 2 = .ok (.iload_n 3, 1) := by decide +kernel
theorem dX16_packs_3 : decode cX16_packs 3 = .ok (.aload_n 0, 1) := by decide +kernel
theorem dX16_packs_4 : decode cX16_packs 4 = .ok (.getfield 81, 3) := by decide +kernel
theorem dX16_packs_7 : decode cX16_packs 7 = .ok (.if_icmp .gt 68, 3) := by decide +kernel
theorem dX16_packs_10 : decode cX16_packs 10 = .ok (.aload_n 0, 1) := by decide +kernel
theorem dX16_packs_11 : decode cX16_packs 11 = .ok (.getfield 74, 3) := by decide +kernel
theorem dX16_packs_14 : decode cX16_packs 14 = .ok (.iload_n 3, 1) := by decide +kernel
theorem dX16_packs_15 : decode cX16_packs 15 = .ok (.aload_n 0, 1) := by decide +kernel
theorem dX16_packs_16 : decode cX16_packs 16 = .ok (.iload_n 3, 1) := by decide +kernel
theorem dX16_packs_17 : decode cX16_packs 17 = .ok (.invokevirtual 110, 3) := by decide +kernel
theorem dX16_packs_20 : decode cX16_packs 20 = .ok (.ifCond .eq 11, 3) := by decide +kernel
theorem dX16_packs_23 : decode cX16_packs 23 = .ok (.aload_n 0, 1) := by decide +kernel
theorem dX16_packs_24 : decode cX16_packs 24 = .ok (.iload_n 3, 1) := by decide +kernel
theorem dX16_packs_25 : decode cX16_packs 25 = .ok (.invokevirtual 107, 3) := by decide +kernel
theorem dX16_packs_28 : decode cX16_packs 28 = .ok (.goto 4, 3) := by decide +kernel
theorem dX16_packs_31 : decode cX16_packs 31 = .ok (.iconst 0, 1) := by decide +kernel
theorem dX16_packs_32 : decode cX16_packs 32 = .ok (.iastore, 1) := by decide +kernel
theorem dX16_packs_33 : decode cX16_packs 33 = .ok (.aload_n 0, 1) := by decide +kernel
theorem dX16_packs_34 : decode cX16_packs 34 = .ok (.getfield 56, 3) := by decide +kernel
theorem dX16_packs_37 : decode cX16_packs 37 = .ok (.iload_n 3, 1) := by decide +kernel
theorem dX16_packs_38 : decode cX16_packs 38 = .ok (.aload_n 0, 1) := by decide +kernel
theorem dX16_packs_39 : decode cX16_packs 39 = .ok (.iload_n 3, 1) := by decide +kernel
theorem dX16_packs_40 : decode cX16_packs 40 = .ok (.invokevirtual 110, 3) := by decide +kernel
theorem dX16_packs_43 : decode cX16_packs 43 = .ok (.ifCond .eq 12, 3) := by decide +kernel
theorem dX16_packs_46 : decode cX16_packs 46 = .ok (.aload_n 0, 1) := by decide +kernel
theorem dX16_packs_47 : decode cX16_packs 47 = .ok (.getfield 29, 3) := by decide +kernel
theorem dX16_packs_50 : decode cX16_packs 50 = .ok (.iload_n 3, 1) := by decide +kernel
theorem dX16_packs_51 : decode cX16_packs 51 = .ok (.iaload, 1) := by decide +kernel
theorem dX16_packs_52 : decode cX16_packs 52 = .ok (.goto 4, 3) := by decide +kernel
theorem dX16_packs_55 : decode cX16_packs 55 = .ok (.iconst 0, 1) := by decide +kernel
theorem dX16_packs_56 : decode cX16_packs 56 = .ok (.iastore, 1) := by decide +kernel
theorem dX16_packs_57 : decode cX16_packs 57 = .ok (.aload_n 0, 1) := by decide +kernel
theorem dX16_packs_58 : decode cX16_packs 58 = .ok (.getfield 59, 3) := by decide +kernel
theorem dX16_packs_61 : decode cX16_packs 61 = .ok (.iload_n 3, 1) := by decide +kernel
theorem dX16_packs_62 : decode cX16_packs 62 = .ok (.aload_n 0, 1) := by decide +kernel
theorem dX16_packs_63 : decode cX16_packs 63 = .ok (.getfield 32, 3) := by decide +kernel
theorem dX16_packs_66 : decode cX16_packs 66 = .ok (.iload_n 3, 1) := by decide +kernel
theorem dX16_packs_67 : decode cX16_packs 67 = .ok (.iaload, 1) := by decide +kernel
theorem dX16_packs_68 : decode cX16_packs 68 = .ok (.iastore, 1) := by decide +kernel
theorem dX16_packs_69 : decode cX16_packs 69 = .ok (.iinc 3 1, 3) := by decide +kernel
theorem dX16_packs_72 : decode cX16_packs 72 = .ok (.goto (-70), 3) := by decide +kernel
theorem dX16_packs_75 : decode cX16_packs 75 = .ok (.iconst 1, 1) := by decide +kernel
theorem dX16_packs_76 : decode cX16_packs 76 = .ok (.istore_n 3, 1) := by decide +kernel
theorem dX16_packs_77 : decode cX16_packs 77 = .ok (.iload_n 3, 1) := by decide +kernel
theorem dX16_packs_78 : decode cX16_packs 78 = .ok (.aload_n 0, 1) := by decide +kernel
theorem dX16_packs_79 : decode cX16_packs 79 = .ok (.getfield 81, 3) := by decide +kernel
theorem dX16_packs_82 : decode cX16_packs 82 = .ok (.if_icmp .gt 112, 3) := by decide +kernel
theorem dX16_packs_85 : decode cX16_packs 85 = .ok (.aload_n 0, 1) := by decide +kernel
theorem dX16_packs_86 : decode cX16_packs 86 = .ok (.iload_n 3, 1) := by decide +kernel
theorem dX16_packs_87 : decode cX16_packs 87 = .ok (.invokevirtual 110, 3) := by decide +kernel
theorem dX16_packs_90 : decode cX16_packs 90 = .ok (.ifCond .eq 98, 3) := by decide +kernel
theorem dX16_packs_93 : decode cX16_packs 93 = .ok (.aload_n 0, 1) := by decide +kernel
theorem dX16_packs_94 : decode cX16_packs 94 = .ok (.getfield 29, 3) := by decide +kernel
theorem dX16_packs_97 : decode cX16_packs 97 = .ok (.iload_n 3, 1) := by decide +kernel
theorem dX16_packs_98 : decode cX16_packs 98 = .ok (.iaload, 1) := by decide +kernel
theorem dX16_packs_99 : decode cX16_packs 99 = .ok (.ifCond .ne 89, 3) := by decide +kernel
theorem dX16_packs_102 : decode cX16_packs 102 = .ok (.aload_n 0, 1) := by decide +kernel
theorem dX16_packs_103 : decode cX16_packs 103 = .ok (.getfield 41, 3) := by decide +kernel
theorem dX16_packs_106 : decode cX16_packs 106 = .ok (.iload_n 3, 1) := by decide +kernel
theorem dX16_packs_107 : decode cX16_packs 107 = .ok (.baload, 1) := by decide +kernel
theorem dX16_packs_108 : decode cX16_packs 108 = .ok (.ifCond .eq 80, 3) := by decide +kernel
theorem dX16_packs_111 : decode cX16_packs 111 = .ok (.aload_n 0, 1) := by decide +kernel
theorem dX16_packs_112 : decode cX16_packs 112 = .ok (.getfield 35, 3) := by decide +kernel
theorem dX16_packs_115 : decode cX16_packs 115 = .ok (.iload_n 3, 1) := by decide +kernel
theorem dX16_packs_116 : decode cX16_packs 116 = .ok (.iaload, 1) := by decide +kernel
theorem dX16_packs_117 : decode cX16_packs 117 = .ok (.ifCond .le 71, 3) := by decide +kernel
theorem dX16_packs_120 : decode cX16_packs 120 = .ok (.aload_n 0, 1) := by decide +kernel
theorem dX16_packs_121 : decode cX16_packs 121 = .ok (.aload_n 0, 1) := by decide +kernel
theorem dX16_packs_122 : decode cX16_packs 122 = .ok (.getfield 35, 3) := by decide +kernel
theorem dX16_packs_125 : decode cX16_packs 125 = .ok (.iload_n 3, 1) := by decide +kernel
theorem dX16_packs_126 : decode cX16_packs 126 = .ok (.iaload, 1) := by decide +kernel
theorem dX16_packs_127 : decode cX16_packs 127 = .ok (.aload_n 0, 1) := by decide +kernel
theorem dX16_packs_128 : decode cX16_packs 128 = .ok (.getfield 13, 3) := by decide +kernel
theorem dX16_packs_131 : decode cX16_packs 131 = .ok (.iload_n 3, 1) := by decide +kernel
theorem dX16_packs_132 : decode cX16_packs 132 = .ok (.iaload, 1) := by decide +kernel
theorem dX16_packs_133 : decode cX16_packs 133 = .ok (.invokevirtual 131, 3) := by decide +kernel
theorem dX16_packs_136 : decode cX16_packs 136 = .ok (.ifCond .ne 52, 3) := by decide +kernel
theorem dX16_packs_139 : decode cX16_packs 139 = .ok (.aload_n 0, 1) := by decide +kernel
theorem dX16_packs_140 : decode cX16_packs 140 = .ok (.aload_n 0, 1) := by decide +kernel
theorem dX16_packs_141 : decode cX16_packs 141 = .ok (.getfield 35, 3) := by decide +kernel
theorem dX16_packs_144 : decode cX16_packs 144 = .ok (.iload_n 3, 1) := by decide +kernel
theorem dX16_packs_145 : decode cX16_packs 145 = .ok (.iaload, 1) := by decide +kernel
theorem dX16_packs_146 : decode cX16_packs 146 = .ok (.aload_n 0, 1) := by decide +kernel
theorem dX16_packs_147 : decode cX16_packs 147 = .ok (.getfield 38, 3) := by decide +kernel
theorem dX16_packs_150 : decode cX16_packs 150 = .ok (.iload_n 3, 1) := by decide +kernel
theorem dX16_packs_151 : decode cX16_packs 151 = .ok (.iaload, 1) := by decide +kernel
theorem dX16_packs_152 : decode cX16_packs 152 = .ok (.aload_n 0, 1) := by decide +kernel
theorem dX16_packs_153 : decode cX16_packs 153 = .ok (.getfield 74, 3) := by decide +kernel
theorem dX16_packs_156 : decode cX16_packs 156 = .ok (.iload_n 3, 1) := by decide +kernel
theorem dX16_packs_157 : decode cX16_packs 157 = .ok (.iaload, 1) := by decide +kernel
theorem dX16_packs_158 : decode cX16_packs 158 = .ok (.invokevirtual 113, 3) := by decide +kernel
theorem dX16_packs_161 : decode cX16_packs 161 = .ok (.ifCond .eq 27, 3) := by decide +kernel
theorem dX16_packs_164 : decode cX16_packs 164 = .ok (.aload_n 0, 1) := by decide +kernel
theorem dX16_packs_165 : decode cX16_packs 165 = .ok (.getfield 56, 3) := by decide +kernel
theorem dX16_packs_168 : decode cX16_packs 168 = .ok (.iload_n 3, 1) := by decide +kernel
theorem dX16_packs_169 : decode cX16_packs 169 = .ok (.aload_n 0, 1) := by decide +kernel
theorem dX16_packs_170 : decode cX16_packs 170 = .ok (.getfield 35, 3) := by decide +kernel
theorem dX16_packs_173 : decode cX16_packs 173 = .ok (.iload_n 3, 1) := by decide +kernel
theorem dX16_packs_174 : decode cX16_packs 174 = .ok (.iaload, 1) := by decide +kernel
theorem dX16_packs_175 : decode cX16_packs 175 = .ok (.iastore, 1) := by decide +kernel
theorem dX16_packs_176 : decode cX16_packs 176 = .ok (.aload_n 0, 1) := by decide +kernel
theorem dX16_packs_177 : decode cX16_packs 177 = .ok (.getfield 59, 3) := by decide +kernel
theorem dX16_packs_180 : decode cX16_packs 180 = .ok (.iload_n 3, 1) := by decide +kernel
theorem dX16_packs_181 : decode cX16_packs 181 = .ok (.aload_n 0, 1) := by decide +kernel
theorem dX16_packs_182 : decode cX16_packs 182 = .ok (.getfield 38, 3) := by decide +kernel
theorem dX16_packs_185 : decode cX16_packs 185 = .ok (.iload_n 3, 1) := by decide +kernel
theorem dX16_packs_186 : decode cX16_packs 186 = .ok (.iaload, 1) := by decide +kernel
theorem dX16_packs_187 : decode cX16_packs 187 = .ok (.iastore, 1) := by decide +kernel
theorem dX16_packs_188 : decode cX16_packs 188 = .ok (.iinc 3 1, 3) := by decide +kernel
theorem dX16_packs_191 : decode cX16_packs 191 = .ok (.goto (-114), 3) := by decide +kernel
theorem dX16_packs_194 : decode cX16_packs 194 = .ok (.iconst 0, 1) := by decide +kernel
theorem dX16_packs_195 : decode cX16_packs 195 = .ok (.istore_n 3, 1) := by decide +kernel
theorem dX16_packs_196 : decode cX16_packs 196 = .ok (.iload_n 3, 1) := by decide +kernel
theorem dX16_packs_197 : decode cX16_packs 197 = .ok (.ldc 141, 2) := by decide +kernel
theorem dX16_packs_199 : decode cX16_packs 199 = .ok (.if_icmp .ge 106, 3) := by decide +kernel
theorem dX16_packs_202 : decode cX16_packs 202 = .ok (.ldc 141, 2) := by decide +kernel
theorem dX16_packs_204 : decode cX16_packs 204 = .ok (.istore 4, 2) := by decide +kernel
theorem dX16_packs_206 : decode cX16_packs 206 = .ok (.iconst 1, 1) := by decide +kernel
theorem dX16_packs_207 : decode cX16_packs 207 = .ok (.istore 5, 2) := by decide +kernel
theorem dX16_packs_209 : decode cX16_packs 209 = .ok (.iload 5, 2) := by decide +kernel
theorem dX16_packs_211 : decode cX16_packs 211 = .ok (.aload_n 0, 1) := by decide +kernel
theorem dX16_packs_212 : decode cX16_packs 212 = .ok (.getfield 81, 3) := by decide +kernel
theorem dX16_packs_215 : decode cX16_packs 215 = .ok (.if_icmp .gt 65, 3) := by decide +kernel
theorem dX16_packs_218 : decode cX16_packs 218 = .ok (.aload_n 0, 1) := by decide +kernel
theorem dX16_packs_219 : decode cX16_packs 219 = .ok (.iload 5, 2) := by decide +kernel
theorem dX16_packs_221 : decode cX16_packs 221 = .ok (.invokevirtual 110, 3) := by decide +kernel
theorem dX16_packs_224 : decode cX16_packs 224 = .ok (.ifCond .eq 46, 3) := by decide +kernel
theorem dX16_packs_227 : decode cX16_packs 227 = .ok (.aload_n 0, 1) := by decide +kernel
theorem dX16_packs_228 : decode cX16_packs 228 = .ok (.getfield 56, 3) := by decide +kernel
theorem dX16_packs_231 : decode cX16_packs 231 = .ok (.iload 5, 2) := by decide +kernel
theorem dX16_packs_233 : decode cX16_packs 233 = .ok (.iaload, 1) := by decide +kernel
theorem dX16_packs_234 : decode cX16_packs 234 = .ok (.ifCond .ne 36, 3) := by decide +kernel
theorem dX16_packs_237 : decode cX16_packs 237 = .ok (.aload_n 0, 1) := by decide +kernel
theorem dX16_packs_238 : decode cX16_packs 238 = .ok (.getfield 13, 3) := by decide +kernel
theorem dX16_packs_241 : decode cX16_packs 241 = .ok (.iload 5, 2) := by decide +kernel
theorem dX16_packs_243 : decode cX16_packs 243 = .ok (.iaload, 1) := by decide +kernel
theorem dX16_packs_244 : decode cX16_packs 244 = .ok (.iload_n 3, 1) := by decide +kernel
theorem dX16_packs_245 : decode cX16_packs 245 = .ok (.if_icmp .le 25, 3) := by decide +kernel
theorem dX16_packs_248 : decode cX16_packs 248 = .ok (.aload_n 0, 1) := by decide +kernel
theorem dX16_packs_249 : decode cX16_packs 249 = .ok (.getfield 13, 3) := by decide +kernel
theorem dX16_packs_252 : decode cX16_packs 252 = .ok (.iload 5, 2) := by decide +kernel
theorem dX16_packs_254 : decode cX16_packs 254 = .ok (.iaload, 1) := by decide +kernel
theorem dX16_packs_255 : decode cX16_packs 255 = .ok (.iload 4, 2) := by decide +kernel
theorem dX16_packs_257 : decode cX16_packs 257 = .ok (.if_icmp .ge 13, 3) := by decide +kernel
theorem dX16_packs_260 : decode cX16_packs 260 = .ok (.aload_n 0, 1) := by decide +kernel
theorem dX16_packs_261 : decode cX16_packs 261 = .ok (.getfield 13, 3) := by decide +kernel
theorem dX16_packs_264 : decode cX16_packs 264 = .ok (.iload 5, 2) := by decide +kernel
theorem dX16_packs_266 : decode cX16_packs 266 = .ok (.iaload, 1) := by decide +kernel
theorem dX16_packs_267 : decode cX16_packs 267 = .ok (.goto 5, 3) := by decide +kernel
theorem dX16_packs_270 : decode cX16_packs 270 = .ok (.iload 4, 2) := by decide +kernel
theorem dX16_packs_272 : decode cX16_packs 272 = .ok (.istore 4, 2) := by decide +kernel
theorem dX16_packs_274 : decode cX16_packs 274 = .ok (.iinc 5 1, 3) := by decide +kernel
theorem dX16_packs_277 : decode cX16_packs 277 = .ok (.goto (-68), 3) := by decide +kernel
theorem dX16_packs_280 : decode cX16_packs 280 = .ok (.iload 4, 2) := by decide +kernel
theorem dX16_packs_282 : decode cX16_packs 282 = .ok (.ldc 141, 2) := by decide +kernel
theorem dX16_packs_284 : decode cX16_packs 284 = .ok (.if_icmp .ge 15, 3) := by decide +kernel
theorem dX16_packs_287 : decode cX16_packs 287 = .ok (.aload_n 0, 1) := by decide +kernel
theorem dX16_packs_288 : decode cX16_packs 288 = .ok (.iload 4, 2) := by decide +kernel
theorem dX16_packs_290 : decode cX16_packs 290 = .ok (.lload_n 1, 1) := by decide +kernel
theorem dX16_packs_291 : decode cX16_packs 291 = .ok (.invokevirtual 142, 3) := by decide +kernel
theorem dX16_packs_294 : decode cX16_packs 294 = .ok (.ifCond .ne 5, 3) := by decide +kernel
theorem dX16_packs_297 : decode cX16_packs 297 = .ok (.iconst 0, 1) := by decide +kernel
theorem dX16_packs_298 : decode cX16_packs 298 = .ok (.ireturn, 1) := by decide +kernel
theorem dX16_packs_299 : decode cX16_packs 299 = .ok (.iload 4, 2) := by decide +kernel
theorem dX16_packs_301 : decode cX16_packs 301 = .ok (.istore_n 3, 1) := by decide +kernel
theorem dX16_packs_302 : decode cX16_packs 302 = .ok (.goto (-106), 3) := by decide +kernel
theorem dX16_packs_305 : decode cX16_packs 305 = .ok (.aload_n 0, 1) := by decide +kernel
theorem dX16_packs_306 : decode cX16_packs 306 = .ok (.invokevirtual 146, 3) := by decide +kernel
theorem dX16_packs_309 : decode cX16_packs 309 = .ok (.i2l, 1) := by decide +kernel
theorem dX16_packs_310 : decode cX16_packs 310 = .ok (.aload_n 0, 1) := by decide +kernel
theorem dX16_packs_311 : decode cX16_packs 311 = .ok (.getfield 77, 3) := by decide +kernel
theorem dX16_packs_314 : decode cX16_packs 314 = .ok (.i2l, 1) := by decide +kernel
theorem dX16_packs_315 : decode cX16_packs 315 = .ok (.lmul, 1) := by decide +kernel
theorem dX16_packs_316 : decode cX16_packs 316 = .ok (.ldc2_w 149, 3) := by decide +kernel
theorem dX16_packs_319 : decode cX16_packs 319 = .ok (.lcmp, 1) := by decide +kernel
theorem dX16_packs_320 : decode cX16_packs 320 = .ok (.ifCond .gt 7, 3) := by decide +kernel
theorem dX16_packs_323 : decode cX16_packs 323 = .ok (.iconst 1, 1) := by decide +kernel
theorem dX16_packs_324 : decode cX16_packs 324 = .ok (.goto 4, 3) := by decide +kernel
theorem dX16_packs_327 : decode cX16_packs 327 = .ok (.iconst 0, 1) := by decide +kernel
theorem dX16_packs_328 : decode cX16_packs 328 = .ok (.ireturn, 1) := by decide +kernel
theorem cwX16_packs : mw_cwV yX16_packs cX16_packs 6 ((some .boolean)) 1 := ⟨⟨wd_19, wd_3416, by decide +kernel⟩, wd_3415, sl_195⟩
set_option maxHeartbeats 4000000 in
set_option maxRecDepth 100000 in
theorem tX16_packs (l : Launch) (G : mwG) (ad : Nat → Nat) (fu : Nat) (k : Nat) (a1 : Int64) (M : mwM) (L : mwL) {r0 : Int32} {M0 : mwM} {L0 : mwL} (hD : DX16_packs fu k a1 M L = some (r0, M0, L0)) (hk0 : isMp k) : Met l yX16_packs (Cond.code yX16_packs cX16_packs 6 ((some .boolean)) :: GT) ({ frames := 5, cells := 0, slots := 0, locals := 128 }) (mw_Pre G ad NF TF FF M L [.ref (ad k), .long a1]) (mw_Qi G ad NF TF FF (mw_eqI r0 M0 L0)) 0 0 (mw_fr G) := by
  refine mw_enter (by decide) (Nat.le_of_ble_eq_true rfl) ?_
  intro p e s m below meth c ls C hr hlocks hnm hw hl
  have hl : lv_has ls 6 [(0, .ref (ad k)), (1, .long a1)] := hl
  have hb328 : ∀ (s0 : Int32) (M : mwM) (L : mwL) (H : Heap) (locs : List Loc) (ls : Array Slot), fX16_packs_b328 fu k a1 s0 M L = some (r0, M0, L0) → mw_W G ad NF TF FF M L H locs → lv_has ls 6 [] → W p l e ({ frames := 5, cells := 0, slots := 0, locals := 128 }) s m [.ref (ad k), .long a1].toArray below meth c H locs 0 0 (MQ below (mw_Qi G ad NF TF FF (mw_eqI r0 M0 L0)) [.ref (ad k), .long a1].toArray s 0 0 (mw_fr G)) (F0 m 328 ls [.int s0]) := by
    intro s0 M L H locs ls hD hw hl
    unfold fX16_packs_b328 at hD
    obtain ⟨z76, hD⟩ := g_zz hD
    exact mr_iret C hr hlocks hw (nz_zz z76) (Option.some.inj hD) dX16_packs_328
  have hh196 : ∀ (f : Nat) (v3 : Int32) (M : mwM) (L : mwL) (H : Heap) (locs : List Loc) (ls : Array Slot), fX16_packs_h196 fu k a1 f (v3, M, L) = some (r0, M0, L0) → mw_W G ad NF TF FF M L H locs → lv_has ls 6 [(0, .ref (ad k)), (1, .long a1), (3, .int v3)] → W p l e ({ frames := 5, cells := 0, slots := 0, locals := 128 }) s m [.ref (ad k), .long a1].toArray below meth c H locs 0 0 (MQ below (mw_Qi G ad NF TF FF (mw_eqI r0 M0 L0)) [.ref (ad k), .long a1].toArray s 0 0 (mw_fr G)) (F0 m 196 ls []) := by
    intro f
    induction f with
    | zero => intro v3 M L H locs ls hD; cases hD
    | succ f196 ih196 =>
      intro v3 M L H locs ls hD hw hl
      replace hD : fX16_packs_i196 fu k a1 (fX16_packs_h196 fu k a1 f196) v3 M L = some (r0, M0, L0) := hD
      have hb299 : ∀ (v4 : Int32) (M : mwM) (L : mwL) (H : Heap) (locs : List Loc) (ls : Array Slot), fX16_packs_b299 fu k a1 (fX16_packs_h196 fu k a1 f196) v4 M L = some (r0, M0, L0) → mw_W G ad NF TF FF M L H locs → lv_has ls 6 [(0, .ref (ad k)), (1, .long a1), (4, .int v4)] → W p l e ({ frames := 5, cells := 0, slots := 0, locals := 128 }) s m [.ref (ad k), .long a1].toArray below meth c H locs 0 0 (MQ below (mw_Qi G ad NF TF FF (mw_eqI r0 M0 L0)) [.ref (ad k), .long a1].toArray s 0 0 (mw_fr G)) (F0 m 299 ls []) := by
        intro v4 M L H locs ls hD hw hl
        unfold fX16_packs_b299 at hD
        refine lv_iload C.1.1 C.1.2.1 dX16_packs_299 (lv_at hl 2 rfl) ?_
        refine lv_istore_n (lv' := [(3, .int v4), (0, .ref (ad k)), (1, .long a1), (4, .int v4)]) C.1.1 C.1.2.1 dX16_packs_301 rfl hl (by decide) rfl (fun ls hl => ?_)
        refine lv_goto (tgt := 196) C.1.1 C.1.2.1 dX16_packs_302 (by decide) ?_
        exact ih196 v4 M L _ _ ls hD hw (lv_sub hl [1, 2, 0] rfl)
      have hh209 : ∀ (f : Nat) (v3 : Int32) (v4 : Int32) (v5 : Int32) (M : mwM) (L : mwL) (H : Heap) (locs : List Loc) (ls : Array Slot), fX16_packs_h209 fu k a1 (fX16_packs_h196 fu k a1 f196) f (v3, v4, v5, M, L) = some (r0, M0, L0) → mw_W G ad NF TF FF M L H locs → lv_has ls 6 [(0, .ref (ad k)), (1, .long a1), (3, .int v3), (4, .int v4), (5, .int v5)] → W p l e ({ frames := 5, cells := 0, slots := 0, locals := 128 }) s m [.ref (ad k), .long a1].toArray below meth c H locs 0 0 (MQ below (mw_Qi G ad NF TF FF (mw_eqI r0 M0 L0)) [.ref (ad k), .long a1].toArray s 0 0 (mw_fr G)) (F0 m 209 ls []) := by
        intro f
        induction f with
        | zero => intro v3 v4 v5 M L H locs ls hD; cases hD
        | succ f209 ih209 =>
          intro v3 v4 v5 M L H locs ls hD hw hl
          replace hD : fX16_packs_i209 fu k a1 (fX16_packs_h196 fu k a1 f196) (fX16_packs_h209 fu k a1 (fX16_packs_h196 fu k a1 f196) f209) v3 v4 v5 M L = some (r0, M0, L0) := hD
          have hb272 : ∀ (v3 : Int32) (v5 : Int32) (s0 : Int32) (M : mwM) (L : mwL) (H : Heap) (locs : List Loc) (ls : Array Slot), fX16_packs_b272 fu k a1 (fX16_packs_h196 fu k a1 f196) (fX16_packs_h209 fu k a1 (fX16_packs_h196 fu k a1 f196) f209) v3 v5 s0 M L = some (r0, M0, L0) → mw_W G ad NF TF FF M L H locs → lv_has ls 6 [(0, .ref (ad k)), (1, .long a1), (3, .int v3), (5, .int v5)] → W p l e ({ frames := 5, cells := 0, slots := 0, locals := 128 }) s m [.ref (ad k), .long a1].toArray below meth c H locs 0 0 (MQ below (mw_Qi G ad NF TF FF (mw_eqI r0 M0 L0)) [.ref (ad k), .long a1].toArray s 0 0 (mw_fr G)) (F0 m 272 ls [.int s0]) := by
            intro v3 v5 s0 M L H locs ls hD hw hl
            unfold fX16_packs_b272 at hD
            refine lv_istore (lv' := [(4, .int s0), (0, .ref (ad k)), (1, .long a1), (3, .int v3), (5, .int v5)]) C.1.1 C.1.2.1 dX16_packs_272 hl (by decide) rfl (fun ls hl => ?_)
            obtain ⟨x75, ex75, hD⟩ := g_let hD
            refine lv_iinc (v := x75) (lv' := [(5, .int x75), (4, .int s0), (0, .ref (ad k)), (1, .long a1), (3, .int v3)]) C.1.1 C.1.2.1 dX16_packs_274 hl (k := 4) rfl (by rw [ex75]; rfl) (by decide) rfl (fun ls hl => ?_)
            refine lv_goto (tgt := 209) C.1.1 C.1.2.1 dX16_packs_277 (by decide) ?_
            exact ih209 v3 s0 x75 M L _ _ ls hD hw (lv_sub hl [2, 3, 4, 1, 0] rfl)
          have hb270 : ∀ (v3 : Int32) (v4 : Int32) (v5 : Int32) (M : mwM) (L : mwL) (H : Heap) (locs : List Loc) (ls : Array Slot), fX16_packs_b270 fu k a1 (fX16_packs_h196 fu k a1 f196) (fX16_packs_h209 fu k a1 (fX16_packs_h196 fu k a1 f196) f209) v3 v4 v5 M L = some (r0, M0, L0) → mw_W G ad NF TF FF M L H locs → lv_has ls 6 [(0, .ref (ad k)), (1, .long a1), (3, .int v3), (4, .int v4), (5, .int v5)] → W p l e ({ frames := 5, cells := 0, slots := 0, locals := 128 }) s m [.ref (ad k), .long a1].toArray below meth c H locs 0 0 (MQ below (mw_Qi G ad NF TF FF (mw_eqI r0 M0 L0)) [.ref (ad k), .long a1].toArray s 0 0 (mw_fr G)) (F0 m 270 ls []) := by
            intro v3 v4 v5 M L H locs ls hD hw hl
            unfold fX16_packs_b270 at hD
            refine lv_iload C.1.1 C.1.2.1 dX16_packs_270 (lv_at hl 3 rfl) ?_
            exact hb272 v3 v5 v4 M L _ _ ls hD hw (lv_sub hl [0, 1, 2, 4] rfl)
          unfold fX16_packs_i209 at hD
          refine lv_iload C.1.1 C.1.2.1 dX16_packs_209 (lv_at hl 4 rfl) ?_
          refine lv_aload_n C.1.1 C.1.2.1 dX16_packs_211 rfl (lv_at hl 0 rfl) ?_
          refine mr_getI C hw kc_16 2 (Mp_N0 hk0) (Mp_T0 hk0) wd_2557 dX16_packs_212 (by decide) rfl ?_
          refine lv_icmp_gt (tgt := 280) C.1.1 C.1.2.1 dX16_packs_215 (by decide) (fun c58 => ?_) (fun c58 => ?_)
          · replace hD := g_pos c58 hD
            refine lv_iload C.1.1 C.1.2.1 dX16_packs_280 (lv_at hl 3 rfl) ?_
            refine lv_ldc (v := 1000001) C.1.1 C.1.2.1 C.1.2.2.2.1 (C.1.2.2.2.2 _ wd_3441) dX16_packs_282 ?_
            refine lv_icmp_ge (tgt := 299) C.1.1 C.1.2.1 dX16_packs_284 (by decide) (fun c59 => ?_) (fun c59 => ?_)
            · replace hD := g_pos c59 hD
              exact hb299 v4 M L _ _ ls hD hw (lv_sub hl [0, 1, 3] rfl)
            · replace hD := g_neg c59 hD
              refine lv_aload_n C.1.1 C.1.2.1 dX16_packs_287 rfl (lv_at hl 0 rfl) ?_
              refine lv_iload C.1.1 C.1.2.1 dX16_packs_288 (lv_at hl 3 rfl) ?_
              refine lv_lload_n C.1.1 C.1.2.1 dX16_packs_290 rfl (lv_at hl 1 rfl) ?_
              obtain ⟨r62, M60, L61, h1, hD⟩ := g_b3 hD
              refine md_cvI (As := [.int v4, .long a1]) (rest := []) C hw (tX16_packPeriod l G ad fu k v4 a1 M L h1 hk0) kc_16 (Mp_N0 hk0) (Mp_T0 hk0) wd_3442 cwX16_packPeriod ⟨Nat.le_of_ble_eq_true rfl, Nat.le_of_ble_eq_true rfl⟩ rfl hl.1 (Nat.le_of_ble_eq_true rfl) dX16_packs_291 rfl rfl ⟨Nat.zero_le _, Nat.zero_le _⟩ rfl (fun H locs hw => ?_)
              refine lv_if_ne (tgt := 299) C.1.1 C.1.2.1 dX16_packs_294 (by decide) (fun c63 => ?_) (fun c63 => ?_)
              · replace hD := g_neg c63 hD
                exact hb299 v4 M60 L61 _ _ ls hD hw (lv_sub hl [0, 1, 3] rfl)
              · replace hD := g_pos c63 hD
                refine lv_iconst (v := 0) C.1.1 C.1.2.1 dX16_packs_297 (by decide) ?_
                exact mr_iret C hr hlocks hw (by decide +kernel) (Option.some.inj hD) dX16_packs_298
          · replace hD := g_neg c58 hD
            refine lv_aload_n C.1.1 C.1.2.1 dX16_packs_218 rfl (lv_at hl 0 rfl) ?_
            refine lv_iload C.1.1 C.1.2.1 dX16_packs_219 (lv_at hl 4 rfl) ?_
            obtain ⟨r66, M64, L65, h1, hD⟩ := g_b3 hD
            refine md_cvI (As := [.int v5]) (rest := []) C hw (tX16_isGroup l G ad fu k v5 M L h1 hk0) kc_16 (Mp_N0 hk0) (Mp_T0 hk0) wd_3417 cwX16_isGroup ⟨Nat.le_of_ble_eq_true rfl, Nat.le_of_ble_eq_true rfl⟩ rfl hl.1 (Nat.le_of_ble_eq_true rfl) dX16_packs_221 rfl rfl ⟨Nat.zero_le _, Nat.zero_le _⟩ rfl (fun H locs hw => ?_)
            refine lv_if_eq (tgt := 270) C.1.1 C.1.2.1 dX16_packs_224 (by decide) (fun c67 => ?_) (fun c67 => ?_)
            · replace hD := g_pos c67 hD
              exact hb270 v3 v4 v5 M64 L65 _ _ ls hD hw (lv_sub hl [0, 1, 2, 3, 4] rfl)
            · replace hD := g_neg c67 hD
              refine lv_aload_n C.1.1 C.1.2.1 dX16_packs_227 rfl (lv_at hl 0 rfl) ?_
              refine mr_getR C hw kc_16 20 (Mp_N0 hk0) (Mp_T0 hk0) (Mp_F0_20 hk0) wd_2575 dX16_packs_228 (by decide) rfl ?_
              refine lv_iload C.1.1 C.1.2.1 dX16_packs_231 (lv_at hl 4 rfl) ?_
              obtain ⟨q68, hD⟩ := g_ck hD
              refine mr_iald C hw (Mp_N16 hk0) (Mp_T16 hk0) q68 dX16_packs_233 ?_
              refine lv_if_ne (tgt := 270) C.1.1 C.1.2.1 dX16_packs_234 (by decide) (fun c69 => ?_) (fun c69 => ?_)
              · replace hD := g_neg c69 hD
                exact hb270 v3 v4 v5 M64 L65 _ _ ls hD hw (lv_sub hl [0, 1, 2, 3, 4] rfl)
              · replace hD := g_pos c69 hD
                refine lv_aload_n C.1.1 C.1.2.1 dX16_packs_237 rfl (lv_at hl 0 rfl) ?_
                refine mr_getR C hw kc_16 4 (Mp_N0 hk0) (Mp_T0 hk0) (Mp_F0_4 hk0) wd_2559 dX16_packs_238 (by decide) rfl ?_
                refine lv_iload C.1.1 C.1.2.1 dX16_packs_241 (lv_at hl 4 rfl) ?_
                obtain ⟨q70, hD⟩ := g_ck hD
                refine mr_iald C hw (Mp_N2 hk0) (Mp_T2 hk0) q70 dX16_packs_243 ?_
                refine lv_iload_n C.1.1 C.1.2.1 dX16_packs_244 rfl (lv_at hl 2 rfl) ?_
                refine lv_icmp_le (tgt := 270) C.1.1 C.1.2.1 dX16_packs_245 (by decide) (fun c71 => ?_) (fun c71 => ?_)
                · replace hD := g_pos c71 hD
                  exact hb270 v3 v4 v5 M64 L65 _ _ ls hD hw (lv_sub hl [0, 1, 2, 3, 4] rfl)
                · replace hD := g_neg c71 hD
                  refine lv_aload_n C.1.1 C.1.2.1 dX16_packs_248 rfl (lv_at hl 0 rfl) ?_
                  refine mr_getR C hw kc_16 4 (Mp_N0 hk0) (Mp_T0 hk0) (Mp_F0_4 hk0) wd_2559 dX16_packs_249 (by decide) rfl ?_
                  refine lv_iload C.1.1 C.1.2.1 dX16_packs_252 (lv_at hl 4 rfl) ?_
                  obtain ⟨q72, hD⟩ := g_ck hD
                  refine mr_iald C hw (Mp_N2 hk0) (Mp_T2 hk0) q72 dX16_packs_254 ?_
                  refine lv_iload C.1.1 C.1.2.1 dX16_packs_255 (lv_at hl 3 rfl) ?_
                  refine lv_icmp_ge (tgt := 270) C.1.1 C.1.2.1 dX16_packs_257 (by decide) (fun c73 => ?_) (fun c73 => ?_)
                  · replace hD := g_pos c73 hD
                    exact hb270 v3 v4 v5 M64 L65 _ _ ls hD hw (lv_sub hl [0, 1, 2, 3, 4] rfl)
                  · replace hD := g_neg c73 hD
                    refine lv_aload_n C.1.1 C.1.2.1 dX16_packs_260 rfl (lv_at hl 0 rfl) ?_
                    refine mr_getR C hw kc_16 4 (Mp_N0 hk0) (Mp_T0 hk0) (Mp_F0_4 hk0) wd_2559 dX16_packs_261 (by decide) rfl ?_
                    refine lv_iload C.1.1 C.1.2.1 dX16_packs_264 (lv_at hl 4 rfl) ?_
                    obtain ⟨q74, hD⟩ := g_ck hD
                    refine mr_iald C hw (Mp_N2 hk0) (Mp_T2 hk0) q74 dX16_packs_266 ?_
                    refine lv_goto (tgt := 272) C.1.1 C.1.2.1 dX16_packs_267 (by decide) ?_
                    exact hb272 v3 v5 (M64 (k + 2) v5.toNatClampNeg) M64 L65 _ _ ls hD hw (lv_sub hl [0, 1, 2, 4] rfl)
      unfold fX16_packs_i196 at hD
      refine lv_iload_n C.1.1 C.1.2.1 dX16_packs_196 rfl (lv_at hl 2 rfl) ?_
      refine lv_ldc (v := 1000001) C.1.1 C.1.2.1 C.1.2.2.2.1 (C.1.2.2.2.2 _ wd_3441) dX16_packs_197 ?_
      refine lv_icmp_ge (tgt := 305) C.1.1 C.1.2.1 dX16_packs_199 (by decide) (fun c53 => ?_) (fun c53 => ?_)
      · replace hD := g_pos c53 hD
        refine lv_aload_n C.1.1 C.1.2.1 dX16_packs_305 rfl (lv_at hl 0 rfl) ?_
        obtain ⟨r56, M54, L55, h1, hD⟩ := g_b3 hD
        refine md_cvI (As := []) (rest := []) C hw (tX16_frames l G ad fu k M L h1 hk0) kc_16 (Mp_N0 hk0) (Mp_T0 hk0) wd_3470 cwX16_frames ⟨Nat.le_of_ble_eq_true rfl, Nat.le_of_ble_eq_true rfl⟩ rfl hl.1 (Nat.le_of_ble_eq_true rfl) dX16_packs_306 rfl rfl ⟨Nat.zero_le _, Nat.zero_le _⟩ rfl (fun H locs hw => ?_)
        refine lv_i2l C.1.1 C.1.2.1 dX16_packs_309 rfl ?_
        refine lv_aload_n C.1.1 C.1.2.1 dX16_packs_310 rfl (lv_at hl 0 rfl) ?_
        refine mr_getI C hw kc_16 1 (Mp_N0 hk0) (Mp_T0 hk0) wd_2556 dX16_packs_311 (by decide) rfl ?_
        refine lv_i2l C.1.1 C.1.2.1 dX16_packs_314 rfl ?_
        refine lv_lmul C.1.1 C.1.2.1 dX16_packs_315 ?_
        refine lv_ldc2 (v := 65536) C.1.1 C.1.2.1 C.1.2.2.2.1 (C.1.2.2.2.2 _ wd_3474) dX16_packs_316 ?_
        refine W.lcmp C.1.1 C.1.2.1 dX16_packs_319 ?_
        refine lv_if_gt (tgt := 327) C.1.1 C.1.2.1 dX16_packs_320 (by decide) (fun c57 => ?_) (fun c57 => ?_)
        · replace hD := g_pos c57 hD
          refine lv_iconst (v := 0) C.1.1 C.1.2.1 dX16_packs_327 (by decide) ?_
          exact hb328 0 M54 L55 _ _ ls hD hw (lv_sub hl [] rfl)
        · replace hD := g_neg c57 hD
          refine lv_iconst (v := 1) C.1.1 C.1.2.1 dX16_packs_323 (by decide) ?_
          refine lv_goto (tgt := 328) C.1.1 C.1.2.1 dX16_packs_324 (by decide) ?_
          exact hb328 1 M54 L55 _ _ ls hD hw (lv_sub hl [] rfl)
      · replace hD := g_neg c53 hD
        refine lv_ldc (v := 1000001) C.1.1 C.1.2.1 C.1.2.2.2.1 (C.1.2.2.2.2 _ wd_3441) dX16_packs_202 ?_
        refine lv_istore (lv' := [(4, .int 1000001), (0, .ref (ad k)), (1, .long a1), (3, .int v3)]) C.1.1 C.1.2.1 dX16_packs_204 hl (by decide) rfl (fun ls hl => ?_)
        refine lv_iconst (v := 1) C.1.1 C.1.2.1 dX16_packs_206 (by decide) ?_
        refine lv_istore (lv' := [(5, .int 1), (4, .int 1000001), (0, .ref (ad k)), (1, .long a1), (3, .int v3)]) C.1.1 C.1.2.1 dX16_packs_207 hl (by decide) rfl (fun ls hl => ?_)
        exact hh209 fu v3 1000001 1 M L _ _ ls hD hw (lv_sub hl [2, 3, 4, 1, 0] rfl)
  have hh77 : ∀ (f : Nat) (v3 : Int32) (M : mwM) (L : mwL) (H : Heap) (locs : List Loc) (ls : Array Slot), fX16_packs_h77 fu k a1 f (v3, M, L) = some (r0, M0, L0) → mw_W G ad NF TF FF M L H locs → lv_has ls 6 [(0, .ref (ad k)), (1, .long a1), (3, .int v3)] → W p l e ({ frames := 5, cells := 0, slots := 0, locals := 128 }) s m [.ref (ad k), .long a1].toArray below meth c H locs 0 0 (MQ below (mw_Qi G ad NF TF FF (mw_eqI r0 M0 L0)) [.ref (ad k), .long a1].toArray s 0 0 (mw_fr G)) (F0 m 77 ls []) := by
    intro f
    induction f with
    | zero => intro v3 M L H locs ls hD; cases hD
    | succ f77 ih77 =>
      intro v3 M L H locs ls hD hw hl
      replace hD : fX16_packs_i77 fu k a1 (fX16_packs_h77 fu k a1 f77) v3 M L = some (r0, M0, L0) := hD
      have hb188 : ∀ (v3 : Int32) (M : mwM) (L : mwL) (H : Heap) (locs : List Loc) (ls : Array Slot), fX16_packs_b188 fu k a1 (fX16_packs_h77 fu k a1 f77) v3 M L = some (r0, M0, L0) → mw_W G ad NF TF FF M L H locs → lv_has ls 6 [(0, .ref (ad k)), (1, .long a1), (3, .int v3)] → W p l e ({ frames := 5, cells := 0, slots := 0, locals := 128 }) s m [.ref (ad k), .long a1].toArray below meth c H locs 0 0 (MQ below (mw_Qi G ad NF TF FF (mw_eqI r0 M0 L0)) [.ref (ad k), .long a1].toArray s 0 0 (mw_fr G)) (F0 m 188 ls []) := by
        intro v3 M L H locs ls hD hw hl
        unfold fX16_packs_b188 at hD
        obtain ⟨x52, ex52, hD⟩ := g_let hD
        refine lv_iinc (v := x52) (lv' := [(3, .int x52), (0, .ref (ad k)), (1, .long a1)]) C.1.1 C.1.2.1 dX16_packs_188 hl (k := 2) rfl (by rw [ex52]; rfl) (by decide) rfl (fun ls hl => ?_)
        refine lv_goto (tgt := 77) C.1.1 C.1.2.1 dX16_packs_191 (by decide) ?_
        exact ih77 x52 M L _ _ ls hD hw (lv_sub hl [1, 2, 0] rfl)
      unfold fX16_packs_i77 at hD
      refine lv_iload_n C.1.1 C.1.2.1 dX16_packs_77 rfl (lv_at hl 2 rfl) ?_
      refine lv_aload_n C.1.1 C.1.2.1 dX16_packs_78 rfl (lv_at hl 0 rfl) ?_
      refine mr_getI C hw kc_16 2 (Mp_N0 hk0) (Mp_T0 hk0) wd_2557 dX16_packs_79 (by decide) rfl ?_
      refine lv_icmp_gt (tgt := 194) C.1.1 C.1.2.1 dX16_packs_82 (by decide) (fun c22 => ?_) (fun c22 => ?_)
      · replace hD := g_pos c22 hD
        refine lv_iconst (v := 0) C.1.1 C.1.2.1 dX16_packs_194 (by decide) ?_
        refine lv_istore_n (lv' := [(3, .int 0), (0, .ref (ad k)), (1, .long a1)]) C.1.1 C.1.2.1 dX16_packs_195 rfl hl (by decide) rfl (fun ls hl => ?_)
        exact hh196 fu 0 M L _ _ ls hD hw (lv_sub hl [1, 2, 0] rfl)
      · replace hD := g_neg c22 hD
        refine lv_aload_n C.1.1 C.1.2.1 dX16_packs_85 rfl (lv_at hl 0 rfl) ?_
        refine lv_iload_n C.1.1 C.1.2.1 dX16_packs_86 rfl (lv_at hl 2 rfl) ?_
        obtain ⟨r25, M23, L24, h1, hD⟩ := g_b3 hD
        refine md_cvI (As := [.int v3]) (rest := []) C hw (tX16_isGroup l G ad fu k v3 M L h1 hk0) kc_16 (Mp_N0 hk0) (Mp_T0 hk0) wd_3417 cwX16_isGroup ⟨Nat.le_of_ble_eq_true rfl, Nat.le_of_ble_eq_true rfl⟩ rfl hl.1 (Nat.le_of_ble_eq_true rfl) dX16_packs_87 rfl rfl ⟨Nat.zero_le _, Nat.zero_le _⟩ rfl (fun H locs hw => ?_)
        refine lv_if_eq (tgt := 188) C.1.1 C.1.2.1 dX16_packs_90 (by decide) (fun c26 => ?_) (fun c26 => ?_)
        · replace hD := g_pos c26 hD
          exact hb188 v3 M23 L24 _ _ ls hD hw (lv_sub hl [0, 1, 2] rfl)
        · replace hD := g_neg c26 hD
          refine lv_aload_n C.1.1 C.1.2.1 dX16_packs_93 rfl (lv_at hl 0 rfl) ?_
          refine mr_getR C hw kc_16 9 (Mp_N0 hk0) (Mp_T0 hk0) (Mp_F0_9 hk0) wd_2564 dX16_packs_94 (by decide) rfl ?_
          refine lv_iload_n C.1.1 C.1.2.1 dX16_packs_97 rfl (lv_at hl 2 rfl) ?_
          obtain ⟨q27, hD⟩ := g_ck hD
          refine mr_iald C hw (Mp_N7 hk0) (Mp_T7 hk0) q27 dX16_packs_98 ?_
          refine lv_if_ne (tgt := 188) C.1.1 C.1.2.1 dX16_packs_99 (by decide) (fun c28 => ?_) (fun c28 => ?_)
          · replace hD := g_neg c28 hD
            exact hb188 v3 M23 L24 _ _ ls hD hw (lv_sub hl [0, 1, 2] rfl)
          · replace hD := g_pos c28 hD
            refine lv_aload_n C.1.1 C.1.2.1 dX16_packs_102 rfl (lv_at hl 0 rfl) ?_
            refine mr_getR C hw kc_16 13 (Mp_N0 hk0) (Mp_T0 hk0) (Mp_F0_13 hk0) wd_2568 dX16_packs_103 (by decide) rfl ?_
            refine lv_iload_n C.1.1 C.1.2.1 dX16_packs_106 rfl (lv_at hl 2 rfl) ?_
            obtain ⟨q29, hD⟩ := g_ck hD
            refine mr_zald C hw (Mp_N11 hk0) (Mp_T11 hk0) q29 dX16_packs_107 ?_
            refine lv_if_eq (tgt := 188) C.1.1 C.1.2.1 dX16_packs_108 (by decide) (fun c30 => ?_) (fun c30 => ?_)
            · replace hD := g_pos c30 hD
              exact hb188 v3 M23 L24 _ _ ls hD hw (lv_sub hl [0, 1, 2] rfl)
            · replace hD := g_neg c30 hD
              refine lv_aload_n C.1.1 C.1.2.1 dX16_packs_111 rfl (lv_at hl 0 rfl) ?_
              refine mr_getR C hw kc_16 11 (Mp_N0 hk0) (Mp_T0 hk0) (Mp_F0_11 hk0) wd_2566 dX16_packs_112 (by decide) rfl ?_
              refine lv_iload_n C.1.1 C.1.2.1 dX16_packs_115 rfl (lv_at hl 2 rfl) ?_
              obtain ⟨q31, hD⟩ := g_ck hD
              refine mr_iald C hw (Mp_N9 hk0) (Mp_T9 hk0) q31 dX16_packs_116 ?_
              refine lv_if_le (tgt := 188) C.1.1 C.1.2.1 dX16_packs_117 (by decide) (fun c32 => ?_) (fun c32 => ?_)
              · replace hD := g_pos c32 hD
                exact hb188 v3 M23 L24 _ _ ls hD hw (lv_sub hl [0, 1, 2] rfl)
              · replace hD := g_neg c32 hD
                refine lv_aload_n C.1.1 C.1.2.1 dX16_packs_120 rfl (lv_at hl 0 rfl) ?_
                refine lv_aload_n C.1.1 C.1.2.1 dX16_packs_121 rfl (lv_at hl 0 rfl) ?_
                refine mr_getR C hw kc_16 11 (Mp_N0 hk0) (Mp_T0 hk0) (Mp_F0_11 hk0) wd_2566 dX16_packs_122 (by decide) rfl ?_
                refine lv_iload_n C.1.1 C.1.2.1 dX16_packs_125 rfl (lv_at hl 2 rfl) ?_
                obtain ⟨q33, hD⟩ := g_ck hD
                refine mr_iald C hw (Mp_N9 hk0) (Mp_T9 hk0) q33 dX16_packs_126 ?_
                refine lv_aload_n C.1.1 C.1.2.1 dX16_packs_127 rfl (lv_at hl 0 rfl) ?_
                refine mr_getR C hw kc_16 4 (Mp_N0 hk0) (Mp_T0 hk0) (Mp_F0_4 hk0) wd_2559 dX16_packs_128 (by decide) rfl ?_
                refine lv_iload_n C.1.1 C.1.2.1 dX16_packs_131 rfl (lv_at hl 2 rfl) ?_
                obtain ⟨q34, hD⟩ := g_ck hD
                refine mr_iald C hw (Mp_N2 hk0) (Mp_T2 hk0) q34 dX16_packs_132 ?_
                obtain ⟨r37, M35, L36, h1, hD⟩ := g_b3 hD
                refine md_cvI (As := [.int (M23 (k + 9) v3.toNatClampNeg), .int (M23 (k + 2) v3.toNatClampNeg)]) (rest := []) C hw (tX16_hasOther l G ad fu k (M23 (k + 9) v3.toNatClampNeg) (M23 (k + 2) v3.toNatClampNeg) M23 L24 h1 hk0) kc_16 (Mp_N0 hk0) (Mp_T0 hk0) wd_3433 cwX16_hasOther ⟨Nat.le_of_ble_eq_true rfl, Nat.le_of_ble_eq_true rfl⟩ rfl hl.1 (Nat.le_of_ble_eq_true rfl) dX16_packs_133 rfl rfl ⟨Nat.zero_le _, Nat.zero_le _⟩ rfl (fun H locs hw => ?_)
                refine lv_if_ne (tgt := 188) C.1.1 C.1.2.1 dX16_packs_136 (by decide) (fun c38 => ?_) (fun c38 => ?_)
                · replace hD := g_neg c38 hD
                  exact hb188 v3 M35 L36 _ _ ls hD hw (lv_sub hl [0, 1, 2] rfl)
                · replace hD := g_pos c38 hD
                  refine lv_aload_n C.1.1 C.1.2.1 dX16_packs_139 rfl (lv_at hl 0 rfl) ?_
                  refine lv_aload_n C.1.1 C.1.2.1 dX16_packs_140 rfl (lv_at hl 0 rfl) ?_
                  refine mr_getR C hw kc_16 11 (Mp_N0 hk0) (Mp_T0 hk0) (Mp_F0_11 hk0) wd_2566 dX16_packs_141 (by decide) rfl ?_
                  refine lv_iload_n C.1.1 C.1.2.1 dX16_packs_144 rfl (lv_at hl 2 rfl) ?_
                  obtain ⟨q39, hD⟩ := g_ck hD
                  refine mr_iald C hw (Mp_N9 hk0) (Mp_T9 hk0) q39 dX16_packs_145 ?_
                  refine lv_aload_n C.1.1 C.1.2.1 dX16_packs_146 rfl (lv_at hl 0 rfl) ?_
                  refine mr_getR C hw kc_16 12 (Mp_N0 hk0) (Mp_T0 hk0) (Mp_F0_12 hk0) wd_2567 dX16_packs_147 (by decide) rfl ?_
                  refine lv_iload_n C.1.1 C.1.2.1 dX16_packs_150 rfl (lv_at hl 2 rfl) ?_
                  obtain ⟨q40, hD⟩ := g_ck hD
                  refine mr_iald C hw (Mp_N10 hk0) (Mp_T10 hk0) q40 dX16_packs_151 ?_
                  refine lv_aload_n C.1.1 C.1.2.1 dX16_packs_152 rfl (lv_at hl 0 rfl) ?_
                  refine mr_getR C hw kc_16 26 (Mp_N0 hk0) (Mp_T0 hk0) (Mp_F0_26 hk0) wd_2581 dX16_packs_153 (by decide) rfl ?_
                  refine lv_iload_n C.1.1 C.1.2.1 dX16_packs_156 rfl (lv_at hl 2 rfl) ?_
                  obtain ⟨q41, hD⟩ := g_ck hD
                  refine mr_iald C hw (Mp_N22 hk0) (Mp_T22 hk0) q41 dX16_packs_157 ?_
                  obtain ⟨r44, M42, L43, h1, hD⟩ := g_b3 hD
                  refine md_cvI (As := [.int (M35 (k + 9) v3.toNatClampNeg), .int (M35 (k + 10) v3.toNatClampNeg), .int (M35 (k + 22) v3.toNatClampNeg)]) (rest := []) C hw (tX16_isFree l G ad fu k (M35 (k + 9) v3.toNatClampNeg) (M35 (k + 10) v3.toNatClampNeg) (M35 (k + 22) v3.toNatClampNeg) M35 L36 h1 hk0) kc_16 (Mp_N0 hk0) (Mp_T0 hk0) wd_3437 cwX16_isFree ⟨Nat.le_of_ble_eq_true rfl, Nat.le_of_ble_eq_true rfl⟩ rfl hl.1 (Nat.le_of_ble_eq_true rfl) dX16_packs_158 rfl rfl ⟨Nat.zero_le _, Nat.zero_le _⟩ rfl (fun H locs hw => ?_)
                  refine lv_if_eq (tgt := 188) C.1.1 C.1.2.1 dX16_packs_161 (by decide) (fun c45 => ?_) (fun c45 => ?_)
                  · replace hD := g_pos c45 hD
                    exact hb188 v3 M42 L43 _ _ ls hD hw (lv_sub hl [0, 1, 2] rfl)
                  · replace hD := g_neg c45 hD
                    refine lv_aload_n C.1.1 C.1.2.1 dX16_packs_164 rfl (lv_at hl 0 rfl) ?_
                    refine mr_getR C hw kc_16 20 (Mp_N0 hk0) (Mp_T0 hk0) (Mp_F0_20 hk0) wd_2575 dX16_packs_165 (by decide) rfl ?_
                    refine lv_iload_n C.1.1 C.1.2.1 dX16_packs_168 rfl (lv_at hl 2 rfl) ?_
                    refine lv_aload_n C.1.1 C.1.2.1 dX16_packs_169 rfl (lv_at hl 0 rfl) ?_
                    refine mr_getR C hw kc_16 11 (Mp_N0 hk0) (Mp_T0 hk0) (Mp_F0_11 hk0) wd_2566 dX16_packs_170 (by decide) rfl ?_
                    refine lv_iload_n C.1.1 C.1.2.1 dX16_packs_173 rfl (lv_at hl 2 rfl) ?_
                    obtain ⟨q46, hD⟩ := g_ck hD
                    refine mr_iald C hw (Mp_N9 hk0) (Mp_T9 hk0) q46 dX16_packs_174 ?_
                    obtain ⟨q47, hD⟩ := g_ck hD
                    obtain ⟨M48, eM48, hD⟩ := g_let hD
                    refine mr_iast C hw (Mp_N16 hk0) (Mp_T16 hk0) q47 dX16_packs_175 (fun H locs hw => ?_)
                    replace hw : mw_W G ad NF TF FF M48 L43 H locs := by rw [eM48]; exact hw
                    refine lv_aload_n C.1.1 C.1.2.1 dX16_packs_176 rfl (lv_at hl 0 rfl) ?_
                    refine mr_getR C hw kc_16 21 (Mp_N0 hk0) (Mp_T0 hk0) (Mp_F0_21 hk0) wd_2576 dX16_packs_177 (by decide) rfl ?_
                    refine lv_iload_n C.1.1 C.1.2.1 dX16_packs_180 rfl (lv_at hl 2 rfl) ?_
                    refine lv_aload_n C.1.1 C.1.2.1 dX16_packs_181 rfl (lv_at hl 0 rfl) ?_
                    refine mr_getR C hw kc_16 12 (Mp_N0 hk0) (Mp_T0 hk0) (Mp_F0_12 hk0) wd_2567 dX16_packs_182 (by decide) rfl ?_
                    refine lv_iload_n C.1.1 C.1.2.1 dX16_packs_185 rfl (lv_at hl 2 rfl) ?_
                    obtain ⟨q49, hD⟩ := g_ck hD
                    refine mr_iald C hw (Mp_N10 hk0) (Mp_T10 hk0) q49 dX16_packs_186 ?_
                    obtain ⟨q50, hD⟩ := g_ck hD
                    obtain ⟨M51, eM51, hD⟩ := g_let hD
                    refine mr_iast C hw (Mp_N17 hk0) (Mp_T17 hk0) q50 dX16_packs_187 (fun H locs hw => ?_)
                    replace hw : mw_W G ad NF TF FF M51 L43 H locs := by rw [eM51]; exact hw
                    exact hb188 v3 M51 L43 _ _ ls hD hw (lv_sub hl [0, 1, 2] rfl)
  have hh2 : ∀ (f : Nat) (v3 : Int32) (M : mwM) (L : mwL) (H : Heap) (locs : List Loc) (ls : Array Slot), fX16_packs_h2 fu k a1 f (v3, M, L) = some (r0, M0, L0) → mw_W G ad NF TF FF M L H locs → lv_has ls 6 [(0, .ref (ad k)), (1, .long a1), (3, .int v3)] → W p l e ({ frames := 5, cells := 0, slots := 0, locals := 128 }) s m [.ref (ad k), .long a1].toArray below meth c H locs 0 0 (MQ below (mw_Qi G ad NF TF FF (mw_eqI r0 M0 L0)) [.ref (ad k), .long a1].toArray s 0 0 (mw_fr G)) (F0 m 2 ls []) := by
    intro f
    induction f with
    | zero => intro v3 M L H locs ls hD; cases hD
    | succ f2 ih2 =>
      intro v3 M L H locs ls hD hw hl
      replace hD : fX16_packs_i2 fu k a1 (fX16_packs_h2 fu k a1 f2) v3 M L = some (r0, M0, L0) := hD
      have hb56 : ∀ (v3 : Int32) (s1 : Int32) (s2 : Int32) (M : mwM) (L : mwL) (H : Heap) (locs : List Loc) (ls : Array Slot), fX16_packs_b56 fu k a1 (fX16_packs_h2 fu k a1 f2) v3 s1 s2 M L = some (r0, M0, L0) → mw_W G ad NF TF FF M L H locs → lv_has ls 6 [(0, .ref (ad k)), (1, .long a1), (3, .int v3)] → W p l e ({ frames := 5, cells := 0, slots := 0, locals := 128 }) s m [.ref (ad k), .long a1].toArray below meth c H locs 0 0 (MQ below (mw_Qi G ad NF TF FF (mw_eqI r0 M0 L0)) [.ref (ad k), .long a1].toArray s 0 0 (mw_fr G)) (F0 m 56 ls [.int s2, .int s1, .ref (ad (k + 16))]) := by
        intro v3 s1 s2 M L H locs ls hD hw hl
        unfold fX16_packs_b56 at hD
        obtain ⟨q16, hD⟩ := g_ck hD
        obtain ⟨M17, eM17, hD⟩ := g_let hD
        refine mr_iast C hw (Mp_N16 hk0) (Mp_T16 hk0) q16 dX16_packs_56 (fun H locs hw => ?_)
        replace hw : mw_W G ad NF TF FF M17 L H locs := by rw [eM17]; exact hw
        refine lv_aload_n C.1.1 C.1.2.1 dX16_packs_57 rfl (lv_at hl 0 rfl) ?_
        refine mr_getR C hw kc_16 21 (Mp_N0 hk0) (Mp_T0 hk0) (Mp_F0_21 hk0) wd_2576 dX16_packs_58 (by decide) rfl ?_
        refine lv_iload_n C.1.1 C.1.2.1 dX16_packs_61 rfl (lv_at hl 2 rfl) ?_
        refine lv_aload_n C.1.1 C.1.2.1 dX16_packs_62 rfl (lv_at hl 0 rfl) ?_
        refine mr_getR C hw kc_16 10 (Mp_N0 hk0) (Mp_T0 hk0) (Mp_F0_10 hk0) wd_2565 dX16_packs_63 (by decide) rfl ?_
        refine lv_iload_n C.1.1 C.1.2.1 dX16_packs_66 rfl (lv_at hl 2 rfl) ?_
        obtain ⟨q18, hD⟩ := g_ck hD
        refine mr_iald C hw (Mp_N8 hk0) (Mp_T8 hk0) q18 dX16_packs_67 ?_
        obtain ⟨q19, hD⟩ := g_ck hD
        obtain ⟨M20, eM20, hD⟩ := g_let hD
        refine mr_iast C hw (Mp_N17 hk0) (Mp_T17 hk0) q19 dX16_packs_68 (fun H locs hw => ?_)
        replace hw : mw_W G ad NF TF FF M20 L H locs := by rw [eM20]; exact hw
        obtain ⟨x21, ex21, hD⟩ := g_let hD
        refine lv_iinc (v := x21) (lv' := [(3, .int x21), (0, .ref (ad k)), (1, .long a1)]) C.1.1 C.1.2.1 dX16_packs_69 hl (k := 2) rfl (by rw [ex21]; rfl) (by decide) rfl (fun ls hl => ?_)
        refine lv_goto (tgt := 2) C.1.1 C.1.2.1 dX16_packs_72 (by decide) ?_
        exact ih2 x21 M20 L _ _ ls hD hw (lv_sub hl [1, 2, 0] rfl)
      have hb32 : ∀ (v3 : Int32) (s1 : Int32) (s2 : Int32) (M : mwM) (L : mwL) (H : Heap) (locs : List Loc) (ls : Array Slot), fX16_packs_b32 fu k a1 (fX16_packs_h2 fu k a1 f2) v3 s1 s2 M L = some (r0, M0, L0) → mw_W G ad NF TF FF M L H locs → lv_has ls 6 [(0, .ref (ad k)), (1, .long a1), (3, .int v3)] → W p l e ({ frames := 5, cells := 0, slots := 0, locals := 128 }) s m [.ref (ad k), .long a1].toArray below meth c H locs 0 0 (MQ below (mw_Qi G ad NF TF FF (mw_eqI r0 M0 L0)) [.ref (ad k), .long a1].toArray s 0 0 (mw_fr G)) (F0 m 32 ls [.int s2, .int s1, .ref (ad (k + 22))]) := by
        intro v3 s1 s2 M L H locs ls hD hw hl
        unfold fX16_packs_b32 at hD
        obtain ⟨q9, hD⟩ := g_ck hD
        obtain ⟨M10, eM10, hD⟩ := g_let hD
        refine mr_iast C hw (Mp_N22 hk0) (Mp_T22 hk0) q9 dX16_packs_32 (fun H locs hw => ?_)
        replace hw : mw_W G ad NF TF FF M10 L H locs := by rw [eM10]; exact hw
        refine lv_aload_n C.1.1 C.1.2.1 dX16_packs_33 rfl (lv_at hl 0 rfl) ?_
        refine mr_getR C hw kc_16 20 (Mp_N0 hk0) (Mp_T0 hk0) (Mp_F0_20 hk0) wd_2575 dX16_packs_34 (by decide) rfl ?_
        refine lv_iload_n C.1.1 C.1.2.1 dX16_packs_37 rfl (lv_at hl 2 rfl) ?_
        refine lv_aload_n C.1.1 C.1.2.1 dX16_packs_38 rfl (lv_at hl 0 rfl) ?_
        refine lv_iload_n C.1.1 C.1.2.1 dX16_packs_39 rfl (lv_at hl 2 rfl) ?_
        obtain ⟨r13, M11, L12, h1, hD⟩ := g_b3 hD
        refine md_cvI (As := [.int v3]) (rest := [.int v3, .ref (ad (k + 16))]) C hw (tX16_isGroup l G ad fu k v3 M10 L h1 hk0) kc_16 (Mp_N0 hk0) (Mp_T0 hk0) wd_3417 cwX16_isGroup ⟨Nat.le_of_ble_eq_true rfl, Nat.le_of_ble_eq_true rfl⟩ rfl hl.1 (Nat.le_of_ble_eq_true rfl) dX16_packs_40 rfl rfl ⟨Nat.zero_le _, Nat.zero_le _⟩ rfl (fun H locs hw => ?_)
        refine lv_if_eq (tgt := 55) C.1.1 C.1.2.1 dX16_packs_43 (by decide) (fun c14 => ?_) (fun c14 => ?_)
        · replace hD := g_pos c14 hD
          refine lv_iconst (v := 0) C.1.1 C.1.2.1 dX16_packs_55 (by decide) ?_
          exact hb56 v3 v3 0 M11 L12 _ _ ls hD hw (lv_sub hl [0, 1, 2] rfl)
        · replace hD := g_neg c14 hD
          refine lv_aload_n C.1.1 C.1.2.1 dX16_packs_46 rfl (lv_at hl 0 rfl) ?_
          refine mr_getR C hw kc_16 9 (Mp_N0 hk0) (Mp_T0 hk0) (Mp_F0_9 hk0) wd_2564 dX16_packs_47 (by decide) rfl ?_
          refine lv_iload_n C.1.1 C.1.2.1 dX16_packs_50 rfl (lv_at hl 2 rfl) ?_
          obtain ⟨q15, hD⟩ := g_ck hD
          refine mr_iald C hw (Mp_N7 hk0) (Mp_T7 hk0) q15 dX16_packs_51 ?_
          refine lv_goto (tgt := 56) C.1.1 C.1.2.1 dX16_packs_52 (by decide) ?_
          exact hb56 v3 v3 (M11 (k + 7) v3.toNatClampNeg) M11 L12 _ _ ls hD hw (lv_sub hl [0, 1, 2] rfl)
      unfold fX16_packs_i2 at hD
      refine lv_iload_n C.1.1 C.1.2.1 dX16_packs_2 rfl (lv_at hl 2 rfl) ?_
      refine lv_aload_n C.1.1 C.1.2.1 dX16_packs_3 rfl (lv_at hl 0 rfl) ?_
      refine mr_getI C hw kc_16 2 (Mp_N0 hk0) (Mp_T0 hk0) wd_2557 dX16_packs_4 (by decide) rfl ?_
      refine lv_icmp_gt (tgt := 75) C.1.1 C.1.2.1 dX16_packs_7 (by decide) (fun c1 => ?_) (fun c1 => ?_)
      · replace hD := g_pos c1 hD
        refine lv_iconst (v := 1) C.1.1 C.1.2.1 dX16_packs_75 (by decide) ?_
        refine lv_istore_n (lv' := [(3, .int 1), (0, .ref (ad k)), (1, .long a1)]) C.1.1 C.1.2.1 dX16_packs_76 rfl hl (by decide) rfl (fun ls hl => ?_)
        exact hh77 fu 1 M L _ _ ls hD hw (lv_sub hl [1, 2, 0] rfl)
      · replace hD := g_neg c1 hD
        refine lv_aload_n C.1.1 C.1.2.1 dX16_packs_10 rfl (lv_at hl 0 rfl) ?_
        refine mr_getR C hw kc_16 26 (Mp_N0 hk0) (Mp_T0 hk0) (Mp_F0_26 hk0) wd_2581 dX16_packs_11 (by decide) rfl ?_
        refine lv_iload_n C.1.1 C.1.2.1 dX16_packs_14 rfl (lv_at hl 2 rfl) ?_
        refine lv_aload_n C.1.1 C.1.2.1 dX16_packs_15 rfl (lv_at hl 0 rfl) ?_
        refine lv_iload_n C.1.1 C.1.2.1 dX16_packs_16 rfl (lv_at hl 2 rfl) ?_
        obtain ⟨r4, M2, L3, h1, hD⟩ := g_b3 hD
        refine md_cvI (As := [.int v3]) (rest := [.int v3, .ref (ad (k + 22))]) C hw (tX16_isGroup l G ad fu k v3 M L h1 hk0) kc_16 (Mp_N0 hk0) (Mp_T0 hk0) wd_3417 cwX16_isGroup ⟨Nat.le_of_ble_eq_true rfl, Nat.le_of_ble_eq_true rfl⟩ rfl hl.1 (Nat.le_of_ble_eq_true rfl) dX16_packs_17 rfl rfl ⟨Nat.zero_le _, Nat.zero_le _⟩ rfl (fun H locs hw => ?_)
        refine lv_if_eq (tgt := 31) C.1.1 C.1.2.1 dX16_packs_20 (by decide) (fun c5 => ?_) (fun c5 => ?_)
        · replace hD := g_pos c5 hD
          refine lv_iconst (v := 0) C.1.1 C.1.2.1 dX16_packs_31 (by decide) ?_
          exact hb32 v3 v3 0 M2 L3 _ _ ls hD hw (lv_sub hl [0, 1, 2] rfl)
        · replace hD := g_neg c5 hD
          refine lv_aload_n C.1.1 C.1.2.1 dX16_packs_23 rfl (lv_at hl 0 rfl) ?_
          refine lv_iload_n C.1.1 C.1.2.1 dX16_packs_24 rfl (lv_at hl 2 rfl) ?_
          obtain ⟨r8, M6, L7, h1, hD⟩ := g_b3 hD
          refine md_cvI (As := [.int v3]) (rest := [.int v3, .ref (ad (k + 22))]) C hw (tX16_size l G ad fu k v3 M2 L3 h1 hk0) kc_16 (Mp_N0 hk0) (Mp_T0 hk0) wd_3421 cwX16_size ⟨Nat.le_of_ble_eq_true rfl, Nat.le_of_ble_eq_true rfl⟩ rfl hl.1 (Nat.le_of_ble_eq_true rfl) dX16_packs_25 rfl rfl ⟨Nat.zero_le _, Nat.zero_le _⟩ rfl (fun H locs hw => ?_)
          refine lv_goto (tgt := 32) C.1.1 C.1.2.1 dX16_packs_28 (by decide) ?_
          exact hb32 v3 v3 r8 M6 L7 _ _ ls hD hw (lv_sub hl [0, 1, 2] rfl)
  unfold DX16_packs at hD
  refine lv_iconst (v := 1) C.1.1 C.1.2.1 dX16_packs_0 (by decide) ?_
  refine lv_istore_n (lv' := [(3, .int 1), (0, .ref (ad k)), (1, .long a1)]) C.1.1 C.1.2.1 dX16_packs_1 rfl hl (by decide) rfl (fun ls hl => ?_)
  exact hh2 fu 1 M L _ _ ls hD hw (lv_sub hl [1, 2, 0] rfl)

theorem dX16_pack_0 : decode cX16_pack 0 = .ok (.aload_n 0, 1) := by decide +kernel
theorem dX16_pack_1 : decode cX16_pack 1 = .ok (.iconst 0, 1) := by decide +kernel
theorem dX16_pack_2 : decode cX16_pack 2 = .ok (.putfield 91, 3) := by decide +kernel
theorem dX16_pack_5 : decode cX16_pack 5 = .ok (.lload_n 1, 1) := by decide +kernel
theorem dX16_pack_6 : decode cX16_pack 6 = .ok (.lconst 0, 1) := by decide +kernel
theorem dX16_pack_7 : decode cX16_pack 7 = .ok (.lcmp, 1) := by decide +kernel
theorem dX16_pack_8 : decode cX16_pack 8 = .ok (.ifCond .ge 6, 3) := by decide +kernel
theorem dX16_pack_11 : decode cX16_pack 11 = .ok (.bipush (-2), 2) := by decide +kernel
theorem dX16_pack_13 : decode cX16_pack 13 = .ok (.ireturn, 1) := by decide +kernel
theorem dX16_pack_14 : decode cX16_pack 14 = .ok (.aload_n 0, 1) := by decide +kernel
theorem dX16_pack_15 : decode cX16_pack 15 = .ok (.getfield 84, 3) := by decide +kernel
theorem dX16_pack_18 : decode cX16_pack 18 = .ok (.bipush 16, 2) := by decide +kernel
theorem dX16_pack_20 : decode cX16_pack 20 = .ok (.if_icmp .ne 6, 3) := by decide +kernel
theorem dX16_pack_23 : decode cX16_pack 23 = .ok (.bipush (-4), 2) := by decide +kernel
theorem dX16_pack_25 : decode cX16_pack 25 = .ok (.ireturn, 1) := by decide +kernel
theorem dX16_pack_26 : decode cX16_pack 26 = .ok (.aload_n 0, 1) := by decide +kernel
theorem dX16_pack_27 : decode cX16_pack 27 = .ok (.getfield 87, 3) := by decide +kernel
theorem dX16_pack_30 : decode cX16_pack 30 = .ok (.istore_n 3, 1) := by decide +kernel
theorem dX16_pack_31 : decode cX16_pack 31 = .ok (.aload_n 0, 1) := by decide +kernel
theorem dX16_pack_32 : decode cX16_pack 32 = .ok (.iconst 1, 1) := by decide +kernel
theorem dX16_pack_33 : decode cX16_pack 33 = .ok (.putfield 87, 3) := by decide +kernel
theorem dX16_pack_36 : decode cX16_pack 36 = .ok (.aload_n 0, 1) := by decide +kernel
theorem dX16_pack_37 : decode cX16_pack 37 = .ok (.lload_n 1, 1) := by decide +kernel
theorem dX16_pack_38 : decode cX16_pack 38 = .ok (.invokevirtual 151, 3) := by decide +kernel
theorem dX16_pack_41 : decode cX16_pack 41 = .ok (.ifCond .ne 11, 3) := by decide +kernel
theorem dX16_pack_44 : decode cX16_pack 44 = .ok (.aload_n 0, 1) := by decide +kernel
theorem dX16_pack_45 : decode cX16_pack 45 = .ok (.iload_n 3, 1) := by decide +kernel
theorem dX16_pack_46 : decode cX16_pack 46 = .ok (.putfield 87, 3) := by decide +kernel
theorem dX16_pack_49 : decode cX16_pack 49 = .ok (.bipush (-4), 2) := by decide +kernel
theorem dX16_pack_51 : decode cX16_pack 51 = .ok (.ireturn, 1) := by decide +kernel
theorem dX16_pack_52 : decode cX16_pack 52 = .ok (.aload_n 0, 1) := by decide +kernel
theorem dX16_pack_53 : decode cX16_pack 53 = .ok (.dup, 1) := by decide +kernel
theorem dX16_pack_54 : decode cX16_pack 54 = .ok (.getfield 84, 3) := by decide +kernel
theorem dX16_pack_57 : decode cX16_pack 57 = .ok (.iconst 1, 1) := by decide +kernel
theorem dX16_pack_58 : decode cX16_pack 58 = .ok (.iadd, 1) := by decide +kernel
theorem dX16_pack_59 : decode cX16_pack 59 = .ok (.putfield 84, 3) := by decide +kernel
theorem dX16_pack_62 : decode cX16_pack 62 = .ok (.iconst 0, 1) := by decide +kernel
theorem dX16_pack_63 : decode cX16_pack 63 = .ok (.istore 4, 2) := by decide +kernel
theorem dX16_pack_65 : decode cX16_pack 65 = .ok (.iconst 1, 1) := by decide +kernel
theorem dX16_pack_66 : decode cX16_pack 66 = .ok (.istore 5, 2) := by decide +kernel
theorem dX16_pack_68 : decode cX16_pack 68 = .ok (.iload 5, 2) := by decide +kernel
theorem dX16_pack_70 : decode cX16_pack 70 = .ok (.bipush 65, 2) := by decide +kernel
theorem dX16_pack_72 : decode cX16_pack 72 = .ok (.if_icmp .ge 56, 3) := by decide +kernel
theorem dX16_pack_75 : decode cX16_pack 75 = .ok (.aload_n 0, 1) := by decide +kernel
theorem dX16_pack_76 : decode cX16_pack 76 = .ok (.getfield 50, 3) := by decide +kernel
theorem dX16_pack_79 : decode cX16_pack 79 = .ok (.iload 5, 2) := by decide +kernel
theorem dX16_pack_81 : decode cX16_pack 81 = .ok (.aload_n 0, 1) := by decide +kernel
theorem dX16_pack_82 : decode cX16_pack 82 = .ok (.iload 5, 2) := by decide +kernel
theorem dX16_pack_84 : decode cX16_pack 84 = .ok (.invokevirtual 117, 3) := by decide +kernel
theorem dX16_pack_87 : decode cX16_pack 87 = .ok (.ifCond .eq 13, 3) := by decide +kernel
theorem dX16_pack_90 : decode cX16_pack 90 = .ok (.iload 4, 2) := by decide +kernel
theorem dX16_pack_92 : decode cX16_pack 92 = .ok (.aload_n 0, 1) := by decide +kernel
theorem dX16_pack_93 : decode cX16_pack 93 = .ok (.getfield 77, 3) := by decide +kernel
theorem dX16_pack_96 : decode cX16_pack 96 = .ok (.imul, 1) := by decide +kernel
theorem dX16_pack_97 : decode cX16_pack 97 = .ok (.goto 4, 3) := by decide +kernel
theorem dX16_pack_100 : decode cX16_pack 100 = .ok (.iconst (-1), 1) := by decide +kernel
theorem dX16_pack_101 : decode cX16_pack 101 = .ok (.iastore, 1) := by decide +kernel
theorem dX16_pack_102 : decode cX16_pack 102 = .ok (.aload_n 0, 1) := by decide +kernel
theorem dX16_pack_103 : decode cX16_pack 103 = .ok (.iload 5, 2) := by decide +kernel
theorem dX16_pack_105 : decode cX16_pack 105 = .ok (.invokevirtual 117, 3) := by decide +kernel
theorem dX16_pack_108 : decode cX16_pack 108 = .ok (.ifCond .eq 10, 3) := by decide +kernel
theorem dX16_pack_111 : decode cX16_pack 111 = .ok (.iload 4, 2) := by decide +kernel
theorem dX16_pack_113 : decode cX16_pack 113 = .ok (.iconst 1, 1) := by decide +kernel
theorem dX16_pack_114 : decode cX16_pack 114 = .ok (.iadd, 1) := by decide +kernel
theorem dX16_pack_115 : decode cX16_pack 115 = .ok (.goto 5, 3) := by decide +kernel
theorem dX16_pack_118 : decode cX16_pack 118 = .ok (.iload 4, 2) := by decide +kernel
theorem dX16_pack_120 : decode cX16_pack 120 = .ok (.istore 4, 2) := by decide +kernel
theorem dX16_pack_122 : decode cX16_pack 122 = .ok (.iinc 5 1, 3) := by decide +kernel
theorem dX16_pack_125 : decode cX16_pack 125 = .ok (.goto (-57), 3) := by decide +kernel
theorem dX16_pack_128 : decode cX16_pack 128 = .ok (.iconst 0, 1) := by decide +kernel
theorem dX16_pack_129 : decode cX16_pack 129 = .ok (.istore 5, 2) := by decide +kernel
theorem dX16_pack_131 : decode cX16_pack 131 = .ok (.iload 5, 2) := by decide +kernel
theorem dX16_pack_133 : decode cX16_pack 133 = .ok (.iload 4, 2) := by decide +kernel
theorem dX16_pack_135 : decode cX16_pack 135 = .ok (.aload_n 0, 1) := by decide +kernel
theorem dX16_pack_136 : decode cX16_pack 136 = .ok (.getfield 77, 3) := by decide +kernel
theorem dX16_pack_139 : decode cX16_pack 139 = .ok (.imul, 1) := by decide +kernel
theorem dX16_pack_140 : decode cX16_pack 140 = .ok (.if_icmp .ge 17, 3) := by decide +kernel
theorem dX16_pack_143 : decode cX16_pack 143 = .ok (.aload_n 0, 1) := by decide +kernel
theorem dX16_pack_144 : decode cX16_pack 144 = .ok (.getfield 53, 3) := by decide +kernel
theorem dX16_pack_147 : decode cX16_pack 147 = .ok (.iload 5, 2) := by decide +kernel
theorem dX16_pack_149 : decode cX16_pack 149 = .ok (.iconst 0, 1) := by decide +kernel
theorem dX16_pack_150 : decode cX16_pack 150 = .ok (.iastore, 1) := by decide +kernel
theorem dX16_pack_151 : decode cX16_pack 151 = .ok (.iinc 5 1, 3) := by decide +kernel
theorem dX16_pack_154 : decode cX16_pack 154 = .ok (.goto (-23), 3) := by decide +kernel
theorem dX16_pack_157 : decode cX16_pack 157 = .ok (.iconst 1, 1) := by decide +kernel
theorem dX16_pack_158 : decode cX16_pack 158 = .ok (.istore 5, 2) := by decide +kernel
theorem dX16_pack_160 : decode cX16_pack 160 = .ok (.iload 5, 2) := by decide +kernel
theorem dX16_pack_162 : decode cX16_pack 162 = .ok (.aload_n 0, 1) := by decide +kernel
theorem dX16_pack_163 : decode cX16_pack 163 = .ok (.getfield 81, 3) := by decide +kernel
theorem dX16_pack_166 : decode cX16_pack 166 = .ok (.if_icmp .gt 110, 3) := by decide +kernel
theorem dX16_pack_169 : decode cX16_pack 169 = .ok (.aload_n 0, 1) := by decide +kernel
theorem dX16_pack_170 : decode cX16_pack 170 = .ok (.getfield 23, 3) := by decide +kernel
theorem dX16_pack_173 : decode cX16_pack 173 = .ok (.iload 5, 2) := by decide +kernel
theorem dX16_pack_175 : decode cX16_pack 175 = .ok (.iaload, 1) := by decide +kernel
theorem dX16_pack_176 : decode cX16_pack 176 = .ok (.istore 6, 2) := by decide +kernel
theorem dX16_pack_178 : decode cX16_pack 178 = .ok (.aload_n 0, 1) := by decide +kernel
theorem dX16_pack_179 : decode cX16_pack 179 = .ok (.getfield 35, 3) := by decide +kernel
theorem dX16_pack_182 : decode cX16_pack 182 = .ok (.iload 6, 2) := by decide +kernel
theorem dX16_pack_184 : decode cX16_pack 184 = .ok (.aload_n 0, 1) := by decide +kernel
theorem dX16_pack_185 : decode cX16_pack 185 = .ok (.getfield 56, 3) := by decide +kernel
theorem dX16_pack_188 : decode cX16_pack 188 = .ok (.iload 6, 2) := by decide +kernel
theorem dX16_pack_190 : decode cX16_pack 190 = .ok (.iaload, 1) := by decide +kernel
theorem dX16_pack_191 : decode cX16_pack 191 = .ok (.iastore, 1) := by decide +kernel
theorem dX16_pack_192 : decode cX16_pack 192 = .ok (.aload_n 0, 1) := by decide +kernel
theorem dX16_pack_193 : decode cX16_pack 193 = .ok (.getfield 38, 3) := by decide +kernel
theorem dX16_pack_196 : decode cX16_pack 196 = .ok (.iload 6, 2) := by decide +kernel
theorem dX16_pack_198 : decode cX16_pack 198 = .ok (.aload_n 0, 1) := by decide +kernel
theorem dX16_pack_199 : decode cX16_pack 199 = .ok (.getfield 59, 3) := by decide +kernel
theorem dX16_pack_202 : decode cX16_pack 202 = .ok (.iload 6, 2) := by decide +kernel
theorem dX16_pack_204 : decode cX16_pack 204 = .ok (.iaload, 1) := by decide +kernel
theorem dX16_pack_205 : decode cX16_pack 205 = .ok (.iastore, 1) := by decide +kernel
theorem dX16_pack_206 : decode cX16_pack 206 = .ok (.aload_n 0, 1) := by decide +kernel
theorem dX16_pack_207 : decode cX16_pack 207 = .ok (.getfield 41, 3) := by decide +kernel
theorem dX16_pack_210 : decode cX16_pack 210 = .ok (.iload 6, 2) := by decide +kernel
theorem dX16_pack_212 : decode cX16_pack 212 = .ok (.iconst 1, 1) := by decide +kernel
theorem dX16_pack_213 : decode cX16_pack 213 = .ok (.bastore, 1) := by decide +kernel
theorem dX16_pack_214 : decode cX16_pack 214 = .ok (.aload_n 0, 1) := by decide +kernel
theorem dX16_pack_215 : decode cX16_pack 215 = .ok (.getfield 44, 3) := by decide +kernel
theorem dX16_pack_218 : decode cX16_pack 218 = .ok (.sipush 129, 3) := by decide +kernel
theorem dX16_pack_221 : decode cX16_pack 221 = .ok (.aload_n 0, 1) := by decide +kernel
theorem dX16_pack_222 : decode cX16_pack 222 = .ok (.getfield 84, 3) := by decide +kernel
theorem dX16_pack_225 : decode cX16_pack 225 = .ok (.imul, 1) := by decide +kernel
theorem dX16_pack_226 : decode cX16_pack 226 = .ok (.iload 5, 2) := by decide +kernel
theorem dX16_pack_228 : decode cX16_pack 228 = .ok (.iadd, 1) := by decide +kernel
theorem dX16_pack_229 : decode cX16_pack 229 = .ok (.aload_n 0, 1) := by decide +kernel
theorem dX16_pack_230 : decode cX16_pack 230 = .ok (.getfield 35, 3) := by decide +kernel
theorem dX16_pack_233 : decode cX16_pack 233 = .ok (.iload 6, 2) := by decide +kernel
theorem dX16_pack_235 : decode cX16_pack 235 = .ok (.iaload, 1) := by decide +kernel
theorem dX16_pack_236 : decode cX16_pack 236 = .ok (.iastore, 1) := by decide +kernel
theorem dX16_pack_237 : decode cX16_pack 237 = .ok (.aload_n 0, 1) := by decide +kernel
theorem dX16_pack_238 : decode cX16_pack 238 = .ok (.getfield 47, 3) := by decide +kernel
theorem dX16_pack_241 : decode cX16_pack 241 = .ok (.sipush 129, 3) := by decide +kernel
theorem dX16_pack_244 : decode cX16_pack 244 = .ok (.aload_n 0, 1) := by decide +kernel
theorem dX16_pack_245 : decode cX16_pack 245 = .ok (.getfield 84, 3) := by decide +kernel
theorem dX16_pack_248 : decode cX16_pack 248 = .ok (.imul, 1) := by decide +kernel
theorem dX16_pack_249 : decode cX16_pack 249 = .ok (.iload 5, 2) := by decide +kernel
theorem dX16_pack_251 : decode cX16_pack 251 = .ok (.iadd, 1) := by decide +kernel
theorem dX16_pack_252 : decode cX16_pack 252 = .ok (.bipush 8, 2) := by decide +kernel
theorem dX16_pack_254 : decode cX16_pack 254 = .ok (.aload_n 0, 1) := by decide +kernel
theorem dX16_pack_255 : decode cX16_pack 255 = .ok (.getfield 38, 3) := by decide +kernel
theorem dX16_pack_258 : decode cX16_pack 258 = .ok (.iload 6, 2) := by decide +kernel
theorem dX16_pack_260 : decode cX16_pack 260 = .ok (.iaload, 1) := by decide +kernel
theorem dX16_pack_261 : decode cX16_pack 261 = .ok (.imul, 1) := by decide +kernel
theorem dX16_pack_262 : decode cX16_pack 262 = .ok (.aload_n 0, 1) := by decide +kernel
theorem dX16_pack_263 : decode cX16_pack 263 = .ok (.iload 5, 2) := by decide +kernel
theorem dX16_pack_265 : decode cX16_pack 265 = .ok (.invokevirtual 155, 3) := by decide +kernel
theorem dX16_pack_268 : decode cX16_pack 268 = .ok (.iadd, 1) := by decide +kernel
theorem dX16_pack_269 : decode cX16_pack 269 = .ok (.iastore, 1) := by decide +kernel
theorem dX16_pack_270 : decode cX16_pack 270 = .ok (.iinc 5 1, 3) := by decide +kernel
theorem dX16_pack_273 : decode cX16_pack 273 = .ok (.goto (-113), 3) := by decide +kernel
theorem dX16_pack_276 : decode cX16_pack 276 = .ok (.iload 4, 2) := by decide +kernel
theorem dX16_pack_278 : decode cX16_pack 278 = .ok (.ireturn, 1) := by decide +kernel
theorem cwX16_pack : mw_cwV yX16_pack cX16_pack 7 ((some .int)) 1 := ⟨⟨wd_19, wd_3412, by decide +kernel⟩, wd_3410, wd_3411⟩
set_option maxHeartbeats 4000000 in
set_option maxRecDepth 100000 in
theorem tX16_pack (l : Launch) (G : mwG) (ad : Nat → Nat) (fu : Nat) (k : Nat) (a1 : Int64) (M : mwM) (L : mwL) {r0 : Int32} {M0 : mwM} {L0 : mwL} (hD : DX16_pack fu k a1 M L = some (r0, M0, L0)) (hk0 : isMp k) : Met l yX16_pack (Cond.code yX16_pack cX16_pack 7 ((some .int)) :: GT) ({ frames := 6, cells := 0, slots := 0, locals := 153 }) (mw_Pre G ad NF TF FF M L [.ref (ad k), .long a1]) (mw_Qi G ad NF TF FF (mw_eqI r0 M0 L0)) 0 0 (mw_fr G) := by
  refine mw_enter (by decide) (Nat.le_of_ble_eq_true rfl) ?_
  intro p e s m below meth c ls C hr hlocks hnm hw hl
  have hl : lv_has ls 7 [(0, .ref (ad k)), (1, .long a1)] := hl
  have hh160 : ∀ (f : Nat) (v4 : Int32) (v5 : Int32) (M : mwM) (L : mwL) (H : Heap) (locs : List Loc) (ls : Array Slot), fX16_pack_h160 fu k a1 f (v4, v5, M, L) = some (r0, M0, L0) → mw_W G ad NF TF FF M L H locs → lv_has ls 7 [(0, .ref (ad k)), (4, .int v4), (5, .int v5)] → W p l e ({ frames := 6, cells := 0, slots := 0, locals := 153 }) s m [.ref (ad k), .long a1].toArray below meth c H locs 0 0 (MQ below (mw_Qi G ad NF TF FF (mw_eqI r0 M0 L0)) [.ref (ad k), .long a1].toArray s 0 0 (mw_fr G)) (F0 m 160 ls []) := by
    intro f
    induction f with
    | zero => intro v4 v5 M L H locs ls hD; cases hD
    | succ f160 ih160 =>
      intro v4 v5 M L H locs ls hD hw hl
      replace hD : fX16_pack_i160 fu k a1 (fX16_pack_h160 fu k a1 f160) v4 v5 M L = some (r0, M0, L0) := hD
      unfold fX16_pack_i160 at hD
      refine lv_iload C.1.1 C.1.2.1 dX16_pack_160 (lv_at hl 2 rfl) ?_
      refine lv_aload_n C.1.1 C.1.2.1 dX16_pack_162 rfl (lv_at hl 0 rfl) ?_
      refine mr_getI C hw kc_16 2 (Mp_N0 hk0) (Mp_T0 hk0) wd_2557 dX16_pack_163 (by decide) rfl ?_
      refine lv_icmp_gt (tgt := 276) C.1.1 C.1.2.1 dX16_pack_166 (by decide) (fun c17 => ?_) (fun c17 => ?_)
      · replace hD := g_pos c17 hD
        refine lv_iload C.1.1 C.1.2.1 dX16_pack_276 (lv_at hl 1 rfl) ?_
        exact mr_iret C hr hlocks hw rfl (Option.some.inj hD) dX16_pack_278
      · replace hD := g_neg c17 hD
        refine lv_aload_n C.1.1 C.1.2.1 dX16_pack_169 rfl (lv_at hl 0 rfl) ?_
        refine mr_getR C hw kc_16 7 (Mp_N0 hk0) (Mp_T0 hk0) (Mp_F0_7 hk0) wd_2562 dX16_pack_170 (by decide) rfl ?_
        refine lv_iload C.1.1 C.1.2.1 dX16_pack_173 (lv_at hl 2 rfl) ?_
        obtain ⟨q18, hD⟩ := g_ck hD
        refine mr_iald C hw (Mp_N5 hk0) (Mp_T5 hk0) q18 dX16_pack_175 ?_
        obtain ⟨x19, ex19, hD⟩ := g_let hD
        refine W.eq (g2 := F0 m 176 ls (.int x19 :: [])) (by rw [ex19]) ?_
        refine lv_istore (lv' := [(6, .int x19), (0, .ref (ad k)), (4, .int v4), (5, .int v5)]) C.1.1 C.1.2.1 dX16_pack_176 hl (by decide) rfl (fun ls hl => ?_)
        refine lv_aload_n C.1.1 C.1.2.1 dX16_pack_178 rfl (lv_at hl 1 rfl) ?_
        refine mr_getR C hw kc_16 11 (Mp_N0 hk0) (Mp_T0 hk0) (Mp_F0_11 hk0) wd_2566 dX16_pack_179 (by decide) rfl ?_
        refine lv_iload C.1.1 C.1.2.1 dX16_pack_182 (lv_at hl 0 rfl) ?_
        refine lv_aload_n C.1.1 C.1.2.1 dX16_pack_184 rfl (lv_at hl 1 rfl) ?_
        refine mr_getR C hw kc_16 20 (Mp_N0 hk0) (Mp_T0 hk0) (Mp_F0_20 hk0) wd_2575 dX16_pack_185 (by decide) rfl ?_
        refine lv_iload C.1.1 C.1.2.1 dX16_pack_188 (lv_at hl 0 rfl) ?_
        obtain ⟨q20, hD⟩ := g_ck hD
        refine mr_iald C hw (Mp_N16 hk0) (Mp_T16 hk0) q20 dX16_pack_190 ?_
        obtain ⟨q21, hD⟩ := g_ck hD
        obtain ⟨M22, eM22, hD⟩ := g_let hD
        refine mr_iast C hw (Mp_N9 hk0) (Mp_T9 hk0) q21 dX16_pack_191 (fun H locs hw => ?_)
        replace hw : mw_W G ad NF TF FF M22 L H locs := by rw [eM22]; exact hw
        refine lv_aload_n C.1.1 C.1.2.1 dX16_pack_192 rfl (lv_at hl 1 rfl) ?_
        refine mr_getR C hw kc_16 12 (Mp_N0 hk0) (Mp_T0 hk0) (Mp_F0_12 hk0) wd_2567 dX16_pack_193 (by decide) rfl ?_
        refine lv_iload C.1.1 C.1.2.1 dX16_pack_196 (lv_at hl 0 rfl) ?_
        refine lv_aload_n C.1.1 C.1.2.1 dX16_pack_198 rfl (lv_at hl 1 rfl) ?_
        refine mr_getR C hw kc_16 21 (Mp_N0 hk0) (Mp_T0 hk0) (Mp_F0_21 hk0) wd_2576 dX16_pack_199 (by decide) rfl ?_
        refine lv_iload C.1.1 C.1.2.1 dX16_pack_202 (lv_at hl 0 rfl) ?_
        obtain ⟨q23, hD⟩ := g_ck hD
        refine mr_iald C hw (Mp_N17 hk0) (Mp_T17 hk0) q23 dX16_pack_204 ?_
        obtain ⟨q24, hD⟩ := g_ck hD
        obtain ⟨M25, eM25, hD⟩ := g_let hD
        refine mr_iast C hw (Mp_N10 hk0) (Mp_T10 hk0) q24 dX16_pack_205 (fun H locs hw => ?_)
        replace hw : mw_W G ad NF TF FF M25 L H locs := by rw [eM25]; exact hw
        refine lv_aload_n C.1.1 C.1.2.1 dX16_pack_206 rfl (lv_at hl 1 rfl) ?_
        refine mr_getR C hw kc_16 13 (Mp_N0 hk0) (Mp_T0 hk0) (Mp_F0_13 hk0) wd_2568 dX16_pack_207 (by decide) rfl ?_
        refine lv_iload C.1.1 C.1.2.1 dX16_pack_210 (lv_at hl 0 rfl) ?_
        refine lv_iconst (v := 1) C.1.1 C.1.2.1 dX16_pack_212 (by decide) ?_
        obtain ⟨q26, hD⟩ := g_ck hD
        obtain ⟨M27, eM27, hD⟩ := g_let hD
        refine mr_zast C hw (Mp_N11 hk0) (Mp_T11 hk0) q26 dX16_pack_213 (fun H locs hw => ?_)
        replace hw : mw_W G ad NF TF FF M27 L H locs := by rw [eM27]; exact hw
        refine lv_aload_n C.1.1 C.1.2.1 dX16_pack_214 rfl (lv_at hl 1 rfl) ?_
        refine mr_getR C hw kc_16 16 (Mp_N0 hk0) (Mp_T0 hk0) (Mp_F0_16 hk0) wd_2571 dX16_pack_215 (by decide) rfl ?_
        refine lv_sipush (v := 129) C.1.1 C.1.2.1 dX16_pack_218 (by decide) ?_
        refine lv_aload_n C.1.1 C.1.2.1 dX16_pack_221 rfl (lv_at hl 1 rfl) ?_
        refine mr_getI C hw kc_16 15 (Mp_N0 hk0) (Mp_T0 hk0) wd_2570 dX16_pack_222 (by decide) rfl ?_
        refine lv_imul C.1.1 C.1.2.1 dX16_pack_225 ?_
        refine lv_iload C.1.1 C.1.2.1 dX16_pack_226 (lv_at hl 3 rfl) ?_
        refine lv_iadd C.1.1 C.1.2.1 dX16_pack_228 ?_
        refine lv_aload_n C.1.1 C.1.2.1 dX16_pack_229 rfl (lv_at hl 1 rfl) ?_
        refine mr_getR C hw kc_16 11 (Mp_N0 hk0) (Mp_T0 hk0) (Mp_F0_11 hk0) wd_2566 dX16_pack_230 (by decide) rfl ?_
        refine lv_iload C.1.1 C.1.2.1 dX16_pack_233 (lv_at hl 0 rfl) ?_
        obtain ⟨q28, hD⟩ := g_ck hD
        refine mr_iald C hw (Mp_N9 hk0) (Mp_T9 hk0) q28 dX16_pack_235 ?_
        obtain ⟨q29, hD⟩ := g_ck hD
        obtain ⟨M30, eM30, hD⟩ := g_let hD
        refine mr_iast C hw (Mp_N12 hk0) (Mp_T12 hk0) q29 dX16_pack_236 (fun H locs hw => ?_)
        replace hw : mw_W G ad NF TF FF M30 L H locs := by rw [eM30]; exact hw
        refine lv_aload_n C.1.1 C.1.2.1 dX16_pack_237 rfl (lv_at hl 1 rfl) ?_
        refine mr_getR C hw kc_16 17 (Mp_N0 hk0) (Mp_T0 hk0) (Mp_F0_17 hk0) wd_2572 dX16_pack_238 (by decide) rfl ?_
        refine lv_sipush (v := 129) C.1.1 C.1.2.1 dX16_pack_241 (by decide) ?_
        refine lv_aload_n C.1.1 C.1.2.1 dX16_pack_244 rfl (lv_at hl 1 rfl) ?_
        refine mr_getI C hw kc_16 15 (Mp_N0 hk0) (Mp_T0 hk0) wd_2570 dX16_pack_245 (by decide) rfl ?_
        refine lv_imul C.1.1 C.1.2.1 dX16_pack_248 ?_
        refine lv_iload C.1.1 C.1.2.1 dX16_pack_249 (lv_at hl 3 rfl) ?_
        refine lv_iadd C.1.1 C.1.2.1 dX16_pack_251 ?_
        refine lv_bipush (v := 8) C.1.1 C.1.2.1 dX16_pack_252 (by decide) ?_
        refine lv_aload_n C.1.1 C.1.2.1 dX16_pack_254 rfl (lv_at hl 1 rfl) ?_
        refine mr_getR C hw kc_16 12 (Mp_N0 hk0) (Mp_T0 hk0) (Mp_F0_12 hk0) wd_2567 dX16_pack_255 (by decide) rfl ?_
        refine lv_iload C.1.1 C.1.2.1 dX16_pack_258 (lv_at hl 0 rfl) ?_
        obtain ⟨q31, hD⟩ := g_ck hD
        refine mr_iald C hw (Mp_N10 hk0) (Mp_T10 hk0) q31 dX16_pack_260 ?_
        refine lv_imul C.1.1 C.1.2.1 dX16_pack_261 ?_
        refine lv_aload_n C.1.1 C.1.2.1 dX16_pack_262 rfl (lv_at hl 1 rfl) ?_
        refine lv_iload C.1.1 C.1.2.1 dX16_pack_263 (lv_at hl 3 rfl) ?_
        obtain ⟨r34, M32, L33, h1, hD⟩ := g_b3 hD
        refine md_cvI (As := [.int v5]) (rest := [.int (8 * (M30 (k + 10) x19.toNatClampNeg)), .int ((129 * (M30 k 15)) + v5), .ref (ad (k + 13))]) C hw (tX16_bitInGroup l G ad fu k v5 M30 L h1 hk0) kc_16 (Mp_N0 hk0) (Mp_T0 hk0) wd_3475 cwX16_bitInGroup ⟨Nat.le_of_ble_eq_true rfl, Nat.le_of_ble_eq_true rfl⟩ rfl hl.1 (Nat.le_of_ble_eq_true rfl) dX16_pack_265 rfl rfl ⟨Nat.zero_le _, Nat.zero_le _⟩ rfl (fun H locs hw => ?_)
        refine lv_iadd C.1.1 C.1.2.1 dX16_pack_268 ?_
        obtain ⟨q35, hD⟩ := g_ck hD
        obtain ⟨M36, eM36, hD⟩ := g_let hD
        refine mr_iast C hw (Mp_N13 hk0) (Mp_T13 hk0) q35 dX16_pack_269 (fun H locs hw => ?_)
        replace hw : mw_W G ad NF TF FF M36 L33 H locs := by rw [eM36]; exact hw
        obtain ⟨x37, ex37, hD⟩ := g_let hD
        refine lv_iinc (v := x37) (lv' := [(5, .int x37), (6, .int x19), (0, .ref (ad k)), (4, .int v4)]) C.1.1 C.1.2.1 dX16_pack_270 hl (k := 3) rfl (by rw [ex37]; rfl) (by decide) rfl (fun ls hl => ?_)
        refine lv_goto (tgt := 160) C.1.1 C.1.2.1 dX16_pack_273 (by decide) ?_
        exact ih160 v4 x37 M36 L33 _ _ ls hD hw (lv_sub hl [2, 3, 0] rfl)
  have hh131 : ∀ (f : Nat) (v4 : Int32) (v5 : Int32) (M : mwM) (L : mwL) (H : Heap) (locs : List Loc) (ls : Array Slot), fX16_pack_h131 fu k a1 f (v4, v5, M, L) = some (r0, M0, L0) → mw_W G ad NF TF FF M L H locs → lv_has ls 7 [(0, .ref (ad k)), (4, .int v4), (5, .int v5)] → W p l e ({ frames := 6, cells := 0, slots := 0, locals := 153 }) s m [.ref (ad k), .long a1].toArray below meth c H locs 0 0 (MQ below (mw_Qi G ad NF TF FF (mw_eqI r0 M0 L0)) [.ref (ad k), .long a1].toArray s 0 0 (mw_fr G)) (F0 m 131 ls []) := by
    intro f
    induction f with
    | zero => intro v4 v5 M L H locs ls hD; cases hD
    | succ f131 ih131 =>
      intro v4 v5 M L H locs ls hD hw hl
      replace hD : fX16_pack_i131 fu k a1 (fX16_pack_h131 fu k a1 f131) v4 v5 M L = some (r0, M0, L0) := hD
      unfold fX16_pack_i131 at hD
      refine lv_iload C.1.1 C.1.2.1 dX16_pack_131 (lv_at hl 2 rfl) ?_
      refine lv_iload C.1.1 C.1.2.1 dX16_pack_133 (lv_at hl 1 rfl) ?_
      refine lv_aload_n C.1.1 C.1.2.1 dX16_pack_135 rfl (lv_at hl 0 rfl) ?_
      refine mr_getI C hw kc_16 1 (Mp_N0 hk0) (Mp_T0 hk0) wd_2556 dX16_pack_136 (by decide) rfl ?_
      refine lv_imul C.1.1 C.1.2.1 dX16_pack_139 ?_
      refine lv_icmp_ge (tgt := 157) C.1.1 C.1.2.1 dX16_pack_140 (by decide) (fun c13 => ?_) (fun c13 => ?_)
      · replace hD := g_pos c13 hD
        refine lv_iconst (v := 1) C.1.1 C.1.2.1 dX16_pack_157 (by decide) ?_
        refine lv_istore (lv' := [(5, .int 1), (0, .ref (ad k)), (4, .int v4)]) C.1.1 C.1.2.1 dX16_pack_158 hl (by decide) rfl (fun ls hl => ?_)
        exact hh160 fu v4 1 M L _ _ ls hD hw (lv_sub hl [1, 2, 0] rfl)
      · replace hD := g_neg c13 hD
        refine lv_aload_n C.1.1 C.1.2.1 dX16_pack_143 rfl (lv_at hl 0 rfl) ?_
        refine mr_getR C hw kc_16 19 (Mp_N0 hk0) (Mp_T0 hk0) (Mp_F0_19 hk0) wd_2574 dX16_pack_144 (by decide) rfl ?_
        refine lv_iload C.1.1 C.1.2.1 dX16_pack_147 (lv_at hl 2 rfl) ?_
        refine lv_iconst (v := 0) C.1.1 C.1.2.1 dX16_pack_149 (by decide) ?_
        obtain ⟨q14, hD⟩ := g_ck hD
        obtain ⟨M15, eM15, hD⟩ := g_let hD
        refine mr_iast C hw (Mp_N15 hk0) (Mp_T15 hk0) q14 dX16_pack_150 (fun H locs hw => ?_)
        replace hw : mw_W G ad NF TF FF M15 L H locs := by rw [eM15]; exact hw
        obtain ⟨x16, ex16, hD⟩ := g_let hD
        refine lv_iinc (v := x16) (lv' := [(5, .int x16), (0, .ref (ad k)), (4, .int v4)]) C.1.1 C.1.2.1 dX16_pack_151 hl (k := 2) rfl (by rw [ex16]; rfl) (by decide) rfl (fun ls hl => ?_)
        refine lv_goto (tgt := 131) C.1.1 C.1.2.1 dX16_pack_154 (by decide) ?_
        exact ih131 v4 x16 M15 L _ _ ls hD hw (lv_sub hl [1, 2, 0] rfl)
  have hh68 : ∀ (f : Nat) (v4 : Int32) (v5 : Int32) (M : mwM) (L : mwL) (H : Heap) (locs : List Loc) (ls : Array Slot), fX16_pack_h68 fu k a1 f (v4, v5, M, L) = some (r0, M0, L0) → mw_W G ad NF TF FF M L H locs → lv_has ls 7 [(0, .ref (ad k)), (4, .int v4), (5, .int v5)] → W p l e ({ frames := 6, cells := 0, slots := 0, locals := 153 }) s m [.ref (ad k), .long a1].toArray below meth c H locs 0 0 (MQ below (mw_Qi G ad NF TF FF (mw_eqI r0 M0 L0)) [.ref (ad k), .long a1].toArray s 0 0 (mw_fr G)) (F0 m 68 ls []) := by
    intro f
    induction f with
    | zero => intro v4 v5 M L H locs ls hD; cases hD
    | succ f68 ih68 =>
      intro v4 v5 M L H locs ls hD hw hl
      replace hD : fX16_pack_i68 fu k a1 (fX16_pack_h68 fu k a1 f68) v4 v5 M L = some (r0, M0, L0) := hD
      have hb120 : ∀ (v5 : Int32) (s0 : Int32) (M : mwM) (L : mwL) (H : Heap) (locs : List Loc) (ls : Array Slot), fX16_pack_b120 fu k a1 (fX16_pack_h68 fu k a1 f68) v5 s0 M L = some (r0, M0, L0) → mw_W G ad NF TF FF M L H locs → lv_has ls 7 [(0, .ref (ad k)), (5, .int v5)] → W p l e ({ frames := 6, cells := 0, slots := 0, locals := 153 }) s m [.ref (ad k), .long a1].toArray below meth c H locs 0 0 (MQ below (mw_Qi G ad NF TF FF (mw_eqI r0 M0 L0)) [.ref (ad k), .long a1].toArray s 0 0 (mw_fr G)) (F0 m 120 ls [.int s0]) := by
        intro v5 s0 M L H locs ls hD hw hl
        unfold fX16_pack_b120 at hD
        refine lv_istore (lv' := [(4, .int s0), (0, .ref (ad k)), (5, .int v5)]) C.1.1 C.1.2.1 dX16_pack_120 hl (by decide) rfl (fun ls hl => ?_)
        obtain ⟨x12, ex12, hD⟩ := g_let hD
        refine lv_iinc (v := x12) (lv' := [(5, .int x12), (4, .int s0), (0, .ref (ad k))]) C.1.1 C.1.2.1 dX16_pack_122 hl (k := 2) rfl (by rw [ex12]; rfl) (by decide) rfl (fun ls hl => ?_)
        refine lv_goto (tgt := 68) C.1.1 C.1.2.1 dX16_pack_125 (by decide) ?_
        exact ih68 s0 x12 M L _ _ ls hD hw (lv_sub hl [2, 1, 0] rfl)
      have hb101 : ∀ (v4 : Int32) (v5 : Int32) (s1 : Int32) (s2 : Int32) (M : mwM) (L : mwL) (H : Heap) (locs : List Loc) (ls : Array Slot), fX16_pack_b101 fu k a1 (fX16_pack_h68 fu k a1 f68) v4 v5 s1 s2 M L = some (r0, M0, L0) → mw_W G ad NF TF FF M L H locs → lv_has ls 7 [(0, .ref (ad k)), (4, .int v4), (5, .int v5)] → W p l e ({ frames := 6, cells := 0, slots := 0, locals := 153 }) s m [.ref (ad k), .long a1].toArray below meth c H locs 0 0 (MQ below (mw_Qi G ad NF TF FF (mw_eqI r0 M0 L0)) [.ref (ad k), .long a1].toArray s 0 0 (mw_fr G)) (F0 m 101 ls [.int s2, .int s1, .ref (ad (k + 14))]) := by
        intro v4 v5 s1 s2 M L H locs ls hD hw hl
        unfold fX16_pack_b101 at hD
        obtain ⟨q6, hD⟩ := g_ck hD
        obtain ⟨M7, eM7, hD⟩ := g_let hD
        refine mr_iast C hw (Mp_N14 hk0) (Mp_T14 hk0) q6 dX16_pack_101 (fun H locs hw => ?_)
        replace hw : mw_W G ad NF TF FF M7 L H locs := by rw [eM7]; exact hw
        refine lv_aload_n C.1.1 C.1.2.1 dX16_pack_102 rfl (lv_at hl 0 rfl) ?_
        refine lv_iload C.1.1 C.1.2.1 dX16_pack_103 (lv_at hl 2 rfl) ?_
        obtain ⟨r10, M8, L9, h1, hD⟩ := g_b3 hD
        refine md_cvI (As := [.int v5]) (rest := []) C hw (tX16_isUsed l G ad fu k v5 M7 L h1 hk0) kc_16 (Mp_N0 hk0) (Mp_T0 hk0) wd_3450 cwX16_isUsed ⟨Nat.le_of_ble_eq_true rfl, Nat.le_of_ble_eq_true rfl⟩ rfl hl.1 (Nat.le_of_ble_eq_true rfl) dX16_pack_105 rfl rfl ⟨Nat.zero_le _, Nat.zero_le _⟩ rfl (fun H locs hw => ?_)
        refine lv_if_eq (tgt := 118) C.1.1 C.1.2.1 dX16_pack_108 (by decide) (fun c11 => ?_) (fun c11 => ?_)
        · replace hD := g_pos c11 hD
          refine lv_iload C.1.1 C.1.2.1 dX16_pack_118 (lv_at hl 1 rfl) ?_
          exact hb120 v5 v4 M8 L9 _ _ ls hD hw (lv_sub hl [0, 2] rfl)
        · replace hD := g_neg c11 hD
          refine lv_iload C.1.1 C.1.2.1 dX16_pack_111 (lv_at hl 1 rfl) ?_
          refine lv_iconst (v := 1) C.1.1 C.1.2.1 dX16_pack_113 (by decide) ?_
          refine lv_iadd C.1.1 C.1.2.1 dX16_pack_114 ?_
          refine lv_goto (tgt := 120) C.1.1 C.1.2.1 dX16_pack_115 (by decide) ?_
          exact hb120 v5 (v4 + 1) M8 L9 _ _ ls hD hw (lv_sub hl [0, 2] rfl)
      unfold fX16_pack_i68 at hD
      refine lv_iload C.1.1 C.1.2.1 dX16_pack_68 (lv_at hl 2 rfl) ?_
      refine lv_bipush (v := 65) C.1.1 C.1.2.1 dX16_pack_70 (by decide) ?_
      refine lv_icmp_ge (tgt := 128) C.1.1 C.1.2.1 dX16_pack_72 (by decide) (fun c1 => ?_) (fun c1 => ?_)
      · replace hD := g_pos c1 hD
        refine lv_iconst (v := 0) C.1.1 C.1.2.1 dX16_pack_128 (by decide) ?_
        refine lv_istore (lv' := [(5, .int 0), (0, .ref (ad k)), (4, .int v4)]) C.1.1 C.1.2.1 dX16_pack_129 hl (by decide) rfl (fun ls hl => ?_)
        exact hh131 fu v4 0 M L _ _ ls hD hw (lv_sub hl [1, 2, 0] rfl)
      · replace hD := g_neg c1 hD
        refine lv_aload_n C.1.1 C.1.2.1 dX16_pack_75 rfl (lv_at hl 0 rfl) ?_
        refine mr_getR C hw kc_16 18 (Mp_N0 hk0) (Mp_T0 hk0) (Mp_F0_18 hk0) wd_2573 dX16_pack_76 (by decide) rfl ?_
        refine lv_iload C.1.1 C.1.2.1 dX16_pack_79 (lv_at hl 2 rfl) ?_
        refine lv_aload_n C.1.1 C.1.2.1 dX16_pack_81 rfl (lv_at hl 0 rfl) ?_
        refine lv_iload C.1.1 C.1.2.1 dX16_pack_82 (lv_at hl 2 rfl) ?_
        obtain ⟨r4, M2, L3, h1, hD⟩ := g_b3 hD
        refine md_cvI (As := [.int v5]) (rest := [.int v5, .ref (ad (k + 14))]) C hw (tX16_isUsed l G ad fu k v5 M L h1 hk0) kc_16 (Mp_N0 hk0) (Mp_T0 hk0) wd_3450 cwX16_isUsed ⟨Nat.le_of_ble_eq_true rfl, Nat.le_of_ble_eq_true rfl⟩ rfl hl.1 (Nat.le_of_ble_eq_true rfl) dX16_pack_84 rfl rfl ⟨Nat.zero_le _, Nat.zero_le _⟩ rfl (fun H locs hw => ?_)
        refine lv_if_eq (tgt := 100) C.1.1 C.1.2.1 dX16_pack_87 (by decide) (fun c5 => ?_) (fun c5 => ?_)
        · replace hD := g_pos c5 hD
          refine lv_iconst (v := (-1)) C.1.1 C.1.2.1 dX16_pack_100 (by decide) ?_
          exact hb101 v4 v5 v5 ((-1)) M2 L3 _ _ ls hD hw (lv_sub hl [0, 1, 2] rfl)
        · replace hD := g_neg c5 hD
          refine lv_iload C.1.1 C.1.2.1 dX16_pack_90 (lv_at hl 1 rfl) ?_
          refine lv_aload_n C.1.1 C.1.2.1 dX16_pack_92 rfl (lv_at hl 0 rfl) ?_
          refine mr_getI C hw kc_16 1 (Mp_N0 hk0) (Mp_T0 hk0) wd_2556 dX16_pack_93 (by decide) rfl ?_
          refine lv_imul C.1.1 C.1.2.1 dX16_pack_96 ?_
          refine lv_goto (tgt := 101) C.1.1 C.1.2.1 dX16_pack_97 (by decide) ?_
          exact hb101 v4 v5 v5 (v4 * (M2 k 1)) M2 L3 _ _ ls hD hw (lv_sub hl [0, 1, 2] rfl)
  unfold DX16_pack at hD
  refine lv_aload_n C.1.1 C.1.2.1 dX16_pack_0 rfl (lv_at hl 0 rfl) ?_
  refine lv_iconst (v := 0) C.1.1 C.1.2.1 dX16_pack_1 (by decide) ?_
  obtain ⟨M38, eM38, hD⟩ := g_let hD
  refine mr_putI C hw kc_16 0 (Mp_N0 hk0) (Mp_T0 hk0) wd_2555 dX16_pack_2 (by decide) rfl rfl rfl rfl (fun H locs hw => ?_)
  replace hw : mw_W G ad NF TF FF M38 L H locs := by rw [eM38]; exact hw
  refine lv_lload_n C.1.1 C.1.2.1 dX16_pack_5 rfl (lv_at hl 1 rfl) ?_
  refine lv_lconst (v := 0) C.1.1 C.1.2.1 dX16_pack_6 (by decide) ?_
  refine W.lcmp C.1.1 C.1.2.1 dX16_pack_7 ?_
  refine lv_if_ge (tgt := 14) C.1.1 C.1.2.1 dX16_pack_8 (by decide) (fun c39 => ?_) (fun c39 => ?_)
  · replace hD := g_pos c39 hD
    refine lv_aload_n C.1.1 C.1.2.1 dX16_pack_14 rfl (lv_at hl 0 rfl) ?_
    refine mr_getI C hw kc_16 15 (Mp_N0 hk0) (Mp_T0 hk0) wd_2570 dX16_pack_15 (by decide) rfl ?_
    refine lv_bipush (v := 16) C.1.1 C.1.2.1 dX16_pack_18 (by decide) ?_
    refine lv_icmp_ne (tgt := 26) C.1.1 C.1.2.1 dX16_pack_20 (by decide) (fun c40 => ?_) (fun c40 => ?_)
    · replace hD := g_neg c40 hD
      refine lv_aload_n C.1.1 C.1.2.1 dX16_pack_26 rfl (lv_at hl 0 rfl) ?_
      refine mr_getI C hw kc_16 14 (Mp_N0 hk0) (Mp_T0 hk0) wd_2569 dX16_pack_27 (by decide) rfl ?_
      obtain ⟨x41, ex41, hD⟩ := g_let hD
      refine W.eq (g2 := F0 m 30 ls (.int x41 :: [])) (by rw [ex41]) ?_
      refine lv_istore_n (lv' := [(3, .int x41), (0, .ref (ad k)), (1, .long a1)]) C.1.1 C.1.2.1 dX16_pack_30 rfl hl (by decide) rfl (fun ls hl => ?_)
      refine lv_aload_n C.1.1 C.1.2.1 dX16_pack_31 rfl (lv_at hl 1 rfl) ?_
      refine lv_iconst (v := 1) C.1.1 C.1.2.1 dX16_pack_32 (by decide) ?_
      obtain ⟨M42, eM42, hD⟩ := g_let hD
      refine mr_putI C hw kc_16 14 (Mp_N0 hk0) (Mp_T0 hk0) wd_2569 dX16_pack_33 (by decide) rfl rfl (by decide +kernel) (by decide +kernel) (fun H locs hw => ?_)
      replace hw : mw_W G ad NF TF FF M42 L H locs := by rw [eM42]; exact hw
      refine lv_aload_n C.1.1 C.1.2.1 dX16_pack_36 rfl (lv_at hl 1 rfl) ?_
      refine lv_lload_n C.1.1 C.1.2.1 dX16_pack_37 rfl (lv_at hl 2 rfl) ?_
      obtain ⟨r45, M43, L44, h1, hD⟩ := g_b3 hD
      refine md_cvI (As := [.long a1]) (rest := []) C hw (tX16_packs l G ad fu k a1 M42 L h1 hk0) kc_16 (Mp_N0 hk0) (Mp_T0 hk0) wd_3413 cwX16_packs ⟨Nat.le_of_ble_eq_true rfl, Nat.le_of_ble_eq_true rfl⟩ rfl hl.1 (Nat.le_of_ble_eq_true rfl) dX16_pack_38 rfl rfl ⟨Nat.zero_le _, Nat.zero_le _⟩ rfl (fun H locs hw => ?_)
      refine lv_if_ne (tgt := 52) C.1.1 C.1.2.1 dX16_pack_41 (by decide) (fun c46 => ?_) (fun c46 => ?_)
      · replace hD := g_neg c46 hD
        refine lv_aload_n C.1.1 C.1.2.1 dX16_pack_52 rfl (lv_at hl 1 rfl) ?_
        refine lv_dup C.1.1 C.1.2.1 dX16_pack_53 rfl ?_
        refine mr_getI C hw kc_16 15 (Mp_N0 hk0) (Mp_T0 hk0) wd_2570 dX16_pack_54 (by decide) rfl ?_
        refine lv_iconst (v := 1) C.1.1 C.1.2.1 dX16_pack_57 (by decide) ?_
        refine lv_iadd C.1.1 C.1.2.1 dX16_pack_58 ?_
        obtain ⟨M47, eM47, hD⟩ := g_let hD
        refine mr_putI C hw kc_16 15 (Mp_N0 hk0) (Mp_T0 hk0) wd_2570 dX16_pack_59 (by decide) rfl rfl rfl rfl (fun H locs hw => ?_)
        replace hw : mw_W G ad NF TF FF M47 L44 H locs := by rw [eM47]; exact hw
        refine lv_iconst (v := 0) C.1.1 C.1.2.1 dX16_pack_62 (by decide) ?_
        refine lv_istore (lv' := [(4, .int 0), (3, .int x41), (0, .ref (ad k)), (1, .long a1)]) C.1.1 C.1.2.1 dX16_pack_63 hl (by decide) rfl (fun ls hl => ?_)
        refine lv_iconst (v := 1) C.1.1 C.1.2.1 dX16_pack_65 (by decide) ?_
        refine lv_istore (lv' := [(5, .int 1), (4, .int 0), (3, .int x41), (0, .ref (ad k)), (1, .long a1)]) C.1.1 C.1.2.1 dX16_pack_66 hl (by decide) rfl (fun ls hl => ?_)
        exact hh68 fu 0 1 M47 L44 _ _ ls hD hw (lv_sub hl [3, 1, 0] rfl)
      · replace hD := g_pos c46 hD
        refine lv_aload_n C.1.1 C.1.2.1 dX16_pack_44 rfl (lv_at hl 1 rfl) ?_
        refine lv_iload_n C.1.1 C.1.2.1 dX16_pack_45 rfl (lv_at hl 0 rfl) ?_
        obtain ⟨z48, hD⟩ := g_zz hD
        obtain ⟨M49, eM49, hD⟩ := g_let hD
        refine mr_putI C hw kc_16 14 (Mp_N0 hk0) (Mp_T0 hk0) wd_2569 dX16_pack_46 (by decide) rfl rfl (nz_zz z48) (ft_zz z48) (fun H locs hw => ?_)
        replace hw : mw_W G ad NF TF FF M49 L44 H locs := by rw [eM49]; exact hw
        refine lv_bipush (v := (-4)) C.1.1 C.1.2.1 dX16_pack_49 (by decide) ?_
        exact mr_iret C hr hlocks hw rfl (Option.some.inj hD) dX16_pack_51
    · replace hD := g_pos c40 hD
      refine lv_bipush (v := (-4)) C.1.1 C.1.2.1 dX16_pack_23 (by decide) ?_
      exact mr_iret C hr hlocks hw rfl (Option.some.inj hD) dX16_pack_25
  · replace hD := g_neg c39 hD
    refine lv_bipush (v := (-2)) C.1.1 C.1.2.1 dX16_pack_11 (by decide) ?_
    exact mr_iret C hr hlocks hw rfl (Option.some.inj hD) dX16_pack_13

theorem dX16_isNowhere_0 : decode cX16_isNowhere 0 = .ok (.aload_n 0, 1) := by decide +kernel
theorem dX16_isNowhere_1 : decode cX16_isNowhere 1 = .ok (.iload_n 1, 1) := by decide +kernel
theorem dX16_isNowhere_2 : decode cX16_isNowhere 2 = .ok (.invokevirtual 103, 3) := by decide +kernel
theorem dX16_isNowhere_5 : decode cX16_isNowhere 5 = .ok (.ifCond .ne 21, 3) := by decide +kernel
theorem dX16_isNowhere_8 : decode cX16_isNowhere 8 = .ok (.aload_n 0, 1) := by decide +kernel
theorem dX16_isNowhere_9 : decode cX16_isNowhere 9 = .ok (.getfield 44, 3) := by decide +kernel
theorem dX16_isNowhere_12 : decode cX16_isNowhere 12 = .ok (.sipush 129, 3) := by decide +kernel
theorem dX16_isNowhere_15 : decode cX16_isNowhere 15 = .ok (.aload_n 0, 1) := by decide +kernel
theorem dX16_isNowhere_16 : decode cX16_isNowhere 16 = .ok (.getfield 84, 3) := by decide +kernel
theorem dX16_isNowhere_19 : decode cX16_isNowhere 19 = .ok (.imul, 1) := by decide +kernel
theorem dX16_isNowhere_20 : decode cX16_isNowhere 20 = .ok (.iload_n 1, 1) := by decide +kernel
theorem dX16_isNowhere_21 : decode cX16_isNowhere 21 = .ok (.iadd, 1) := by decide +kernel
theorem dX16_isNowhere_22 : decode cX16_isNowhere 22 = .ok (.iaload, 1) := by decide +kernel
theorem dX16_isNowhere_23 : decode cX16_isNowhere 23 = .ok (.ifCond .ne 7, 3) := by decide +kernel
theorem dX16_isNowhere_26 : decode cX16_isNowhere 26 = .ok (.iconst 1, 1) := by decide +kernel
theorem dX16_isNowhere_27 : decode cX16_isNowhere 27 = .ok (.goto 4, 3) := by decide +kernel
theorem dX16_isNowhere_30 : decode cX16_isNowhere 30 = .ok (.iconst 0, 1) := by decide +kernel
theorem dX16_isNowhere_31 : decode cX16_isNowhere 31 = .ok (.ireturn, 1) := by decide +kernel
theorem cwX16_isNowhere : mw_cwV yX16_isNowhere cX16_isNowhere 2 ((some .boolean)) 1 := ⟨⟨wd_19, wd_3490, by decide +kernel⟩, wd_3489, sl_212⟩
set_option maxHeartbeats 4000000 in
set_option maxRecDepth 100000 in
theorem tX16_isNowhere (l : Launch) (G : mwG) (ad : Nat → Nat) (fu : Nat) (k : Nat) (a1 : Int32) (M : mwM) (L : mwL) {r0 : Int32} {M0 : mwM} {L0 : mwL} (hD : DX16_isNowhere fu k a1 M L = some (r0, M0, L0)) (hk0 : isMp k) : Met l yX16_isNowhere (Cond.code yX16_isNowhere cX16_isNowhere 2 ((some .boolean)) :: GT) ({ frames := 1, cells := 0, slots := 0, locals := 21 }) (mw_Pre G ad NF TF FF M L [.ref (ad k), .int a1]) (mw_Qi G ad NF TF FF (mw_eqI r0 M0 L0)) 0 0 (mw_fr G) := by
  refine mw_enter (by decide) (Nat.le_of_ble_eq_true rfl) ?_
  intro p e s m below meth c ls C hr hlocks hnm hw hl
  have hl : lv_has ls 2 [(0, .ref (ad k)), (1, .int a1)] := hl
  have hb31 : ∀ (s0 : Int32) (M : mwM) (L : mwL) (H : Heap) (locs : List Loc) (ls : Array Slot), fX16_isNowhere_b31 fu k a1 s0 M L = some (r0, M0, L0) → mw_W G ad NF TF FF M L H locs → lv_has ls 2 [] → W p l e ({ frames := 1, cells := 0, slots := 0, locals := 21 }) s m [.ref (ad k), .int a1].toArray below meth c H locs 0 0 (MQ below (mw_Qi G ad NF TF FF (mw_eqI r0 M0 L0)) [.ref (ad k), .int a1].toArray s 0 0 (mw_fr G)) (F0 m 31 ls [.int s0]) := by
    intro s0 M L H locs ls hD hw hl
    unfold fX16_isNowhere_b31 at hD
    obtain ⟨z1, hD⟩ := g_zz hD
    exact mr_iret C hr hlocks hw (nz_zz z1) (Option.some.inj hD) dX16_isNowhere_31
  have hb26 : ∀ (M : mwM) (L : mwL) (H : Heap) (locs : List Loc) (ls : Array Slot), fX16_isNowhere_b26 fu k a1 M L = some (r0, M0, L0) → mw_W G ad NF TF FF M L H locs → lv_has ls 2 [] → W p l e ({ frames := 1, cells := 0, slots := 0, locals := 21 }) s m [.ref (ad k), .int a1].toArray below meth c H locs 0 0 (MQ below (mw_Qi G ad NF TF FF (mw_eqI r0 M0 L0)) [.ref (ad k), .int a1].toArray s 0 0 (mw_fr G)) (F0 m 26 ls []) := by
    intro M L H locs ls hD hw hl
    unfold fX16_isNowhere_b26 at hD
    refine lv_iconst (v := 1) C.1.1 C.1.2.1 dX16_isNowhere_26 (by decide) ?_
    refine lv_goto (tgt := 31) C.1.1 C.1.2.1 dX16_isNowhere_27 (by decide) ?_
    exact hb31 1 M L _ _ ls hD hw (lv_sub hl [] rfl)
  unfold DX16_isNowhere at hD
  refine lv_aload_n C.1.1 C.1.2.1 dX16_isNowhere_0 rfl (lv_at hl 0 rfl) ?_
  refine lv_iload_n C.1.1 C.1.2.1 dX16_isNowhere_1 rfl (lv_at hl 1 rfl) ?_
  obtain ⟨r4, M2, L3, h1, hD⟩ := g_b3 hD
  refine md_cvI (As := [.int a1]) (rest := []) C hw (tX16_none l G ad fu k a1 M L h1 hk0) kc_16 (Mp_N0 hk0) (Mp_T0 hk0) wd_3483 cwX16_none ⟨Nat.le_of_ble_eq_true rfl, Nat.le_of_ble_eq_true rfl⟩ rfl hl.1 (Nat.le_of_ble_eq_true rfl) dX16_isNowhere_2 rfl rfl ⟨Nat.zero_le _, Nat.zero_le _⟩ rfl (fun H locs hw => ?_)
  refine lv_if_ne (tgt := 26) C.1.1 C.1.2.1 dX16_isNowhere_5 (by decide) (fun c5 => ?_) (fun c5 => ?_)
  · replace hD := g_neg c5 hD
    exact hb26 M2 L3 _ _ ls hD hw (lv_sub hl [] rfl)
  · replace hD := g_pos c5 hD
    refine lv_aload_n C.1.1 C.1.2.1 dX16_isNowhere_8 rfl (lv_at hl 0 rfl) ?_
    refine mr_getR C hw kc_16 16 (Mp_N0 hk0) (Mp_T0 hk0) (Mp_F0_16 hk0) wd_2571 dX16_isNowhere_9 (by decide) rfl ?_
    refine lv_sipush (v := 129) C.1.1 C.1.2.1 dX16_isNowhere_12 (by decide) ?_
    refine lv_aload_n C.1.1 C.1.2.1 dX16_isNowhere_15 rfl (lv_at hl 0 rfl) ?_
    refine mr_getI C hw kc_16 15 (Mp_N0 hk0) (Mp_T0 hk0) wd_2570 dX16_isNowhere_16 (by decide) rfl ?_
    refine lv_imul C.1.1 C.1.2.1 dX16_isNowhere_19 ?_
    refine lv_iload_n C.1.1 C.1.2.1 dX16_isNowhere_20 rfl (lv_at hl 1 rfl) ?_
    refine lv_iadd C.1.1 C.1.2.1 dX16_isNowhere_21 ?_
    obtain ⟨q6, hD⟩ := g_ck hD
    refine mr_iald C hw (Mp_N12 hk0) (Mp_T12 hk0) q6 dX16_isNowhere_22 ?_
    refine lv_if_ne (tgt := 30) C.1.1 C.1.2.1 dX16_isNowhere_23 (by decide) (fun c7 => ?_) (fun c7 => ?_)
    · replace hD := g_neg c7 hD
      refine lv_iconst (v := 0) C.1.1 C.1.2.1 dX16_isNowhere_30 (by decide) ?_
      exact hb31 0 M2 L3 _ _ ls hD hw (lv_sub hl [] rfl)
    · replace hD := g_pos c7 hD
      exact hb26 M2 L3 _ _ ls hD hw (lv_sub hl [] rfl)

theorem dX16_place_0 : decode cX16_place 0 = .ok (.aload_n 0, 1) := by decide +kernel
theorem dX16_place_1 : decode cX16_place 1 = .ok (.iconst 0, 1) := by decide +kernel
theorem dX16_place_2 : decode cX16_place 2 = .ok (.putfield 91, 3) := by decide +kernel
theorem dX16_place_5 : decode cX16_place 5 = .ok (.aload_n 0, 1) := by decide +kernel
theorem dX16_place_6 : decode cX16_place 6 = .ok (.iload_n 1, 1) := by decide +kernel
theorem dX16_place_7 : decode cX16_place 7 = .ok (.invokevirtual 103, 3) := by decide +kernel
theorem dX16_place_10 : decode cX16_place 10 = .ok (.ifCond .eq 5, 3) := by decide +kernel
theorem dX16_place_13 : decode cX16_place 13 = .ok (.iconst (-1), 1) := by decide +kernel
theorem dX16_place_14 : decode cX16_place 14 = .ok (.ireturn, 1) := by decide +kernel
theorem dX16_place_15 : decode cX16_place 15 = .ok (.iload_n 2, 1) := by decide +kernel
theorem dX16_place_16 : decode cX16_place 16 = .ok (.ifCond .lt 8, 3) := by decide +kernel
theorem dX16_place_19 : decode cX16_place 19 = .ok (.iload_n 2, 1) := by decide +kernel
theorem dX16_place_20 : decode cX16_place 20 = .ok (.iconst 2, 1) := by decide +kernel
theorem dX16_place_21 : decode cX16_place 21 = .ok (.if_icmp .le 6, 3) := by decide +kernel
theorem dX16_place_24 : decode cX16_place 24 = .ok (.bipush (-2), 2) := by decide +kernel
theorem dX16_place_26 : decode cX16_place 26 = .ok (.ireturn, 1) := by decide +kernel
theorem dX16_place_27 : decode cX16_place 27 = .ok (.aload_n 0, 1) := by decide +kernel
theorem dX16_place_28 : decode cX16_place 28 = .ok (.iload_n 1, 1) := by decide +kernel
theorem dX16_place_29 : decode cX16_place 29 = .ok (.invokevirtual 158, 3) := by decide +kernel
theorem dX16_place_32 : decode cX16_place 32 = .ok (.ifCond .eq 5, 3) := by decide +kernel
theorem dX16_place_35 : decode cX16_place 35 = .ok (.iconst 0, 1) := by decide +kernel
theorem dX16_place_36 : decode cX16_place 36 = .ok (.ireturn, 1) := by decide +kernel
theorem dX16_place_37 : decode cX16_place 37 = .ok (.iload_n 2, 1) := by decide +kernel
theorem dX16_place_38 : decode cX16_place 38 = .ok (.ifCond .ne 21, 3) := by decide +kernel
theorem dX16_place_41 : decode cX16_place 41 = .ok (.aload_n 0, 1) := by decide +kernel
theorem dX16_place_42 : decode cX16_place 42 = .ok (.getfield 44, 3) := by decide +kernel
theorem dX16_place_45 : decode cX16_place 45 = .ok (.sipush 129, 3) := by decide +kernel
theorem dX16_place_48 : decode cX16_place 48 = .ok (.aload_n 0, 1) := by decide +kernel
theorem dX16_place_49 : decode cX16_place 49 = .ok (.getfield 84, 3) := by decide +kernel
theorem dX16_place_52 : decode cX16_place 52 = .ok (.imul, 1) := by decide +kernel
theorem dX16_place_53 : decode cX16_place 53 = .ok (.iload_n 1, 1) := by decide +kernel
theorem dX16_place_54 : decode cX16_place 54 = .ok (.iadd, 1) := by decide +kernel
theorem dX16_place_55 : decode cX16_place 55 = .ok (.iaload, 1) := by decide +kernel
theorem dX16_place_56 : decode cX16_place 56 = .ok (.goto 36, 3) := by decide +kernel
theorem dX16_place_59 : decode cX16_place 59 = .ok (.iload_n 2, 1) := by decide +kernel
theorem dX16_place_60 : decode cX16_place 60 = .ok (.iconst 1, 1) := by decide +kernel
theorem dX16_place_61 : decode cX16_place 61 = .ok (.if_icmp .ne 21, 3) := by decide +kernel
theorem dX16_place_64 : decode cX16_place 64 = .ok (.aload_n 0, 1) := by decide +kernel
theorem dX16_place_65 : decode cX16_place 65 = .ok (.getfield 47, 3) := by decide +kernel
theorem dX16_place_68 : decode cX16_place 68 = .ok (.sipush 129, 3) := by decide +kernel
theorem dX16_place_71 : decode cX16_place 71 = .ok (.aload_n 0, 1) := by decide +kernel
theorem dX16_place_72 : decode cX16_place 72 = .ok (.getfield 84, 3) := by decide +kernel
theorem dX16_place_75 : decode cX16_place 75 = .ok (.imul, 1) := by decide +kernel
theorem dX16_place_76 : decode cX16_place 76 = .ok (.iload_n 1, 1) := by decide +kernel
theorem dX16_place_77 : decode cX16_place 77 = .ok (.iadd, 1) := by decide +kernel
theorem dX16_place_78 : decode cX16_place 78 = .ok (.iaload, 1) := by decide +kernel
theorem dX16_place_79 : decode cX16_place 79 = .ok (.goto 13, 3) := by decide +kernel
theorem dX16_place_82 : decode cX16_place 82 = .ok (.aload_n 0, 1) := by decide +kernel
theorem dX16_place_83 : decode cX16_place 83 = .ok (.aload_n 0, 1) := by decide +kernel
theorem dX16_place_84 : decode cX16_place 84 = .ok (.getfield 23, 3) := by decide +kernel
theorem dX16_place_87 : decode cX16_place 87 = .ok (.iload_n 1, 1) := by decide +kernel
theorem dX16_place_88 : decode cX16_place 88 = .ok (.iaload, 1) := by decide +kernel
theorem dX16_place_89 : decode cX16_place 89 = .ok (.invokevirtual 107, 3) := by decide +kernel
theorem dX16_place_92 : decode cX16_place 92 = .ok (.ireturn, 1) := by decide +kernel
theorem cwX16_place : mw_cwV yX16_place cX16_place 3 ((some .int)) 2 := ⟨⟨wd_19, wd_3482, by decide +kernel⟩, wd_3480, wd_3481⟩
set_option maxHeartbeats 4000000 in
set_option maxRecDepth 100000 in
theorem tX16_place (l : Launch) (G : mwG) (ad : Nat → Nat) (fu : Nat) (k : Nat) (a1 : Int32) (a2 : Int32) (M : mwM) (L : mwL) {r0 : Int32} {M0 : mwM} {L0 : mwL} (hD : DX16_place fu k a1 a2 M L = some (r0, M0, L0)) (hk0 : isMp k) : Met l yX16_place (Cond.code yX16_place cX16_place 3 ((some .int)) :: GT) ({ frames := 3, cells := 0, slots := 0, locals := 73 }) (mw_Pre G ad NF TF FF M L [.ref (ad k), .int a1, .int a2]) (mw_Qi G ad NF TF FF (mw_eqI r0 M0 L0)) 0 0 (mw_fr G) := by
  refine mw_enter (by decide) (Nat.le_of_ble_eq_true rfl) ?_
  intro p e s m below meth c ls C hr hlocks hnm hw hl
  have hl : lv_has ls 3 [(0, .ref (ad k)), (1, .int a1), (2, .int a2)] := hl
  have hb24 : ∀ (M : mwM) (L : mwL) (H : Heap) (locs : List Loc) (ls : Array Slot), fX16_place_b24 fu k a1 a2 M L = some (r0, M0, L0) → mw_W G ad NF TF FF M L H locs → lv_has ls 3 [] → W p l e ({ frames := 3, cells := 0, slots := 0, locals := 73 }) s m [.ref (ad k), .int a1, .int a2].toArray below meth c H locs 0 0 (MQ below (mw_Qi G ad NF TF FF (mw_eqI r0 M0 L0)) [.ref (ad k), .int a1, .int a2].toArray s 0 0 (mw_fr G)) (F0 m 24 ls []) := by
    intro M L H locs ls hD hw hl
    unfold fX16_place_b24 at hD
    refine lv_bipush (v := (-2)) C.1.1 C.1.2.1 dX16_place_24 (by decide) ?_
    exact mr_iret C hr hlocks hw rfl (Option.some.inj hD) dX16_place_26
  have hb92 : ∀ (s0 : Int32) (M : mwM) (L : mwL) (H : Heap) (locs : List Loc) (ls : Array Slot), fX16_place_b92 fu k a1 a2 s0 M L = some (r0, M0, L0) → mw_W G ad NF TF FF M L H locs → lv_has ls 3 [] → W p l e ({ frames := 3, cells := 0, slots := 0, locals := 73 }) s m [.ref (ad k), .int a1, .int a2].toArray below meth c H locs 0 0 (MQ below (mw_Qi G ad NF TF FF (mw_eqI r0 M0 L0)) [.ref (ad k), .int a1, .int a2].toArray s 0 0 (mw_fr G)) (F0 m 92 ls [.int s0]) := by
    intro s0 M L H locs ls hD hw hl
    unfold fX16_place_b92 at hD
    exact mr_iret C hr hlocks hw rfl (Option.some.inj hD) dX16_place_92
  unfold DX16_place at hD
  refine lv_aload_n C.1.1 C.1.2.1 dX16_place_0 rfl (lv_at hl 0 rfl) ?_
  refine lv_iconst (v := 0) C.1.1 C.1.2.1 dX16_place_1 (by decide) ?_
  obtain ⟨M1, eM1, hD⟩ := g_let hD
  refine mr_putI C hw kc_16 0 (Mp_N0 hk0) (Mp_T0 hk0) wd_2555 dX16_place_2 (by decide) rfl rfl rfl rfl (fun H locs hw => ?_)
  replace hw : mw_W G ad NF TF FF M1 L H locs := by rw [eM1]; exact hw
  refine lv_aload_n C.1.1 C.1.2.1 dX16_place_5 rfl (lv_at hl 0 rfl) ?_
  refine lv_iload_n C.1.1 C.1.2.1 dX16_place_6 rfl (lv_at hl 1 rfl) ?_
  obtain ⟨r4, M2, L3, h1, hD⟩ := g_b3 hD
  refine md_cvI (As := [.int a1]) (rest := []) C hw (tX16_none l G ad fu k a1 M1 L h1 hk0) kc_16 (Mp_N0 hk0) (Mp_T0 hk0) wd_3483 cwX16_none ⟨Nat.le_of_ble_eq_true rfl, Nat.le_of_ble_eq_true rfl⟩ rfl hl.1 (Nat.le_of_ble_eq_true rfl) dX16_place_7 rfl rfl ⟨Nat.zero_le _, Nat.zero_le _⟩ rfl (fun H locs hw => ?_)
  refine lv_if_eq (tgt := 15) C.1.1 C.1.2.1 dX16_place_10 (by decide) (fun c5 => ?_) (fun c5 => ?_)
  · replace hD := g_pos c5 hD
    refine lv_iload_n C.1.1 C.1.2.1 dX16_place_15 rfl (lv_at hl 2 rfl) ?_
    refine lv_if_lt (tgt := 24) C.1.1 C.1.2.1 dX16_place_16 (by decide) (fun c6 => ?_) (fun c6 => ?_)
    · replace hD := g_pos c6 hD
      exact hb24 M2 L3 _ _ ls hD hw (lv_sub hl [] rfl)
    · replace hD := g_neg c6 hD
      refine lv_iload_n C.1.1 C.1.2.1 dX16_place_19 rfl (lv_at hl 2 rfl) ?_
      refine lv_iconst (v := 2) C.1.1 C.1.2.1 dX16_place_20 (by decide) ?_
      refine lv_icmp_le (tgt := 27) C.1.1 C.1.2.1 dX16_place_21 (by decide) (fun c7 => ?_) (fun c7 => ?_)
      · replace hD := g_pos c7 hD
        refine lv_aload_n C.1.1 C.1.2.1 dX16_place_27 rfl (lv_at hl 0 rfl) ?_
        refine lv_iload_n C.1.1 C.1.2.1 dX16_place_28 rfl (lv_at hl 1 rfl) ?_
        obtain ⟨r10, M8, L9, h1, hD⟩ := g_b3 hD
        refine md_cvI (As := [.int a1]) (rest := []) C hw (tX16_isNowhere l G ad fu k a1 M2 L3 h1 hk0) kc_16 (Mp_N0 hk0) (Mp_T0 hk0) wd_3487 cwX16_isNowhere ⟨Nat.le_of_ble_eq_true rfl, Nat.le_of_ble_eq_true rfl⟩ rfl hl.1 (Nat.le_of_ble_eq_true rfl) dX16_place_29 rfl rfl ⟨Nat.zero_le _, Nat.zero_le _⟩ rfl (fun H locs hw => ?_)
        refine lv_if_eq (tgt := 37) C.1.1 C.1.2.1 dX16_place_32 (by decide) (fun c11 => ?_) (fun c11 => ?_)
        · replace hD := g_pos c11 hD
          refine lv_iload_n C.1.1 C.1.2.1 dX16_place_37 rfl (lv_at hl 2 rfl) ?_
          refine lv_if_ne (tgt := 59) C.1.1 C.1.2.1 dX16_place_38 (by decide) (fun c12 => ?_) (fun c12 => ?_)
          · replace hD := g_neg c12 hD
            refine lv_iload_n C.1.1 C.1.2.1 dX16_place_59 rfl (lv_at hl 2 rfl) ?_
            refine lv_iconst (v := 1) C.1.1 C.1.2.1 dX16_place_60 (by decide) ?_
            refine lv_icmp_ne (tgt := 82) C.1.1 C.1.2.1 dX16_place_61 (by decide) (fun c13 => ?_) (fun c13 => ?_)
            · replace hD := g_neg c13 hD
              refine lv_aload_n C.1.1 C.1.2.1 dX16_place_82 rfl (lv_at hl 0 rfl) ?_
              refine lv_aload_n C.1.1 C.1.2.1 dX16_place_83 rfl (lv_at hl 0 rfl) ?_
              refine mr_getR C hw kc_16 7 (Mp_N0 hk0) (Mp_T0 hk0) (Mp_F0_7 hk0) wd_2562 dX16_place_84 (by decide) rfl ?_
              refine lv_iload_n C.1.1 C.1.2.1 dX16_place_87 rfl (lv_at hl 1 rfl) ?_
              obtain ⟨q14, hD⟩ := g_ck hD
              refine mr_iald C hw (Mp_N5 hk0) (Mp_T5 hk0) q14 dX16_place_88 ?_
              obtain ⟨r17, M15, L16, h1, hD⟩ := g_b3 hD
              refine md_cvI (As := [.int (M8 (k + 5) a1.toNatClampNeg)]) (rest := []) C hw (tX16_size l G ad fu k (M8 (k + 5) a1.toNatClampNeg) M8 L9 h1 hk0) kc_16 (Mp_N0 hk0) (Mp_T0 hk0) wd_3421 cwX16_size ⟨Nat.le_of_ble_eq_true rfl, Nat.le_of_ble_eq_true rfl⟩ rfl hl.1 (Nat.le_of_ble_eq_true rfl) dX16_place_89 rfl rfl ⟨Nat.zero_le _, Nat.zero_le _⟩ rfl (fun H locs hw => ?_)
              exact hb92 r17 M15 L16 _ _ ls hD hw (lv_sub hl [] rfl)
            · replace hD := g_pos c13 hD
              refine lv_aload_n C.1.1 C.1.2.1 dX16_place_64 rfl (lv_at hl 0 rfl) ?_
              refine mr_getR C hw kc_16 17 (Mp_N0 hk0) (Mp_T0 hk0) (Mp_F0_17 hk0) wd_2572 dX16_place_65 (by decide) rfl ?_
              refine lv_sipush (v := 129) C.1.1 C.1.2.1 dX16_place_68 (by decide) ?_
              refine lv_aload_n C.1.1 C.1.2.1 dX16_place_71 rfl (lv_at hl 0 rfl) ?_
              refine mr_getI C hw kc_16 15 (Mp_N0 hk0) (Mp_T0 hk0) wd_2570 dX16_place_72 (by decide) rfl ?_
              refine lv_imul C.1.1 C.1.2.1 dX16_place_75 ?_
              refine lv_iload_n C.1.1 C.1.2.1 dX16_place_76 rfl (lv_at hl 1 rfl) ?_
              refine lv_iadd C.1.1 C.1.2.1 dX16_place_77 ?_
              obtain ⟨q18, hD⟩ := g_ck hD
              refine mr_iald C hw (Mp_N13 hk0) (Mp_T13 hk0) q18 dX16_place_78 ?_
              refine lv_goto (tgt := 92) C.1.1 C.1.2.1 dX16_place_79 (by decide) ?_
              exact hb92 (M8 (k + 13) ((129 * (M8 k 15)) + a1).toNatClampNeg) M8 L9 _ _ ls hD hw (lv_sub hl [] rfl)
          · replace hD := g_pos c12 hD
            refine lv_aload_n C.1.1 C.1.2.1 dX16_place_41 rfl (lv_at hl 0 rfl) ?_
            refine mr_getR C hw kc_16 16 (Mp_N0 hk0) (Mp_T0 hk0) (Mp_F0_16 hk0) wd_2571 dX16_place_42 (by decide) rfl ?_
            refine lv_sipush (v := 129) C.1.1 C.1.2.1 dX16_place_45 (by decide) ?_
            refine lv_aload_n C.1.1 C.1.2.1 dX16_place_48 rfl (lv_at hl 0 rfl) ?_
            refine mr_getI C hw kc_16 15 (Mp_N0 hk0) (Mp_T0 hk0) wd_2570 dX16_place_49 (by decide) rfl ?_
            refine lv_imul C.1.1 C.1.2.1 dX16_place_52 ?_
            refine lv_iload_n C.1.1 C.1.2.1 dX16_place_53 rfl (lv_at hl 1 rfl) ?_
            refine lv_iadd C.1.1 C.1.2.1 dX16_place_54 ?_
            obtain ⟨q19, hD⟩ := g_ck hD
            refine mr_iald C hw (Mp_N12 hk0) (Mp_T12 hk0) q19 dX16_place_55 ?_
            refine lv_goto (tgt := 92) C.1.1 C.1.2.1 dX16_place_56 (by decide) ?_
            exact hb92 (M8 (k + 12) ((129 * (M8 k 15)) + a1).toNatClampNeg) M8 L9 _ _ ls hD hw (lv_sub hl [] rfl)
        · replace hD := g_neg c11 hD
          refine lv_iconst (v := 0) C.1.1 C.1.2.1 dX16_place_35 (by decide) ?_
          exact mr_iret C hr hlocks hw rfl (Option.some.inj hD) dX16_place_36
      · replace hD := g_neg c7 hD
        exact hb24 M2 L3 _ _ ls hD hw (lv_sub hl [] rfl)
  · replace hD := g_neg c5 hD
    refine lv_iconst (v := (-1)) C.1.1 C.1.2.1 dX16_place_13 (by decide) ?_
    exact mr_iret C hr hlocks hw rfl (Option.some.inj hD) dX16_place_14
