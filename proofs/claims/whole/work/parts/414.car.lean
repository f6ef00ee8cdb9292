theorem dX1_passMicrosecond_0 : decode cX1_passMicrosecond 0 = .ok (.aload_n 0, 1) := by decide +kernel
theorem dX1_passMicrosecond_1 : decode cX1_passMicrosecond 1 = .ok (.aload_n 0, 1) := by decide +kernel
theorem dX1_passMicrosecond_2 : decode cX1_passMicrosecond 2 = .ok (.getfield 100, 3) := by decide +kernel
theorem dX1_passMicrosecond_5 : decode cX1_passMicrosecond 5 = .ok (.invokevirtual 140, 3) := by decide +kernel
theorem dX1_passMicrosecond_8 : decode cX1_passMicrosecond 8 = .ok (.aload_n 0, 1) := by decide +kernel
theorem dX1_passMicrosecond_9 : decode cX1_passMicrosecond 9 = .ok (.getfield 27, 3) := by decide +kernel
theorem dX1_passMicrosecond_12 : decode cX1_passMicrosecond 12 = .ok (.aload_n 0, 1) := by decide +kernel
theorem dX1_passMicrosecond_13 : decode cX1_passMicrosecond 13 = .ok (.getfield 100, 3) := by decide +kernel
theorem dX1_passMicrosecond_16 : decode cX1_passMicrosecond 16 = .ok (.invokevirtual 143, 3) := by decide +kernel
theorem dX1_passMicrosecond_19 : decode cX1_passMicrosecond 19 = .ok (.aload_n 0, 1) := by decide +kernel
theorem dX1_passMicrosecond_20 : decode cX1_passMicrosecond 20 = .ok (.getfield 20, 3) := by decide +kernel
theorem dX1_passMicrosecond_23 : decode cX1_passMicrosecond 23 = .ok (.aload_n 0, 1) := by decide +kernel
theorem dX1_passMicrosecond_24 : decode cX1_passMicrosecond 24 = .ok (.getfield 100, 3) := by decide +kernel
theorem dX1_passMicrosecond_27 : decode cX1_passMicrosecond 27 = .ok (.invokevirtual 146, 3) := by decide +kernel
theorem dX1_passMicrosecond_30 : decode cX1_passMicrosecond 30 = .ok (.aload_n 0, 1) := by decide +kernel
theorem dX1_passMicrosecond_31 : decode cX1_passMicrosecond 31 = .ok (.dup, 1) := by decide +kernel
theorem dX1_passMicrosecond_32 : decode cX1_passMicrosecond 32 = .ok (.getfield 100, 3) := by decide +kernel
theorem dX1_passMicrosecond_35 : decode cX1_passMicrosecond 35 = .ok (.iconst 1, 1) := by decide +kernel
theorem dX1_passMicrosecond_36 : decode cX1_passMicrosecond 36 = .ok (.iadd, 1) := by decide +kernel
theorem dX1_passMicrosecond_37 : decode cX1_passMicrosecond 37 = .ok (.putfield 100, 3) := by decide +kernel
theorem dX1_passMicrosecond_40 : decode cX1_passMicrosecond 40 = .ok (.aload_n 0, 1) := by decide +kernel
theorem dX1_passMicrosecond_41 : decode cX1_passMicrosecond 41 = .ok (.getfield 27, 3) := by decide +kernel
theorem dX1_passMicrosecond_44 : decode cX1_passMicrosecond 44 = .ok (.getfield 149, 3) := by decide +kernel
theorem dX1_passMicrosecond_47 : decode cX1_passMicrosecond 47 = .ok (.ifCond .eq 7, 3) := by decide +kernel
theorem dX1_passMicrosecond_50 : decode cX1_passMicrosecond 50 = .ok (.aload_n 0, 1) := by decide +kernel
theorem dX1_passMicrosecond_51 : decode cX1_passMicrosecond 51 = .ok (.invokevirtual 152, 3) := by decide +kernel
theorem dX1_passMicrosecond_54 : decode cX1_passMicrosecond 54 = .ok (.iconst 0, 1) := by decide +kernel
theorem dX1_passMicrosecond_55 : decode cX1_passMicrosecond 55 = .ok (.istore_n 1, 1) := by decide +kernel
theorem dX1_passMicrosecond_56 : decode cX1_passMicrosecond 56 = .ok (.iload_n 1, 1) := by decide +kernel
theorem dX1_passMicrosecond_57 : decode cX1_passMicrosecond 57 = .ok (.bipush 12, 2) := by decide +kernel
theorem dX1_passMicrosecond_59 : decode cX1_passMicrosecond 59 = .ok (.if_icmp .ge 63, 3) := by decide +kernel
theorem dX1_passMicrosecond_62 : decode cX1_passMicrosecond 62 = .ok (.aload_n 0, 1) := by decide +kernel
theorem dX1_passMicrosecond_63 : decode cX1_passMicrosecond 63 = .ok (.getfield 20, 3) := by decide +kernel
theorem dX1_passMicrosecond_66 : decode cX1_passMicrosecond 66 = .ok (.getfield 155, 3) := by decide +kernel
theorem dX1_passMicrosecond_69 : decode cX1_passMicrosecond 69 = .ok (.iload_n 1, 1) := by decide +kernel
theorem dX1_passMicrosecond_70 : decode cX1_passMicrosecond 70 = .ok (.ishr, 1) := by decide +kernel
theorem dX1_passMicrosecond_71 : decode cX1_passMicrosecond 71 = .ok (.ifCond .eq 51, 3) := by decide +kernel
theorem dX1_passMicrosecond_74 : decode cX1_passMicrosecond 74 = .ok (.aload_n 0, 1) := by decide +kernel
theorem dX1_passMicrosecond_75 : decode cX1_passMicrosecond 75 = .ok (.getfield 20, 3) := by decide +kernel
theorem dX1_passMicrosecond_78 : decode cX1_passMicrosecond 78 = .ok (.getfield 155, 3) := by decide +kernel
theorem dX1_passMicrosecond_81 : decode cX1_passMicrosecond 81 = .ok (.iload_n 1, 1) := by decide +kernel
theorem dX1_passMicrosecond_82 : decode cX1_passMicrosecond 82 = .ok (.ishr, 1) := by decide +kernel
theorem dX1_passMicrosecond_83 : decode cX1_passMicrosecond 83 = .ok (.iconst 1, 1) := by decide +kernel
theorem dX1_passMicrosecond_84 : decode cX1_passMicrosecond 84 = .ok (.iand, 1) := by decide +kernel
theorem dX1_passMicrosecond_85 : decode cX1_passMicrosecond 85 = .ok (.iconst 1, 1) := by decide +kernel
theorem dX1_passMicrosecond_86 : decode cX1_passMicrosecond 86 = .ok (.if_icmp .ne 30, 3) := by decide +kernel
theorem dX1_passMicrosecond_89 : decode cX1_passMicrosecond 89 = .ok (.aload_n 0, 1) := by decide +kernel
theorem dX1_passMicrosecond_90 : decode cX1_passMicrosecond 90 = .ok (.getfield 66, 3) := by decide +kernel
theorem dX1_passMicrosecond_93 : decode cX1_passMicrosecond 93 = .ok (.iload_n 1, 1) := by decide +kernel
theorem dX1_passMicrosecond_94 : decode cX1_passMicrosecond 94 = .ok (.iaload, 1) := by decide +kernel
theorem dX1_passMicrosecond_95 : decode cX1_passMicrosecond 95 = .ok (.ifCond .lt 21, 3) := by decide +kernel
theorem dX1_passMicrosecond_98 : decode cX1_passMicrosecond 98 = .ok (.aload_n 0, 1) := by decide +kernel
theorem dX1_passMicrosecond_99 : decode cX1_passMicrosecond 99 = .ok (.getfield 11, 3) := by decide +kernel
theorem dX1_passMicrosecond_102 : decode cX1_passMicrosecond 102 = .ok (.aload_n 0, 1) := by decide +kernel
theorem dX1_passMicrosecond_103 : decode cX1_passMicrosecond 103 = .ok (.getfield 66, 3) := by decide +kernel
theorem dX1_passMicrosecond_106 : decode cX1_passMicrosecond 106 = .ok (.iload_n 1, 1) := by decide +kernel
theorem dX1_passMicrosecond_107 : decode cX1_passMicrosecond 107 = .ok (.iaload, 1) := by decide +kernel
theorem dX1_passMicrosecond_108 : decode cX1_passMicrosecond 108 = .ok (.aaload, 1) := by decide +kernel
theorem dX1_passMicrosecond_109 : decode cX1_passMicrosecond 109 = .ok (.aload_n 0, 1) := by decide +kernel
theorem dX1_passMicrosecond_110 : decode cX1_passMicrosecond 110 = .ok (.getfield 100, 3) := by decide +kernel
theorem dX1_passMicrosecond_113 : decode cX1_passMicrosecond 113 = .ok (.invokevirtual 156, 3) := by decide +kernel
theorem dX1_passMicrosecond_116 : decode cX1_passMicrosecond 116 = .ok (.iinc 1 1, 3) := by decide +kernel
theorem dX1_passMicrosecond_119 : decode cX1_passMicrosecond 119 = .ok (.goto (-63), 3) := by decide +kernel
theorem dX1_passMicrosecond_122 : decode cX1_passMicrosecond 122 = .ok (.aload_n 0, 1) := by decide +kernel
theorem dX1_passMicrosecond_123 : decode cX1_passMicrosecond 123 = .ok (.getfield 48, 3) := by decide +kernel
theorem dX1_passMicrosecond_126 : decode cX1_passMicrosecond 126 = .ok (.aload_n 0, 1) := by decide +kernel
theorem dX1_passMicrosecond_127 : decode cX1_passMicrosecond 127 = .ok (.getfield 100, 3) := by decide +kernel
theorem dX1_passMicrosecond_130 : decode cX1_passMicrosecond 130 = .ok (.invokevirtual 159, 3) := by decide +kernel
theorem dX1_passMicrosecond_133 : decode cX1_passMicrosecond 133 = .ok (.aload_n 0, 1) := by decide +kernel
theorem dX1_passMicrosecond_134 : decode cX1_passMicrosecond 134 = .ok (.invokevirtual 162, 3) := by decide +kernel
theorem dX1_passMicrosecond_137 : decode cX1_passMicrosecond 137 = .ok (.return_, 1) := by decide +kernel
theorem cwX1_passMicrosecond : mw_cwV yX1_passMicrosecond cX1_passMicrosecond 2 (none) 0 := ⟨⟨wd_3, wd_1294, by decide +kernel⟩, wd_1292, wd_1293⟩
set_option maxHeartbeats 4000000 in
set_option maxRecDepth 100000 in
theorem tX1_passMicrosecond (l : Launch) (G : mwG) (ad : Nat → Nat) (fu : Nat) (M : mwM) (L : mwL) {M0 : mwM} {L0 : mwL} (hD : DX1_passMicrosecond fu M L = some (M0, L0)) : Met l yX1_passMicrosecond (Cond.code yX1_passMicrosecond cX1_passMicrosecond 2 (none) :: GT) ({ frames := 7, cells := 0, slots := 0, locals := 158 }) (mw_Pre G ad NF TF FF M L [.ref (ad 3)]) (mw_Qv G ad NF TF FF (mw_eqV M0 L0)) 0 0 (mw_fr G) := by
  refine mw_enter (by decide) (Nat.le_of_ble_eq_true rfl) ?_
  intro p e s m below meth c ls C hr hlocks hnm hw hl
  have hl : lv_has ls 2 [(0, .ref (ad 3))] := hl
  have hb122 : ∀ (M : mwM) (L : mwL) (H : Heap) (locs : List Loc) (ls : Array Slot), fX1_passMicrosecond_b122 fu M L = some (M0, L0) → mw_W G ad NF TF FF M L H locs → lv_has ls 2 [(0, .ref (ad 3))] → W p l e ({ frames := 7, cells := 0, slots := 0, locals := 158 }) s m [.ref (ad 3)].toArray below meth c H locs 0 0 (MQ below (mw_Qv G ad NF TF FF (mw_eqV M0 L0)) [.ref (ad 3)].toArray s 0 0 (mw_fr G)) (F0 m 122 ls []) := by
    intro M L H locs ls hD hw hl
    unfold fX1_passMicrosecond_b122 at hD
    refine lv_aload_n C.1.1 C.1.2.1 dX1_passMicrosecond_122 rfl (lv_at hl 0 rfl) ?_
    refine mr_getR C hw kc_1 5 (by decide) tf_3 ff_3_5 wd_524 dX1_passMicrosecond_123 (by decide) rfl ?_
    refine lv_aload_n C.1.1 C.1.2.1 dX1_passMicrosecond_126 rfl (lv_at hl 0 rfl) ?_
    refine mr_getI C hw kc_1 16 (by decide) tf_3 wd_547 dX1_passMicrosecond_127 (by decide) rfl ?_
    obtain ⟨M11, L12, h1, hD⟩ := g_b2 hD
    refine md_cvV (As := [.int (M 3 16)]) (rest := []) C hw (tX10_lookForSilence l G ad fu (M 3 16) M L h1) kc_10 (by decide) tf_139 wd_1723 cwX10_lookForSilence ⟨Nat.le_of_ble_eq_true rfl, Nat.le_of_ble_eq_true rfl⟩ rfl hl.1 (Nat.le_of_ble_eq_true rfl) dX1_passMicrosecond_130 rfl rfl ⟨Nat.zero_le _, Nat.zero_le _⟩ rfl (fun H locs hw => ?_)
    refine lv_aload_n C.1.1 C.1.2.1 dX1_passMicrosecond_133 rfl (lv_at hl 0 rfl) ?_
    obtain ⟨M13, L14, h1, hD⟩ := g_b2 hD
    refine md_cvV (As := []) (rest := []) C hw (tX1_passTransfer l G ad fu M11 L12 h1) kc_1 (by decide) tf_3 wd_1755 cwX1_passTransfer ⟨Nat.le_of_ble_eq_true rfl, Nat.le_of_ble_eq_true rfl⟩ rfl hl.1 (Nat.le_of_ble_eq_true rfl) dX1_passMicrosecond_134 rfl rfl ⟨Nat.zero_le _, Nat.zero_le _⟩ rfl (fun H locs hw => ?_)
    exact mr_vret C hr hlocks hw (Option.some.inj hD) dX1_passMicrosecond_137
  have hh56 : ∀ (f : Nat) (v1 : Int32) (M : mwM) (L : mwL) (H : Heap) (locs : List Loc) (ls : Array Slot), fX1_passMicrosecond_h56 fu f (v1, M, L) = some (M0, L0) → mw_W G ad NF TF FF M L H locs → lv_has ls 2 [(0, .ref (ad 3)), (1, .int v1)] → W p l e ({ frames := 7, cells := 0, slots := 0, locals := 158 }) s m [.ref (ad 3)].toArray below meth c H locs 0 0 (MQ below (mw_Qv G ad NF TF FF (mw_eqV M0 L0)) [.ref (ad 3)].toArray s 0 0 (mw_fr G)) (F0 m 56 ls []) := by
    intro f
    induction f with
    | zero => intro v1 M L H locs ls hD; cases hD
    | succ f56 ih56 =>
      intro v1 M L H locs ls hD hw hl
      replace hD : fX1_passMicrosecond_i56 fu (fX1_passMicrosecond_h56 fu f56) v1 M L = some (M0, L0) := hD
      have hb116 : ∀ (v1 : Int32) (M : mwM) (L : mwL) (H : Heap) (locs : List Loc) (ls : Array Slot), fX1_passMicrosecond_b116 fu (fX1_passMicrosecond_h56 fu f56) v1 M L = some (M0, L0) → mw_W G ad NF TF FF M L H locs → lv_has ls 2 [(0, .ref (ad 3)), (1, .int v1)] → W p l e ({ frames := 7, cells := 0, slots := 0, locals := 158 }) s m [.ref (ad 3)].toArray below meth c H locs 0 0 (MQ below (mw_Qv G ad NF TF FF (mw_eqV M0 L0)) [.ref (ad 3)].toArray s 0 0 (mw_fr G)) (F0 m 116 ls []) := by
        intro v1 M L H locs ls hD hw hl
        unfold fX1_passMicrosecond_b116 at hD
        obtain ⟨x10, ex10, hD⟩ := g_let hD
        refine lv_iinc (v := x10) (lv' := [(1, .int x10), (0, .ref (ad 3))]) C.1.1 C.1.2.1 dX1_passMicrosecond_116 hl (k := 1) rfl (by rw [ex10]; rfl) (by decide) rfl (fun ls hl => ?_)
        refine lv_goto (tgt := 56) C.1.1 C.1.2.1 dX1_passMicrosecond_119 (by decide) ?_
        exact ih56 x10 M L _ _ ls hD hw (lv_sub hl [1, 0] rfl)
      unfold fX1_passMicrosecond_i56 at hD
      refine lv_iload_n C.1.1 C.1.2.1 dX1_passMicrosecond_56 rfl (lv_at hl 1 rfl) ?_
      refine lv_bipush (v := 12) C.1.1 C.1.2.1 dX1_passMicrosecond_57 (by decide) ?_
      refine lv_icmp_ge (tgt := 122) C.1.1 C.1.2.1 dX1_passMicrosecond_59 (by decide) (fun c1 => ?_) (fun c1 => ?_)
      · replace hD := g_pos c1 hD
        exact hb122 M L _ _ ls hD hw (lv_sub hl [0] rfl)
      · replace hD := g_neg c1 hD
        refine lv_aload_n C.1.1 C.1.2.1 dX1_passMicrosecond_62 rfl (lv_at hl 0 rfl) ?_
        refine mr_getR C hw kc_1 1 (by decide) tf_3 ff_3_1 wd_514 dX1_passMicrosecond_63 (by decide) rfl ?_
        refine mr_getNI C hw kc_4 5 (by decide) tf_5 nd_73 dX1_passMicrosecond_66 (by decide) rfl ?_
        refine lv_iload_n C.1.1 C.1.2.1 dX1_passMicrosecond_69 rfl (lv_at hl 1 rfl) ?_
        refine lv_ishr C.1.1 C.1.2.1 dX1_passMicrosecond_70 ?_
        refine lv_if_eq (tgt := 122) C.1.1 C.1.2.1 dX1_passMicrosecond_71 (by decide) (fun c2 => ?_) (fun c2 => ?_)
        · replace hD := g_pos c2 hD
          exact hb122 M L _ _ ls hD hw (lv_sub hl [0] rfl)
        · replace hD := g_neg c2 hD
          refine lv_aload_n C.1.1 C.1.2.1 dX1_passMicrosecond_74 rfl (lv_at hl 0 rfl) ?_
          refine mr_getR C hw kc_1 1 (by decide) tf_3 ff_3_1 wd_514 dX1_passMicrosecond_75 (by decide) rfl ?_
          refine mr_getNI C hw kc_4 5 (by decide) tf_5 nd_73 dX1_passMicrosecond_78 (by decide) rfl ?_
          refine lv_iload_n C.1.1 C.1.2.1 dX1_passMicrosecond_81 rfl (lv_at hl 1 rfl) ?_
          refine lv_ishr C.1.1 C.1.2.1 dX1_passMicrosecond_82 ?_
          refine lv_iconst (v := 1) C.1.1 C.1.2.1 dX1_passMicrosecond_83 (by decide) ?_
          refine lv_iand C.1.1 C.1.2.1 dX1_passMicrosecond_84 ?_
          refine lv_iconst (v := 1) C.1.1 C.1.2.1 dX1_passMicrosecond_85 (by decide) ?_
          refine lv_icmp_ne (tgt := 116) C.1.1 C.1.2.1 dX1_passMicrosecond_86 (by decide) (fun c3 => ?_) (fun c3 => ?_)
          · replace hD := g_neg c3 hD
            exact hb116 v1 M L _ _ ls hD hw (lv_sub hl [0, 1] rfl)
          · replace hD := g_pos c3 hD
            refine lv_aload_n C.1.1 C.1.2.1 dX1_passMicrosecond_89 rfl (lv_at hl 0 rfl) ?_
            refine mr_getR C hw kc_1 8 (by decide) tf_3 ff_3_8 wd_531 dX1_passMicrosecond_90 (by decide) rfl ?_
            refine lv_iload_n C.1.1 C.1.2.1 dX1_passMicrosecond_93 rfl (lv_at hl 1 rfl) ?_
            obtain ⟨q4, hD⟩ := g_ck hD
            refine mr_iald C hw (by decide) tf_283 q4 dX1_passMicrosecond_94 ?_
            refine lv_if_lt (tgt := 116) C.1.1 C.1.2.1 dX1_passMicrosecond_95 (by decide) (fun c5 => ?_) (fun c5 => ?_)
            · replace hD := g_pos c5 hD
              exact hb116 v1 M L _ _ ls hD hw (lv_sub hl [0, 1] rfl)
            · replace hD := g_neg c5 hD
              refine lv_aload_n C.1.1 C.1.2.1 dX1_passMicrosecond_98 rfl (lv_at hl 0 rfl) ?_
              refine mr_getR C hw kc_1 0 (by decide) tf_3 ff_3_0 wd_510 dX1_passMicrosecond_99 (by decide) rfl ?_
              refine lv_aload_n C.1.1 C.1.2.1 dX1_passMicrosecond_102 rfl (lv_at hl 0 rfl) ?_
              refine mr_getR C hw kc_1 8 (by decide) tf_3 ff_3_8 wd_531 dX1_passMicrosecond_103 (by decide) rfl ?_
              refine lv_iload_n C.1.1 C.1.2.1 dX1_passMicrosecond_106 rfl (lv_at hl 1 rfl) ?_
              obtain ⟨q6, hD⟩ := g_ck hD
              refine mr_iald C hw (by decide) tf_283 q6 dX1_passMicrosecond_107 ?_
              obtain ⟨q7, hD⟩ := g_ck hD
              refine mr_aald C hw (by decide) tf_4 (by decide) (by decide) rfl rfl q7 (fr_4 _ (g_lt q7)) dX1_passMicrosecond_108 ?_
              refine lv_aload_n C.1.1 C.1.2.1 dX1_passMicrosecond_109 rfl (lv_at hl 0 rfl) ?_
              refine mr_getI C hw kc_1 16 (by decide) tf_3 wd_547 dX1_passMicrosecond_110 (by decide) rfl ?_
              obtain ⟨M8, L9, h1, hD⟩ := g_b2 hD
              refine md_cvV (As := [.int (M 3 16)]) (rest := []) C hw (tX2_workOff l G ad fu ((293 + 36 * (M 283 v1.toNatClampNeg).toNatClampNeg)) (M 3 16) M L h1 (isCh_of (g_lt q7))) kc_2 (Ch_N0 (isCh_of (g_lt q7))) (Ch_T0 (isCh_of (g_lt q7))) wd_1647 cwX2_workOff ⟨Nat.le_of_ble_eq_true rfl, Nat.le_of_ble_eq_true rfl⟩ rfl hl.1 (Nat.le_of_ble_eq_true rfl) dX1_passMicrosecond_113 rfl rfl ⟨Nat.zero_le _, Nat.zero_le _⟩ rfl (fun H locs hw => ?_)
              exact hb116 v1 M8 L9 _ _ ls hD hw (lv_sub hl [0, 1] rfl)
  have hb54 : ∀ (M : mwM) (L : mwL) (H : Heap) (locs : List Loc) (ls : Array Slot), fX1_passMicrosecond_b54 fu M L = some (M0, L0) → mw_W G ad NF TF FF M L H locs → lv_has ls 2 [(0, .ref (ad 3))] → W p l e ({ frames := 7, cells := 0, slots := 0, locals := 158 }) s m [.ref (ad 3)].toArray below meth c H locs 0 0 (MQ below (mw_Qv G ad NF TF FF (mw_eqV M0 L0)) [.ref (ad 3)].toArray s 0 0 (mw_fr G)) (F0 m 54 ls []) := by
    intro M L H locs ls hD hw hl
    unfold fX1_passMicrosecond_b54 at hD
    refine lv_iconst (v := 0) C.1.1 C.1.2.1 dX1_passMicrosecond_54 (by decide) ?_
    refine lv_istore_n (lv' := [(1, .int 0), (0, .ref (ad 3))]) C.1.1 C.1.2.1 dX1_passMicrosecond_55 rfl hl (by decide) rfl (fun ls hl => ?_)
    exact hh56 fu 0 M L _ _ ls hD hw (lv_sub hl [1, 0] rfl)
  unfold DX1_passMicrosecond at hD
  refine lv_aload_n C.1.1 C.1.2.1 dX1_passMicrosecond_0 rfl (lv_at hl 0 rfl) ?_
  refine lv_aload_n C.1.1 C.1.2.1 dX1_passMicrosecond_1 rfl (lv_at hl 0 rfl) ?_
  refine mr_getI C hw kc_1 16 (by decide) tf_3 wd_547 dX1_passMicrosecond_2 (by decide) rfl ?_
  obtain ⟨M15, L16, h1, hD⟩ := g_b2 hD
  refine md_cvV (As := [.int (M 3 16)]) (rest := []) C hw (tX1_sendFrames l G ad fu (M 3 16) M L h1) kc_1 (by decide) tf_3 wd_1295 cwX1_sendFrames ⟨Nat.le_of_ble_eq_true rfl, Nat.le_of_ble_eq_true rfl⟩ rfl hl.1 (Nat.le_of_ble_eq_true rfl) dX1_passMicrosecond_5 rfl rfl ⟨Nat.zero_le _, Nat.zero_le _⟩ rfl (fun H locs hw => ?_)
  refine lv_aload_n C.1.1 C.1.2.1 dX1_passMicrosecond_8 rfl (lv_at hl 0 rfl) ?_
  refine mr_getR C hw kc_1 2 (by decide) tf_3 ff_3_2 wd_517 dX1_passMicrosecond_9 (by decide) rfl ?_
  refine lv_aload_n C.1.1 C.1.2.1 dX1_passMicrosecond_12 rfl (lv_at hl 0 rfl) ?_
  refine mr_getI C hw kc_1 16 (by decide) tf_3 wd_547 dX1_passMicrosecond_13 (by decide) rfl ?_
  obtain ⟨M17, L18, h1, hD⟩ := g_b2 hD
  refine md_cvV (As := [.int (M15 3 16)]) (rest := []) C hw (tX0_passBit l G ad fu (M15 3 16) M15 L16 h1) kc_0 (by decide) tf_20 wd_1337 cwX0_passBit ⟨Nat.le_of_ble_eq_true rfl, Nat.le_of_ble_eq_true rfl⟩ rfl hl.1 (Nat.le_of_ble_eq_true rfl) dX1_passMicrosecond_16 rfl rfl ⟨Nat.zero_le _, Nat.zero_le _⟩ rfl (fun H locs hw => ?_)
  refine lv_aload_n C.1.1 C.1.2.1 dX1_passMicrosecond_19 rfl (lv_at hl 0 rfl) ?_
  refine mr_getR C hw kc_1 1 (by decide) tf_3 ff_3_1 wd_514 dX1_passMicrosecond_20 (by decide) rfl ?_
  refine lv_aload_n C.1.1 C.1.2.1 dX1_passMicrosecond_23 rfl (lv_at hl 0 rfl) ?_
  refine mr_getI C hw kc_1 16 (by decide) tf_3 wd_547 dX1_passMicrosecond_24 (by decide) rfl ?_
  obtain ⟨M19, L20, h1, hD⟩ := g_b2 hD
  refine md_cvV (As := [.int (M17 3 16)]) (rest := []) C hw (tX4_passMicrosecond l G ad fu (M17 3 16) M17 L18 h1) kc_4 (by decide) tf_5 wd_1472 cwX4_passMicrosecond ⟨Nat.le_of_ble_eq_true rfl, Nat.le_of_ble_eq_true rfl⟩ rfl hl.1 (Nat.le_of_ble_eq_true rfl) dX1_passMicrosecond_27 rfl rfl ⟨Nat.zero_le _, Nat.zero_le _⟩ rfl (fun H locs hw => ?_)
  refine lv_aload_n C.1.1 C.1.2.1 dX1_passMicrosecond_30 rfl (lv_at hl 0 rfl) ?_
  refine lv_dup C.1.1 C.1.2.1 dX1_passMicrosecond_31 rfl ?_
  refine mr_getI C hw kc_1 16 (by decide) tf_3 wd_547 dX1_passMicrosecond_32 (by decide) rfl ?_
  refine lv_iconst (v := 1) C.1.1 C.1.2.1 dX1_passMicrosecond_35 (by decide) ?_
  refine lv_iadd C.1.1 C.1.2.1 dX1_passMicrosecond_36 ?_
  obtain ⟨M21, eM21, hD⟩ := g_let hD
  refine mr_putI C hw kc_1 16 (by decide) tf_3 wd_547 dX1_passMicrosecond_37 (by decide) rfl rfl rfl rfl (fun H locs hw => ?_)
  replace hw : mw_W G ad NF TF FF M21 L20 H locs := by rw [eM21]; exact hw
  refine lv_aload_n C.1.1 C.1.2.1 dX1_passMicrosecond_40 rfl (lv_at hl 0 rfl) ?_
  refine mr_getR C hw kc_1 2 (by decide) tf_3 ff_3_2 wd_517 dX1_passMicrosecond_41 (by decide) rfl ?_
  refine mr_getNI C hw kc_0 12 (by decide) tf_20 nd_190 dX1_passMicrosecond_44 (by decide) rfl ?_
  refine lv_if_eq (tgt := 54) C.1.1 C.1.2.1 dX1_passMicrosecond_47 (by decide) (fun c22 => ?_) (fun c22 => ?_)
  · replace hD := g_pos c22 hD
    exact hb54 M21 L20 _ _ ls hD hw (lv_sub hl [0] rfl)
  · replace hD := g_neg c22 hD
    refine lv_aload_n C.1.1 C.1.2.1 dX1_passMicrosecond_50 rfl (lv_at hl 0 rfl) ?_
    obtain ⟨M23, L24, h1, hD⟩ := g_b2 hD
    refine md_cvV (As := []) (rest := []) C hw (tX1_takeFrames l G ad fu M21 L20 h1) kc_1 (by decide) tf_3 wd_1500 cwX1_takeFrames ⟨Nat.le_of_ble_eq_true rfl, Nat.le_of_ble_eq_true rfl⟩ rfl hl.1 (Nat.le_of_ble_eq_true rfl) dX1_passMicrosecond_51 rfl rfl ⟨Nat.zero_le _, Nat.zero_le _⟩ rfl (fun H locs hw => ?_)
    exact hb54 M23 L24 _ _ ls hD hw (lv_sub hl [0] rfl)
