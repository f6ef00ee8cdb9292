theorem dX13_anew_0 : decode cX13_anew 0 = .ok (.aload_n 0, 1) := by decide +kernel
theorem dX13_anew_1 : decode cX13_anew 1 = .ok (.iload_n 1, 1) := by decide +kernel
theorem dX13_anew_2 : decode cX13_anew 2 = .ok (.putfield 99, 3) := by decide +kernel
theorem dX13_anew_5 : decode cX13_anew 5 = .ok (.aload_n 0, 1) := by decide +kernel
theorem dX13_anew_6 : decode cX13_anew 6 = .ok (.iconst 0, 1) := by decide +kernel
theorem dX13_anew_7 : decode cX13_anew 7 = .ok (.putfield 103, 3) := by decide +kernel
theorem dX13_anew_10 : decode cX13_anew 10 = .ok (.aload_n 0, 1) := by decide +kernel
theorem dX13_anew_11 : decode cX13_anew 11 = .ok (.iconst 0, 1) := by decide +kernel
theorem dX13_anew_12 : decode cX13_anew 12 = .ok (.putfield 106, 3) := by decide +kernel
theorem dX13_anew_15 : decode cX13_anew 15 = .ok (.aload_n 0, 1) := by decide +kernel
theorem dX13_anew_16 : decode cX13_anew 16 = .ok (.iconst 0, 1) := by decide +kernel
theorem dX13_anew_17 : decode cX13_anew 17 = .ok (.putfield 109, 3) := by decide +kernel
theorem dX13_anew_20 : decode cX13_anew 20 = .ok (.aload_n 0, 1) := by decide +kernel
theorem dX13_anew_21 : decode cX13_anew 21 = .ok (.iconst 0, 1) := by decide +kernel
theorem dX13_anew_22 : decode cX13_anew 22 = .ok (.putfield 112, 3) := by decide +kernel
theorem dX13_anew_25 : decode cX13_anew 25 = .ok (.aload_n 0, 1) := by decide +kernel
theorem dX13_anew_26 : decode cX13_anew 26 = .ok (.iconst 0, 1) := by decide +kernel
theorem dX13_anew_27 : decode cX13_anew 27 = .ok (.putfield 115, 3) := by decide +kernel
theorem dX13_anew_30 : decode cX13_anew 30 = .ok (.aload_n 0, 1) := by decide +kernel
theorem dX13_anew_31 : decode cX13_anew 31 = .ok (.lconst 0, 1) := by decide +kernel
theorem dX13_anew_32 : decode cX13_anew 32 = .ok (.putfield 119, 3) := by decide +kernel
theorem dX13_anew_35 : decode cX13_anew 35 = .ok (.aload_n 0, 1) := by decide +kernel
theorem dX13_anew_36 : decode cX13_anew 36 = .ok (.iconst 0, 1) := by decide +kernel
theorem dX13_anew_37 : decode cX13_anew 37 = .ok (.putfield 123, 3) := by decide +kernel
theorem dX13_anew_40 : decode cX13_anew 40 = .ok (.aload_n 0, 1) := by decide +kernel
theorem dX13_anew_41 : decode cX13_anew 41 = .ok (.iconst 0, 1) := by decide +kernel
theorem dX13_anew_42 : decode cX13_anew 42 = .ok (.putfield 126, 3) := by decide +kernel
theorem dX13_anew_45 : decode cX13_anew 45 = .ok (.aload_n 0, 1) := by decide +kernel
theorem dX13_anew_46 : decode cX13_anew 46 = .ok (.iconst 0, 1) := by decide +kernel
theorem dX13_anew_47 : decode cX13_anew 47 = .ok (.putfield 129, 3) := by decide +kernel
theorem dX13_anew_50 : decode cX13_anew 50 = .ok (.iconst 0, 1) := by decide +kernel
theorem dX13_anew_51 : decode cX13_anew 51 = .ok (.istore_n 2, 1) := by decide +kernel
theorem dX13_anew_52 : decode cX13_anew 52 = .ok (.iload_n 2, 1) := by decide +kernel
theorem dX13_anew_53 : decode cX13_anew 53 = .ok (.sipush 201, 3) := by decide +kernel
theorem dX13_anew_56 : decode cX13_anew 56 = .ok (.if_icmp .ge 51, 3) := by decide +kernel
theorem dX13_anew_59 : decode cX13_anew 59 = .ok (.aload_n 0, 1) := by decide +kernel
theorem dX13_anew_60 : decode cX13_anew 60 = .ok (.getfield 19, 3) := by decide +kernel
theorem dX13_anew_63 : decode cX13_anew 63 = .ok (.iload_n 2, 1) := by decide +kernel
theorem dX13_anew_64 : decode cX13_anew 64 = .ok (.iconst 0, 1) := by decide +kernel
theorem dX13_anew_65 : decode cX13_anew 65 = .ok (.iastore, 1) := by decide +kernel
theorem dX13_anew_66 : decode cX13_anew 66 = .ok (.aload_n 0, 1) := by decide +kernel
theorem dX13_anew_67 : decode cX13_anew 67 = .ok (.getfield 22, 3) := by decide +kernel
theorem dX13_anew_70 : decode cX13_anew 70 = .ok (.iload_n 2, 1) := by decide +kernel
theorem dX13_anew_71 : decode cX13_anew 71 = .ok (.lconst 0, 1) := by decide +kernel
theorem dX13_anew_72 : decode cX13_anew 72 = .ok (.lastore, 1) := by decide +kernel
theorem dX13_anew_73 : decode cX13_anew 73 = .ok (.aload_n 0, 1) := by decide +kernel
theorem dX13_anew_74 : decode cX13_anew 74 = .ok (.getfield 26, 3) := by decide +kernel
theorem dX13_anew_77 : decode cX13_anew 77 = .ok (.iload_n 2, 1) := by decide +kernel
theorem dX13_anew_78 : decode cX13_anew 78 = .ok (.lconst 0, 1) := by decide +kernel
theorem dX13_anew_79 : decode cX13_anew 79 = .ok (.lastore, 1) := by decide +kernel
theorem dX13_anew_80 : decode cX13_anew 80 = .ok (.aload_n 0, 1) := by decide +kernel
theorem dX13_anew_81 : decode cX13_anew 81 = .ok (.getfield 29, 3) := by decide +kernel
theorem dX13_anew_84 : decode cX13_anew 84 = .ok (.iload_n 2, 1) := by decide +kernel
theorem dX13_anew_85 : decode cX13_anew 85 = .ok (.iconst 0, 1) := by decide +kernel
theorem dX13_anew_86 : decode cX13_anew 86 = .ok (.bastore, 1) := by decide +kernel
theorem dX13_anew_87 : decode cX13_anew 87 = .ok (.aload_n 0, 1) := by decide +kernel
theorem dX13_anew_88 : decode cX13_anew 88 = .ok (.getfield 33, 3) := by decide +kernel
theorem dX13_anew_91 : decode cX13_anew 91 = .ok (.iload_n 2, 1) := by decide +kernel
theorem dX13_anew_92 : decode cX13_anew 92 = .ok (.iconst 0, 1) := by decide +kernel
theorem dX13_anew_93 : decode cX13_anew 93 = .ok (.bastore, 1) := by decide +kernel
theorem dX13_anew_94 : decode cX13_anew 94 = .ok (.aload_n 0, 1) := by decide +kernel
theorem dX13_anew_95 : decode cX13_anew 95 = .ok (.getfield 36, 3) := by decide +kernel
theorem dX13_anew_98 : decode cX13_anew 98 = .ok (.iload_n 2, 1) := by decide +kernel
theorem dX13_anew_99 : decode cX13_anew 99 = .ok (.iconst 0, 1) := by decide +kernel
theorem dX13_anew_100 : decode cX13_anew 100 = .ok (.bastore, 1) := by decide +kernel
theorem dX13_anew_101 : decode cX13_anew 101 = .ok (.iinc 2 1, 3) := by decide +kernel
theorem dX13_anew_104 : decode cX13_anew 104 = .ok (.goto (-52), 3) := by decide +kernel
theorem dX13_anew_107 : decode cX13_anew 107 = .ok (.iconst 0, 1) := by decide +kernel
theorem dX13_anew_108 : decode cX13_anew 108 = .ok (.istore_n 2, 1) := by decide +kernel
theorem dX13_anew_109 : decode cX13_anew 109 = .ok (.iload_n 2, 1) := by decide +kernel
theorem dX13_anew_110 : decode cX13_anew 110 = .ok (.sipush 401, 3) := by decide +kernel
theorem dX13_anew_113 : decode cX13_anew 113 = .ok (.if_icmp .ge 30, 3) := by decide +kernel
theorem dX13_anew_116 : decode cX13_anew 116 = .ok (.aload_n 0, 1) := by decide +kernel
theorem dX13_anew_117 : decode cX13_anew 117 = .ok (.getfield 51, 3) := by decide +kernel
theorem dX13_anew_120 : decode cX13_anew 120 = .ok (.iload_n 2, 1) := by decide +kernel
theorem dX13_anew_121 : decode cX13_anew 121 = .ok (.iconst 0, 1) := by decide +kernel
theorem dX13_anew_122 : decode cX13_anew 122 = .ok (.bastore, 1) := by decide +kernel
theorem dX13_anew_123 : decode cX13_anew 123 = .ok (.aload_n 0, 1) := by decide +kernel
theorem dX13_anew_124 : decode cX13_anew 124 = .ok (.getfield 54, 3) := by decide +kernel
theorem dX13_anew_127 : decode cX13_anew 127 = .ok (.iload_n 2, 1) := by decide +kernel
theorem dX13_anew_128 : decode cX13_anew 128 = .ok (.iconst 0, 1) := by decide +kernel
theorem dX13_anew_129 : decode cX13_anew 129 = .ok (.bastore, 1) := by decide +kernel
theorem dX13_anew_130 : decode cX13_anew 130 = .ok (.aload_n 0, 1) := by decide +kernel
theorem dX13_anew_131 : decode cX13_anew 131 = .ok (.getfield 57, 3) := by decide +kernel
theorem dX13_anew_134 : decode cX13_anew 134 = .ok (.iload_n 2, 1) := by decide +kernel
theorem dX13_anew_135 : decode cX13_anew 135 = .ok (.iconst 0, 1) := by decide +kernel
theorem dX13_anew_136 : decode cX13_anew 136 = .ok (.bastore, 1) := by decide +kernel
theorem dX13_anew_137 : decode cX13_anew 137 = .ok (.iinc 2 1, 3) := by decide +kernel
theorem dX13_anew_140 : decode cX13_anew 140 = .ok (.goto (-31), 3) := by decide +kernel
theorem dX13_anew_143 : decode cX13_anew 143 = .ok (.iconst 0, 1) := by decide +kernel
theorem dX13_anew_144 : decode cX13_anew 144 = .ok (.istore_n 2, 1) := by decide +kernel
theorem dX13_anew_145 : decode cX13_anew 145 = .ok (.iload_n 2, 1) := by decide +kernel
theorem dX13_anew_146 : decode cX13_anew 146 = .ok (.bipush 32, 2) := by decide +kernel
theorem dX13_anew_148 : decode cX13_anew 148 = .ok (.if_icmp .ge 16, 3) := by decide +kernel
theorem dX13_anew_151 : decode cX13_anew 151 = .ok (.aload_n 0, 1) := by decide +kernel
theorem dX13_anew_152 : decode cX13_anew 152 = .ok (.getfield 72, 3) := by decide +kernel
theorem dX13_anew_155 : decode cX13_anew 155 = .ok (.iload_n 2, 1) := by decide +kernel
theorem dX13_anew_156 : decode cX13_anew 156 = .ok (.lconst 0, 1) := by decide +kernel
theorem dX13_anew_157 : decode cX13_anew 157 = .ok (.lastore, 1) := by decide +kernel
theorem dX13_anew_158 : decode cX13_anew 158 = .ok (.iinc 2 1, 3) := by decide +kernel
theorem dX13_anew_161 : decode cX13_anew 161 = .ok (.goto (-16), 3) := by decide +kernel
theorem dX13_anew_164 : decode cX13_anew 164 = .ok (.return_, 1) := by decide +kernel
theorem cwX13_anew : mw_cwV yX13_anew cX13_anew 3 (none) 1 := ⟨⟨wd_20, wd_3227, by decide +kernel⟩, wd_3225, wd_3226⟩
set_option maxHeartbeats 4000000 in
set_option maxRecDepth 100000 in
theorem tX13_anew (l : Launch) (G : mwG) (ad : Nat → Nat) (fu : Nat) (k : Nat) (a1 : Int32) (M : mwM) (L : mwL) {M0 : mwM} {L0 : mwL} (hD : DX13_anew fu k a1 M L = some (M0, L0)) (hk0 : isMc k) : Met l yX13_anew (Cond.code yX13_anew cX13_anew 3 (none) :: GT) ({ frames := 0, cells := 0, slots := 0, locals := 0 }) (mw_Pre G ad NF TF FF M L [.ref (ad k), .int a1]) (mw_Qv G ad NF TF FF (mw_eqV M0 L0)) 0 0 (mw_fr G) := by
  refine mw_enter (by decide) (Nat.le_of_ble_eq_true rfl) ?_
  intro p e s m below meth c ls C hr hlocks hnm hw hl
  have hl : lv_has ls 3 [(0, .ref (ad k)), (1, .int a1)] := hl
  have hh145 : ∀ (f : Nat) (v2 : Int32) (M : mwM) (L : mwL) (H : Heap) (locs : List Loc) (ls : Array Slot), fX13_anew_h145 fu k a1 f (v2, M, L) = some (M0, L0) → mw_W G ad NF TF FF M L H locs → lv_has ls 3 [(0, .ref (ad k)), (2, .int v2)] → W p l e ({ frames := 0, cells := 0, slots := 0, locals := 0 }) s m [.ref (ad k), .int a1].toArray below meth c H locs 0 0 (MQ below (mw_Qv G ad NF TF FF (mw_eqV M0 L0)) [.ref (ad k), .int a1].toArray s 0 0 (mw_fr G)) (F0 m 145 ls []) := by
    intro f
    induction f with
    | zero => intro v2 M L H locs ls hD; cases hD
    | succ f145 ih145 =>
      intro v2 M L H locs ls hD hw hl
      replace hD : fX13_anew_i145 fu k a1 (fX13_anew_h145 fu k a1 f145) v2 M L = some (M0, L0) := hD
      unfold fX13_anew_i145 at hD
      refine lv_iload_n C.1.1 C.1.2.1 dX13_anew_145 rfl (lv_at hl 1 rfl) ?_
      refine lv_bipush (v := 32) C.1.1 C.1.2.1 dX13_anew_146 (by decide) ?_
      refine lv_icmp_ge (tgt := 164) C.1.1 C.1.2.1 dX13_anew_148 (by decide) (fun c23 => ?_) (fun c23 => ?_)
      · replace hD := g_pos c23 hD
        exact mr_vret C hr hlocks hw (Option.some.inj hD) dX13_anew_164
      · replace hD := g_neg c23 hD
        refine lv_aload_n C.1.1 C.1.2.1 dX13_anew_151 rfl (lv_at hl 0 rfl) ?_
        refine mr_getR C hw kc_13 25 (Mc_N0 hk0) (Mc_T0 hk0) (Mc_F0_25 hk0) wd_2667 dX13_anew_152 (by decide) rfl ?_
        refine lv_iload_n C.1.1 C.1.2.1 dX13_anew_155 rfl (lv_at hl 1 rfl) ?_
        refine lv_lconst (v := 0) C.1.1 C.1.2.1 dX13_anew_156 (by decide) ?_
        obtain ⟨q24, hD⟩ := g_ck hD
        obtain ⟨L25, eL25, hD⟩ := g_let hD
        refine mr_last C hw (Mc_N21 hk0) (Mc_T21 hk0) q24 dX13_anew_157 (fun H locs hw => ?_)
        replace hw : mw_W G ad NF TF FF M L25 H locs := by rw [eL25]; exact hw
        obtain ⟨x26, ex26, hD⟩ := g_let hD
        refine lv_iinc (v := x26) (lv' := [(2, .int x26), (0, .ref (ad k))]) C.1.1 C.1.2.1 dX13_anew_158 hl (k := 1) rfl (by rw [ex26]; rfl) (by decide) rfl (fun ls hl => ?_)
        refine lv_goto (tgt := 145) C.1.1 C.1.2.1 dX13_anew_161 (by decide) ?_
        exact ih145 x26 M L25 _ _ ls hD hw (lv_sub hl [1, 0] rfl)
  have hh109 : ∀ (f : Nat) (v2 : Int32) (M : mwM) (L : mwL) (H : Heap) (locs : List Loc) (ls : Array Slot), fX13_anew_h109 fu k a1 f (v2, M, L) = some (M0, L0) → mw_W G ad NF TF FF M L H locs → lv_has ls 3 [(0, .ref (ad k)), (2, .int v2)] → W p l e ({ frames := 0, cells := 0, slots := 0, locals := 0 }) s m [.ref (ad k), .int a1].toArray below meth c H locs 0 0 (MQ below (mw_Qv G ad NF TF FF (mw_eqV M0 L0)) [.ref (ad k), .int a1].toArray s 0 0 (mw_fr G)) (F0 m 109 ls []) := by
    intro f
    induction f with
    | zero => intro v2 M L H locs ls hD; cases hD
    | succ f109 ih109 =>
      intro v2 M L H locs ls hD hw hl
      replace hD : fX13_anew_i109 fu k a1 (fX13_anew_h109 fu k a1 f109) v2 M L = some (M0, L0) := hD
      unfold fX13_anew_i109 at hD
      refine lv_iload_n C.1.1 C.1.2.1 dX13_anew_109 rfl (lv_at hl 1 rfl) ?_
      refine lv_sipush (v := 401) C.1.1 C.1.2.1 dX13_anew_110 (by decide) ?_
      refine lv_icmp_ge (tgt := 143) C.1.1 C.1.2.1 dX13_anew_113 (by decide) (fun c15 => ?_) (fun c15 => ?_)
      · replace hD := g_pos c15 hD
        refine lv_iconst (v := 0) C.1.1 C.1.2.1 dX13_anew_143 (by decide) ?_
        refine lv_istore_n (lv' := [(2, .int 0), (0, .ref (ad k))]) C.1.1 C.1.2.1 dX13_anew_144 rfl hl (by decide) rfl (fun ls hl => ?_)
        exact hh145 fu 0 M L _ _ ls hD hw (lv_sub hl [1, 0] rfl)
      · replace hD := g_neg c15 hD
        refine lv_aload_n C.1.1 C.1.2.1 dX13_anew_116 rfl (lv_at hl 0 rfl) ?_
        refine mr_getR C hw kc_13 17 (Mc_N0 hk0) (Mc_T0 hk0) (Mc_F0_17 hk0) wd_2659 dX13_anew_117 (by decide) rfl ?_
        refine lv_iload_n C.1.1 C.1.2.1 dX13_anew_120 rfl (lv_at hl 1 rfl) ?_
        refine lv_iconst (v := 0) C.1.1 C.1.2.1 dX13_anew_121 (by decide) ?_
        obtain ⟨q16, hD⟩ := g_ck hD
        obtain ⟨M17, eM17, hD⟩ := g_let hD
        refine mr_zast C hw (Mc_N14 hk0) (Mc_T14 hk0) q16 dX13_anew_122 (fun H locs hw => ?_)
        replace hw : mw_W G ad NF TF FF M17 L H locs := by rw [eM17]; exact hw
        refine lv_aload_n C.1.1 C.1.2.1 dX13_anew_123 rfl (lv_at hl 0 rfl) ?_
        refine mr_getR C hw kc_13 18 (Mc_N0 hk0) (Mc_T0 hk0) (Mc_F0_18 hk0) wd_2660 dX13_anew_124 (by decide) rfl ?_
        refine lv_iload_n C.1.1 C.1.2.1 dX13_anew_127 rfl (lv_at hl 1 rfl) ?_
        refine lv_iconst (v := 0) C.1.1 C.1.2.1 dX13_anew_128 (by decide) ?_
        obtain ⟨q18, hD⟩ := g_ck hD
        obtain ⟨M19, eM19, hD⟩ := g_let hD
        refine mr_zast C hw (Mc_N15 hk0) (Mc_T15 hk0) q18 dX13_anew_129 (fun H locs hw => ?_)
        replace hw : mw_W G ad NF TF FF M19 L H locs := by rw [eM19]; exact hw
        refine lv_aload_n C.1.1 C.1.2.1 dX13_anew_130 rfl (lv_at hl 0 rfl) ?_
        refine mr_getR C hw kc_13 19 (Mc_N0 hk0) (Mc_T0 hk0) (Mc_F0_19 hk0) wd_2661 dX13_anew_131 (by decide) rfl ?_
        refine lv_iload_n C.1.1 C.1.2.1 dX13_anew_134 rfl (lv_at hl 1 rfl) ?_
        refine lv_iconst (v := 0) C.1.1 C.1.2.1 dX13_anew_135 (by decide) ?_
        obtain ⟨q20, hD⟩ := g_ck hD
        obtain ⟨M21, eM21, hD⟩ := g_let hD
        refine mr_zast C hw (Mc_N16 hk0) (Mc_T16 hk0) q20 dX13_anew_136 (fun H locs hw => ?_)
        replace hw : mw_W G ad NF TF FF M21 L H locs := by rw [eM21]; exact hw
        obtain ⟨x22, ex22, hD⟩ := g_let hD
        refine lv_iinc (v := x22) (lv' := [(2, .int x22), (0, .ref (ad k))]) C.1.1 C.1.2.1 dX13_anew_137 hl (k := 1) rfl (by rw [ex22]; rfl) (by decide) rfl (fun ls hl => ?_)
        refine lv_goto (tgt := 109) C.1.1 C.1.2.1 dX13_anew_140 (by decide) ?_
        exact ih109 x22 M21 L _ _ ls hD hw (lv_sub hl [1, 0] rfl)
  have hh52 : ∀ (f : Nat) (v2 : Int32) (M : mwM) (L : mwL) (H : Heap) (locs : List Loc) (ls : Array Slot), fX13_anew_h52 fu k a1 f (v2, M, L) = some (M0, L0) → mw_W G ad NF TF FF M L H locs → lv_has ls 3 [(0, .ref (ad k)), (2, .int v2)] → W p l e ({ frames := 0, cells := 0, slots := 0, locals := 0 }) s m [.ref (ad k), .int a1].toArray below meth c H locs 0 0 (MQ below (mw_Qv G ad NF TF FF (mw_eqV M0 L0)) [.ref (ad k), .int a1].toArray s 0 0 (mw_fr G)) (F0 m 52 ls []) := by
    intro f
    induction f with
    | zero => intro v2 M L H locs ls hD; cases hD
    | succ f52 ih52 =>
      intro v2 M L H locs ls hD hw hl
      replace hD : fX13_anew_i52 fu k a1 (fX13_anew_h52 fu k a1 f52) v2 M L = some (M0, L0) := hD
      unfold fX13_anew_i52 at hD
      refine lv_iload_n C.1.1 C.1.2.1 dX13_anew_52 rfl (lv_at hl 1 rfl) ?_
      refine lv_sipush (v := 201) C.1.1 C.1.2.1 dX13_anew_53 (by decide) ?_
      refine lv_icmp_ge (tgt := 107) C.1.1 C.1.2.1 dX13_anew_56 (by decide) (fun c1 => ?_) (fun c1 => ?_)
      · replace hD := g_pos c1 hD
        refine lv_iconst (v := 0) C.1.1 C.1.2.1 dX13_anew_107 (by decide) ?_
        refine lv_istore_n (lv' := [(2, .int 0), (0, .ref (ad k))]) C.1.1 C.1.2.1 dX13_anew_108 rfl hl (by decide) rfl (fun ls hl => ?_)
        exact hh109 fu 0 M L _ _ ls hD hw (lv_sub hl [1, 0] rfl)
      · replace hD := g_neg c1 hD
        refine lv_aload_n C.1.1 C.1.2.1 dX13_anew_59 rfl (lv_at hl 0 rfl) ?_
        refine mr_getR C hw kc_13 6 (Mc_N0 hk0) (Mc_T0 hk0) (Mc_F0_6 hk0) wd_2648 dX13_anew_60 (by decide) rfl ?_
        refine lv_iload_n C.1.1 C.1.2.1 dX13_anew_63 rfl (lv_at hl 1 rfl) ?_
        refine lv_iconst (v := 0) C.1.1 C.1.2.1 dX13_anew_64 (by decide) ?_
        obtain ⟨q2, hD⟩ := g_ck hD
        obtain ⟨M3, eM3, hD⟩ := g_let hD
        refine mr_iast C hw (Mc_N4 hk0) (Mc_T4 hk0) q2 dX13_anew_65 (fun H locs hw => ?_)
        replace hw : mw_W G ad NF TF FF M3 L H locs := by rw [eM3]; exact hw
        refine lv_aload_n C.1.1 C.1.2.1 dX13_anew_66 rfl (lv_at hl 0 rfl) ?_
        refine mr_getR C hw kc_13 7 (Mc_N0 hk0) (Mc_T0 hk0) (Mc_F0_7 hk0) wd_2649 dX13_anew_67 (by decide) rfl ?_
        refine lv_iload_n C.1.1 C.1.2.1 dX13_anew_70 rfl (lv_at hl 1 rfl) ?_
        refine lv_lconst (v := 0) C.1.1 C.1.2.1 dX13_anew_71 (by decide) ?_
        obtain ⟨q4, hD⟩ := g_ck hD
        obtain ⟨L5, eL5, hD⟩ := g_let hD
        refine mr_last C hw (Mc_N5 hk0) (Mc_T5 hk0) q4 dX13_anew_72 (fun H locs hw => ?_)
        replace hw : mw_W G ad NF TF FF M3 L5 H locs := by rw [eL5]; exact hw
        refine lv_aload_n C.1.1 C.1.2.1 dX13_anew_73 rfl (lv_at hl 0 rfl) ?_
        refine mr_getR C hw kc_13 8 (Mc_N0 hk0) (Mc_T0 hk0) (Mc_F0_8 hk0) wd_2650 dX13_anew_74 (by decide) rfl ?_
        refine lv_iload_n C.1.1 C.1.2.1 dX13_anew_77 rfl (lv_at hl 1 rfl) ?_
        refine lv_lconst (v := 0) C.1.1 C.1.2.1 dX13_anew_78 (by decide) ?_
        obtain ⟨q6, hD⟩ := g_ck hD
        obtain ⟨L7, eL7, hD⟩ := g_let hD
        refine mr_last C hw (Mc_N6 hk0) (Mc_T6 hk0) q6 dX13_anew_79 (fun H locs hw => ?_)
        replace hw : mw_W G ad NF TF FF M3 L7 H locs := by rw [eL7]; exact hw
        refine lv_aload_n C.1.1 C.1.2.1 dX13_anew_80 rfl (lv_at hl 0 rfl) ?_
        refine mr_getR C hw kc_13 9 (Mc_N0 hk0) (Mc_T0 hk0) (Mc_F0_9 hk0) wd_2651 dX13_anew_81 (by decide) rfl ?_
        refine lv_iload_n C.1.1 C.1.2.1 dX13_anew_84 rfl (lv_at hl 1 rfl) ?_
        refine lv_iconst (v := 0) C.1.1 C.1.2.1 dX13_anew_85 (by decide) ?_
        obtain ⟨q8, hD⟩ := g_ck hD
        obtain ⟨M9, eM9, hD⟩ := g_let hD
        refine mr_zast C hw (Mc_N7 hk0) (Mc_T7 hk0) q8 dX13_anew_86 (fun H locs hw => ?_)
        replace hw : mw_W G ad NF TF FF M9 L7 H locs := by rw [eM9]; exact hw
        refine lv_aload_n C.1.1 C.1.2.1 dX13_anew_87 rfl (lv_at hl 0 rfl) ?_
        refine mr_getR C hw kc_13 10 (Mc_N0 hk0) (Mc_T0 hk0) (Mc_F0_10 hk0) wd_2652 dX13_anew_88 (by decide) rfl ?_
        refine lv_iload_n C.1.1 C.1.2.1 dX13_anew_91 rfl (lv_at hl 1 rfl) ?_
        refine lv_iconst (v := 0) C.1.1 C.1.2.1 dX13_anew_92 (by decide) ?_
        obtain ⟨q10, hD⟩ := g_ck hD
        obtain ⟨M11, eM11, hD⟩ := g_let hD
        refine mr_zast C hw (Mc_N8 hk0) (Mc_T8 hk0) q10 dX13_anew_93 (fun H locs hw => ?_)
        replace hw : mw_W G ad NF TF FF M11 L7 H locs := by rw [eM11]; exact hw
        refine lv_aload_n C.1.1 C.1.2.1 dX13_anew_94 rfl (lv_at hl 0 rfl) ?_
        refine mr_getR C hw kc_13 11 (Mc_N0 hk0) (Mc_T0 hk0) (Mc_F0_11 hk0) wd_2653 dX13_anew_95 (by decide) rfl ?_
        refine lv_iload_n C.1.1 C.1.2.1 dX13_anew_98 rfl (lv_at hl 1 rfl) ?_
        refine lv_iconst (v := 0) C.1.1 C.1.2.1 dX13_anew_99 (by decide) ?_
        obtain ⟨q12, hD⟩ := g_ck hD
        obtain ⟨M13, eM13, hD⟩ := g_let hD
        refine mr_zast C hw (Mc_N9 hk0) (Mc_T9 hk0) q12 dX13_anew_100 (fun H locs hw => ?_)
        replace hw : mw_W G ad NF TF FF M13 L7 H locs := by rw [eM13]; exact hw
        obtain ⟨x14, ex14, hD⟩ := g_let hD
        refine lv_iinc (v := x14) (lv' := [(2, .int x14), (0, .ref (ad k))]) C.1.1 C.1.2.1 dX13_anew_101 hl (k := 1) rfl (by rw [ex14]; rfl) (by decide) rfl (fun ls hl => ?_)
        refine lv_goto (tgt := 52) C.1.1 C.1.2.1 dX13_anew_104 (by decide) ?_
        exact ih52 x14 M13 L7 _ _ ls hD hw (lv_sub hl [1, 0] rfl)
  unfold DX13_anew at hD
  refine lv_aload_n C.1.1 C.1.2.1 dX13_anew_0 rfl (lv_at hl 0 rfl) ?_
  refine lv_iload_n C.1.1 C.1.2.1 dX13_anew_1 rfl (lv_at hl 1 rfl) ?_
  obtain ⟨M27, eM27, hD⟩ := g_let hD
  refine mr_putI C hw kc_13 1 (Mc_N0 hk0) (Mc_T0 hk0) wd_2643 dX13_anew_2 (by decide) rfl rfl rfl rfl (fun H locs hw => ?_)
  replace hw : mw_W G ad NF TF FF M27 L H locs := by rw [eM27]; exact hw
  refine lv_aload_n C.1.1 C.1.2.1 dX13_anew_5 rfl (lv_at hl 0 rfl) ?_
  refine lv_iconst (v := 0) C.1.1 C.1.2.1 dX13_anew_6 (by decide) ?_
  obtain ⟨M28, eM28, hD⟩ := g_let hD
  refine mr_putI C hw kc_13 2 (Mc_N0 hk0) (Mc_T0 hk0) wd_2644 dX13_anew_7 (by decide) rfl rfl rfl rfl (fun H locs hw => ?_)
  replace hw : mw_W G ad NF TF FF M28 L H locs := by rw [eM28]; exact hw
  refine lv_aload_n C.1.1 C.1.2.1 dX13_anew_10 rfl (lv_at hl 0 rfl) ?_
  refine lv_iconst (v := 0) C.1.1 C.1.2.1 dX13_anew_11 (by decide) ?_
  obtain ⟨M29, eM29, hD⟩ := g_let hD
  refine mr_putI C hw kc_13 12 (Mc_N0 hk0) (Mc_T0 hk0) wd_2654 dX13_anew_12 (by decide) rfl rfl rfl rfl (fun H locs hw => ?_)
  replace hw : mw_W G ad NF TF FF M29 L H locs := by rw [eM29]; exact hw
  refine lv_aload_n C.1.1 C.1.2.1 dX13_anew_15 rfl (lv_at hl 0 rfl) ?_
  refine lv_iconst (v := 0) C.1.1 C.1.2.1 dX13_anew_16 (by decide) ?_
  obtain ⟨M30, eM30, hD⟩ := g_let hD
  refine mr_putI C hw kc_13 20 (Mc_N0 hk0) (Mc_T0 hk0) wd_2662 dX13_anew_17 (by decide) rfl rfl rfl rfl (fun H locs hw => ?_)
  replace hw : mw_W G ad NF TF FF M30 L H locs := by rw [eM30]; exact hw
  refine lv_aload_n C.1.1 C.1.2.1 dX13_anew_20 rfl (lv_at hl 0 rfl) ?_
  refine lv_iconst (v := 0) C.1.1 C.1.2.1 dX13_anew_21 (by decide) ?_
  obtain ⟨M31, eM31, hD⟩ := g_let hD
  refine mr_putI C hw kc_13 26 (Mc_N0 hk0) (Mc_T0 hk0) wd_2668 dX13_anew_22 (by decide) rfl rfl rfl rfl (fun H locs hw => ?_)
  replace hw : mw_W G ad NF TF FF M31 L H locs := by rw [eM31]; exact hw
  refine lv_aload_n C.1.1 C.1.2.1 dX13_anew_25 rfl (lv_at hl 0 rfl) ?_
  refine lv_iconst (v := 0) C.1.1 C.1.2.1 dX13_anew_26 (by decide) ?_
  obtain ⟨M32, eM32, hD⟩ := g_let hD
  refine mr_putI C hw kc_13 27 (Mc_N0 hk0) (Mc_T0 hk0) wd_2669 dX13_anew_27 (by decide) rfl rfl (by decide +kernel) (by decide +kernel) (fun H locs hw => ?_)
  replace hw : mw_W G ad NF TF FF M32 L H locs := by rw [eM32]; exact hw
  refine lv_aload_n C.1.1 C.1.2.1 dX13_anew_30 rfl (lv_at hl 0 rfl) ?_
  refine lv_lconst (v := 0) C.1.1 C.1.2.1 dX13_anew_31 (by decide) ?_
  obtain ⟨L33, eL33, hD⟩ := g_let hD
  refine mr_putL C hw kc_13 28 (Mc_N0 hk0) (Mc_T0 hk0) wd_2670 dX13_anew_32 (by decide) rfl rfl rfl rfl (fun H locs hw => ?_)
  replace hw : mw_W G ad NF TF FF M32 L33 H locs := by rw [eL33]; exact hw
  refine lv_aload_n C.1.1 C.1.2.1 dX13_anew_35 rfl (lv_at hl 0 rfl) ?_
  refine lv_iconst (v := 0) C.1.1 C.1.2.1 dX13_anew_36 (by decide) ?_
  obtain ⟨M34, eM34, hD⟩ := g_let hD
  refine mr_putI C hw kc_13 29 (Mc_N0 hk0) (Mc_T0 hk0) wd_2671 dX13_anew_37 (by decide) rfl rfl rfl rfl (fun H locs hw => ?_)
  replace hw : mw_W G ad NF TF FF M34 L33 H locs := by rw [eM34]; exact hw
  refine lv_aload_n C.1.1 C.1.2.1 dX13_anew_40 rfl (lv_at hl 0 rfl) ?_
  refine lv_iconst (v := 0) C.1.1 C.1.2.1 dX13_anew_41 (by decide) ?_
  obtain ⟨M35, eM35, hD⟩ := g_let hD
  refine mr_putI C hw kc_13 30 (Mc_N0 hk0) (Mc_T0 hk0) wd_2672 dX13_anew_42 (by decide) rfl rfl rfl rfl (fun H locs hw => ?_)
  replace hw : mw_W G ad NF TF FF M35 L33 H locs := by rw [eM35]; exact hw
  refine lv_aload_n C.1.1 C.1.2.1 dX13_anew_45 rfl (lv_at hl 0 rfl) ?_
  refine lv_iconst (v := 0) C.1.1 C.1.2.1 dX13_anew_46 (by decide) ?_
  obtain ⟨M36, eM36, hD⟩ := g_let hD
  refine mr_putI C hw kc_13 31 (Mc_N0 hk0) (Mc_T0 hk0) wd_2673 dX13_anew_47 (by decide) rfl rfl rfl rfl (fun H locs hw => ?_)
  replace hw : mw_W G ad NF TF FF M36 L33 H locs := by rw [eM36]; exact hw
  refine lv_iconst (v := 0) C.1.1 C.1.2.1 dX13_anew_50 (by decide) ?_
  refine lv_istore_n (lv' := [(2, .int 0), (0, .ref (ad k)), (1, .int a1)]) C.1.1 C.1.2.1 dX13_anew_51 rfl hl (by decide) rfl (fun ls hl => ?_)
  exact hh52 fu 0 M36 L33 _ _ ls hD hw (lv_sub hl [1, 0] rfl)

theorem dX13_put_0 : decode cX13_put 0 = .ok (.aload_n 0, 1) := by decide +kernel
theorem dX13_put_1 : decode cX13_put 1 = .ok (.getfield 72, 3) := by decide +kernel
theorem dX13_put_4 : decode cX13_put 4 = .ok (.iload_n 1, 1) := by decide +kernel
theorem dX13_put_5 : decode cX13_put 5 = .ok (.lload_n 2, 1) := by decide +kernel
theorem dX13_put_6 : decode cX13_put 6 = .ok (.lastore, 1) := by decide +kernel
theorem dX13_put_7 : decode cX13_put 7 = .ok (.return_, 1) := by decide +kernel
theorem cwX13_put : mw_cwV yX13_put cX13_put 4 (none) 2 := ⟨⟨wd_20, wd_3927, by decide +kernel⟩, wd_3925, wd_3926⟩
set_option maxHeartbeats 4000000 in
set_option maxRecDepth 100000 in
theorem tX13_put (l : Launch) (G : mwG) (ad : Nat → Nat) (fu : Nat) (k : Nat) (a1 : Int32) (a2 : Int64) (M : mwM) (L : mwL) {M0 : mwM} {L0 : mwL} (hD : DX13_put fu k a1 a2 M L = some (M0, L0)) (hk0 : isMc k) : Met l yX13_put (Cond.code yX13_put cX13_put 4 (none) :: GT) ({ frames := 0, cells := 0, slots := 0, locals := 0 }) (mw_Pre G ad NF TF FF M L [.ref (ad k), .int a1, .long a2]) (mw_Qv G ad NF TF FF (mw_eqV M0 L0)) 0 0 (mw_fr G) := by
  refine mw_enter (by decide) (Nat.le_of_ble_eq_true rfl) ?_
  intro p e s m below meth c ls C hr hlocks hnm hw hl
  have hl : lv_has ls 4 [(0, .ref (ad k)), (1, .int a1), (2, .long a2)] := hl
  unfold DX13_put at hD
  refine lv_aload_n C.1.1 C.1.2.1 dX13_put_0 rfl (lv_at hl 0 rfl) ?_
  refine mr_getR C hw kc_13 25 (Mc_N0 hk0) (Mc_T0 hk0) (Mc_F0_25 hk0) wd_2667 dX13_put_1 (by decide) rfl ?_
  refine lv_iload_n C.1.1 C.1.2.1 dX13_put_4 rfl (lv_at hl 1 rfl) ?_
  refine lv_lload_n C.1.1 C.1.2.1 dX13_put_5 rfl (lv_at hl 2 rfl) ?_
  obtain ⟨q1, hD⟩ := g_ck hD
  obtain ⟨L2, eL2, hD⟩ := g_let hD
  refine mr_last C hw (Mc_N21 hk0) (Mc_T21 hk0) q1 dX13_put_6 (fun H locs hw => ?_)
  replace hw : mw_W G ad NF TF FF M L2 H locs := by rw [eL2]; exact hw
  exact mr_vret C hr hlocks hw (Option.some.inj hD) dX13_put_7

theorem dX13_none_0 : decode cX13_none 0 = .ok (.iload_n 1, 1) := by decide +kernel
theorem dX13_none_1 : decode cX13_none 1 = .ok (.ifCond .lt 11, 3) := by decide +kernel
theorem dX13_none_4 : decode cX13_none 4 = .ok (.iload_n 1, 1) := by decide +kernel
theorem dX13_none_5 : decode cX13_none 5 = .ok (.aload_n 0, 1) := by decide +kernel
theorem dX13_none_6 : decode cX13_none 6 = .ok (.getfield 103, 3) := by decide +kernel
theorem dX13_none_9 : decode cX13_none 9 = .ok (.if_icmp .le 7, 3) := by decide +kernel
theorem dX13_none_12 : decode cX13_none 12 = .ok (.iconst 1, 1) := by decide +kernel
theorem dX13_none_13 : decode cX13_none 13 = .ok (.goto 4, 3) := by decide +kernel
theorem dX13_none_16 : decode cX13_none 16 = .ok (.iconst 0, 1) := by decide +kernel
theorem dX13_none_17 : decode cX13_none 17 = .ok (.ireturn, 1) := by decide +kernel
theorem cwX13_none : mw_cwV yX13_none cX13_none 2 ((some .boolean)) 1 := ⟨⟨wd_20, wd_3267, by decide +kernel⟩, wd_3266, sl_172⟩
set_option maxHeartbeats 4000000 in
set_option maxRecDepth 100000 in
theorem tX13_none (l : Launch) (G : mwG) (ad : Nat → Nat) (fu : Nat) (k : Nat) (a1 : Int32) (M : mwM) (L : mwL) {r0 : Int32} {M0 : mwM} {L0 : mwL} (hD : DX13_none fu k a1 M L = some (r0, M0, L0)) (hk0 : isMc k) : Met l yX13_none (Cond.code yX13_none cX13_none 2 ((some .boolean)) :: GT) ({ frames := 0, cells := 0, slots := 0, locals := 0 }) (mw_Pre G ad NF TF FF M L [.ref (ad k), .int a1]) (mw_Qi G ad NF TF FF (mw_eqI r0 M0 L0)) 0 0 (mw_fr G) := by
  refine mw_enter (by decide) (Nat.le_of_ble_eq_true rfl) ?_
  intro p e s m below meth c ls C hr hlocks hnm hw hl
  have hl : lv_has ls 2 [(0, .ref (ad k)), (1, .int a1)] := hl
  have hb17 : ∀ (s0 : Int32) (M : mwM) (L : mwL) (H : Heap) (locs : List Loc) (ls : Array Slot), fX13_none_b17 fu k a1 s0 M L = some (r0, M0, L0) → mw_W G ad NF TF FF M L H locs → lv_has ls 2 [] → W p l e ({ frames := 0, cells := 0, slots := 0, locals := 0 }) s m [.ref (ad k), .int a1].toArray below meth c H locs 0 0 (MQ below (mw_Qi G ad NF TF FF (mw_eqI r0 M0 L0)) [.ref (ad k), .int a1].toArray s 0 0 (mw_fr G)) (F0 m 17 ls [.int s0]) := by
    intro s0 M L H locs ls hD hw hl
    unfold fX13_none_b17 at hD
    obtain ⟨z1, hD⟩ := g_zz hD
    exact mr_iret C hr hlocks hw (nz_zz z1) (Option.some.inj hD) dX13_none_17
  have hb12 : ∀ (M : mwM) (L : mwL) (H : Heap) (locs : List Loc) (ls : Array Slot), fX13_none_b12 fu k a1 M L = some (r0, M0, L0) → mw_W G ad NF TF FF M L H locs → lv_has ls 2 [] → W p l e ({ frames := 0, cells := 0, slots := 0, locals := 0 }) s m [.ref (ad k), .int a1].toArray below meth c H locs 0 0 (MQ below (mw_Qi G ad NF TF FF (mw_eqI r0 M0 L0)) [.ref (ad k), .int a1].toArray s 0 0 (mw_fr G)) (F0 m 12 ls []) := by
    intro M L H locs ls hD hw hl
    unfold fX13_none_b12 at hD
    refine lv_iconst (v := 1) C.1.1 C.1.2.1 dX13_none_12 (by decide) ?_
    refine lv_goto (tgt := 17) C.1.1 C.1.2.1 dX13_none_13 (by decide) ?_
    exact hb17 1 M L _ _ ls hD hw (lv_sub hl [] rfl)
  unfold DX13_none at hD
  refine lv_iload_n C.1.1 C.1.2.1 dX13_none_0 rfl (lv_at hl 1 rfl) ?_
  refine lv_if_lt (tgt := 12) C.1.1 C.1.2.1 dX13_none_1 (by decide) (fun c2 => ?_) (fun c2 => ?_)
  · replace hD := g_pos c2 hD
    exact hb12 M L _ _ ls hD hw (lv_sub hl [] rfl)
  · replace hD := g_neg c2 hD
    refine lv_iload_n C.1.1 C.1.2.1 dX13_none_4 rfl (lv_at hl 1 rfl) ?_
    refine lv_aload_n C.1.1 C.1.2.1 dX13_none_5 rfl (lv_at hl 0 rfl) ?_
    refine mr_getI C hw kc_13 2 (Mc_N0 hk0) (Mc_T0 hk0) wd_2644 dX13_none_6 (by decide) rfl ?_
    refine lv_icmp_le (tgt := 16) C.1.1 C.1.2.1 dX13_none_9 (by decide) (fun c3 => ?_) (fun c3 => ?_)
    · replace hD := g_pos c3 hD
      refine lv_iconst (v := 0) C.1.1 C.1.2.1 dX13_none_16 (by decide) ?_
      exact hb17 0 M L _ _ ls hD hw (lv_sub hl [] rfl)
    · replace hD := g_neg c3 hD
      exact hb12 M L _ _ ls hD hw (lv_sub hl [] rfl)

theorem dX13_mark_0 : decode cX13_mark 0 = .ok (.aload_n 0, 1) := by decide +kernel
theorem dX13_mark_1 : decode cX13_mark 1 = .ok (.getfield 7, 3) := by decide +kernel
theorem dX13_mark_4 : decode cX13_mark 4 = .ok (.iload_n 1, 1) := by decide +kernel
theorem dX13_mark_5 : decode cX13_mark 5 = .ok (.iaload, 1) := by decide +kernel
theorem dX13_mark_6 : decode cX13_mark 6 = .ok (.iconst 1, 1) := by decide +kernel
theorem dX13_mark_7 : decode cX13_mark 7 = .ok (.if_icmp .le 7, 3) := by decide +kernel
theorem dX13_mark_10 : decode cX13_mark 10 = .ok (.iconst 1, 1) := by decide +kernel
theorem dX13_mark_11 : decode cX13_mark 11 = .ok (.goto 4, 3) := by decide +kernel
theorem dX13_mark_14 : decode cX13_mark 14 = .ok (.iconst 0, 1) := by decide +kernel
theorem dX13_mark_15 : decode cX13_mark 15 = .ok (.ireturn, 1) := by decide +kernel
theorem cwX13_mark : mw_cwV yX13_mark cX13_mark 2 ((some .boolean)) 1 := ⟨⟨wd_20, wd_3271, by decide +kernel⟩, wd_3270, sl_173⟩
set_option maxHeartbeats 4000000 in
set_option maxRecDepth 100000 in
theorem tX13_mark (l : Launch) (G : mwG) (ad : Nat → Nat) (fu : Nat) (k : Nat) (a1 : Int32) (M : mwM) (L : mwL) {r0 : Int32} {M0 : mwM} {L0 : mwL} (hD : DX13_mark fu k a1 M L = some (r0, M0, L0)) (hk0 : isMc k) : Met l yX13_mark (Cond.code yX13_mark cX13_mark 2 ((some .boolean)) :: GT) ({ frames := 0, cells := 0, slots := 0, locals := 0 }) (mw_Pre G ad NF TF FF M L [.ref (ad k), .int a1]) (mw_Qi G ad NF TF FF (mw_eqI r0 M0 L0)) 0 0 (mw_fr G) := by
  refine mw_enter (by decide) (Nat.le_of_ble_eq_true rfl) ?_
  intro p e s m below meth c ls C hr hlocks hnm hw hl
  have hl : lv_has ls 2 [(0, .ref (ad k)), (1, .int a1)] := hl
  have hb15 : ∀ (s0 : Int32) (M : mwM) (L : mwL) (H : Heap) (locs : List Loc) (ls : Array Slot), fX13_mark_b15 fu k a1 s0 M L = some (r0, M0, L0) → mw_W G ad NF TF FF M L H locs → lv_has ls 2 [] → W p l e ({ frames := 0, cells := 0, slots := 0, locals := 0 }) s m [.ref (ad k), .int a1].toArray below meth c H locs 0 0 (MQ below (mw_Qi G ad NF TF FF (mw_eqI r0 M0 L0)) [.ref (ad k), .int a1].toArray s 0 0 (mw_fr G)) (F0 m 15 ls [.int s0]) := by
    intro s0 M L H locs ls hD hw hl
    unfold fX13_mark_b15 at hD
    obtain ⟨z1, hD⟩ := g_zz hD
    exact mr_iret C hr hlocks hw (nz_zz z1) (Option.some.inj hD) dX13_mark_15
  unfold DX13_mark at hD
  refine lv_aload_n C.1.1 C.1.2.1 dX13_mark_0 rfl (lv_at hl 0 rfl) ?_
  refine mr_getR C hw kc_13 3 (Mc_N0 hk0) (Mc_T0 hk0) (Mc_F0_3 hk0) wd_2645 dX13_mark_1 (by decide) rfl ?_
  refine lv_iload_n C.1.1 C.1.2.1 dX13_mark_4 rfl (lv_at hl 1 rfl) ?_
  obtain ⟨q2, hD⟩ := g_ck hD
  refine mr_iald C hw (Mc_N1 hk0) (Mc_T1 hk0) q2 dX13_mark_5 ?_
  refine lv_iconst (v := 1) C.1.1 C.1.2.1 dX13_mark_6 (by decide) ?_
  refine lv_icmp_le (tgt := 14) C.1.1 C.1.2.1 dX13_mark_7 (by decide) (fun c3 => ?_) (fun c3 => ?_)
  · replace hD := g_pos c3 hD
    refine lv_iconst (v := 0) C.1.1 C.1.2.1 dX13_mark_14 (by decide) ?_
    exact hb15 0 M L _ _ ls hD hw (lv_sub hl [] rfl)
  · replace hD := g_neg c3 hD
    refine lv_iconst (v := 1) C.1.1 C.1.2.1 dX13_mark_10 (by decide) ?_
    refine lv_goto (tgt := 15) C.1.1 C.1.2.1 dX13_mark_11 (by decide) ?_
    exact hb15 1 M L _ _ ls hD hw (lv_sub hl [] rfl)

theorem dX13_state_0 : decode cX13_state 0 = .ok (.aload_n 0, 1) := by decide +kernel
theorem dX13_state_1 : decode cX13_state 1 = .ok (.iconst 0, 1) := by decide +kernel
theorem dX13_state_2 : decode cX13_state 2 = .ok (.putfield 132, 3) := by decide +kernel
theorem dX13_state_5 : decode cX13_state 5 = .ok (.aload_n 0, 1) := by decide +kernel
theorem dX13_state_6 : decode cX13_state 6 = .ok (.iload_n 1, 1) := by decide +kernel
theorem dX13_state_7 : decode cX13_state 7 = .ok (.invokevirtual 135, 3) := by decide +kernel
theorem dX13_state_10 : decode cX13_state 10 = .ok (.ifCond .eq 5, 3) := by decide +kernel
theorem dX13_state_13 : decode cX13_state 13 = .ok (.iconst (-1), 1) := by decide +kernel
theorem dX13_state_14 : decode cX13_state 14 = .ok (.ireturn, 1) := by decide +kernel
theorem dX13_state_15 : decode cX13_state 15 = .ok (.iload_n 2, 1) := by decide +kernel
theorem dX13_state_16 : decode cX13_state 16 = .ok (.ifCond .lt 27, 3) := by decide +kernel
theorem dX13_state_19 : decode cX13_state 19 = .ok (.iload_n 2, 1) := by decide +kernel
theorem dX13_state_20 : decode cX13_state 20 = .ok (.iconst 5, 1) := by decide +kernel
theorem dX13_state_21 : decode cX13_state 21 = .ok (.if_icmp .gt 22, 3) := by decide +kernel
theorem dX13_state_24 : decode cX13_state 24 = .ok (.aload_n 0, 1) := by decide +kernel
theorem dX13_state_25 : decode cX13_state 25 = .ok (.iload_n 1, 1) := by decide +kernel
theorem dX13_state_26 : decode cX13_state 26 = .ok (.invokevirtual 139, 3) := by decide +kernel
theorem dX13_state_29 : decode cX13_state 29 = .ok (.ifCond .ne 14, 3) := by decide +kernel
theorem dX13_state_32 : decode cX13_state 32 = .ok (.aload_n 0, 1) := by decide +kernel
theorem dX13_state_33 : decode cX13_state 33 = .ok (.getfield 16, 3) := by decide +kernel
theorem dX13_state_36 : decode cX13_state 36 = .ok (.iload_n 1, 1) := by decide +kernel
theorem dX13_state_37 : decode cX13_state 37 = .ok (.iaload, 1) := by decide +kernel
theorem dX13_state_38 : decode cX13_state 38 = .ok (.bipush 40, 2) := by decide +kernel
theorem dX13_state_40 : decode cX13_state 40 = .ok (.if_icmp .ne 6, 3) := by decide +kernel
theorem dX13_state_43 : decode cX13_state 43 = .ok (.bipush (-2), 2) := by decide +kernel
theorem dX13_state_45 : decode cX13_state 45 = .ok (.ireturn, 1) := by decide +kernel
theorem dX13_state_46 : decode cX13_state 46 = .ok (.aload_n 0, 1) := by decide +kernel
theorem dX13_state_47 : decode cX13_state 47 = .ok (.getfield 115, 3) := by decide +kernel
theorem dX13_state_50 : decode cX13_state 50 = .ok (.ifCond .eq 6, 3) := by decide +kernel
theorem dX13_state_53 : decode cX13_state 53 = .ok (.bipush (-3), 2) := by decide +kernel
theorem dX13_state_55 : decode cX13_state 55 = .ok (.ireturn, 1) := by decide +kernel
theorem dX13_state_56 : decode cX13_state 56 = .ok (.aload_n 0, 1) := by decide +kernel
theorem dX13_state_57 : decode cX13_state 57 = .ok (.getfield 103, 3) := by decide +kernel
theorem dX13_state_60 : decode cX13_state 60 = .ok (.sipush 200, 3) := by decide +kernel
theorem dX13_state_63 : decode cX13_state 63 = .ok (.if_icmp .ne 6, 3) := by decide +kernel
theorem dX13_state_66 : decode cX13_state 66 = .ok (.bipush (-4), 2) := by decide +kernel
theorem dX13_state_68 : decode cX13_state 68 = .ok (.ireturn, 1) := by decide +kernel
theorem dX13_state_69 : decode cX13_state 69 = .ok (.aload_n 0, 1) := by decide +kernel
theorem dX13_state_70 : decode cX13_state 70 = .ok (.dup, 1) := by decide +kernel
theorem dX13_state_71 : decode cX13_state 71 = .ok (.getfield 103, 3) := by decide +kernel
theorem dX13_state_74 : decode cX13_state 74 = .ok (.iconst 1, 1) := by decide +kernel
theorem dX13_state_75 : decode cX13_state 75 = .ok (.iadd, 1) := by decide +kernel
theorem dX13_state_76 : decode cX13_state 76 = .ok (.putfield 103, 3) := by decide +kernel
theorem dX13_state_79 : decode cX13_state 79 = .ok (.aload_n 0, 1) := by decide +kernel
theorem dX13_state_80 : decode cX13_state 80 = .ok (.getfield 7, 3) := by decide +kernel
theorem dX13_state_83 : decode cX13_state 83 = .ok (.aload_n 0, 1) := by decide +kernel
theorem dX13_state_84 : decode cX13_state 84 = .ok (.getfield 103, 3) := by decide +kernel
theorem dX13_state_87 : decode cX13_state 87 = .ok (.iload_n 2, 1) := by decide +kernel
theorem dX13_state_88 : decode cX13_state 88 = .ok (.iastore, 1) := by decide +kernel
theorem dX13_state_89 : decode cX13_state 89 = .ok (.aload_n 0, 1) := by decide +kernel
theorem dX13_state_90 : decode cX13_state 90 = .ok (.getfield 13, 3) := by decide +kernel
theorem dX13_state_93 : decode cX13_state 93 = .ok (.aload_n 0, 1) := by decide +kernel
theorem dX13_state_94 : decode cX13_state 94 = .ok (.getfield 103, 3) := by decide +kernel
theorem dX13_state_97 : decode cX13_state 97 = .ok (.iload_n 1, 1) := by decide +kernel
theorem dX13_state_98 : decode cX13_state 98 = .ok (.iastore, 1) := by decide +kernel
theorem dX13_state_99 : decode cX13_state 99 = .ok (.aload_n 0, 1) := by decide +kernel
theorem dX13_state_100 : decode cX13_state 100 = .ok (.getfield 16, 3) := by decide +kernel
theorem dX13_state_103 : decode cX13_state 103 = .ok (.aload_n 0, 1) := by decide +kernel
theorem dX13_state_104 : decode cX13_state 104 = .ok (.getfield 103, 3) := by decide +kernel
theorem dX13_state_107 : decode cX13_state 107 = .ok (.aload_n 0, 1) := by decide +kernel
theorem dX13_state_108 : decode cX13_state 108 = .ok (.getfield 16, 3) := by decide +kernel
theorem dX13_state_111 : decode cX13_state 111 = .ok (.iload_n 1, 1) := by decide +kernel
theorem dX13_state_112 : decode cX13_state 112 = .ok (.iaload, 1) := by decide +kernel
theorem dX13_state_113 : decode cX13_state 113 = .ok (.iconst 1, 1) := by decide +kernel
theorem dX13_state_114 : decode cX13_state 114 = .ok (.iadd, 1) := by decide +kernel
theorem dX13_state_115 : decode cX13_state 115 = .ok (.iastore, 1) := by decide +kernel
theorem dX13_state_116 : decode cX13_state 116 = .ok (.aload_n 0, 1) := by decide +kernel
theorem dX13_state_117 : decode cX13_state 117 = .ok (.getfield 103, 3) := by decide +kernel
theorem dX13_state_120 : decode cX13_state 120 = .ok (.ireturn, 1) := by decide +kernel
theorem cwX13_state : mw_cwV yX13_state cX13_state 3 ((some .int)) 2 := ⟨⟨wd_20, wd_3263, by decide +kernel⟩, wd_3261, wd_3262⟩
set_option maxHeartbeats 4000000 in
set_option maxRecDepth 100000 in
theorem tX13_state (l : Launch) (G : mwG) (ad : Nat → Nat) (fu : Nat) (k : Nat) (a1 : Int32) (a2 : Int32) (M : mwM) (L : mwL) {r0 : Int32} {M0 : mwM} {L0 : mwL} (hD : DX13_state fu k a1 a2 M L = some (r0, M0, L0)) (hk0 : isMc k) : Met l yX13_state (Cond.code yX13_state cX13_state 3 ((some .int)) :: GT) ({ frames := 1, cells := 0, slots := 0, locals := 21 }) (mw_Pre G ad NF TF FF M L [.ref (ad k), .int a1, .int a2]) (mw_Qi G ad NF TF FF (mw_eqI r0 M0 L0)) 0 0 (mw_fr G) := by
  refine mw_enter (by decide) (Nat.le_of_ble_eq_true rfl) ?_
  intro p e s m below meth c ls C hr hlocks hnm hw hl
  have hl : lv_has ls 3 [(0, .ref (ad k)), (1, .int a1), (2, .int a2)] := hl
  have hb43 : ∀ (M : mwM) (L : mwL) (H : Heap) (locs : List Loc) (ls : Array Slot), fX13_state_b43 fu k a1 a2 M L = some (r0, M0, L0) → mw_W G ad NF TF FF M L H locs → lv_has ls 3 [] → W p l e ({ frames := 1, cells := 0, slots := 0, locals := 21 }) s m [.ref (ad k), .int a1, .int a2].toArray below meth c H locs 0 0 (MQ below (mw_Qi G ad NF TF FF (mw_eqI r0 M0 L0)) [.ref (ad k), .int a1, .int a2].toArray s 0 0 (mw_fr G)) (F0 m 43 ls []) := by
    intro M L H locs ls hD hw hl
    unfold fX13_state_b43 at hD
    refine lv_bipush (v := (-2)) C.1.1 C.1.2.1 dX13_state_43 (by decide) ?_
    exact mr_iret C hr hlocks hw rfl (Option.some.inj hD) dX13_state_45
  unfold DX13_state at hD
  refine lv_aload_n C.1.1 C.1.2.1 dX13_state_0 rfl (lv_at hl 0 rfl) ?_
  refine lv_iconst (v := 0) C.1.1 C.1.2.1 dX13_state_1 (by decide) ?_
  obtain ⟨M1, eM1, hD⟩ := g_let hD
  refine mr_putI C hw kc_13 0 (Mc_N0 hk0) (Mc_T0 hk0) wd_2642 dX13_state_2 (by decide) rfl rfl rfl rfl (fun H locs hw => ?_)
  replace hw : mw_W G ad NF TF FF M1 L H locs := by rw [eM1]; exact hw
  refine lv_aload_n C.1.1 C.1.2.1 dX13_state_5 rfl (lv_at hl 0 rfl) ?_
  refine lv_iload_n C.1.1 C.1.2.1 dX13_state_6 rfl (lv_at hl 1 rfl) ?_
  obtain ⟨r4, M2, L3, h1, hD⟩ := g_b3 hD
  refine md_cvI (As := [.int a1]) (rest := []) C hw (tX13_none l G ad fu k a1 M1 L h1 hk0) kc_13 (Mc_N0 hk0) (Mc_T0 hk0) wd_3264 cwX13_none ⟨Nat.le_of_ble_eq_true rfl, Nat.le_of_ble_eq_true rfl⟩ rfl hl.1 (Nat.le_of_ble_eq_true rfl) dX13_state_7 rfl rfl ⟨Nat.zero_le _, Nat.zero_le _⟩ rfl (fun H locs hw => ?_)
  refine lv_if_eq (tgt := 15) C.1.1 C.1.2.1 dX13_state_10 (by decide) (fun c5 => ?_) (fun c5 => ?_)
  · replace hD := g_pos c5 hD
    refine lv_iload_n C.1.1 C.1.2.1 dX13_state_15 rfl (lv_at hl 2 rfl) ?_
    refine lv_if_lt (tgt := 43) C.1.1 C.1.2.1 dX13_state_16 (by decide) (fun c6 => ?_) (fun c6 => ?_)
    · replace hD := g_pos c6 hD
      exact hb43 M2 L3 _ _ ls hD hw (lv_sub hl [] rfl)
    · replace hD := g_neg c6 hD
      refine lv_iload_n C.1.1 C.1.2.1 dX13_state_19 rfl (lv_at hl 2 rfl) ?_
      refine lv_iconst (v := 5) C.1.1 C.1.2.1 dX13_state_20 (by decide) ?_
      refine lv_icmp_gt (tgt := 43) C.1.1 C.1.2.1 dX13_state_21 (by decide) (fun c7 => ?_) (fun c7 => ?_)
      · replace hD := g_pos c7 hD
        exact hb43 M2 L3 _ _ ls hD hw (lv_sub hl [] rfl)
      · replace hD := g_neg c7 hD
        refine lv_aload_n C.1.1 C.1.2.1 dX13_state_24 rfl (lv_at hl 0 rfl) ?_
        refine lv_iload_n C.1.1 C.1.2.1 dX13_state_25 rfl (lv_at hl 1 rfl) ?_
        obtain ⟨r10, M8, L9, h1, hD⟩ := g_b3 hD
        refine md_cvI (As := [.int a1]) (rest := []) C hw (tX13_mark l G ad fu k a1 M2 L3 h1 hk0) kc_13 (Mc_N0 hk0) (Mc_T0 hk0) wd_3268 cwX13_mark ⟨Nat.le_of_ble_eq_true rfl, Nat.le_of_ble_eq_true rfl⟩ rfl hl.1 (Nat.le_of_ble_eq_true rfl) dX13_state_26 rfl rfl ⟨Nat.zero_le _, Nat.zero_le _⟩ rfl (fun H locs hw => ?_)
        refine lv_if_ne (tgt := 43) C.1.1 C.1.2.1 dX13_state_29 (by decide) (fun c11 => ?_) (fun c11 => ?_)
        · replace hD := g_neg c11 hD
          exact hb43 M8 L9 _ _ ls hD hw (lv_sub hl [] rfl)
        · replace hD := g_pos c11 hD
          refine lv_aload_n C.1.1 C.1.2.1 dX13_state_32 rfl (lv_at hl 0 rfl) ?_
          refine mr_getR C hw kc_13 5 (Mc_N0 hk0) (Mc_T0 hk0) (Mc_F0_5 hk0) wd_2647 dX13_state_33 (by decide) rfl ?_
          refine lv_iload_n C.1.1 C.1.2.1 dX13_state_36 rfl (lv_at hl 1 rfl) ?_
          obtain ⟨q12, hD⟩ := g_ck hD
          refine mr_iald C hw (Mc_N3 hk0) (Mc_T3 hk0) q12 dX13_state_37 ?_
          refine lv_bipush (v := 40) C.1.1 C.1.2.1 dX13_state_38 (by decide) ?_
          refine lv_icmp_ne (tgt := 46) C.1.1 C.1.2.1 dX13_state_40 (by decide) (fun c13 => ?_) (fun c13 => ?_)
          · replace hD := g_neg c13 hD
            refine lv_aload_n C.1.1 C.1.2.1 dX13_state_46 rfl (lv_at hl 0 rfl) ?_
            refine mr_getI C hw kc_13 27 (Mc_N0 hk0) (Mc_T0 hk0) wd_2669 dX13_state_47 (by decide) rfl ?_
            refine lv_if_eq (tgt := 56) C.1.1 C.1.2.1 dX13_state_50 (by decide) (fun c14 => ?_) (fun c14 => ?_)
            · replace hD := g_pos c14 hD
              refine lv_aload_n C.1.1 C.1.2.1 dX13_state_56 rfl (lv_at hl 0 rfl) ?_
              refine mr_getI C hw kc_13 2 (Mc_N0 hk0) (Mc_T0 hk0) wd_2644 dX13_state_57 (by decide) rfl ?_
              refine lv_sipush (v := 200) C.1.1 C.1.2.1 dX13_state_60 (by decide) ?_
              refine lv_icmp_ne (tgt := 69) C.1.1 C.1.2.1 dX13_state_63 (by decide) (fun c15 => ?_) (fun c15 => ?_)
              · replace hD := g_neg c15 hD
                refine lv_aload_n C.1.1 C.1.2.1 dX13_state_69 rfl (lv_at hl 0 rfl) ?_
                refine lv_dup C.1.1 C.1.2.1 dX13_state_70 rfl ?_
                refine mr_getI C hw kc_13 2 (Mc_N0 hk0) (Mc_T0 hk0) wd_2644 dX13_state_71 (by decide) rfl ?_
                refine lv_iconst (v := 1) C.1.1 C.1.2.1 dX13_state_74 (by decide) ?_
                refine lv_iadd C.1.1 C.1.2.1 dX13_state_75 ?_
                obtain ⟨M16, eM16, hD⟩ := g_let hD
                refine mr_putI C hw kc_13 2 (Mc_N0 hk0) (Mc_T0 hk0) wd_2644 dX13_state_76 (by decide) rfl rfl rfl rfl (fun H locs hw => ?_)
                replace hw : mw_W G ad NF TF FF M16 L9 H locs := by rw [eM16]; exact hw
                refine lv_aload_n C.1.1 C.1.2.1 dX13_state_79 rfl (lv_at hl 0 rfl) ?_
                refine mr_getR C hw kc_13 3 (Mc_N0 hk0) (Mc_T0 hk0) (Mc_F0_3 hk0) wd_2645 dX13_state_80 (by decide) rfl ?_
                refine lv_aload_n C.1.1 C.1.2.1 dX13_state_83 rfl (lv_at hl 0 rfl) ?_
                refine mr_getI C hw kc_13 2 (Mc_N0 hk0) (Mc_T0 hk0) wd_2644 dX13_state_84 (by decide) rfl ?_
                refine lv_iload_n C.1.1 C.1.2.1 dX13_state_87 rfl (lv_at hl 2 rfl) ?_
                obtain ⟨q17, hD⟩ := g_ck hD
                obtain ⟨M18, eM18, hD⟩ := g_let hD
                refine mr_iast C hw (Mc_N1 hk0) (Mc_T1 hk0) q17 dX13_state_88 (fun H locs hw => ?_)
                replace hw : mw_W G ad NF TF FF M18 L9 H locs := by rw [eM18]; exact hw
                refine lv_aload_n C.1.1 C.1.2.1 dX13_state_89 rfl (lv_at hl 0 rfl) ?_
                refine mr_getR C hw kc_13 4 (Mc_N0 hk0) (Mc_T0 hk0) (Mc_F0_4 hk0) wd_2646 dX13_state_90 (by decide) rfl ?_
                refine lv_aload_n C.1.1 C.1.2.1 dX13_state_93 rfl (lv_at hl 0 rfl) ?_
                refine mr_getI C hw kc_13 2 (Mc_N0 hk0) (Mc_T0 hk0) wd_2644 dX13_state_94 (by decide) rfl ?_
                refine lv_iload_n C.1.1 C.1.2.1 dX13_state_97 rfl (lv_at hl 1 rfl) ?_
                obtain ⟨q19, hD⟩ := g_ck hD
                obtain ⟨M20, eM20, hD⟩ := g_let hD
                refine mr_iast C hw (Mc_N2 hk0) (Mc_T2 hk0) q19 dX13_state_98 (fun H locs hw => ?_)
                replace hw : mw_W G ad NF TF FF M20 L9 H locs := by rw [eM20]; exact hw
                refine lv_aload_n C.1.1 C.1.2.1 dX13_state_99 rfl (lv_at hl 0 rfl) ?_
                refine mr_getR C hw kc_13 5 (Mc_N0 hk0) (Mc_T0 hk0) (Mc_F0_5 hk0) wd_2647 dX13_state_100 (by decide) rfl ?_
                refine lv_aload_n C.1.1 C.1.2.1 dX13_state_103 rfl (lv_at hl 0 rfl) ?_
                refine mr_getI C hw kc_13 2 (Mc_N0 hk0) (Mc_T0 hk0) wd_2644 dX13_state_104 (by decide) rfl ?_
                refine lv_aload_n C.1.1 C.1.2.1 dX13_state_107 rfl (lv_at hl 0 rfl) ?_
                refine mr_getR C hw kc_13 5 (Mc_N0 hk0) (Mc_T0 hk0) (Mc_F0_5 hk0) wd_2647 dX13_state_108 (by decide) rfl ?_
                refine lv_iload_n C.1.1 C.1.2.1 dX13_state_111 rfl (lv_at hl 1 rfl) ?_
                obtain ⟨q21, hD⟩ := g_ck hD
                refine mr_iald C hw (Mc_N3 hk0) (Mc_T3 hk0) q21 dX13_state_112 ?_
                refine lv_iconst (v := 1) C.1.1 C.1.2.1 dX13_state_113 (by decide) ?_
                refine lv_iadd C.1.1 C.1.2.1 dX13_state_114 ?_
                obtain ⟨q22, hD⟩ := g_ck hD
                obtain ⟨M23, eM23, hD⟩ := g_let hD
                refine mr_iast C hw (Mc_N3 hk0) (Mc_T3 hk0) q22 dX13_state_115 (fun H locs hw => ?_)
                replace hw : mw_W G ad NF TF FF M23 L9 H locs := by rw [eM23]; exact hw
                refine lv_aload_n C.1.1 C.1.2.1 dX13_state_116 rfl (lv_at hl 0 rfl) ?_
                refine mr_getI C hw kc_13 2 (Mc_N0 hk0) (Mc_T0 hk0) wd_2644 dX13_state_117 (by decide) rfl ?_
                exact mr_iret C hr hlocks hw rfl (Option.some.inj hD) dX13_state_120
              · replace hD := g_pos c15 hD
                refine lv_bipush (v := (-4)) C.1.1 C.1.2.1 dX13_state_66 (by decide) ?_
                exact mr_iret C hr hlocks hw rfl (Option.some.inj hD) dX13_state_68
            · replace hD := g_neg c14 hD
              refine lv_bipush (v := (-3)) C.1.1 C.1.2.1 dX13_state_53 (by decide) ?_
              exact mr_iret C hr hlocks hw rfl (Option.some.inj hD) dX13_state_55
          · replace hD := g_pos c13 hD
            exact hb43 M8 L9 _ _ ls hD hw (lv_sub hl [] rfl)
  · replace hD := g_neg c5 hD
    refine lv_iconst (v := (-1)) C.1.1 C.1.2.1 dX13_state_13 (by decide) ?_
    exact mr_iret C hr hlocks hw rfl (Option.some.inj hD) dX13_state_14

theorem dX13_edge_0 : decode cX13_edge 0 = .ok (.aload_n 0, 1) := by decide +kernel
theorem dX13_edge_1 : decode cX13_edge 1 = .ok (.iconst 0, 1) := by decide +kernel
theorem dX13_edge_2 : decode cX13_edge 2 = .ok (.putfield 132, 3) := by decide +kernel
theorem dX13_edge_5 : decode cX13_edge 5 = .ok (.aload_n 0, 1) := by decide +kernel
theorem dX13_edge_6 : decode cX13_edge 6 = .ok (.iload_n 1, 1) := by decide +kernel
theorem dX13_edge_7 : decode cX13_edge 7 = .ok (.invokevirtual 135, 3) := by decide +kernel
theorem dX13_edge_10 : decode cX13_edge 10 = .ok (.ifCond .ne 19, 3) := by decide +kernel
theorem dX13_edge_13 : decode cX13_edge 13 = .ok (.aload_n 0, 1) := by decide +kernel
theorem dX13_edge_14 : decode cX13_edge 14 = .ok (.iload_n 2, 1) := by decide +kernel
theorem dX13_edge_15 : decode cX13_edge 15 = .ok (.invokevirtual 135, 3) := by decide +kernel
theorem dX13_edge_18 : decode cX13_edge 18 = .ok (.ifCond .ne 11, 3) := by decide +kernel
theorem dX13_edge_21 : decode cX13_edge 21 = .ok (.iload_n 1, 1) := by decide +kernel
theorem dX13_edge_22 : decode cX13_edge 22 = .ok (.ifCond .eq 7, 3) := by decide +kernel
theorem dX13_edge_25 : decode cX13_edge 25 = .ok (.iload_n 2, 1) := by decide +kernel
theorem dX13_edge_26 : decode cX13_edge 26 = .ok (.ifCond .ne 5, 3) := by decide +kernel
theorem dX13_edge_29 : decode cX13_edge 29 = .ok (.iconst (-1), 1) := by decide +kernel
theorem dX13_edge_30 : decode cX13_edge 30 = .ok (.ireturn, 1) := by decide +kernel
theorem dX13_edge_31 : decode cX13_edge 31 = .ok (.iload_n 3, 1) := by decide +kernel
theorem dX13_edge_32 : decode cX13_edge 32 = .ok (.ifCond .lt 10, 3) := by decide +kernel
theorem dX13_edge_35 : decode cX13_edge 35 = .ok (.iload_n 3, 1) := by decide +kernel
theorem dX13_edge_36 : decode cX13_edge 36 = .ok (.sipush 1000, 3) := by decide +kernel
theorem dX13_edge_39 : decode cX13_edge 39 = .ok (.if_icmp .lt 17, 3) := by decide +kernel
theorem dX13_edge_42 : decode cX13_edge 42 = .ok (.iload_n 3, 1) := by decide +kernel
theorem dX13_edge_43 : decode cX13_edge 43 = .ok (.sipush 1000, 3) := by decide +kernel
theorem dX13_edge_46 : decode cX13_edge 46 = .ok (.if_icmp .le 14, 3) := by decide +kernel
theorem dX13_edge_49 : decode cX13_edge 49 = .ok (.iload_n 3, 1) := by decide +kernel
theorem dX13_edge_50 : decode cX13_edge 50 = .ok (.sipush 1201, 3) := by decide +kernel
theorem dX13_edge_53 : decode cX13_edge 53 = .ok (.if_icmp .ge 7, 3) := by decide +kernel
theorem dX13_edge_56 : decode cX13_edge 56 = .ok (.iconst 1, 1) := by decide +kernel
theorem dX13_edge_57 : decode cX13_edge 57 = .ok (.goto 4, 3) := by decide +kernel
theorem dX13_edge_60 : decode cX13_edge 60 = .ok (.iconst 0, 1) := by decide +kernel
theorem dX13_edge_61 : decode cX13_edge 61 = .ok (.istore 5, 2) := by decide +kernel
theorem dX13_edge_63 : decode cX13_edge 63 = .ok (.iload 4, 2) := by decide +kernel
theorem dX13_edge_65 : decode cX13_edge 65 = .ok (.ifCond .eq 34, 3) := by decide +kernel
theorem dX13_edge_68 : decode cX13_edge 68 = .ok (.iload 4, 2) := by decide +kernel
theorem dX13_edge_70 : decode cX13_edge 70 = .ok (.ifCond .le 33, 3) := by decide +kernel
theorem dX13_edge_73 : decode cX13_edge 73 = .ok (.iload 4, 2) := by decide +kernel
theorem dX13_edge_75 : decode cX13_edge 75 = .ok (.sipush 16384, 3) := by decide +kernel
theorem dX13_edge_78 : decode cX13_edge 78 = .ok (.if_icmp .ge 25, 3) := by decide +kernel
theorem dX13_edge_81 : decode cX13_edge 81 = .ok (.iload 4, 2) := by decide +kernel
theorem dX13_edge_83 : decode cX13_edge 83 = .ok (.bipush 7, 2) := by decide +kernel
theorem dX13_edge_85 : decode cX13_edge 85 = .ok (.iand, 1) := by decide +kernel
theorem dX13_edge_86 : decode cX13_edge 86 = .ok (.ifCond .le 17, 3) := by decide +kernel
theorem dX13_edge_89 : decode cX13_edge 89 = .ok (.iload 4, 2) := by decide +kernel
theorem dX13_edge_91 : decode cX13_edge 91 = .ok (.bipush 7, 2) := by decide +kernel
theorem dX13_edge_93 : decode cX13_edge 93 = .ok (.iand, 1) := by decide +kernel
theorem dX13_edge_94 : decode cX13_edge 94 = .ok (.bipush 7, 2) := by decide +kernel
theorem dX13_edge_96 : decode cX13_edge 96 = .ok (.if_icmp .ge 7, 3) := by decide +kernel
theorem dX13_edge_99 : decode cX13_edge 99 = .ok (.iconst 1, 1) := by decide +kernel
theorem dX13_edge_100 : decode cX13_edge 100 = .ok (.goto 4, 3) := by decide +kernel
theorem dX13_edge_103 : decode cX13_edge 103 = .ok (.iconst 0, 1) := by decide +kernel
theorem dX13_edge_104 : decode cX13_edge 104 = .ok (.istore 6, 2) := by decide +kernel
theorem dX13_edge_106 : decode cX13_edge 106 = .ok (.aload_n 0, 1) := by decide +kernel
theorem dX13_edge_107 : decode cX13_edge 107 = .ok (.getfield 7, 3) := by decide +kernel
theorem dX13_edge_110 : decode cX13_edge 110 = .ok (.iload_n 1, 1) := by decide +kernel
theorem dX13_edge_111 : decode cX13_edge 111 = .ok (.iaload, 1) := by decide +kernel
theorem dX13_edge_112 : decode cX13_edge 112 = .ok (.iconst 2, 1) := by decide +kernel
theorem dX13_edge_113 : decode cX13_edge 113 = .ok (.if_icmp .eq 23, 3) := by decide +kernel
theorem dX13_edge_116 : decode cX13_edge 116 = .ok (.aload_n 0, 1) := by decide +kernel
theorem dX13_edge_117 : decode cX13_edge 117 = .ok (.getfield 7, 3) := by decide +kernel
theorem dX13_edge_120 : decode cX13_edge 120 = .ok (.iload_n 1, 1) := by decide +kernel
theorem dX13_edge_121 : decode cX13_edge 121 = .ok (.iaload, 1) := by decide +kernel
theorem dX13_edge_122 : decode cX13_edge 122 = .ok (.iconst 3, 1) := by decide +kernel
theorem dX13_edge_123 : decode cX13_edge 123 = .ok (.if_icmp .eq 13, 3) := by decide +kernel
theorem dX13_edge_126 : decode cX13_edge 126 = .ok (.iload 5, 2) := by decide +kernel
theorem dX13_edge_128 : decode cX13_edge 128 = .ok (.ifCond .eq 8, 3) := by decide +kernel
theorem dX13_edge_131 : decode cX13_edge 131 = .ok (.iload 6, 2) := by decide +kernel
theorem dX13_edge_133 : decode cX13_edge 133 = .ok (.ifCond .ne 6, 3) := by decide +kernel
theorem dX13_edge_136 : decode cX13_edge 136 = .ok (.bipush (-2), 2) := by decide +kernel
theorem dX13_edge_138 : decode cX13_edge 138 = .ok (.ireturn, 1) := by decide +kernel
theorem dX13_edge_139 : decode cX13_edge 139 = .ok (.aload_n 0, 1) := by decide +kernel
theorem dX13_edge_140 : decode cX13_edge 140 = .ok (.getfield 115, 3) := by decide +kernel
theorem dX13_edge_143 : decode cX13_edge 143 = .ok (.ifCond .eq 6, 3) := by decide +kernel
theorem dX13_edge_146 : decode cX13_edge 146 = .ok (.bipush (-3), 2) := by decide +kernel
theorem dX13_edge_148 : decode cX13_edge 148 = .ok (.ireturn, 1) := by decide +kernel
theorem dX13_edge_149 : decode cX13_edge 149 = .ok (.aload_n 0, 1) := by decide +kernel
theorem dX13_edge_150 : decode cX13_edge 150 = .ok (.getfield 106, 3) := by decide +kernel
theorem dX13_edge_153 : decode cX13_edge 153 = .ok (.sipush 400, 3) := by decide +kernel
theorem dX13_edge_156 : decode cX13_edge 156 = .ok (.if_icmp .ne 6, 3) := by decide +kernel
theorem dX13_edge_159 : decode cX13_edge 159 = .ok (.bipush (-4), 2) := by decide +kernel
theorem dX13_edge_161 : decode cX13_edge 161 = .ok (.ireturn, 1) := by decide +kernel
theorem dX13_edge_162 : decode cX13_edge 162 = .ok (.aload_n 0, 1) := by decide +kernel
theorem dX13_edge_163 : decode cX13_edge 163 = .ok (.dup, 1) := by decide +kernel
theorem dX13_edge_164 : decode cX13_edge 164 = .ok (.getfield 106, 3) := by decide +kernel
theorem dX13_edge_167 : decode cX13_edge 167 = .ok (.iconst 1, 1) := by decide +kernel
theorem dX13_edge_168 : decode cX13_edge 168 = .ok (.iadd, 1) := by decide +kernel
theorem dX13_edge_169 : decode cX13_edge 169 = .ok (.putfield 106, 3) := by decide +kernel
theorem dX13_edge_172 : decode cX13_edge 172 = .ok (.aload_n 0, 1) := by decide +kernel
theorem dX13_edge_173 : decode cX13_edge 173 = .ok (.getfield 39, 3) := by decide +kernel
theorem dX13_edge_176 : decode cX13_edge 176 = .ok (.aload_n 0, 1) := by decide +kernel
theorem dX13_edge_177 : decode cX13_edge 177 = .ok (.getfield 106, 3) := by decide +kernel
theorem dX13_edge_180 : decode cX13_edge 180 = .ok (.iload_n 1, 1) := by decide +kernel
theorem dX13_edge_181 : decode cX13_edge 181 = .ok (.iastore, 1) := by decide +kernel
theorem dX13_edge_182 : decode cX13_edge 182 = .ok (.aload_n 0, 1) := by decide +kernel
theorem dX13_edge_183 : decode cX13_edge 183 = .ok (.getfield 42, 3) := by decide +kernel
theorem dX13_edge_186 : decode cX13_edge 186 = .ok (.aload_n 0, 1) := by decide +kernel
theorem dX13_edge_187 : decode cX13_edge 187 = .ok (.getfield 106, 3) := by decide +kernel
theorem dX13_edge_190 : decode cX13_edge 190 = .ok (.iload_n 2, 1) := by decide +kernel
theorem dX13_edge_191 : decode cX13_edge 191 = .ok (.iastore, 1) := by decide +kernel
theorem dX13_edge_192 : decode cX13_edge 192 = .ok (.aload_n 0, 1) := by decide +kernel
theorem dX13_edge_193 : decode cX13_edge 193 = .ok (.getfield 45, 3) := by decide +kernel
theorem dX13_edge_196 : decode cX13_edge 196 = .ok (.aload_n 0, 1) := by decide +kernel
theorem dX13_edge_197 : decode cX13_edge 197 = .ok (.getfield 106, 3) := by decide +kernel
theorem dX13_edge_200 : decode cX13_edge 200 = .ok (.iload_n 3, 1) := by decide +kernel
theorem dX13_edge_201 : decode cX13_edge 201 = .ok (.iastore, 1) := by decide +kernel
theorem dX13_edge_202 : decode cX13_edge 202 = .ok (.aload_n 0, 1) := by decide +kernel
theorem dX13_edge_203 : decode cX13_edge 203 = .ok (.getfield 48, 3) := by decide +kernel
theorem dX13_edge_206 : decode cX13_edge 206 = .ok (.aload_n 0, 1) := by decide +kernel
theorem dX13_edge_207 : decode cX13_edge 207 = .ok (.getfield 106, 3) := by decide +kernel
theorem dX13_edge_210 : decode cX13_edge 210 = .ok (.iload 4, 2) := by decide +kernel
theorem dX13_edge_212 : decode cX13_edge 212 = .ok (.iastore, 1) := by decide +kernel
theorem dX13_edge_213 : decode cX13_edge 213 = .ok (.aload_n 0, 1) := by decide +kernel
theorem dX13_edge_214 : decode cX13_edge 214 = .ok (.getfield 106, 3) := by decide +kernel
theorem dX13_edge_217 : decode cX13_edge 217 = .ok (.ireturn, 1) := by decide +kernel
theorem cwX13_edge : mw_cwV yX13_edge cX13_edge 7 ((some .int)) 4 := ⟨⟨wd_20, wd_3308, by decide +kernel⟩, wd_3306, wd_3307⟩
set_option maxHeartbeats 4000000 in
set_option maxRecDepth 100000 in
theorem tX13_edge (l : Launch) (G : mwG) (ad : Nat → Nat) (fu : Nat) (k : Nat) (a1 : Int32) (a2 : Int32) (a3 : Int32) (a4 : Int32) (M : mwM) (L : mwL) {r0 : Int32} {M0 : mwM} {L0 : mwL} (hD : DX13_edge fu k a1 a2 a3 a4 M L = some (r0, M0, L0)) (hk0 : isMc k) : Met l yX13_edge (Cond.code yX13_edge cX13_edge 7 ((some .int)) :: GT) ({ frames := 1, cells := 0, slots := 0, locals := 21 }) (mw_Pre G ad NF TF FF M L [.ref (ad k), .int a1, .int a2, .int a3, .int a4]) (mw_Qi G ad NF TF FF (mw_eqI r0 M0 L0)) 0 0 (mw_fr G) := by
  refine mw_enter (by decide) (Nat.le_of_ble_eq_true rfl) ?_
  intro p e s m below meth c ls C hr hlocks hnm hw hl
  have hl : lv_has ls 7 [(0, .ref (ad k)), (1, .int a1), (2, .int a2), (3, .int a3), (4, .int a4)] := hl
  have hb29 : ∀ (M : mwM) (L : mwL) (H : Heap) (locs : List Loc) (ls : Array Slot), fX13_edge_b29 fu k a1 a2 a3 a4 M L = some (r0, M0, L0) → mw_W G ad NF TF FF M L H locs → lv_has ls 7 [] → W p l e ({ frames := 1, cells := 0, slots := 0, locals := 21 }) s m [.ref (ad k), .int a1, .int a2, .int a3, .int a4].toArray below meth c H locs 0 0 (MQ below (mw_Qi G ad NF TF FF (mw_eqI r0 M0 L0)) [.ref (ad k), .int a1, .int a2, .int a3, .int a4].toArray s 0 0 (mw_fr G)) (F0 m 29 ls []) := by
    intro M L H locs ls hD hw hl
    unfold fX13_edge_b29 at hD
    refine lv_iconst (v := (-1)) C.1.1 C.1.2.1 dX13_edge_29 (by decide) ?_
    exact mr_iret C hr hlocks hw rfl (Option.some.inj hD) dX13_edge_30
  have hb136 : ∀ (M : mwM) (L : mwL) (H : Heap) (locs : List Loc) (ls : Array Slot), fX13_edge_b136 fu k a1 a2 a3 a4 M L = some (r0, M0, L0) → mw_W G ad NF TF FF M L H locs → lv_has ls 7 [] → W p l e ({ frames := 1, cells := 0, slots := 0, locals := 21 }) s m [.ref (ad k), .int a1, .int a2, .int a3, .int a4].toArray below meth c H locs 0 0 (MQ below (mw_Qi G ad NF TF FF (mw_eqI r0 M0 L0)) [.ref (ad k), .int a1, .int a2, .int a3, .int a4].toArray s 0 0 (mw_fr G)) (F0 m 136 ls []) := by
    intro M L H locs ls hD hw hl
    unfold fX13_edge_b136 at hD
    refine lv_bipush (v := (-2)) C.1.1 C.1.2.1 dX13_edge_136 (by decide) ?_
    exact mr_iret C hr hlocks hw rfl (Option.some.inj hD) dX13_edge_138
  have hb104 : ∀ (v5 : Int32) (s0 : Int32) (M : mwM) (L : mwL) (H : Heap) (locs : List Loc) (ls : Array Slot), fX13_edge_b104 fu k a1 a2 a3 a4 v5 s0 M L = some (r0, M0, L0) → mw_W G ad NF TF FF M L H locs → lv_has ls 7 [(0, .ref (ad k)), (1, .int a1), (2, .int a2), (3, .int a3), (4, .int a4), (5, .int v5)] → W p l e ({ frames := 1, cells := 0, slots := 0, locals := 21 }) s m [.ref (ad k), .int a1, .int a2, .int a3, .int a4].toArray below meth c H locs 0 0 (MQ below (mw_Qi G ad NF TF FF (mw_eqI r0 M0 L0)) [.ref (ad k), .int a1, .int a2, .int a3, .int a4].toArray s 0 0 (mw_fr G)) (F0 m 104 ls [.int s0]) := by
    intro v5 s0 M L H locs ls hD hw hl
    unfold fX13_edge_b104 at hD
    refine lv_istore (lv' := [(6, .int s0), (0, .ref (ad k)), (1, .int a1), (2, .int a2), (3, .int a3), (4, .int a4), (5, .int v5)]) C.1.1 C.1.2.1 dX13_edge_104 hl (by decide) rfl (fun ls hl => ?_)
    refine lv_aload_n C.1.1 C.1.2.1 dX13_edge_106 rfl (lv_at hl 1 rfl) ?_
    refine mr_getR C hw kc_13 3 (Mc_N0 hk0) (Mc_T0 hk0) (Mc_F0_3 hk0) wd_2645 dX13_edge_107 (by decide) rfl ?_
    refine lv_iload_n C.1.1 C.1.2.1 dX13_edge_110 rfl (lv_at hl 2 rfl) ?_
    obtain ⟨q8, hD⟩ := g_ck hD
    refine mr_iald C hw (Mc_N1 hk0) (Mc_T1 hk0) q8 dX13_edge_111 ?_
    refine lv_iconst (v := 2) C.1.1 C.1.2.1 dX13_edge_112 (by decide) ?_
    refine lv_icmp_eq (tgt := 136) C.1.1 C.1.2.1 dX13_edge_113 (by decide) (fun c9 => ?_) (fun c9 => ?_)
    · replace hD := g_pos c9 hD
      exact hb136 M L _ _ ls hD hw (lv_sub hl [] rfl)
    · replace hD := g_neg c9 hD
      refine lv_aload_n C.1.1 C.1.2.1 dX13_edge_116 rfl (lv_at hl 1 rfl) ?_
      refine mr_getR C hw kc_13 3 (Mc_N0 hk0) (Mc_T0 hk0) (Mc_F0_3 hk0) wd_2645 dX13_edge_117 (by decide) rfl ?_
      refine lv_iload_n C.1.1 C.1.2.1 dX13_edge_120 rfl (lv_at hl 2 rfl) ?_
      obtain ⟨q10, hD⟩ := g_ck hD
      refine mr_iald C hw (Mc_N1 hk0) (Mc_T1 hk0) q10 dX13_edge_121 ?_
      refine lv_iconst (v := 3) C.1.1 C.1.2.1 dX13_edge_122 (by decide) ?_
      refine lv_icmp_eq (tgt := 136) C.1.1 C.1.2.1 dX13_edge_123 (by decide) (fun c11 => ?_) (fun c11 => ?_)
      · replace hD := g_pos c11 hD
        exact hb136 M L _ _ ls hD hw (lv_sub hl [] rfl)
      · replace hD := g_neg c11 hD
        refine lv_iload C.1.1 C.1.2.1 dX13_edge_126 (lv_at hl 6 rfl) ?_
        refine lv_if_eq (tgt := 136) C.1.1 C.1.2.1 dX13_edge_128 (by decide) (fun c12 => ?_) (fun c12 => ?_)
        · replace hD := g_pos c12 hD
          exact hb136 M L _ _ ls hD hw (lv_sub hl [] rfl)
        · replace hD := g_neg c12 hD
          refine lv_iload C.1.1 C.1.2.1 dX13_edge_131 (lv_at hl 0 rfl) ?_
          refine lv_if_ne (tgt := 139) C.1.1 C.1.2.1 dX13_edge_133 (by decide) (fun c13 => ?_) (fun c13 => ?_)
          · replace hD := g_neg c13 hD
            refine lv_aload_n C.1.1 C.1.2.1 dX13_edge_139 rfl (lv_at hl 1 rfl) ?_
            refine mr_getI C hw kc_13 27 (Mc_N0 hk0) (Mc_T0 hk0) wd_2669 dX13_edge_140 (by decide) rfl ?_
            refine lv_if_eq (tgt := 149) C.1.1 C.1.2.1 dX13_edge_143 (by decide) (fun c14 => ?_) (fun c14 => ?_)
            · replace hD := g_pos c14 hD
              refine lv_aload_n C.1.1 C.1.2.1 dX13_edge_149 rfl (lv_at hl 1 rfl) ?_
              refine mr_getI C hw kc_13 12 (Mc_N0 hk0) (Mc_T0 hk0) wd_2654 dX13_edge_150 (by decide) rfl ?_
              refine lv_sipush (v := 400) C.1.1 C.1.2.1 dX13_edge_153 (by decide) ?_
              refine lv_icmp_ne (tgt := 162) C.1.1 C.1.2.1 dX13_edge_156 (by decide) (fun c15 => ?_) (fun c15 => ?_)
              · replace hD := g_neg c15 hD
                refine lv_aload_n C.1.1 C.1.2.1 dX13_edge_162 rfl (lv_at hl 1 rfl) ?_
                refine lv_dup C.1.1 C.1.2.1 dX13_edge_163 rfl ?_
                refine mr_getI C hw kc_13 12 (Mc_N0 hk0) (Mc_T0 hk0) wd_2654 dX13_edge_164 (by decide) rfl ?_
                refine lv_iconst (v := 1) C.1.1 C.1.2.1 dX13_edge_167 (by decide) ?_
                refine lv_iadd C.1.1 C.1.2.1 dX13_edge_168 ?_
                obtain ⟨M16, eM16, hD⟩ := g_let hD
                refine mr_putI C hw kc_13 12 (Mc_N0 hk0) (Mc_T0 hk0) wd_2654 dX13_edge_169 (by decide) rfl rfl rfl rfl (fun H locs hw => ?_)
                replace hw : mw_W G ad NF TF FF M16 L H locs := by rw [eM16]; exact hw
                refine lv_aload_n C.1.1 C.1.2.1 dX13_edge_172 rfl (lv_at hl 1 rfl) ?_
                refine mr_getR C hw kc_13 13 (Mc_N0 hk0) (Mc_T0 hk0) (Mc_F0_13 hk0) wd_2655 dX13_edge_173 (by decide) rfl ?_
                refine lv_aload_n C.1.1 C.1.2.1 dX13_edge_176 rfl (lv_at hl 1 rfl) ?_
                refine mr_getI C hw kc_13 12 (Mc_N0 hk0) (Mc_T0 hk0) wd_2654 dX13_edge_177 (by decide) rfl ?_
                refine lv_iload_n C.1.1 C.1.2.1 dX13_edge_180 rfl (lv_at hl 2 rfl) ?_
                obtain ⟨q17, hD⟩ := g_ck hD
                obtain ⟨M18, eM18, hD⟩ := g_let hD
                refine mr_iast C hw (Mc_N10 hk0) (Mc_T10 hk0) q17 dX13_edge_181 (fun H locs hw => ?_)
                replace hw : mw_W G ad NF TF FF M18 L H locs := by rw [eM18]; exact hw
                refine lv_aload_n C.1.1 C.1.2.1 dX13_edge_182 rfl (lv_at hl 1 rfl) ?_
                refine mr_getR C hw kc_13 14 (Mc_N0 hk0) (Mc_T0 hk0) (Mc_F0_14 hk0) wd_2656 dX13_edge_183 (by decide) rfl ?_
                refine lv_aload_n C.1.1 C.1.2.1 dX13_edge_186 rfl (lv_at hl 1 rfl) ?_
                refine mr_getI C hw kc_13 12 (Mc_N0 hk0) (Mc_T0 hk0) wd_2654 dX13_edge_187 (by decide) rfl ?_
                refine lv_iload_n C.1.1 C.1.2.1 dX13_edge_190 rfl (lv_at hl 3 rfl) ?_
                obtain ⟨q19, hD⟩ := g_ck hD
                obtain ⟨M20, eM20, hD⟩ := g_let hD
                refine mr_iast C hw (Mc_N11 hk0) (Mc_T11 hk0) q19 dX13_edge_191 (fun H locs hw => ?_)
                replace hw : mw_W G ad NF TF FF M20 L H locs := by rw [eM20]; exact hw
                refine lv_aload_n C.1.1 C.1.2.1 dX13_edge_192 rfl (lv_at hl 1 rfl) ?_
                refine mr_getR C hw kc_13 15 (Mc_N0 hk0) (Mc_T0 hk0) (Mc_F0_15 hk0) wd_2657 dX13_edge_193 (by decide) rfl ?_
                refine lv_aload_n C.1.1 C.1.2.1 dX13_edge_196 rfl (lv_at hl 1 rfl) ?_
                refine mr_getI C hw kc_13 12 (Mc_N0 hk0) (Mc_T0 hk0) wd_2654 dX13_edge_197 (by decide) rfl ?_
                refine lv_iload_n C.1.1 C.1.2.1 dX13_edge_200 rfl (lv_at hl 4 rfl) ?_
                obtain ⟨q21, hD⟩ := g_ck hD
                obtain ⟨M22, eM22, hD⟩ := g_let hD
                refine mr_iast C hw (Mc_N12 hk0) (Mc_T12 hk0) q21 dX13_edge_201 (fun H locs hw => ?_)
                replace hw : mw_W G ad NF TF FF M22 L H locs := by rw [eM22]; exact hw
                refine lv_aload_n C.1.1 C.1.2.1 dX13_edge_202 rfl (lv_at hl 1 rfl) ?_
                refine mr_getR C hw kc_13 16 (Mc_N0 hk0) (Mc_T0 hk0) (Mc_F0_16 hk0) wd_2658 dX13_edge_203 (by decide) rfl ?_
                refine lv_aload_n C.1.1 C.1.2.1 dX13_edge_206 rfl (lv_at hl 1 rfl) ?_
                refine mr_getI C hw kc_13 12 (Mc_N0 hk0) (Mc_T0 hk0) wd_2654 dX13_edge_207 (by decide) rfl ?_
                refine lv_iload C.1.1 C.1.2.1 dX13_edge_210 (lv_at hl 5 rfl) ?_
                obtain ⟨q23, hD⟩ := g_ck hD
                obtain ⟨M24, eM24, hD⟩ := g_let hD
                refine mr_iast C hw (Mc_N13 hk0) (Mc_T13 hk0) q23 dX13_edge_212 (fun H locs hw => ?_)
                replace hw : mw_W G ad NF TF FF M24 L H locs := by rw [eM24]; exact hw
                refine lv_aload_n C.1.1 C.1.2.1 dX13_edge_213 rfl (lv_at hl 1 rfl) ?_
                refine mr_getI C hw kc_13 12 (Mc_N0 hk0) (Mc_T0 hk0) wd_2654 dX13_edge_214 (by decide) rfl ?_
                exact mr_iret C hr hlocks hw rfl (Option.some.inj hD) dX13_edge_217
              · replace hD := g_pos c15 hD
                refine lv_bipush (v := (-4)) C.1.1 C.1.2.1 dX13_edge_159 (by decide) ?_
                exact mr_iret C hr hlocks hw rfl (Option.some.inj hD) dX13_edge_161
            · replace hD := g_neg c14 hD
              refine lv_bipush (v := (-3)) C.1.1 C.1.2.1 dX13_edge_146 (by decide) ?_
              exact mr_iret C hr hlocks hw rfl (Option.some.inj hD) dX13_edge_148
          · replace hD := g_pos c13 hD
            exact hb136 M L _ _ ls hD hw (lv_sub hl [] rfl)
  have hb99 : ∀ (v5 : Int32) (M : mwM) (L : mwL) (H : Heap) (locs : List Loc) (ls : Array Slot), fX13_edge_b99 fu k a1 a2 a3 a4 v5 M L = some (r0, M0, L0) → mw_W G ad NF TF FF M L H locs → lv_has ls 7 [(0, .ref (ad k)), (1, .int a1), (2, .int a2), (3, .int a3), (4, .int a4), (5, .int v5)] → W p l e ({ frames := 1, cells := 0, slots := 0, locals := 21 }) s m [.ref (ad k), .int a1, .int a2, .int a3, .int a4].toArray below meth c H locs 0 0 (MQ below (mw_Qi G ad NF TF FF (mw_eqI r0 M0 L0)) [.ref (ad k), .int a1, .int a2, .int a3, .int a4].toArray s 0 0 (mw_fr G)) (F0 m 99 ls []) := by
    intro v5 M L H locs ls hD hw hl
    unfold fX13_edge_b99 at hD
    refine lv_iconst (v := 1) C.1.1 C.1.2.1 dX13_edge_99 (by decide) ?_
    refine lv_goto (tgt := 104) C.1.1 C.1.2.1 dX13_edge_100 (by decide) ?_
    exact hb104 v5 1 M L _ _ ls hD hw (lv_sub hl [0, 1, 2, 3, 4, 5] rfl)
  have hb103 : ∀ (v5 : Int32) (M : mwM) (L : mwL) (H : Heap) (locs : List Loc) (ls : Array Slot), fX13_edge_b103 fu k a1 a2 a3 a4 v5 M L = some (r0, M0, L0) → mw_W G ad NF TF FF M L H locs → lv_has ls 7 [(0, .ref (ad k)), (1, .int a1), (2, .int a2), (3, .int a3), (4, .int a4), (5, .int v5)] → W p l e ({ frames := 1, cells := 0, slots := 0, locals := 21 }) s m [.ref (ad k), .int a1, .int a2, .int a3, .int a4].toArray below meth c H locs 0 0 (MQ below (mw_Qi G ad NF TF FF (mw_eqI r0 M0 L0)) [.ref (ad k), .int a1, .int a2, .int a3, .int a4].toArray s 0 0 (mw_fr G)) (F0 m 103 ls []) := by
    intro v5 M L H locs ls hD hw hl
    unfold fX13_edge_b103 at hD
    refine lv_iconst (v := 0) C.1.1 C.1.2.1 dX13_edge_103 (by decide) ?_
    exact hb104 v5 0 M L _ _ ls hD hw (lv_sub hl [0, 1, 2, 3, 4, 5] rfl)
  have hb61 : ∀ (s0 : Int32) (M : mwM) (L : mwL) (H : Heap) (locs : List Loc) (ls : Array Slot), fX13_edge_b61 fu k a1 a2 a3 a4 s0 M L = some (r0, M0, L0) → mw_W G ad NF TF FF M L H locs → lv_has ls 7 [(0, .ref (ad k)), (1, .int a1), (2, .int a2), (3, .int a3), (4, .int a4)] → W p l e ({ frames := 1, cells := 0, slots := 0, locals := 21 }) s m [.ref (ad k), .int a1, .int a2, .int a3, .int a4].toArray below meth c H locs 0 0 (MQ below (mw_Qi G ad NF TF FF (mw_eqI r0 M0 L0)) [.ref (ad k), .int a1, .int a2, .int a3, .int a4].toArray s 0 0 (mw_fr G)) (F0 m 61 ls [.int s0]) := by
    intro s0 M L H locs ls hD hw hl
    unfold fX13_edge_b61 at hD
    refine lv_istore (lv' := [(5, .int s0), (0, .ref (ad k)), (1, .int a1), (2, .int a2), (3, .int a3), (4, .int a4)]) C.1.1 C.1.2.1 dX13_edge_61 hl (by decide) rfl (fun ls hl => ?_)
    refine lv_iload C.1.1 C.1.2.1 dX13_edge_63 (lv_at hl 5 rfl) ?_
    refine lv_if_eq (tgt := 99) C.1.1 C.1.2.1 dX13_edge_65 (by decide) (fun c3 => ?_) (fun c3 => ?_)
    · replace hD := g_pos c3 hD
      exact hb99 s0 M L _ _ ls hD hw (lv_sub hl [1, 2, 3, 4, 5, 0] rfl)
    · replace hD := g_neg c3 hD
      refine lv_iload C.1.1 C.1.2.1 dX13_edge_68 (lv_at hl 5 rfl) ?_
      refine lv_if_le (tgt := 103) C.1.1 C.1.2.1 dX13_edge_70 (by decide) (fun c4 => ?_) (fun c4 => ?_)
      · replace hD := g_pos c4 hD
        exact hb103 s0 M L _ _ ls hD hw (lv_sub hl [1, 2, 3, 4, 5, 0] rfl)
      · replace hD := g_neg c4 hD
        refine lv_iload C.1.1 C.1.2.1 dX13_edge_73 (lv_at hl 5 rfl) ?_
        refine lv_sipush (v := 16384) C.1.1 C.1.2.1 dX13_edge_75 (by decide) ?_
        refine lv_icmp_ge (tgt := 103) C.1.1 C.1.2.1 dX13_edge_78 (by decide) (fun c5 => ?_) (fun c5 => ?_)
        · replace hD := g_pos c5 hD
          exact hb103 s0 M L _ _ ls hD hw (lv_sub hl [1, 2, 3, 4, 5, 0] rfl)
        · replace hD := g_neg c5 hD
          refine lv_iload C.1.1 C.1.2.1 dX13_edge_81 (lv_at hl 5 rfl) ?_
          refine lv_bipush (v := 7) C.1.1 C.1.2.1 dX13_edge_83 (by decide) ?_
          refine lv_iand C.1.1 C.1.2.1 dX13_edge_85 ?_
          refine lv_if_le (tgt := 103) C.1.1 C.1.2.1 dX13_edge_86 (by decide) (fun c6 => ?_) (fun c6 => ?_)
          · replace hD := g_pos c6 hD
            exact hb103 s0 M L _ _ ls hD hw (lv_sub hl [1, 2, 3, 4, 5, 0] rfl)
          · replace hD := g_neg c6 hD
            refine lv_iload C.1.1 C.1.2.1 dX13_edge_89 (lv_at hl 5 rfl) ?_
            refine lv_bipush (v := 7) C.1.1 C.1.2.1 dX13_edge_91 (by decide) ?_
            refine lv_iand C.1.1 C.1.2.1 dX13_edge_93 ?_
            refine lv_bipush (v := 7) C.1.1 C.1.2.1 dX13_edge_94 (by decide) ?_
            refine lv_icmp_ge (tgt := 103) C.1.1 C.1.2.1 dX13_edge_96 (by decide) (fun c7 => ?_) (fun c7 => ?_)
            · replace hD := g_pos c7 hD
              exact hb103 s0 M L _ _ ls hD hw (lv_sub hl [1, 2, 3, 4, 5, 0] rfl)
            · replace hD := g_neg c7 hD
              exact hb99 s0 M L _ _ ls hD hw (lv_sub hl [1, 2, 3, 4, 5, 0] rfl)
  have hb60 : ∀ (M : mwM) (L : mwL) (H : Heap) (locs : List Loc) (ls : Array Slot), fX13_edge_b60 fu k a1 a2 a3 a4 M L = some (r0, M0, L0) → mw_W G ad NF TF FF M L H locs → lv_has ls 7 [(0, .ref (ad k)), (1, .int a1), (2, .int a2), (3, .int a3), (4, .int a4)] → W p l e ({ frames := 1, cells := 0, slots := 0, locals := 21 }) s m [.ref (ad k), .int a1, .int a2, .int a3, .int a4].toArray below meth c H locs 0 0 (MQ below (mw_Qi G ad NF TF FF (mw_eqI r0 M0 L0)) [.ref (ad k), .int a1, .int a2, .int a3, .int a4].toArray s 0 0 (mw_fr G)) (F0 m 60 ls []) := by
    intro M L H locs ls hD hw hl
    unfold fX13_edge_b60 at hD
    refine lv_iconst (v := 0) C.1.1 C.1.2.1 dX13_edge_60 (by decide) ?_
    exact hb61 0 M L _ _ ls hD hw (lv_sub hl [0, 1, 2, 3, 4] rfl)
  have hb56 : ∀ (M : mwM) (L : mwL) (H : Heap) (locs : List Loc) (ls : Array Slot), fX13_edge_b56 fu k a1 a2 a3 a4 M L = some (r0, M0, L0) → mw_W G ad NF TF FF M L H locs → lv_has ls 7 [(0, .ref (ad k)), (1, .int a1), (2, .int a2), (3, .int a3), (4, .int a4)] → W p l e ({ frames := 1, cells := 0, slots := 0, locals := 21 }) s m [.ref (ad k), .int a1, .int a2, .int a3, .int a4].toArray below meth c H locs 0 0 (MQ below (mw_Qi G ad NF TF FF (mw_eqI r0 M0 L0)) [.ref (ad k), .int a1, .int a2, .int a3, .int a4].toArray s 0 0 (mw_fr G)) (F0 m 56 ls []) := by
    intro M L H locs ls hD hw hl
    unfold fX13_edge_b56 at hD
    refine lv_iconst (v := 1) C.1.1 C.1.2.1 dX13_edge_56 (by decide) ?_
    refine lv_goto (tgt := 61) C.1.1 C.1.2.1 dX13_edge_57 (by decide) ?_
    exact hb61 1 M L _ _ ls hD hw (lv_sub hl [0, 1, 2, 3, 4] rfl)
  have hb42 : ∀ (M : mwM) (L : mwL) (H : Heap) (locs : List Loc) (ls : Array Slot), fX13_edge_b42 fu k a1 a2 a3 a4 M L = some (r0, M0, L0) → mw_W G ad NF TF FF M L H locs → lv_has ls 7 [(0, .ref (ad k)), (1, .int a1), (2, .int a2), (3, .int a3), (4, .int a4)] → W p l e ({ frames := 1, cells := 0, slots := 0, locals := 21 }) s m [.ref (ad k), .int a1, .int a2, .int a3, .int a4].toArray below meth c H locs 0 0 (MQ below (mw_Qi G ad NF TF FF (mw_eqI r0 M0 L0)) [.ref (ad k), .int a1, .int a2, .int a3, .int a4].toArray s 0 0 (mw_fr G)) (F0 m 42 ls []) := by
    intro M L H locs ls hD hw hl
    unfold fX13_edge_b42 at hD
    refine lv_iload_n C.1.1 C.1.2.1 dX13_edge_42 rfl (lv_at hl 3 rfl) ?_
    refine lv_sipush (v := 1000) C.1.1 C.1.2.1 dX13_edge_43 (by decide) ?_
    refine lv_icmp_le (tgt := 60) C.1.1 C.1.2.1 dX13_edge_46 (by decide) (fun c1 => ?_) (fun c1 => ?_)
    · replace hD := g_pos c1 hD
      exact hb60 M L _ _ ls hD hw (lv_sub hl [0, 1, 2, 3, 4] rfl)
    · replace hD := g_neg c1 hD
      refine lv_iload_n C.1.1 C.1.2.1 dX13_edge_49 rfl (lv_at hl 3 rfl) ?_
      refine lv_sipush (v := 1201) C.1.1 C.1.2.1 dX13_edge_50 (by decide) ?_
      refine lv_icmp_ge (tgt := 60) C.1.1 C.1.2.1 dX13_edge_53 (by decide) (fun c2 => ?_) (fun c2 => ?_)
      · replace hD := g_pos c2 hD
        exact hb60 M L _ _ ls hD hw (lv_sub hl [0, 1, 2, 3, 4] rfl)
      · replace hD := g_neg c2 hD
        exact hb56 M L _ _ ls hD hw (lv_sub hl [0, 1, 2, 3, 4] rfl)
  unfold DX13_edge at hD
  refine lv_aload_n C.1.1 C.1.2.1 dX13_edge_0 rfl (lv_at hl 0 rfl) ?_
  refine lv_iconst (v := 0) C.1.1 C.1.2.1 dX13_edge_1 (by decide) ?_
  obtain ⟨M25, eM25, hD⟩ := g_let hD
  refine mr_putI C hw kc_13 0 (Mc_N0 hk0) (Mc_T0 hk0) wd_2642 dX13_edge_2 (by decide) rfl rfl rfl rfl (fun H locs hw => ?_)
  replace hw : mw_W G ad NF TF FF M25 L H locs := by rw [eM25]; exact hw
  refine lv_aload_n C.1.1 C.1.2.1 dX13_edge_5 rfl (lv_at hl 0 rfl) ?_
  refine lv_iload_n C.1.1 C.1.2.1 dX13_edge_6 rfl (lv_at hl 1 rfl) ?_
  obtain ⟨r28, M26, L27, h1, hD⟩ := g_b3 hD
  refine md_cvI (As := [.int a1]) (rest := []) C hw (tX13_none l G ad fu k a1 M25 L h1 hk0) kc_13 (Mc_N0 hk0) (Mc_T0 hk0) wd_3264 cwX13_none ⟨Nat.le_of_ble_eq_true rfl, Nat.le_of_ble_eq_true rfl⟩ rfl hl.1 (Nat.le_of_ble_eq_true rfl) dX13_edge_7 rfl rfl ⟨Nat.zero_le _, Nat.zero_le _⟩ rfl (fun H locs hw => ?_)
  refine lv_if_ne (tgt := 29) C.1.1 C.1.2.1 dX13_edge_10 (by decide) (fun c29 => ?_) (fun c29 => ?_)
  · replace hD := g_neg c29 hD
    exact hb29 M26 L27 _ _ ls hD hw (lv_sub hl [] rfl)
  · replace hD := g_pos c29 hD
    refine lv_aload_n C.1.1 C.1.2.1 dX13_edge_13 rfl (lv_at hl 0 rfl) ?_
    refine lv_iload_n C.1.1 C.1.2.1 dX13_edge_14 rfl (lv_at hl 2 rfl) ?_
    obtain ⟨r32, M30, L31, h1, hD⟩ := g_b3 hD
    refine md_cvI (As := [.int a2]) (rest := []) C hw (tX13_none l G ad fu k a2 M26 L27 h1 hk0) kc_13 (Mc_N0 hk0) (Mc_T0 hk0) wd_3264 cwX13_none ⟨Nat.le_of_ble_eq_true rfl, Nat.le_of_ble_eq_true rfl⟩ rfl hl.1 (Nat.le_of_ble_eq_true rfl) dX13_edge_15 rfl rfl ⟨Nat.zero_le _, Nat.zero_le _⟩ rfl (fun H locs hw => ?_)
    refine lv_if_ne (tgt := 29) C.1.1 C.1.2.1 dX13_edge_18 (by decide) (fun c33 => ?_) (fun c33 => ?_)
    · replace hD := g_neg c33 hD
      exact hb29 M30 L31 _ _ ls hD hw (lv_sub hl [] rfl)
    · replace hD := g_pos c33 hD
      refine lv_iload_n C.1.1 C.1.2.1 dX13_edge_21 rfl (lv_at hl 1 rfl) ?_
      refine lv_if_eq (tgt := 29) C.1.1 C.1.2.1 dX13_edge_22 (by decide) (fun c34 => ?_) (fun c34 => ?_)
      · replace hD := g_pos c34 hD
        exact hb29 M30 L31 _ _ ls hD hw (lv_sub hl [] rfl)
      · replace hD := g_neg c34 hD
        refine lv_iload_n C.1.1 C.1.2.1 dX13_edge_25 rfl (lv_at hl 2 rfl) ?_
        refine lv_if_ne (tgt := 31) C.1.1 C.1.2.1 dX13_edge_26 (by decide) (fun c35 => ?_) (fun c35 => ?_)
        · replace hD := g_neg c35 hD
          refine lv_iload_n C.1.1 C.1.2.1 dX13_edge_31 rfl (lv_at hl 3 rfl) ?_
          refine lv_if_lt (tgt := 42) C.1.1 C.1.2.1 dX13_edge_32 (by decide) (fun c36 => ?_) (fun c36 => ?_)
          · replace hD := g_pos c36 hD
            exact hb42 M30 L31 _ _ ls hD hw (lv_sub hl [0, 1, 2, 3, 4] rfl)
          · replace hD := g_neg c36 hD
            refine lv_iload_n C.1.1 C.1.2.1 dX13_edge_35 rfl (lv_at hl 3 rfl) ?_
            refine lv_sipush (v := 1000) C.1.1 C.1.2.1 dX13_edge_36 (by decide) ?_
            refine lv_icmp_lt (tgt := 56) C.1.1 C.1.2.1 dX13_edge_39 (by decide) (fun c37 => ?_) (fun c37 => ?_)
            · replace hD := g_pos c37 hD
              exact hb56 M30 L31 _ _ ls hD hw (lv_sub hl [0, 1, 2, 3, 4] rfl)
            · replace hD := g_neg c37 hD
              exact hb42 M30 L31 _ _ ls hD hw (lv_sub hl [0, 1, 2, 3, 4] rfl)
        · replace hD := g_pos c35 hD
          exact hb29 M30 L31 _ _ ls hD hw (lv_sub hl [] rfl)

theorem dX13_act_0 : decode cX13_act 0 = .ok (.aload_n 0, 1) := by decide +kernel
theorem dX13_act_1 : decode cX13_act 1 = .ok (.iconst 0, 1) := by decide +kernel
theorem dX13_act_2 : decode cX13_act 2 = .ok (.putfield 132, 3) := by decide +kernel
theorem dX13_act_5 : decode cX13_act 5 = .ok (.iload_n 2, 1) := by decide +kernel
theorem dX13_act_6 : decode cX13_act 6 = .ok (.iconst 2, 1) := by decide +kernel
theorem dX13_act_7 : decode cX13_act 7 = .ok (.if_icmp .eq 8, 3) := by decide +kernel
theorem dX13_act_10 : decode cX13_act 10 = .ok (.iload_n 2, 1) := by decide +kernel
theorem dX13_act_11 : decode cX13_act 11 = .ok (.iconst 5, 1) := by decide +kernel
theorem dX13_act_12 : decode cX13_act 12 = .ok (.if_icmp .ne 7, 3) := by decide +kernel
theorem dX13_act_15 : decode cX13_act 15 = .ok (.iconst 1, 1) := by decide +kernel
theorem dX13_act_16 : decode cX13_act 16 = .ok (.goto 4, 3) := by decide +kernel
theorem dX13_act_19 : decode cX13_act 19 = .ok (.iconst 0, 1) := by decide +kernel
theorem dX13_act_20 : decode cX13_act 20 = .ok (.istore 6, 2) := by decide +kernel
theorem dX13_act_22 : decode cX13_act 22 = .ok (.iload_n 1, 1) := by decide +kernel
theorem dX13_act_23 : decode cX13_act 23 = .ok (.iconst 1, 1) := by decide +kernel
theorem dX13_act_24 : decode cX13_act 24 = .ok (.if_icmp .lt 23, 3) := by decide +kernel
theorem dX13_act_27 : decode cX13_act 27 = .ok (.iload_n 1, 1) := by decide +kernel
theorem dX13_act_28 : decode cX13_act 28 = .ok (.iload 6, 2) := by decide +kernel
theorem dX13_act_30 : decode cX13_act 30 = .ok (.ifCond .eq 10, 3) := by decide +kernel
theorem dX13_act_33 : decode cX13_act 33 = .ok (.aload_n 0, 1) := by decide +kernel
theorem dX13_act_34 : decode cX13_act 34 = .ok (.getfield 106, 3) := by decide +kernel
theorem dX13_act_37 : decode cX13_act 37 = .ok (.goto 7, 3) := by decide +kernel
theorem dX13_act_40 : decode cX13_act 40 = .ok (.aload_n 0, 1) := by decide +kernel
theorem dX13_act_41 : decode cX13_act 41 = .ok (.getfield 103, 3) := by decide +kernel
theorem dX13_act_44 : decode cX13_act 44 = .ok (.if_icmp .le 5, 3) := by decide +kernel
theorem dX13_act_47 : decode cX13_act 47 = .ok (.iconst (-1), 1) := by decide +kernel
theorem dX13_act_48 : decode cX13_act 48 = .ok (.ireturn, 1) := by decide +kernel
theorem dX13_act_49 : decode cX13_act 49 = .ok (.iload_n 2, 1) := by decide +kernel
theorem dX13_act_50 : decode cX13_act 50 = .ok (.ifCond .lt 31, 3) := by decide +kernel
theorem dX13_act_53 : decode cX13_act 53 = .ok (.iload_n 2, 1) := by decide +kernel
theorem dX13_act_54 : decode cX13_act 54 = .ok (.iconst 5, 1) := by decide +kernel
theorem dX13_act_55 : decode cX13_act 55 = .ok (.if_icmp .gt 26, 3) := by decide +kernel
theorem dX13_act_58 : decode cX13_act 58 = .ok (.iload_n 3, 1) := by decide +kernel
theorem dX13_act_59 : decode cX13_act 59 = .ok (.ifCond .lt 22, 3) := by decide +kernel
theorem dX13_act_62 : decode cX13_act 62 = .ok (.iload_n 3, 1) := by decide +kernel
theorem dX13_act_63 : decode cX13_act 63 = .ok (.bipush 31, 2) := by decide +kernel
theorem dX13_act_65 : decode cX13_act 65 = .ok (.if_icmp .gt 16, 3) := by decide +kernel
theorem dX13_act_68 : decode cX13_act 68 = .ok (.iload 6, 2) := by decide +kernel
theorem dX13_act_70 : decode cX13_act 70 = .ok (.ifCond .ne 14, 3) := by decide +kernel
theorem dX13_act_73 : decode cX13_act 73 = .ok (.aload_n 0, 1) := by decide +kernel
theorem dX13_act_74 : decode cX13_act 74 = .ok (.iload_n 1, 1) := by decide +kernel
theorem dX13_act_75 : decode cX13_act 75 = .ok (.invokevirtual 139, 3) := by decide +kernel
theorem dX13_act_78 : decode cX13_act 78 = .ok (.ifCond .eq 6, 3) := by decide +kernel
theorem dX13_act_81 : decode cX13_act 81 = .ok (.bipush (-2), 2) := by decide +kernel
theorem dX13_act_83 : decode cX13_act 83 = .ok (.ireturn, 1) := by decide +kernel
theorem dX13_act_84 : decode cX13_act 84 = .ok (.aload_n 0, 1) := by decide +kernel
theorem dX13_act_85 : decode cX13_act 85 = .ok (.getfield 115, 3) := by decide +kernel
theorem dX13_act_88 : decode cX13_act 88 = .ok (.ifCond .eq 6, 3) := by decide +kernel
theorem dX13_act_91 : decode cX13_act 91 = .ok (.bipush (-3), 2) := by decide +kernel
theorem dX13_act_93 : decode cX13_act 93 = .ok (.ireturn, 1) := by decide +kernel
theorem dX13_act_94 : decode cX13_act 94 = .ok (.aload_n 0, 1) := by decide +kernel
theorem dX13_act_95 : decode cX13_act 95 = .ok (.getfield 109, 3) := by decide +kernel
theorem dX13_act_98 : decode cX13_act 98 = .ok (.sipush 600, 3) := by decide +kernel
theorem dX13_act_101 : decode cX13_act 101 = .ok (.if_icmp .ne 6, 3) := by decide +kernel
theorem dX13_act_104 : decode cX13_act 104 = .ok (.bipush (-4), 2) := by decide +kernel
theorem dX13_act_106 : decode cX13_act 106 = .ok (.ireturn, 1) := by decide +kernel
theorem dX13_act_107 : decode cX13_act 107 = .ok (.aload_n 0, 1) := by decide +kernel
theorem dX13_act_108 : decode cX13_act 108 = .ok (.getfield 60, 3) := by decide +kernel
theorem dX13_act_111 : decode cX13_act 111 = .ok (.aload_n 0, 1) := by decide +kernel
theorem dX13_act_112 : decode cX13_act 112 = .ok (.getfield 109, 3) := by decide +kernel
theorem dX13_act_115 : decode cX13_act 115 = .ok (.iload_n 1, 1) := by decide +kernel
theorem dX13_act_116 : decode cX13_act 116 = .ok (.iastore, 1) := by decide +kernel
theorem dX13_act_117 : decode cX13_act 117 = .ok (.aload_n 0, 1) := by decide +kernel
theorem dX13_act_118 : decode cX13_act 118 = .ok (.getfield 63, 3) := by decide +kernel
theorem dX13_act_121 : decode cX13_act 121 = .ok (.aload_n 0, 1) := by decide +kernel
theorem dX13_act_122 : decode cX13_act 122 = .ok (.getfield 109, 3) := by decide +kernel
theorem dX13_act_125 : decode cX13_act 125 = .ok (.iload_n 2, 1) := by decide +kernel
theorem dX13_act_126 : decode cX13_act 126 = .ok (.iastore, 1) := by decide +kernel
theorem dX13_act_127 : decode cX13_act 127 = .ok (.aload_n 0, 1) := by decide +kernel
theorem dX13_act_128 : decode cX13_act 128 = .ok (.getfield 66, 3) := by decide +kernel
theorem dX13_act_131 : decode cX13_act 131 = .ok (.aload_n 0, 1) := by decide +kernel
theorem dX13_act_132 : decode cX13_act 132 = .ok (.getfield 109, 3) := by decide +kernel
theorem dX13_act_135 : decode cX13_act 135 = .ok (.iload_n 3, 1) := by decide +kernel
theorem dX13_act_136 : decode cX13_act 136 = .ok (.iastore, 1) := by decide +kernel
theorem dX13_act_137 : decode cX13_act 137 = .ok (.aload_n 0, 1) := by decide +kernel
theorem dX13_act_138 : decode cX13_act 138 = .ok (.getfield 69, 3) := by decide +kernel
theorem dX13_act_141 : decode cX13_act 141 = .ok (.aload_n 0, 1) := by decide +kernel
theorem dX13_act_142 : decode cX13_act 142 = .ok (.getfield 109, 3) := by decide +kernel
theorem dX13_act_145 : decode cX13_act 145 = .ok (.lload 4, 2) := by decide +kernel
theorem dX13_act_147 : decode cX13_act 147 = .ok (.lastore, 1) := by decide +kernel
theorem dX13_act_148 : decode cX13_act 148 = .ok (.aload_n 0, 1) := by decide +kernel
theorem dX13_act_149 : decode cX13_act 149 = .ok (.dup, 1) := by decide +kernel
theorem dX13_act_150 : decode cX13_act 150 = .ok (.getfield 109, 3) := by decide +kernel
theorem dX13_act_153 : decode cX13_act 153 = .ok (.iconst 1, 1) := by decide +kernel
theorem dX13_act_154 : decode cX13_act 154 = .ok (.iadd, 1) := by decide +kernel
theorem dX13_act_155 : decode cX13_act 155 = .ok (.putfield 109, 3) := by decide +kernel
theorem dX13_act_158 : decode cX13_act 158 = .ok (.aload_n 0, 1) := by decide +kernel
theorem dX13_act_159 : decode cX13_act 159 = .ok (.getfield 109, 3) := by decide +kernel
theorem dX13_act_162 : decode cX13_act 162 = .ok (.ireturn, 1) := by decide +kernel
theorem cwX13_act : mw_cwV yX13_act cX13_act 7 ((some .int)) 4 := ⟨⟨wd_20, wd_3339, by decide +kernel⟩, wd_3337, wd_3338⟩
set_option maxHeartbeats 4000000 in
set_option maxRecDepth 100000 in
theorem tX13_act (l : Launch) (G : mwG) (ad : Nat → Nat) (fu : Nat) (k : Nat) (a1 : Int32) (a2 : Int32) (a3 : Int32) (a4 : Int64) (M : mwM) (L : mwL) {r0 : Int32} {M0 : mwM} {L0 : mwL} (hD : DX13_act fu k a1 a2 a3 a4 M L = some (r0, M0, L0)) (hk0 : isMc k) : Met l yX13_act (Cond.code yX13_act cX13_act 7 ((some .int)) :: GT) ({ frames := 1, cells := 0, slots := 0, locals := 21 }) (mw_Pre G ad NF TF FF M L [.ref (ad k), .int a1, .int a2, .int a3, .long a4]) (mw_Qi G ad NF TF FF (mw_eqI r0 M0 L0)) 0 0 (mw_fr G) := by
  refine mw_enter (by decide) (Nat.le_of_ble_eq_true rfl) ?_
  intro p e s m below meth c ls C hr hlocks hnm hw hl
  have hl : lv_has ls 7 [(0, .ref (ad k)), (1, .int a1), (2, .int a2), (3, .int a3), (4, .long a4)] := hl
  have hb47 : ∀ (M : mwM) (L : mwL) (H : Heap) (locs : List Loc) (ls : Array Slot), fX13_act_b47 fu k a1 a2 a3 a4 M L = some (r0, M0, L0) → mw_W G ad NF TF FF M L H locs → lv_has ls 7 [] → W p l e ({ frames := 1, cells := 0, slots := 0, locals := 21 }) s m [.ref (ad k), .int a1, .int a2, .int a3, .long a4].toArray below meth c H locs 0 0 (MQ below (mw_Qi G ad NF TF FF (mw_eqI r0 M0 L0)) [.ref (ad k), .int a1, .int a2, .int a3, .long a4].toArray s 0 0 (mw_fr G)) (F0 m 47 ls []) := by
    intro M L H locs ls hD hw hl
    unfold fX13_act_b47 at hD
    refine lv_iconst (v := (-1)) C.1.1 C.1.2.1 dX13_act_47 (by decide) ?_
    exact mr_iret C hr hlocks hw rfl (Option.some.inj hD) dX13_act_48
  have hb81 : ∀ (M : mwM) (L : mwL) (H : Heap) (locs : List Loc) (ls : Array Slot), fX13_act_b81 fu k a1 a2 a3 a4 M L = some (r0, M0, L0) → mw_W G ad NF TF FF M L H locs → lv_has ls 7 [] → W p l e ({ frames := 1, cells := 0, slots := 0, locals := 21 }) s m [.ref (ad k), .int a1, .int a2, .int a3, .long a4].toArray below meth c H locs 0 0 (MQ below (mw_Qi G ad NF TF FF (mw_eqI r0 M0 L0)) [.ref (ad k), .int a1, .int a2, .int a3, .long a4].toArray s 0 0 (mw_fr G)) (F0 m 81 ls []) := by
    intro M L H locs ls hD hw hl
    unfold fX13_act_b81 at hD
    refine lv_bipush (v := (-2)) C.1.1 C.1.2.1 dX13_act_81 (by decide) ?_
    exact mr_iret C hr hlocks hw rfl (Option.some.inj hD) dX13_act_83
  have hb84 : ∀ (M : mwM) (L : mwL) (H : Heap) (locs : List Loc) (ls : Array Slot), fX13_act_b84 fu k a1 a2 a3 a4 M L = some (r0, M0, L0) → mw_W G ad NF TF FF M L H locs → lv_has ls 7 [(0, .ref (ad k)), (1, .int a1), (2, .int a2), (3, .int a3), (4, .long a4)] → W p l e ({ frames := 1, cells := 0, slots := 0, locals := 21 }) s m [.ref (ad k), .int a1, .int a2, .int a3, .long a4].toArray below meth c H locs 0 0 (MQ below (mw_Qi G ad NF TF FF (mw_eqI r0 M0 L0)) [.ref (ad k), .int a1, .int a2, .int a3, .long a4].toArray s 0 0 (mw_fr G)) (F0 m 84 ls []) := by
    intro M L H locs ls hD hw hl
    unfold fX13_act_b84 at hD
    refine lv_aload_n C.1.1 C.1.2.1 dX13_act_84 rfl (lv_at hl 0 rfl) ?_
    refine mr_getI C hw kc_13 27 (Mc_N0 hk0) (Mc_T0 hk0) wd_2669 dX13_act_85 (by decide) rfl ?_
    refine lv_if_eq (tgt := 94) C.1.1 C.1.2.1 dX13_act_88 (by decide) (fun c13 => ?_) (fun c13 => ?_)
    · replace hD := g_pos c13 hD
      refine lv_aload_n C.1.1 C.1.2.1 dX13_act_94 rfl (lv_at hl 0 rfl) ?_
      refine mr_getI C hw kc_13 20 (Mc_N0 hk0) (Mc_T0 hk0) wd_2662 dX13_act_95 (by decide) rfl ?_
      refine lv_sipush (v := 600) C.1.1 C.1.2.1 dX13_act_98 (by decide) ?_
      refine lv_icmp_ne (tgt := 107) C.1.1 C.1.2.1 dX13_act_101 (by decide) (fun c14 => ?_) (fun c14 => ?_)
      · replace hD := g_neg c14 hD
        refine lv_aload_n C.1.1 C.1.2.1 dX13_act_107 rfl (lv_at hl 0 rfl) ?_
        refine mr_getR C hw kc_13 21 (Mc_N0 hk0) (Mc_T0 hk0) (Mc_F0_21 hk0) wd_2663 dX13_act_108 (by decide) rfl ?_
        refine lv_aload_n C.1.1 C.1.2.1 dX13_act_111 rfl (lv_at hl 0 rfl) ?_
        refine mr_getI C hw kc_13 20 (Mc_N0 hk0) (Mc_T0 hk0) wd_2662 dX13_act_112 (by decide) rfl ?_
        refine lv_iload_n C.1.1 C.1.2.1 dX13_act_115 rfl (lv_at hl 1 rfl) ?_
        obtain ⟨q15, hD⟩ := g_ck hD
        obtain ⟨M16, eM16, hD⟩ := g_let hD
        refine mr_iast C hw (Mc_N17 hk0) (Mc_T17 hk0) q15 dX13_act_116 (fun H locs hw => ?_)
        replace hw : mw_W G ad NF TF FF M16 L H locs := by rw [eM16]; exact hw
        refine lv_aload_n C.1.1 C.1.2.1 dX13_act_117 rfl (lv_at hl 0 rfl) ?_
        refine mr_getR C hw kc_13 22 (Mc_N0 hk0) (Mc_T0 hk0) (Mc_F0_22 hk0) wd_2664 dX13_act_118 (by decide) rfl ?_
        refine lv_aload_n C.1.1 C.1.2.1 dX13_act_121 rfl (lv_at hl 0 rfl) ?_
        refine mr_getI C hw kc_13 20 (Mc_N0 hk0) (Mc_T0 hk0) wd_2662 dX13_act_122 (by decide) rfl ?_
        refine lv_iload_n C.1.1 C.1.2.1 dX13_act_125 rfl (lv_at hl 2 rfl) ?_
        obtain ⟨q17, hD⟩ := g_ck hD
        obtain ⟨M18, eM18, hD⟩ := g_let hD
        refine mr_iast C hw (Mc_N18 hk0) (Mc_T18 hk0) q17 dX13_act_126 (fun H locs hw => ?_)
        replace hw : mw_W G ad NF TF FF M18 L H locs := by rw [eM18]; exact hw
        refine lv_aload_n C.1.1 C.1.2.1 dX13_act_127 rfl (lv_at hl 0 rfl) ?_
        refine mr_getR C hw kc_13 23 (Mc_N0 hk0) (Mc_T0 hk0) (Mc_F0_23 hk0) wd_2665 dX13_act_128 (by decide) rfl ?_
        refine lv_aload_n C.1.1 C.1.2.1 dX13_act_131 rfl (lv_at hl 0 rfl) ?_
        refine mr_getI C hw kc_13 20 (Mc_N0 hk0) (Mc_T0 hk0) wd_2662 dX13_act_132 (by decide) rfl ?_
        refine lv_iload_n C.1.1 C.1.2.1 dX13_act_135 rfl (lv_at hl 3 rfl) ?_
        obtain ⟨q19, hD⟩ := g_ck hD
        obtain ⟨M20, eM20, hD⟩ := g_let hD
        refine mr_iast C hw (Mc_N19 hk0) (Mc_T19 hk0) q19 dX13_act_136 (fun H locs hw => ?_)
        replace hw : mw_W G ad NF TF FF M20 L H locs := by rw [eM20]; exact hw
        refine lv_aload_n C.1.1 C.1.2.1 dX13_act_137 rfl (lv_at hl 0 rfl) ?_
        refine mr_getR C hw kc_13 24 (Mc_N0 hk0) (Mc_T0 hk0) (Mc_F0_24 hk0) wd_2666 dX13_act_138 (by decide) rfl ?_
        refine lv_aload_n C.1.1 C.1.2.1 dX13_act_141 rfl (lv_at hl 0 rfl) ?_
        refine mr_getI C hw kc_13 20 (Mc_N0 hk0) (Mc_T0 hk0) wd_2662 dX13_act_142 (by decide) rfl ?_
        refine lv_lload C.1.1 C.1.2.1 dX13_act_145 (lv_at hl 4 rfl) ?_
        obtain ⟨q21, hD⟩ := g_ck hD
        obtain ⟨L22, eL22, hD⟩ := g_let hD
        refine mr_last C hw (Mc_N20 hk0) (Mc_T20 hk0) q21 dX13_act_147 (fun H locs hw => ?_)
        replace hw : mw_W G ad NF TF FF M20 L22 H locs := by rw [eL22]; exact hw
        refine lv_aload_n C.1.1 C.1.2.1 dX13_act_148 rfl (lv_at hl 0 rfl) ?_
        refine lv_dup C.1.1 C.1.2.1 dX13_act_149 rfl ?_
        refine mr_getI C hw kc_13 20 (Mc_N0 hk0) (Mc_T0 hk0) wd_2662 dX13_act_150 (by decide) rfl ?_
        refine lv_iconst (v := 1) C.1.1 C.1.2.1 dX13_act_153 (by decide) ?_
        refine lv_iadd C.1.1 C.1.2.1 dX13_act_154 ?_
        obtain ⟨M23, eM23, hD⟩ := g_let hD
        refine mr_putI C hw kc_13 20 (Mc_N0 hk0) (Mc_T0 hk0) wd_2662 dX13_act_155 (by decide) rfl rfl rfl rfl (fun H locs hw => ?_)
        replace hw : mw_W G ad NF TF FF M23 L22 H locs := by rw [eM23]; exact hw
        refine lv_aload_n C.1.1 C.1.2.1 dX13_act_158 rfl (lv_at hl 0 rfl) ?_
        refine mr_getI C hw kc_13 20 (Mc_N0 hk0) (Mc_T0 hk0) wd_2662 dX13_act_159 (by decide) rfl ?_
        exact mr_iret C hr hlocks hw rfl (Option.some.inj hD) dX13_act_162
      · replace hD := g_pos c14 hD
        refine lv_bipush (v := (-4)) C.1.1 C.1.2.1 dX13_act_104 (by decide) ?_
        exact mr_iret C hr hlocks hw rfl (Option.some.inj hD) dX13_act_106
    · replace hD := g_neg c13 hD
      refine lv_bipush (v := (-3)) C.1.1 C.1.2.1 dX13_act_91 (by decide) ?_
      exact mr_iret C hr hlocks hw rfl (Option.some.inj hD) dX13_act_93
  have hb44 : ∀ (v6 : Int32) (s1 : Int32) (M : mwM) (L : mwL) (H : Heap) (locs : List Loc) (ls : Array Slot), fX13_act_b44 fu k a1 a2 a3 a4 v6 s1 M L = some (r0, M0, L0) → mw_W G ad NF TF FF M L H locs → lv_has ls 7 [(0, .ref (ad k)), (1, .int a1), (2, .int a2), (3, .int a3), (4, .long a4), (6, .int v6)] → W p l e ({ frames := 1, cells := 0, slots := 0, locals := 21 }) s m [.ref (ad k), .int a1, .int a2, .int a3, .long a4].toArray below meth c H locs 0 0 (MQ below (mw_Qi G ad NF TF FF (mw_eqI r0 M0 L0)) [.ref (ad k), .int a1, .int a2, .int a3, .long a4].toArray s 0 0 (mw_fr G)) (F0 m 44 ls [.int s1, .int a1]) := by
    intro v6 s1 M L H locs ls hD hw hl
    unfold fX13_act_b44 at hD
    refine lv_icmp_le (tgt := 49) C.1.1 C.1.2.1 dX13_act_44 (by decide) (fun c3 => ?_) (fun c3 => ?_)
    · replace hD := g_pos c3 hD
      refine lv_iload_n C.1.1 C.1.2.1 dX13_act_49 rfl (lv_at hl 2 rfl) ?_
      refine lv_if_lt (tgt := 81) C.1.1 C.1.2.1 dX13_act_50 (by decide) (fun c4 => ?_) (fun c4 => ?_)
      · replace hD := g_pos c4 hD
        exact hb81 M L _ _ ls hD hw (lv_sub hl [] rfl)
      · replace hD := g_neg c4 hD
        refine lv_iload_n C.1.1 C.1.2.1 dX13_act_53 rfl (lv_at hl 2 rfl) ?_
        refine lv_iconst (v := 5) C.1.1 C.1.2.1 dX13_act_54 (by decide) ?_
        refine lv_icmp_gt (tgt := 81) C.1.1 C.1.2.1 dX13_act_55 (by decide) (fun c5 => ?_) (fun c5 => ?_)
        · replace hD := g_pos c5 hD
          exact hb81 M L _ _ ls hD hw (lv_sub hl [] rfl)
        · replace hD := g_neg c5 hD
          refine lv_iload_n C.1.1 C.1.2.1 dX13_act_58 rfl (lv_at hl 3 rfl) ?_
          refine lv_if_lt (tgt := 81) C.1.1 C.1.2.1 dX13_act_59 (by decide) (fun c6 => ?_) (fun c6 => ?_)
          · replace hD := g_pos c6 hD
            exact hb81 M L _ _ ls hD hw (lv_sub hl [] rfl)
          · replace hD := g_neg c6 hD
            refine lv_iload_n C.1.1 C.1.2.1 dX13_act_62 rfl (lv_at hl 3 rfl) ?_
            refine lv_bipush (v := 31) C.1.1 C.1.2.1 dX13_act_63 (by decide) ?_
            refine lv_icmp_gt (tgt := 81) C.1.1 C.1.2.1 dX13_act_65 (by decide) (fun c7 => ?_) (fun c7 => ?_)
            · replace hD := g_pos c7 hD
              exact hb81 M L _ _ ls hD hw (lv_sub hl [] rfl)
            · replace hD := g_neg c7 hD
              refine lv_iload C.1.1 C.1.2.1 dX13_act_68 (lv_at hl 5 rfl) ?_
              refine lv_if_ne (tgt := 84) C.1.1 C.1.2.1 dX13_act_70 (by decide) (fun c8 => ?_) (fun c8 => ?_)
              · replace hD := g_neg c8 hD
                exact hb84 M L _ _ ls hD hw (lv_sub hl [0, 1, 2, 3, 4] rfl)
              · replace hD := g_pos c8 hD
                refine lv_aload_n C.1.1 C.1.2.1 dX13_act_73 rfl (lv_at hl 0 rfl) ?_
                refine lv_iload_n C.1.1 C.1.2.1 dX13_act_74 rfl (lv_at hl 1 rfl) ?_
                obtain ⟨r11, M9, L10, h1, hD⟩ := g_b3 hD
                refine md_cvI (As := [.int a1]) (rest := []) C hw (tX13_mark l G ad fu k a1 M L h1 hk0) kc_13 (Mc_N0 hk0) (Mc_T0 hk0) wd_3268 cwX13_mark ⟨Nat.le_of_ble_eq_true rfl, Nat.le_of_ble_eq_true rfl⟩ rfl hl.1 (Nat.le_of_ble_eq_true rfl) dX13_act_75 rfl rfl ⟨Nat.zero_le _, Nat.zero_le _⟩ rfl (fun H locs hw => ?_)
                refine lv_if_eq (tgt := 84) C.1.1 C.1.2.1 dX13_act_78 (by decide) (fun c12 => ?_) (fun c12 => ?_)
                · replace hD := g_pos c12 hD
                  exact hb84 M9 L10 _ _ ls hD hw (lv_sub hl [0, 1, 2, 3, 4] rfl)
                · replace hD := g_neg c12 hD
                  exact hb81 M9 L10 _ _ ls hD hw (lv_sub hl [] rfl)
    · replace hD := g_neg c3 hD
      exact hb47 M L _ _ ls hD hw (lv_sub hl [] rfl)
  have hb20 : ∀ (s0 : Int32) (M : mwM) (L : mwL) (H : Heap) (locs : List Loc) (ls : Array Slot), fX13_act_b20 fu k a1 a2 a3 a4 s0 M L = some (r0, M0, L0) → mw_W G ad NF TF FF M L H locs → lv_has ls 7 [(0, .ref (ad k)), (1, .int a1), (2, .int a2), (3, .int a3), (4, .long a4)] → W p l e ({ frames := 1, cells := 0, slots := 0, locals := 21 }) s m [.ref (ad k), .int a1, .int a2, .int a3, .long a4].toArray below meth c H locs 0 0 (MQ below (mw_Qi G ad NF TF FF (mw_eqI r0 M0 L0)) [.ref (ad k), .int a1, .int a2, .int a3, .long a4].toArray s 0 0 (mw_fr G)) (F0 m 20 ls [.int s0]) := by
    intro s0 M L H locs ls hD hw hl
    unfold fX13_act_b20 at hD
    refine lv_istore (lv' := [(6, .int s0), (0, .ref (ad k)), (1, .int a1), (2, .int a2), (3, .int a3), (4, .long a4)]) C.1.1 C.1.2.1 dX13_act_20 hl (by decide) rfl (fun ls hl => ?_)
    refine lv_iload_n C.1.1 C.1.2.1 dX13_act_22 rfl (lv_at hl 2 rfl) ?_
    refine lv_iconst (v := 1) C.1.1 C.1.2.1 dX13_act_23 (by decide) ?_
    refine lv_icmp_lt (tgt := 47) C.1.1 C.1.2.1 dX13_act_24 (by decide) (fun c1 => ?_) (fun c1 => ?_)
    · replace hD := g_pos c1 hD
      exact hb47 M L _ _ ls hD hw (lv_sub hl [] rfl)
    · replace hD := g_neg c1 hD
      refine lv_iload_n C.1.1 C.1.2.1 dX13_act_27 rfl (lv_at hl 2 rfl) ?_
      refine lv_iload C.1.1 C.1.2.1 dX13_act_28 (lv_at hl 0 rfl) ?_
      refine lv_if_eq (tgt := 40) C.1.1 C.1.2.1 dX13_act_30 (by decide) (fun c2 => ?_) (fun c2 => ?_)
      · replace hD := g_pos c2 hD
        refine lv_aload_n C.1.1 C.1.2.1 dX13_act_40 rfl (lv_at hl 1 rfl) ?_
        refine mr_getI C hw kc_13 2 (Mc_N0 hk0) (Mc_T0 hk0) wd_2644 dX13_act_41 (by decide) rfl ?_
        exact hb44 s0 (M k 2) M L _ _ ls hD hw (lv_sub hl [1, 2, 3, 4, 5, 0] rfl)
      · replace hD := g_neg c2 hD
        refine lv_aload_n C.1.1 C.1.2.1 dX13_act_33 rfl (lv_at hl 1 rfl) ?_
        refine mr_getI C hw kc_13 12 (Mc_N0 hk0) (Mc_T0 hk0) wd_2654 dX13_act_34 (by decide) rfl ?_
        refine lv_goto (tgt := 44) C.1.1 C.1.2.1 dX13_act_37 (by decide) ?_
        exact hb44 s0 (M k 12) M L _ _ ls hD hw (lv_sub hl [1, 2, 3, 4, 5, 0] rfl)
  have hb15 : ∀ (M : mwM) (L : mwL) (H : Heap) (locs : List Loc) (ls : Array Slot), fX13_act_b15 fu k a1 a2 a3 a4 M L = some (r0, M0, L0) → mw_W G ad NF TF FF M L H locs → lv_has ls 7 [(0, .ref (ad k)), (1, .int a1), (2, .int a2), (3, .int a3), (4, .long a4)] → W p l e ({ frames := 1, cells := 0, slots := 0, locals := 21 }) s m [.ref (ad k), .int a1, .int a2, .int a3, .long a4].toArray below meth c H locs 0 0 (MQ below (mw_Qi G ad NF TF FF (mw_eqI r0 M0 L0)) [.ref (ad k), .int a1, .int a2, .int a3, .long a4].toArray s 0 0 (mw_fr G)) (F0 m 15 ls []) := by
    intro M L H locs ls hD hw hl
    unfold fX13_act_b15 at hD
    refine lv_iconst (v := 1) C.1.1 C.1.2.1 dX13_act_15 (by decide) ?_
    refine lv_goto (tgt := 20) C.1.1 C.1.2.1 dX13_act_16 (by decide) ?_
    exact hb20 1 M L _ _ ls hD hw (lv_sub hl [0, 1, 2, 3, 4] rfl)
  unfold DX13_act at hD
  refine lv_aload_n C.1.1 C.1.2.1 dX13_act_0 rfl (lv_at hl 0 rfl) ?_
  refine lv_iconst (v := 0) C.1.1 C.1.2.1 dX13_act_1 (by decide) ?_
  obtain ⟨M24, eM24, hD⟩ := g_let hD
  refine mr_putI C hw kc_13 0 (Mc_N0 hk0) (Mc_T0 hk0) wd_2642 dX13_act_2 (by decide) rfl rfl rfl rfl (fun H locs hw => ?_)
  replace hw : mw_W G ad NF TF FF M24 L H locs := by rw [eM24]; exact hw
  refine lv_iload_n C.1.1 C.1.2.1 dX13_act_5 rfl (lv_at hl 2 rfl) ?_
  refine lv_iconst (v := 2) C.1.1 C.1.2.1 dX13_act_6 (by decide) ?_
  refine lv_icmp_eq (tgt := 15) C.1.1 C.1.2.1 dX13_act_7 (by decide) (fun c25 => ?_) (fun c25 => ?_)
  · replace hD := g_pos c25 hD
    exact hb15 M24 L _ _ ls hD hw (lv_sub hl [0, 1, 2, 3, 4] rfl)
  · replace hD := g_neg c25 hD
    refine lv_iload_n C.1.1 C.1.2.1 dX13_act_10 rfl (lv_at hl 2 rfl) ?_
    refine lv_iconst (v := 5) C.1.1 C.1.2.1 dX13_act_11 (by decide) ?_
    refine lv_icmp_ne (tgt := 19) C.1.1 C.1.2.1 dX13_act_12 (by decide) (fun c26 => ?_) (fun c26 => ?_)
    · replace hD := g_neg c26 hD
      refine lv_iconst (v := 0) C.1.1 C.1.2.1 dX13_act_19 (by decide) ?_
      exact hb20 0 M24 L _ _ ls hD hw (lv_sub hl [0, 1, 2, 3, 4] rfl)
    · replace hD := g_pos c26 hD
      exact hb15 M24 L _ _ ls hD hw (lv_sub hl [0, 1, 2, 3, 4] rfl)

theorem dX13_data_0 : decode cX13_data 0 = .ok (.aload_n 0, 1) := by decide +kernel
theorem dX13_data_1 : decode cX13_data 1 = .ok (.aload_n 0, 1) := by decide +kernel
theorem dX13_data_2 : decode cX13_data 2 = .ok (.getfield 112, 3) := by decide +kernel
theorem dX13_data_5 : decode cX13_data 5 = .ok (.bipush 32, 2) := by decide +kernel
theorem dX13_data_7 : decode cX13_data 7 = .ok (.if_icmp .ne 7, 3) := by decide +kernel
theorem dX13_data_10 : decode cX13_data 10 = .ok (.iconst 1, 1) := by decide +kernel
theorem dX13_data_11 : decode cX13_data 11 = .ok (.goto 4, 3) := by decide +kernel
theorem dX13_data_14 : decode cX13_data 14 = .ok (.iconst 0, 1) := by decide +kernel
theorem dX13_data_15 : decode cX13_data 15 = .ok (.putfield 132, 3) := by decide +kernel
theorem dX13_data_18 : decode cX13_data 18 = .ok (.aload_n 0, 1) := by decide +kernel
theorem dX13_data_19 : decode cX13_data 19 = .ok (.getfield 132, 3) := by decide +kernel
theorem dX13_data_22 : decode cX13_data 22 = .ok (.ifCond .le 5, 3) := by decide +kernel
theorem dX13_data_25 : decode cX13_data 25 = .ok (.iconst 0, 1) := by decide +kernel
theorem dX13_data_26 : decode cX13_data 26 = .ok (.ireturn, 1) := by decide +kernel
theorem dX13_data_27 : decode cX13_data 27 = .ok (.aload_n 0, 1) := by decide +kernel
theorem dX13_data_28 : decode cX13_data 28 = .ok (.getfield 72, 3) := by decide +kernel
theorem dX13_data_31 : decode cX13_data 31 = .ok (.aload_n 0, 1) := by decide +kernel
theorem dX13_data_32 : decode cX13_data 32 = .ok (.getfield 112, 3) := by decide +kernel
theorem dX13_data_35 : decode cX13_data 35 = .ok (.lload_n 1, 1) := by decide +kernel
theorem dX13_data_36 : decode cX13_data 36 = .ok (.lastore, 1) := by decide +kernel
theorem dX13_data_37 : decode cX13_data 37 = .ok (.aload_n 0, 1) := by decide +kernel
theorem dX13_data_38 : decode cX13_data 38 = .ok (.dup, 1) := by decide +kernel
theorem dX13_data_39 : decode cX13_data 39 = .ok (.getfield 112, 3) := by decide +kernel
theorem dX13_data_42 : decode cX13_data 42 = .ok (.iconst 1, 1) := by decide +kernel
theorem dX13_data_43 : decode cX13_data 43 = .ok (.iadd, 1) := by decide +kernel
theorem dX13_data_44 : decode cX13_data 44 = .ok (.putfield 112, 3) := by decide +kernel
theorem dX13_data_47 : decode cX13_data 47 = .ok (.aload_n 0, 1) := by decide +kernel
theorem dX13_data_48 : decode cX13_data 48 = .ok (.getfield 112, 3) := by decide +kernel
theorem dX13_data_51 : decode cX13_data 51 = .ok (.iconst 1, 1) := by decide +kernel
theorem dX13_data_52 : decode cX13_data 52 = .ok (.isub, 1) := by decide +kernel
theorem dX13_data_53 : decode cX13_data 53 = .ok (.ireturn, 1) := by decide +kernel
theorem cwX13_data : mw_cwV yX13_data cX13_data 3 ((some .int)) 1 := ⟨⟨wd_20, wd_3329, by decide +kernel⟩, wd_3327, wd_3328⟩
set_option maxHeartbeats 4000000 in
set_option maxRecDepth 100000 in
theorem tX13_data (l : Launch) (G : mwG) (ad : Nat → Nat) (fu : Nat) (k : Nat) (a1 : Int64) (M : mwM) (L : mwL) {r0 : Int32} {M0 : mwM} {L0 : mwL} (hD : DX13_data fu k a1 M L = some (r0, M0, L0)) (hk0 : isMc k) : Met l yX13_data (Cond.code yX13_data cX13_data 3 ((some .int)) :: GT) ({ frames := 0, cells := 0, slots := 0, locals := 0 }) (mw_Pre G ad NF TF FF M L [.ref (ad k), .long a1]) (mw_Qi G ad NF TF FF (mw_eqI r0 M0 L0)) 0 0 (mw_fr G) := by
  refine mw_enter (by decide) (Nat.le_of_ble_eq_true rfl) ?_
  intro p e s m below meth c ls C hr hlocks hnm hw hl
  have hl : lv_has ls 3 [(0, .ref (ad k)), (1, .long a1)] := hl
  have hb15 : ∀ (s1 : Int32) (M : mwM) (L : mwL) (H : Heap) (locs : List Loc) (ls : Array Slot), fX13_data_b15 fu k a1 s1 M L = some (r0, M0, L0) → mw_W G ad NF TF FF M L H locs → lv_has ls 3 [(0, .ref (ad k)), (1, .long a1)] → W p l e ({ frames := 0, cells := 0, slots := 0, locals := 0 }) s m [.ref (ad k), .long a1].toArray below meth c H locs 0 0 (MQ below (mw_Qi G ad NF TF FF (mw_eqI r0 M0 L0)) [.ref (ad k), .long a1].toArray s 0 0 (mw_fr G)) (F0 m 15 ls [.int s1, .ref (ad k)]) := by
    intro s1 M L H locs ls hD hw hl
    unfold fX13_data_b15 at hD
    obtain ⟨M1, eM1, hD⟩ := g_let hD
    refine mr_putI C hw kc_13 0 (Mc_N0 hk0) (Mc_T0 hk0) wd_2642 dX13_data_15 (by decide) rfl rfl rfl rfl (fun H locs hw => ?_)
    replace hw : mw_W G ad NF TF FF M1 L H locs := by rw [eM1]; exact hw
    refine lv_aload_n C.1.1 C.1.2.1 dX13_data_18 rfl (lv_at hl 0 rfl) ?_
    refine mr_getI C hw kc_13 0 (Mc_N0 hk0) (Mc_T0 hk0) wd_2642 dX13_data_19 (by decide) rfl ?_
    refine lv_if_le (tgt := 27) C.1.1 C.1.2.1 dX13_data_22 (by decide) (fun c2 => ?_) (fun c2 => ?_)
    · replace hD := g_pos c2 hD
      refine lv_aload_n C.1.1 C.1.2.1 dX13_data_27 rfl (lv_at hl 0 rfl) ?_
      refine mr_getR C hw kc_13 25 (Mc_N0 hk0) (Mc_T0 hk0) (Mc_F0_25 hk0) wd_2667 dX13_data_28 (by decide) rfl ?_
      refine lv_aload_n C.1.1 C.1.2.1 dX13_data_31 rfl (lv_at hl 0 rfl) ?_
      refine mr_getI C hw kc_13 26 (Mc_N0 hk0) (Mc_T0 hk0) wd_2668 dX13_data_32 (by decide) rfl ?_
      refine lv_lload_n C.1.1 C.1.2.1 dX13_data_35 rfl (lv_at hl 1 rfl) ?_
      obtain ⟨q3, hD⟩ := g_ck hD
      obtain ⟨L4, eL4, hD⟩ := g_let hD
      refine mr_last C hw (Mc_N21 hk0) (Mc_T21 hk0) q3 dX13_data_36 (fun H locs hw => ?_)
      replace hw : mw_W G ad NF TF FF M1 L4 H locs := by rw [eL4]; exact hw
      refine lv_aload_n C.1.1 C.1.2.1 dX13_data_37 rfl (lv_at hl 0 rfl) ?_
      refine lv_dup C.1.1 C.1.2.1 dX13_data_38 rfl ?_
      refine mr_getI C hw kc_13 26 (Mc_N0 hk0) (Mc_T0 hk0) wd_2668 dX13_data_39 (by decide) rfl ?_
      refine lv_iconst (v := 1) C.1.1 C.1.2.1 dX13_data_42 (by decide) ?_
      refine lv_iadd C.1.1 C.1.2.1 dX13_data_43 ?_
      obtain ⟨M5, eM5, hD⟩ := g_let hD
      refine mr_putI C hw kc_13 26 (Mc_N0 hk0) (Mc_T0 hk0) wd_2668 dX13_data_44 (by decide) rfl rfl rfl rfl (fun H locs hw => ?_)
      replace hw : mw_W G ad NF TF FF M5 L4 H locs := by rw [eM5]; exact hw
      refine lv_aload_n C.1.1 C.1.2.1 dX13_data_47 rfl (lv_at hl 0 rfl) ?_
      refine mr_getI C hw kc_13 26 (Mc_N0 hk0) (Mc_T0 hk0) wd_2668 dX13_data_48 (by decide) rfl ?_
      refine lv_iconst (v := 1) C.1.1 C.1.2.1 dX13_data_51 (by decide) ?_
      refine lv_isub C.1.1 C.1.2.1 dX13_data_52 ?_
      exact mr_iret C hr hlocks hw rfl (Option.some.inj hD) dX13_data_53
    · replace hD := g_neg c2 hD
      refine lv_iconst (v := 0) C.1.1 C.1.2.1 dX13_data_25 (by decide) ?_
      exact mr_iret C hr hlocks hw rfl (Option.some.inj hD) dX13_data_26
  unfold DX13_data at hD
  refine lv_aload_n C.1.1 C.1.2.1 dX13_data_0 rfl (lv_at hl 0 rfl) ?_
  refine lv_aload_n C.1.1 C.1.2.1 dX13_data_1 rfl (lv_at hl 0 rfl) ?_
  refine mr_getI C hw kc_13 26 (Mc_N0 hk0) (Mc_T0 hk0) wd_2668 dX13_data_2 (by decide) rfl ?_
  refine lv_bipush (v := 32) C.1.1 C.1.2.1 dX13_data_5 (by decide) ?_
  refine lv_icmp_ne (tgt := 14) C.1.1 C.1.2.1 dX13_data_7 (by decide) (fun c6 => ?_) (fun c6 => ?_)
  · replace hD := g_neg c6 hD
    refine lv_iconst (v := 0) C.1.1 C.1.2.1 dX13_data_14 (by decide) ?_
    exact hb15 0 M L _ _ ls hD hw (lv_sub hl [0, 1] rfl)
  · replace hD := g_pos c6 hD
    refine lv_iconst (v := 1) C.1.1 C.1.2.1 dX13_data_10 (by decide) ?_
    refine lv_goto (tgt := 15) C.1.1 C.1.2.1 dX13_data_11 (by decide) ?_
    exact hb15 1 M L _ _ ls hD hw (lv_sub hl [0, 1] rfl)

theorem dX13_after_0 : decode cX13_after 0 = .ok (.aload_n 0, 1) := by decide +kernel
theorem dX13_after_1 : decode cX13_after 1 = .ok (.iconst 0, 1) := by decide +kernel
theorem dX13_after_2 : decode cX13_after 2 = .ok (.putfield 132, 3) := by decide +kernel
theorem dX13_after_5 : decode cX13_after 5 = .ok (.iload_n 1, 1) := by decide +kernel
theorem dX13_after_6 : decode cX13_after 6 = .ok (.ifCond .eq 11, 3) := by decide +kernel
theorem dX13_after_9 : decode cX13_after 9 = .ok (.aload_n 0, 1) := by decide +kernel
theorem dX13_after_10 : decode cX13_after 10 = .ok (.iload_n 1, 1) := by decide +kernel
theorem dX13_after_11 : decode cX13_after 11 = .ok (.invokevirtual 135, 3) := by decide +kernel
theorem dX13_after_14 : decode cX13_after 14 = .ok (.ifCond .eq 5, 3) := by decide +kernel
theorem dX13_after_17 : decode cX13_after 17 = .ok (.iconst (-1), 1) := by decide +kernel
theorem dX13_after_18 : decode cX13_after 18 = .ok (.ireturn, 1) := by decide +kernel
theorem dX13_after_19 : decode cX13_after 19 = .ok (.aload_n 0, 1) := by decide +kernel
theorem dX13_after_20 : decode cX13_after 20 = .ok (.iload_n 1, 1) := by decide +kernel
theorem dX13_after_21 : decode cX13_after 21 = .ok (.invokevirtual 139, 3) := by decide +kernel
theorem dX13_after_24 : decode cX13_after 24 = .ok (.ifCond .ne 17, 3) := by decide +kernel
theorem dX13_after_27 : decode cX13_after 27 = .ok (.lload_n 2, 1) := by decide +kernel
theorem dX13_after_28 : decode cX13_after 28 = .ok (.lconst 1, 1) := by decide +kernel
theorem dX13_after_29 : decode cX13_after 29 = .ok (.lcmp, 1) := by decide +kernel
theorem dX13_after_30 : decode cX13_after 30 = .ok (.ifCond .lt 11, 3) := by decide +kernel
theorem dX13_after_33 : decode cX13_after 33 = .ok (.lload_n 2, 1) := by decide +kernel
theorem dX13_after_34 : decode cX13_after 34 = .ok (.ldc2_w 142, 3) := by decide +kernel
theorem dX13_after_37 : decode cX13_after 37 = .ok (.lcmp, 1) := by decide +kernel
theorem dX13_after_38 : decode cX13_after 38 = .ok (.ifCond .le 6, 3) := by decide +kernel
theorem dX13_after_41 : decode cX13_after 41 = .ok (.bipush (-2), 2) := by decide +kernel
theorem dX13_after_43 : decode cX13_after 43 = .ok (.ireturn, 1) := by decide +kernel
theorem dX13_after_44 : decode cX13_after 44 = .ok (.aload_n 0, 1) := by decide +kernel
theorem dX13_after_45 : decode cX13_after 45 = .ok (.getfield 115, 3) := by decide +kernel
theorem dX13_after_48 : decode cX13_after 48 = .ok (.ifCond .eq 6, 3) := by decide +kernel
theorem dX13_after_51 : decode cX13_after 51 = .ok (.bipush (-3), 2) := by decide +kernel
theorem dX13_after_53 : decode cX13_after 53 = .ok (.ireturn, 1) := by decide +kernel
theorem dX13_after_54 : decode cX13_after 54 = .ok (.aload_n 0, 1) := by decide +kernel
theorem dX13_after_55 : decode cX13_after 55 = .ok (.getfield 22, 3) := by decide +kernel
theorem dX13_after_58 : decode cX13_after 58 = .ok (.iload_n 1, 1) := by decide +kernel
theorem dX13_after_59 : decode cX13_after 59 = .ok (.lload_n 2, 1) := by decide +kernel
theorem dX13_after_60 : decode cX13_after 60 = .ok (.lastore, 1) := by decide +kernel
theorem dX13_after_61 : decode cX13_after 61 = .ok (.sipush 1000, 3) := by decide +kernel
theorem dX13_after_64 : decode cX13_after 64 = .ok (.iload_n 1, 1) := by decide +kernel
theorem dX13_after_65 : decode cX13_after 65 = .ok (.iadd, 1) := by decide +kernel
theorem dX13_after_66 : decode cX13_after 66 = .ok (.ireturn, 1) := by decide +kernel
theorem cwX13_after : mw_cwV yX13_after cX13_after 4 ((some .int)) 2 := ⟨⟨wd_20, wd_3317, by decide +kernel⟩, wd_3315, wd_3316⟩
set_option maxHeartbeats 4000000 in
set_option maxRecDepth 100000 in
theorem tX13_after (l : Launch) (G : mwG) (ad : Nat → Nat) (fu : Nat) (k : Nat) (a1 : Int32) (a2 : Int64) (M : mwM) (L : mwL) {r0 : Int32} {M0 : mwM} {L0 : mwL} (hD : DX13_after fu k a1 a2 M L = some (r0, M0, L0)) (hk0 : isMc k) : Met l yX13_after (Cond.code yX13_after cX13_after 4 ((some .int)) :: GT) ({ frames := 1, cells := 0, slots := 0, locals := 21 }) (mw_Pre G ad NF TF FF M L [.ref (ad k), .int a1, .long a2]) (mw_Qi G ad NF TF FF (mw_eqI r0 M0 L0)) 0 0 (mw_fr G) := by
  refine mw_enter (by decide) (Nat.le_of_ble_eq_true rfl) ?_
  intro p e s m below meth c ls C hr hlocks hnm hw hl
  have hl : lv_has ls 4 [(0, .ref (ad k)), (1, .int a1), (2, .long a2)] := hl
  have hb17 : ∀ (M : mwM) (L : mwL) (H : Heap) (locs : List Loc) (ls : Array Slot), fX13_after_b17 fu k a1 a2 M L = some (r0, M0, L0) → mw_W G ad NF TF FF M L H locs → lv_has ls 4 [] → W p l e ({ frames := 1, cells := 0, slots := 0, locals := 21 }) s m [.ref (ad k), .int a1, .long a2].toArray below meth c H locs 0 0 (MQ below (mw_Qi G ad NF TF FF (mw_eqI r0 M0 L0)) [.ref (ad k), .int a1, .long a2].toArray s 0 0 (mw_fr G)) (F0 m 17 ls []) := by
    intro M L H locs ls hD hw hl
    unfold fX13_after_b17 at hD
    refine lv_iconst (v := (-1)) C.1.1 C.1.2.1 dX13_after_17 (by decide) ?_
    exact mr_iret C hr hlocks hw rfl (Option.some.inj hD) dX13_after_18
  have hb41 : ∀ (M : mwM) (L : mwL) (H : Heap) (locs : List Loc) (ls : Array Slot), fX13_after_b41 fu k a1 a2 M L = some (r0, M0, L0) → mw_W G ad NF TF FF M L H locs → lv_has ls 4 [] → W p l e ({ frames := 1, cells := 0, slots := 0, locals := 21 }) s m [.ref (ad k), .int a1, .long a2].toArray below meth c H locs 0 0 (MQ below (mw_Qi G ad NF TF FF (mw_eqI r0 M0 L0)) [.ref (ad k), .int a1, .long a2].toArray s 0 0 (mw_fr G)) (F0 m 41 ls []) := by
    intro M L H locs ls hD hw hl
    unfold fX13_after_b41 at hD
    refine lv_bipush (v := (-2)) C.1.1 C.1.2.1 dX13_after_41 (by decide) ?_
    exact mr_iret C hr hlocks hw rfl (Option.some.inj hD) dX13_after_43
  unfold DX13_after at hD
  refine lv_aload_n C.1.1 C.1.2.1 dX13_after_0 rfl (lv_at hl 0 rfl) ?_
  refine lv_iconst (v := 0) C.1.1 C.1.2.1 dX13_after_1 (by decide) ?_
  obtain ⟨M1, eM1, hD⟩ := g_let hD
  refine mr_putI C hw kc_13 0 (Mc_N0 hk0) (Mc_T0 hk0) wd_2642 dX13_after_2 (by decide) rfl rfl rfl rfl (fun H locs hw => ?_)
  replace hw : mw_W G ad NF TF FF M1 L H locs := by rw [eM1]; exact hw
  refine lv_iload_n C.1.1 C.1.2.1 dX13_after_5 rfl (lv_at hl 1 rfl) ?_
  refine lv_if_eq (tgt := 17) C.1.1 C.1.2.1 dX13_after_6 (by decide) (fun c2 => ?_) (fun c2 => ?_)
  · replace hD := g_pos c2 hD
    exact hb17 M1 L _ _ ls hD hw (lv_sub hl [] rfl)
  · replace hD := g_neg c2 hD
    refine lv_aload_n C.1.1 C.1.2.1 dX13_after_9 rfl (lv_at hl 0 rfl) ?_
    refine lv_iload_n C.1.1 C.1.2.1 dX13_after_10 rfl (lv_at hl 1 rfl) ?_
    obtain ⟨r5, M3, L4, h1, hD⟩ := g_b3 hD
    refine md_cvI (As := [.int a1]) (rest := []) C hw (tX13_none l G ad fu k a1 M1 L h1 hk0) kc_13 (Mc_N0 hk0) (Mc_T0 hk0) wd_3264 cwX13_none ⟨Nat.le_of_ble_eq_true rfl, Nat.le_of_ble_eq_true rfl⟩ rfl hl.1 (Nat.le_of_ble_eq_true rfl) dX13_after_11 rfl rfl ⟨Nat.zero_le _, Nat.zero_le _⟩ rfl (fun H locs hw => ?_)
    refine lv_if_eq (tgt := 19) C.1.1 C.1.2.1 dX13_after_14 (by decide) (fun c6 => ?_) (fun c6 => ?_)
    · replace hD := g_pos c6 hD
      refine lv_aload_n C.1.1 C.1.2.1 dX13_after_19 rfl (lv_at hl 0 rfl) ?_
      refine lv_iload_n C.1.1 C.1.2.1 dX13_after_20 rfl (lv_at hl 1 rfl) ?_
      obtain ⟨r9, M7, L8, h1, hD⟩ := g_b3 hD
      refine md_cvI (As := [.int a1]) (rest := []) C hw (tX13_mark l G ad fu k a1 M3 L4 h1 hk0) kc_13 (Mc_N0 hk0) (Mc_T0 hk0) wd_3268 cwX13_mark ⟨Nat.le_of_ble_eq_true rfl, Nat.le_of_ble_eq_true rfl⟩ rfl hl.1 (Nat.le_of_ble_eq_true rfl) dX13_after_21 rfl rfl ⟨Nat.zero_le _, Nat.zero_le _⟩ rfl (fun H locs hw => ?_)
      refine lv_if_ne (tgt := 41) C.1.1 C.1.2.1 dX13_after_24 (by decide) (fun c10 => ?_) (fun c10 => ?_)
      · replace hD := g_neg c10 hD
        exact hb41 M7 L8 _ _ ls hD hw (lv_sub hl [] rfl)
      · replace hD := g_pos c10 hD
        refine lv_lload_n C.1.1 C.1.2.1 dX13_after_27 rfl (lv_at hl 2 rfl) ?_
        refine lv_lconst (v := 1) C.1.1 C.1.2.1 dX13_after_28 (by decide) ?_
        refine W.lcmp C.1.1 C.1.2.1 dX13_after_29 ?_
        refine lv_if_lt (tgt := 41) C.1.1 C.1.2.1 dX13_after_30 (by decide) (fun c11 => ?_) (fun c11 => ?_)
        · replace hD := g_pos c11 hD
          exact hb41 M7 L8 _ _ ls hD hw (lv_sub hl [] rfl)
        · replace hD := g_neg c11 hD
          refine lv_lload_n C.1.1 C.1.2.1 dX13_after_33 rfl (lv_at hl 2 rfl) ?_
          refine lv_ldc2 (v := 1099511627776) C.1.1 C.1.2.1 C.1.2.2.2.1 (C.1.2.2.2.2 _ wd_3318) dX13_after_34 ?_
          refine W.lcmp C.1.1 C.1.2.1 dX13_after_37 ?_
          refine lv_if_le (tgt := 44) C.1.1 C.1.2.1 dX13_after_38 (by decide) (fun c12 => ?_) (fun c12 => ?_)
          · replace hD := g_pos c12 hD
            refine lv_aload_n C.1.1 C.1.2.1 dX13_after_44 rfl (lv_at hl 0 rfl) ?_
            refine mr_getI C hw kc_13 27 (Mc_N0 hk0) (Mc_T0 hk0) wd_2669 dX13_after_45 (by decide) rfl ?_
            refine lv_if_eq (tgt := 54) C.1.1 C.1.2.1 dX13_after_48 (by decide) (fun c13 => ?_) (fun c13 => ?_)
            · replace hD := g_pos c13 hD
              refine lv_aload_n C.1.1 C.1.2.1 dX13_after_54 rfl (lv_at hl 0 rfl) ?_
              refine mr_getR C hw kc_13 7 (Mc_N0 hk0) (Mc_T0 hk0) (Mc_F0_7 hk0) wd_2649 dX13_after_55 (by decide) rfl ?_
              refine lv_iload_n C.1.1 C.1.2.1 dX13_after_58 rfl (lv_at hl 1 rfl) ?_
              refine lv_lload_n C.1.1 C.1.2.1 dX13_after_59 rfl (lv_at hl 2 rfl) ?_
              obtain ⟨q14, hD⟩ := g_ck hD
              obtain ⟨L15, eL15, hD⟩ := g_let hD
              refine mr_last C hw (Mc_N5 hk0) (Mc_T5 hk0) q14 dX13_after_60 (fun H locs hw => ?_)
              replace hw : mw_W G ad NF TF FF M7 L15 H locs := by rw [eL15]; exact hw
              refine lv_sipush (v := 1000) C.1.1 C.1.2.1 dX13_after_61 (by decide) ?_
              refine lv_iload_n C.1.1 C.1.2.1 dX13_after_64 rfl (lv_at hl 1 rfl) ?_
              refine lv_iadd C.1.1 C.1.2.1 dX13_after_65 ?_
              exact mr_iret C hr hlocks hw rfl (Option.some.inj hD) dX13_after_66
            · replace hD := g_neg c13 hD
              refine lv_bipush (v := (-3)) C.1.1 C.1.2.1 dX13_after_51 (by decide) ?_
              exact mr_iret C hr hlocks hw rfl (Option.some.inj hD) dX13_after_53
          · replace hD := g_neg c12 hD
            exact hb41 M7 L8 _ _ ls hD hw (lv_sub hl [] rfl)
    · replace hD := g_neg c6 hD
      exact hb17 M3 L4 _ _ ls hD hw (lv_sub hl [] rfl)

theorem dX13_note_0 : decode cX13_note 0 = .ok (.aload_n 0, 1) := by decide +kernel
theorem dX13_note_1 : decode cX13_note 1 = .ok (.getfield 129, 3) := by decide +kernel
theorem dX13_note_4 : decode cX13_note 4 = .ok (.sipush 500, 3) := by decide +kernel
theorem dX13_note_7 : decode cX13_note 7 = .ok (.if_icmp .ne 4, 3) := by decide +kernel
theorem dX13_note_10 : decode cX13_note 10 = .ok (.return_, 1) := by decide +kernel
theorem dX13_note_11 : decode cX13_note 11 = .ok (.aload_n 0, 1) := by decide +kernel
theorem dX13_note_12 : decode cX13_note 12 = .ok (.getfield 75, 3) := by decide +kernel
theorem dX13_note_15 : decode cX13_note 15 = .ok (.iconst 3, 1) := by decide +kernel
theorem dX13_note_16 : decode cX13_note 16 = .ok (.aload_n 0, 1) := by decide +kernel
theorem dX13_note_17 : decode cX13_note 17 = .ok (.getfield 129, 3) := by decide +kernel
theorem dX13_note_20 : decode cX13_note 20 = .ok (.imul, 1) := by decide +kernel
theorem dX13_note_21 : decode cX13_note 21 = .ok (.iload_n 1, 1) := by decide +kernel
theorem dX13_note_22 : decode cX13_note 22 = .ok (.iastore, 1) := by decide +kernel
theorem dX13_note_23 : decode cX13_note 23 = .ok (.aload_n 0, 1) := by decide +kernel
theorem dX13_note_24 : decode cX13_note 24 = .ok (.getfield 75, 3) := by decide +kernel
theorem dX13_note_27 : decode cX13_note 27 = .ok (.iconst 3, 1) := by decide +kernel
theorem dX13_note_28 : decode cX13_note 28 = .ok (.aload_n 0, 1) := by decide +kernel
theorem dX13_note_29 : decode cX13_note 29 = .ok (.getfield 129, 3) := by decide +kernel
theorem dX13_note_32 : decode cX13_note 32 = .ok (.imul, 1) := by decide +kernel
theorem dX13_note_33 : decode cX13_note 33 = .ok (.iconst 1, 1) := by decide +kernel
theorem dX13_note_34 : decode cX13_note 34 = .ok (.iadd, 1) := by decide +kernel
theorem dX13_note_35 : decode cX13_note 35 = .ok (.iload_n 2, 1) := by decide +kernel
theorem dX13_note_36 : decode cX13_note 36 = .ok (.iastore, 1) := by decide +kernel
theorem dX13_note_37 : decode cX13_note 37 = .ok (.aload_n 0, 1) := by decide +kernel
theorem dX13_note_38 : decode cX13_note 38 = .ok (.getfield 75, 3) := by decide +kernel
theorem dX13_note_41 : decode cX13_note 41 = .ok (.iconst 3, 1) := by decide +kernel
theorem dX13_note_42 : decode cX13_note 42 = .ok (.aload_n 0, 1) := by decide +kernel
theorem dX13_note_43 : decode cX13_note 43 = .ok (.getfield 129, 3) := by decide +kernel
theorem dX13_note_46 : decode cX13_note 46 = .ok (.imul, 1) := by decide +kernel
theorem dX13_note_47 : decode cX13_note 47 = .ok (.iconst 2, 1) := by decide +kernel
theorem dX13_note_48 : decode cX13_note 48 = .ok (.iadd, 1) := by decide +kernel
theorem dX13_note_49 : decode cX13_note 49 = .ok (.lload_n 3, 1) := by decide +kernel
theorem dX13_note_50 : decode cX13_note 50 = .ok (.l2i, 1) := by decide +kernel
theorem dX13_note_51 : decode cX13_note 51 = .ok (.iastore, 1) := by decide +kernel
theorem dX13_note_52 : decode cX13_note 52 = .ok (.aload_n 0, 1) := by decide +kernel
theorem dX13_note_53 : decode cX13_note 53 = .ok (.dup, 1) := by decide +kernel
theorem dX13_note_54 : decode cX13_note 54 = .ok (.getfield 129, 3) := by decide +kernel
theorem dX13_note_57 : decode cX13_note 57 = .ok (.iconst 1, 1) := by decide +kernel
theorem dX13_note_58 : decode cX13_note 58 = .ok (.iadd, 1) := by decide +kernel
theorem dX13_note_59 : decode cX13_note 59 = .ok (.putfield 129, 3) := by decide +kernel
theorem dX13_note_62 : decode cX13_note 62 = .ok (.return_, 1) := by decide +kernel
theorem cwX13_note : mw_cwV yX13_note cX13_note 5 (none) 3 := ⟨⟨wd_20, wd_4094, by decide +kernel⟩, wd_4093, sl_320⟩
set_option maxHeartbeats 4000000 in
set_option maxRecDepth 100000 in
theorem tX13_note (l : Launch) (G : mwG) (ad : Nat → Nat) (fu : Nat) (k : Nat) (a1 : Int32) (a2 : Int32) (a3 : Int64) (M : mwM) (L : mwL) {M0 : mwM} {L0 : mwL} (hD : DX13_note fu k a1 a2 a3 M L = some (M0, L0)) (hk0 : isMc k) : Met l yX13_note (Cond.code yX13_note cX13_note 5 (none) :: GT) ({ frames := 0, cells := 0, slots := 0, locals := 0 }) (mw_Pre G ad NF TF FF M L [.ref (ad k), .int a1, .int a2, .long a3]) (mw_Qv G ad NF TF FF (mw_eqV M0 L0)) 0 0 (mw_fr G) := by
  refine mw_enter (by decide) (Nat.le_of_ble_eq_true rfl) ?_
  intro p e s m below meth c ls C hr hlocks hnm hw hl
  have hl : lv_has ls 5 [(0, .ref (ad k)), (1, .int a1), (2, .int a2), (3, .long a3)] := hl
  unfold DX13_note at hD
  refine lv_aload_n C.1.1 C.1.2.1 dX13_note_0 rfl (lv_at hl 0 rfl) ?_
  refine mr_getI C hw kc_13 31 (Mc_N0 hk0) (Mc_T0 hk0) wd_2673 dX13_note_1 (by decide) rfl ?_
  refine lv_sipush (v := 500) C.1.1 C.1.2.1 dX13_note_4 (by decide) ?_
  refine lv_icmp_ne (tgt := 11) C.1.1 C.1.2.1 dX13_note_7 (by decide) (fun c1 => ?_) (fun c1 => ?_)
  · replace hD := g_neg c1 hD
    refine lv_aload_n C.1.1 C.1.2.1 dX13_note_11 rfl (lv_at hl 0 rfl) ?_
    refine mr_getR C hw kc_13 32 (Mc_N0 hk0) (Mc_T0 hk0) (Mc_F0_32 hk0) wd_2674 dX13_note_12 (by decide) rfl ?_
    refine lv_iconst (v := 3) C.1.1 C.1.2.1 dX13_note_15 (by decide) ?_
    refine lv_aload_n C.1.1 C.1.2.1 dX13_note_16 rfl (lv_at hl 0 rfl) ?_
    refine mr_getI C hw kc_13 31 (Mc_N0 hk0) (Mc_T0 hk0) wd_2673 dX13_note_17 (by decide) rfl ?_
    refine lv_imul C.1.1 C.1.2.1 dX13_note_20 ?_
    refine lv_iload_n C.1.1 C.1.2.1 dX13_note_21 rfl (lv_at hl 1 rfl) ?_
    obtain ⟨q2, hD⟩ := g_ck hD
    obtain ⟨M3, eM3, hD⟩ := g_let hD
    refine mr_iast C hw (Mc_N22 hk0) (Mc_T22 hk0) q2 dX13_note_22 (fun H locs hw => ?_)
    replace hw : mw_W G ad NF TF FF M3 L H locs := by rw [eM3]; exact hw
    refine lv_aload_n C.1.1 C.1.2.1 dX13_note_23 rfl (lv_at hl 0 rfl) ?_
    refine mr_getR C hw kc_13 32 (Mc_N0 hk0) (Mc_T0 hk0) (Mc_F0_32 hk0) wd_2674 dX13_note_24 (by decide) rfl ?_
    refine lv_iconst (v := 3) C.1.1 C.1.2.1 dX13_note_27 (by decide) ?_
    refine lv_aload_n C.1.1 C.1.2.1 dX13_note_28 rfl (lv_at hl 0 rfl) ?_
    refine mr_getI C hw kc_13 31 (Mc_N0 hk0) (Mc_T0 hk0) wd_2673 dX13_note_29 (by decide) rfl ?_
    refine lv_imul C.1.1 C.1.2.1 dX13_note_32 ?_
    refine lv_iconst (v := 1) C.1.1 C.1.2.1 dX13_note_33 (by decide) ?_
    refine lv_iadd C.1.1 C.1.2.1 dX13_note_34 ?_
    refine lv_iload_n C.1.1 C.1.2.1 dX13_note_35 rfl (lv_at hl 2 rfl) ?_
    obtain ⟨q4, hD⟩ := g_ck hD
    obtain ⟨M5, eM5, hD⟩ := g_let hD
    refine mr_iast C hw (Mc_N22 hk0) (Mc_T22 hk0) q4 dX13_note_36 (fun H locs hw => ?_)
    replace hw : mw_W G ad NF TF FF M5 L H locs := by rw [eM5]; exact hw
    refine lv_aload_n C.1.1 C.1.2.1 dX13_note_37 rfl (lv_at hl 0 rfl) ?_
    refine mr_getR C hw kc_13 32 (Mc_N0 hk0) (Mc_T0 hk0) (Mc_F0_32 hk0) wd_2674 dX13_note_38 (by decide) rfl ?_
    refine lv_iconst (v := 3) C.1.1 C.1.2.1 dX13_note_41 (by decide) ?_
    refine lv_aload_n C.1.1 C.1.2.1 dX13_note_42 rfl (lv_at hl 0 rfl) ?_
    refine mr_getI C hw kc_13 31 (Mc_N0 hk0) (Mc_T0 hk0) wd_2673 dX13_note_43 (by decide) rfl ?_
    refine lv_imul C.1.1 C.1.2.1 dX13_note_46 ?_
    refine lv_iconst (v := 2) C.1.1 C.1.2.1 dX13_note_47 (by decide) ?_
    refine lv_iadd C.1.1 C.1.2.1 dX13_note_48 ?_
    refine lv_lload_n C.1.1 C.1.2.1 dX13_note_49 rfl (lv_at hl 3 rfl) ?_
    refine lv_l2i C.1.1 C.1.2.1 dX13_note_50 rfl ?_
    obtain ⟨q6, hD⟩ := g_ck hD
    obtain ⟨M7, eM7, hD⟩ := g_let hD
    refine mr_iast C hw (Mc_N22 hk0) (Mc_T22 hk0) q6 dX13_note_51 (fun H locs hw => ?_)
    replace hw : mw_W G ad NF TF FF M7 L H locs := by rw [eM7]; exact hw
    refine lv_aload_n C.1.1 C.1.2.1 dX13_note_52 rfl (lv_at hl 0 rfl) ?_
    refine lv_dup C.1.1 C.1.2.1 dX13_note_53 rfl ?_
    refine mr_getI C hw kc_13 31 (Mc_N0 hk0) (Mc_T0 hk0) wd_2673 dX13_note_54 (by decide) rfl ?_
    refine lv_iconst (v := 1) C.1.1 C.1.2.1 dX13_note_57 (by decide) ?_
    refine lv_iadd C.1.1 C.1.2.1 dX13_note_58 ?_
    obtain ⟨M8, eM8, hD⟩ := g_let hD
    refine mr_putI C hw kc_13 31 (Mc_N0 hk0) (Mc_T0 hk0) wd_2673 dX13_note_59 (by decide) rfl rfl rfl rfl (fun H locs hw => ?_)
    replace hw : mw_W G ad NF TF FF M8 L H locs := by rw [eM8]; exact hw
    exact mr_vret C hr hlocks hw (Option.some.inj hD) dX13_note_62
  · replace hD := g_pos c1 hD
    exact mr_vret C hr hlocks hw (Option.some.inj hD) dX13_note_10

theorem dX13_doActs_0 : decode cX13_doActs 0 = .ok (.iconst 0, 1) := by decide +kernel
theorem dX13_doActs_1 : decode cX13_doActs 1 = .ok (.istore_n 3, 1) := by decide +kernel
theorem dX13_doActs_2 : decode cX13_doActs 2 = .ok (.iload_n 3, 1) := by decide +kernel
theorem dX13_doActs_3 : decode cX13_doActs 3 = .ok (.aload_n 0, 1) := by decide +kernel
theorem dX13_doActs_4 : decode cX13_doActs 4 = .ok (.getfield 109, 3) := by decide +kernel
theorem dX13_doActs_7 : decode cX13_doActs 7 = .ok (.if_icmp .ge 101, 3) := by decide +kernel
theorem dX13_doActs_10 : decode cX13_doActs 10 = .ok (.aload_n 0, 1) := by decide +kernel
theorem dX13_doActs_11 : decode cX13_doActs 11 = .ok (.getfield 60, 3) := by decide +kernel
theorem dX13_doActs_14 : decode cX13_doActs 14 = .ok (.iload_n 3, 1) := by decide +kernel
theorem dX13_doActs_15 : decode cX13_doActs 15 = .ok (.iaload, 1) := by decide +kernel
theorem dX13_doActs_16 : decode cX13_doActs 16 = .ok (.iload_n 1, 1) := by decide +kernel
theorem dX13_doActs_17 : decode cX13_doActs 17 = .ok (.if_icmp .ne 85, 3) := by decide +kernel
theorem dX13_doActs_20 : decode cX13_doActs 20 = .ok (.aload_n 0, 1) := by decide +kernel
theorem dX13_doActs_21 : decode cX13_doActs 21 = .ok (.getfield 63, 3) := by decide +kernel
theorem dX13_doActs_24 : decode cX13_doActs 24 = .ok (.iload_n 3, 1) := by decide +kernel
theorem dX13_doActs_25 : decode cX13_doActs 25 = .ok (.iaload, 1) := by decide +kernel
theorem dX13_doActs_26 : decode cX13_doActs 26 = .ok (.iconst 3, 1) := by decide +kernel
theorem dX13_doActs_27 : decode cX13_doActs 27 = .ok (.irem, 1) := by decide +kernel
theorem dX13_doActs_28 : decode cX13_doActs 28 = .ok (.iload_n 2, 1) := by decide +kernel
theorem dX13_doActs_29 : decode cX13_doActs 29 = .ok (.if_icmp .ne 73, 3) := by decide +kernel
theorem dX13_doActs_32 : decode cX13_doActs 32 = .ok (.aload_n 0, 1) := by decide +kernel
theorem dX13_doActs_33 : decode cX13_doActs 33 = .ok (.getfield 72, 3) := by decide +kernel
theorem dX13_doActs_36 : decode cX13_doActs 36 = .ok (.aload_n 0, 1) := by decide +kernel
theorem dX13_doActs_37 : decode cX13_doActs 37 = .ok (.getfield 66, 3) := by decide +kernel
theorem dX13_doActs_40 : decode cX13_doActs 40 = .ok (.iload_n 3, 1) := by decide +kernel
theorem dX13_doActs_41 : decode cX13_doActs 41 = .ok (.iaload, 1) := by decide +kernel
theorem dX13_doActs_42 : decode cX13_doActs 42 = .ok (.aload_n 0, 1) := by decide +kernel
theorem dX13_doActs_43 : decode cX13_doActs 43 = .ok (.getfield 63, 3) := by decide +kernel
theorem dX13_doActs_46 : decode cX13_doActs 46 = .ok (.iload_n 3, 1) := by decide +kernel
theorem dX13_doActs_47 : decode cX13_doActs 47 = .ok (.iaload, 1) := by decide +kernel
theorem dX13_doActs_48 : decode cX13_doActs 48 = .ok (.iconst 2, 1) := by decide +kernel
theorem dX13_doActs_49 : decode cX13_doActs 49 = .ok (.if_icmp .le 24, 3) := by decide +kernel
theorem dX13_doActs_52 : decode cX13_doActs 52 = .ok (.aload_n 0, 1) := by decide +kernel
theorem dX13_doActs_53 : decode cX13_doActs 53 = .ok (.getfield 72, 3) := by decide +kernel
theorem dX13_doActs_56 : decode cX13_doActs 56 = .ok (.aload_n 0, 1) := by decide +kernel
theorem dX13_doActs_57 : decode cX13_doActs 57 = .ok (.getfield 66, 3) := by decide +kernel
theorem dX13_doActs_60 : decode cX13_doActs 60 = .ok (.iload_n 3, 1) := by decide +kernel
theorem dX13_doActs_61 : decode cX13_doActs 61 = .ok (.iaload, 1) := by decide +kernel
theorem dX13_doActs_62 : decode cX13_doActs 62 = .ok (.laload, 1) := by decide +kernel
theorem dX13_doActs_63 : decode cX13_doActs 63 = .ok (.aload_n 0, 1) := by decide +kernel
theorem dX13_doActs_64 : decode cX13_doActs 64 = .ok (.getfield 69, 3) := by decide +kernel
theorem dX13_doActs_67 : decode cX13_doActs 67 = .ok (.iload_n 3, 1) := by decide +kernel
theorem dX13_doActs_68 : decode cX13_doActs 68 = .ok (.laload, 1) := by decide +kernel
theorem dX13_doActs_69 : decode cX13_doActs 69 = .ok (.ladd, 1) := by decide +kernel
theorem dX13_doActs_70 : decode cX13_doActs 70 = .ok (.goto 9, 3) := by decide +kernel
theorem dX13_doActs_73 : decode cX13_doActs 73 = .ok (.aload_n 0, 1) := by decide +kernel
theorem dX13_doActs_74 : decode cX13_doActs 74 = .ok (.getfield 69, 3) := by decide +kernel
theorem dX13_doActs_77 : decode cX13_doActs 77 = .ok (.iload_n 3, 1) := by decide +kernel
theorem dX13_doActs_78 : decode cX13_doActs 78 = .ok (.laload, 1) := by decide +kernel
theorem dX13_doActs_79 : decode cX13_doActs 79 = .ok (.lastore, 1) := by decide +kernel
theorem dX13_doActs_80 : decode cX13_doActs 80 = .ok (.aload_n 0, 1) := by decide +kernel
theorem dX13_doActs_81 : decode cX13_doActs 81 = .ok (.iconst 2, 1) := by decide +kernel
theorem dX13_doActs_82 : decode cX13_doActs 82 = .ok (.aload_n 0, 1) := by decide +kernel
theorem dX13_doActs_83 : decode cX13_doActs 83 = .ok (.getfield 66, 3) := by decide +kernel
theorem dX13_doActs_86 : decode cX13_doActs 86 = .ok (.iload_n 3, 1) := by decide +kernel
theorem dX13_doActs_87 : decode cX13_doActs 87 = .ok (.iaload, 1) := by decide +kernel
theorem dX13_doActs_88 : decode cX13_doActs 88 = .ok (.aload_n 0, 1) := by decide +kernel
theorem dX13_doActs_89 : decode cX13_doActs 89 = .ok (.getfield 72, 3) := by decide +kernel
theorem dX13_doActs_92 : decode cX13_doActs 92 = .ok (.aload_n 0, 1) := by decide +kernel
theorem dX13_doActs_93 : decode cX13_doActs 93 = .ok (.getfield 66, 3) := by decide +kernel
theorem dX13_doActs_96 : decode cX13_doActs 96 = .ok (.iload_n 3, 1) := by decide +kernel
theorem dX13_doActs_97 : decode cX13_doActs 97 = .ok (.iaload, 1) := by decide +kernel
theorem dX13_doActs_98 : decode cX13_doActs 98 = .ok (.laload, 1) := by decide +kernel
theorem dX13_doActs_99 : decode cX13_doActs 99 = .ok (.invokevirtual 144, 3) := by decide +kernel
theorem dX13_doActs_102 : decode cX13_doActs 102 = .ok (.iinc 3 1, 3) := by decide +kernel
theorem dX13_doActs_105 : decode cX13_doActs 105 = .ok (.goto (-103), 3) := by decide +kernel
theorem dX13_doActs_108 : decode cX13_doActs 108 = .ok (.return_, 1) := by decide +kernel
theorem cwX13_doActs : mw_cwV yX13_doActs cX13_doActs 4 (none) 2 := ⟨⟨wd_20, wd_4098, by decide +kernel⟩, wd_4097, sl_321⟩
set_option maxHeartbeats 4000000 in
set_option maxRecDepth 100000 in
theorem tX13_doActs (l : Launch) (G : mwG) (ad : Nat → Nat) (fu : Nat) (k : Nat) (a1 : Int32) (a2 : Int32) (M : mwM) (L : mwL) {M0 : mwM} {L0 : mwL} (hD : DX13_doActs fu k a1 a2 M L = some (M0, L0)) (hk0 : isMc k) : Met l yX13_doActs (Cond.code yX13_doActs cX13_doActs 4 (none) :: GT) ({ frames := 1, cells := 0, slots := 0, locals := 24 }) (mw_Pre G ad NF TF FF M L [.ref (ad k), .int a1, .int a2]) (mw_Qv G ad NF TF FF (mw_eqV M0 L0)) 0 0 (mw_fr G) := by
  refine mw_enter (by decide) (Nat.le_of_ble_eq_true rfl) ?_
  intro p e s m below meth c ls C hr hlocks hnm hw hl
  have hl : lv_has ls 4 [(0, .ref (ad k)), (1, .int a1), (2, .int a2)] := hl
  have hh2 : ∀ (f : Nat) (v3 : Int32) (M : mwM) (L : mwL) (H : Heap) (locs : List Loc) (ls : Array Slot), fX13_doActs_h2 fu k a1 a2 f (v3, M, L) = some (M0, L0) → mw_W G ad NF TF FF M L H locs → lv_has ls 4 [(0, .ref (ad k)), (1, .int a1), (2, .int a2), (3, .int v3)] → W p l e ({ frames := 1, cells := 0, slots := 0, locals := 24 }) s m [.ref (ad k), .int a1, .int a2].toArray below meth c H locs 0 0 (MQ below (mw_Qv G ad NF TF FF (mw_eqV M0 L0)) [.ref (ad k), .int a1, .int a2].toArray s 0 0 (mw_fr G)) (F0 m 2 ls []) := by
    intro f
    induction f with
    | zero => intro v3 M L H locs ls hD; cases hD
    | succ f2 ih2 =>
      intro v3 M L H locs ls hD hw hl
      replace hD : fX13_doActs_i2 fu k a1 a2 (fX13_doActs_h2 fu k a1 a2 f2) v3 M L = some (M0, L0) := hD
      have hb102 : ∀ (v3 : Int32) (M : mwM) (L : mwL) (H : Heap) (locs : List Loc) (ls : Array Slot), fX13_doActs_b102 fu k a1 a2 (fX13_doActs_h2 fu k a1 a2 f2) v3 M L = some (M0, L0) → mw_W G ad NF TF FF M L H locs → lv_has ls 4 [(0, .ref (ad k)), (1, .int a1), (2, .int a2), (3, .int v3)] → W p l e ({ frames := 1, cells := 0, slots := 0, locals := 24 }) s m [.ref (ad k), .int a1, .int a2].toArray below meth c H locs 0 0 (MQ below (mw_Qv G ad NF TF FF (mw_eqV M0 L0)) [.ref (ad k), .int a1, .int a2].toArray s 0 0 (mw_fr G)) (F0 m 102 ls []) := by
        intro v3 M L H locs ls hD hw hl
        unfold fX13_doActs_b102 at hD
        obtain ⟨x21, ex21, hD⟩ := g_let hD
        refine lv_iinc (v := x21) (lv' := [(3, .int x21), (0, .ref (ad k)), (1, .int a1), (2, .int a2)]) C.1.1 C.1.2.1 dX13_doActs_102 hl (k := 3) rfl (by rw [ex21]; rfl) (by decide) rfl (fun ls hl => ?_)
        refine lv_goto (tgt := 2) C.1.1 C.1.2.1 dX13_doActs_105 (by decide) ?_
        exact ih2 x21 M L _ _ ls hD hw (lv_sub hl [1, 2, 3, 0] rfl)
      have hb79 : ∀ (v3 : Int32) (s1 : Int32) (s2 : Int64) (M : mwM) (L : mwL) (H : Heap) (locs : List Loc) (ls : Array Slot), fX13_doActs_b79 fu k a1 a2 (fX13_doActs_h2 fu k a1 a2 f2) v3 s1 s2 M L = some (M0, L0) → mw_W G ad NF TF FF M L H locs → lv_has ls 4 [(0, .ref (ad k)), (1, .int a1), (2, .int a2), (3, .int v3)] → W p l e ({ frames := 1, cells := 0, slots := 0, locals := 24 }) s m [.ref (ad k), .int a1, .int a2].toArray below meth c H locs 0 0 (MQ below (mw_Qv G ad NF TF FF (mw_eqV M0 L0)) [.ref (ad k), .int a1, .int a2].toArray s 0 0 (mw_fr G)) (F0 m 79 ls [.long s2, .int s1, .ref (ad (k + 21))]) := by
        intro v3 s1 s2 M L H locs ls hD hw hl
        unfold fX13_doActs_b79 at hD
        obtain ⟨q14, hD⟩ := g_ck hD
        obtain ⟨L15, eL15, hD⟩ := g_let hD
        refine mr_last C hw (Mc_N21 hk0) (Mc_T21 hk0) q14 dX13_doActs_79 (fun H locs hw => ?_)
        replace hw : mw_W G ad NF TF FF M L15 H locs := by rw [eL15]; exact hw
        refine lv_aload_n C.1.1 C.1.2.1 dX13_doActs_80 rfl (lv_at hl 0 rfl) ?_
        refine lv_iconst (v := 2) C.1.1 C.1.2.1 dX13_doActs_81 (by decide) ?_
        refine lv_aload_n C.1.1 C.1.2.1 dX13_doActs_82 rfl (lv_at hl 0 rfl) ?_
        refine mr_getR C hw kc_13 23 (Mc_N0 hk0) (Mc_T0 hk0) (Mc_F0_23 hk0) wd_2665 dX13_doActs_83 (by decide) rfl ?_
        refine lv_iload_n C.1.1 C.1.2.1 dX13_doActs_86 rfl (lv_at hl 3 rfl) ?_
        obtain ⟨q16, hD⟩ := g_ck hD
        refine mr_iald C hw (Mc_N19 hk0) (Mc_T19 hk0) q16 dX13_doActs_87 ?_
        refine lv_aload_n C.1.1 C.1.2.1 dX13_doActs_88 rfl (lv_at hl 0 rfl) ?_
        refine mr_getR C hw kc_13 25 (Mc_N0 hk0) (Mc_T0 hk0) (Mc_F0_25 hk0) wd_2667 dX13_doActs_89 (by decide) rfl ?_
        refine lv_aload_n C.1.1 C.1.2.1 dX13_doActs_92 rfl (lv_at hl 0 rfl) ?_
        refine mr_getR C hw kc_13 23 (Mc_N0 hk0) (Mc_T0 hk0) (Mc_F0_23 hk0) wd_2665 dX13_doActs_93 (by decide) rfl ?_
        refine lv_iload_n C.1.1 C.1.2.1 dX13_doActs_96 rfl (lv_at hl 3 rfl) ?_
        obtain ⟨q17, hD⟩ := g_ck hD
        refine mr_iald C hw (Mc_N19 hk0) (Mc_T19 hk0) q17 dX13_doActs_97 ?_
        obtain ⟨q18, hD⟩ := g_ck hD
        refine mr_lald C hw (Mc_N21 hk0) (Mc_T21 hk0) q18 dX13_doActs_98 ?_
        obtain ⟨M19, L20, h1, hD⟩ := g_b2 hD
        refine md_cvV (As := [.int 2, .int (M (k + 19) v3.toNatClampNeg), .long (L15 (k + 21) (M (k + 19) v3.toNatClampNeg).toNatClampNeg)]) (rest := []) C hw (tX13_note l G ad fu k 2 (M (k + 19) v3.toNatClampNeg) (L15 (k + 21) (M (k + 19) v3.toNatClampNeg).toNatClampNeg) M L15 h1 hk0) kc_13 (Mc_N0 hk0) (Mc_T0 hk0) wd_4091 cwX13_note ⟨Nat.le_of_ble_eq_true rfl, Nat.le_of_ble_eq_true rfl⟩ rfl hl.1 (Nat.le_of_ble_eq_true rfl) dX13_doActs_99 rfl rfl ⟨Nat.zero_le _, Nat.zero_le _⟩ rfl (fun H locs hw => ?_)
        exact hb102 v3 M19 L20 _ _ ls hD hw (lv_sub hl [0, 1, 2, 3] rfl)
      unfold fX13_doActs_i2 at hD
      refine lv_iload_n C.1.1 C.1.2.1 dX13_doActs_2 rfl (lv_at hl 3 rfl) ?_
      refine lv_aload_n C.1.1 C.1.2.1 dX13_doActs_3 rfl (lv_at hl 0 rfl) ?_
      refine mr_getI C hw kc_13 20 (Mc_N0 hk0) (Mc_T0 hk0) wd_2662 dX13_doActs_4 (by decide) rfl ?_
      refine lv_icmp_ge (tgt := 108) C.1.1 C.1.2.1 dX13_doActs_7 (by decide) (fun c1 => ?_) (fun c1 => ?_)
      · replace hD := g_pos c1 hD
        exact mr_vret C hr hlocks hw (Option.some.inj hD) dX13_doActs_108
      · replace hD := g_neg c1 hD
        refine lv_aload_n C.1.1 C.1.2.1 dX13_doActs_10 rfl (lv_at hl 0 rfl) ?_
        refine mr_getR C hw kc_13 21 (Mc_N0 hk0) (Mc_T0 hk0) (Mc_F0_21 hk0) wd_2663 dX13_doActs_11 (by decide) rfl ?_
        refine lv_iload_n C.1.1 C.1.2.1 dX13_doActs_14 rfl (lv_at hl 3 rfl) ?_
        obtain ⟨q2, hD⟩ := g_ck hD
        refine mr_iald C hw (Mc_N17 hk0) (Mc_T17 hk0) q2 dX13_doActs_15 ?_
        refine lv_iload_n C.1.1 C.1.2.1 dX13_doActs_16 rfl (lv_at hl 1 rfl) ?_
        refine lv_icmp_ne (tgt := 102) C.1.1 C.1.2.1 dX13_doActs_17 (by decide) (fun c3 => ?_) (fun c3 => ?_)
        · replace hD := g_neg c3 hD
          exact hb102 v3 M L _ _ ls hD hw (lv_sub hl [0, 1, 2, 3] rfl)
        · replace hD := g_pos c3 hD
          refine lv_aload_n C.1.1 C.1.2.1 dX13_doActs_20 rfl (lv_at hl 0 rfl) ?_
          refine mr_getR C hw kc_13 22 (Mc_N0 hk0) (Mc_T0 hk0) (Mc_F0_22 hk0) wd_2664 dX13_doActs_21 (by decide) rfl ?_
          refine lv_iload_n C.1.1 C.1.2.1 dX13_doActs_24 rfl (lv_at hl 3 rfl) ?_
          obtain ⟨q4, hD⟩ := g_ck hD
          refine mr_iald C hw (Mc_N18 hk0) (Mc_T18 hk0) q4 dX13_doActs_25 ?_
          refine lv_iconst (v := 3) C.1.1 C.1.2.1 dX13_doActs_26 (by decide) ?_
          refine lv_irem C.1.1 C.1.2.1 dX13_doActs_27 (by decide) ?_
          refine lv_iload_n C.1.1 C.1.2.1 dX13_doActs_28 rfl (lv_at hl 2 rfl) ?_
          refine lv_icmp_ne (tgt := 102) C.1.1 C.1.2.1 dX13_doActs_29 (by decide) (fun c6 => ?_) (fun c6 => ?_)
          · replace hD := g_neg c6 hD
            exact hb102 v3 M L _ _ ls hD hw (lv_sub hl [0, 1, 2, 3] rfl)
          · replace hD := g_pos c6 hD
            refine lv_aload_n C.1.1 C.1.2.1 dX13_doActs_32 rfl (lv_at hl 0 rfl) ?_
            refine mr_getR C hw kc_13 25 (Mc_N0 hk0) (Mc_T0 hk0) (Mc_F0_25 hk0) wd_2667 dX13_doActs_33 (by decide) rfl ?_
            refine lv_aload_n C.1.1 C.1.2.1 dX13_doActs_36 rfl (lv_at hl 0 rfl) ?_
            refine mr_getR C hw kc_13 23 (Mc_N0 hk0) (Mc_T0 hk0) (Mc_F0_23 hk0) wd_2665 dX13_doActs_37 (by decide) rfl ?_
            refine lv_iload_n C.1.1 C.1.2.1 dX13_doActs_40 rfl (lv_at hl 3 rfl) ?_
            obtain ⟨q7, hD⟩ := g_ck hD
            refine mr_iald C hw (Mc_N19 hk0) (Mc_T19 hk0) q7 dX13_doActs_41 ?_
            refine lv_aload_n C.1.1 C.1.2.1 dX13_doActs_42 rfl (lv_at hl 0 rfl) ?_
            refine mr_getR C hw kc_13 22 (Mc_N0 hk0) (Mc_T0 hk0) (Mc_F0_22 hk0) wd_2664 dX13_doActs_43 (by decide) rfl ?_
            refine lv_iload_n C.1.1 C.1.2.1 dX13_doActs_46 rfl (lv_at hl 3 rfl) ?_
            obtain ⟨q8, hD⟩ := g_ck hD
            refine mr_iald C hw (Mc_N18 hk0) (Mc_T18 hk0) q8 dX13_doActs_47 ?_
            refine lv_iconst (v := 2) C.1.1 C.1.2.1 dX13_doActs_48 (by decide) ?_
            refine lv_icmp_le (tgt := 73) C.1.1 C.1.2.1 dX13_doActs_49 (by decide) (fun c9 => ?_) (fun c9 => ?_)
            · replace hD := g_pos c9 hD
              refine lv_aload_n C.1.1 C.1.2.1 dX13_doActs_73 rfl (lv_at hl 0 rfl) ?_
              refine mr_getR C hw kc_13 24 (Mc_N0 hk0) (Mc_T0 hk0) (Mc_F0_24 hk0) wd_2666 dX13_doActs_74 (by decide) rfl ?_
              refine lv_iload_n C.1.1 C.1.2.1 dX13_doActs_77 rfl (lv_at hl 3 rfl) ?_
              obtain ⟨q10, hD⟩ := g_ck hD
              refine mr_lald C hw (Mc_N20 hk0) (Mc_T20 hk0) q10 dX13_doActs_78 ?_
              exact hb79 v3 (M (k + 19) v3.toNatClampNeg) (L (k + 20) v3.toNatClampNeg) M L _ _ ls hD hw (lv_sub hl [0, 1, 2, 3] rfl)
            · replace hD := g_neg c9 hD
              refine lv_aload_n C.1.1 C.1.2.1 dX13_doActs_52 rfl (lv_at hl 0 rfl) ?_
              refine mr_getR C hw kc_13 25 (Mc_N0 hk0) (Mc_T0 hk0) (Mc_F0_25 hk0) wd_2667 dX13_doActs_53 (by decide) rfl ?_
              refine lv_aload_n C.1.1 C.1.2.1 dX13_doActs_56 rfl (lv_at hl 0 rfl) ?_
              refine mr_getR C hw kc_13 23 (Mc_N0 hk0) (Mc_T0 hk0) (Mc_F0_23 hk0) wd_2665 dX13_doActs_57 (by decide) rfl ?_
              refine lv_iload_n C.1.1 C.1.2.1 dX13_doActs_60 rfl (lv_at hl 3 rfl) ?_
              obtain ⟨q11, hD⟩ := g_ck hD
              refine mr_iald C hw (Mc_N19 hk0) (Mc_T19 hk0) q11 dX13_doActs_61 ?_
              obtain ⟨q12, hD⟩ := g_ck hD
              refine mr_lald C hw (Mc_N21 hk0) (Mc_T21 hk0) q12 dX13_doActs_62 ?_
              refine lv_aload_n C.1.1 C.1.2.1 dX13_doActs_63 rfl (lv_at hl 0 rfl) ?_
              refine mr_getR C hw kc_13 24 (Mc_N0 hk0) (Mc_T0 hk0) (Mc_F0_24 hk0) wd_2666 dX13_doActs_64 (by decide) rfl ?_
              refine lv_iload_n C.1.1 C.1.2.1 dX13_doActs_67 rfl (lv_at hl 3 rfl) ?_
              obtain ⟨q13, hD⟩ := g_ck hD
              refine mr_lald C hw (Mc_N20 hk0) (Mc_T20 hk0) q13 dX13_doActs_68 ?_
              refine lv_ladd C.1.1 C.1.2.1 dX13_doActs_69 ?_
              refine lv_goto (tgt := 79) C.1.1 C.1.2.1 dX13_doActs_70 (by decide) ?_
              exact hb79 v3 (M (k + 19) v3.toNatClampNeg) ((L (k + 21) (M (k + 19) v3.toNatClampNeg).toNatClampNeg) + (L (k + 20) v3.toNatClampNeg)) M L _ _ ls hD hw (lv_sub hl [0, 1, 2, 3] rfl)
  unfold DX13_doActs at hD
  refine lv_iconst (v := 0) C.1.1 C.1.2.1 dX13_doActs_0 (by decide) ?_
  refine lv_istore_n (lv' := [(3, .int 0), (0, .ref (ad k)), (1, .int a1), (2, .int a2)]) C.1.1 C.1.2.1 dX13_doActs_1 rfl hl (by decide) rfl (fun ls hl => ?_)
  exact hh2 fu 0 M L _ _ ls hD hw (lv_sub hl [1, 2, 3, 0] rfl)

theorem dX13_inside_0 : decode cX13_inside 0 = .ok (.iload_n 1, 1) := by decide +kernel
theorem dX13_inside_1 : decode cX13_inside 1 = .ok (.istore_n 3, 1) := by decide +kernel
theorem dX13_inside_2 : decode cX13_inside 2 = .ok (.iload_n 3, 1) := by decide +kernel
theorem dX13_inside_3 : decode cX13_inside 3 = .ok (.ifCond .eq 17, 3) := by decide +kernel
theorem dX13_inside_6 : decode cX13_inside 6 = .ok (.aload_n 0, 1) := by decide +kernel
theorem dX13_inside_7 : decode cX13_inside 7 = .ok (.getfield 13, 3) := by decide +kernel
theorem dX13_inside_10 : decode cX13_inside 10 = .ok (.iload_n 3, 1) := by decide +kernel
theorem dX13_inside_11 : decode cX13_inside 11 = .ok (.iaload, 1) := by decide +kernel
theorem dX13_inside_12 : decode cX13_inside 12 = .ok (.istore_n 3, 1) := by decide +kernel
theorem dX13_inside_13 : decode cX13_inside 13 = .ok (.iload_n 3, 1) := by decide +kernel
theorem dX13_inside_14 : decode cX13_inside 14 = .ok (.iload_n 2, 1) := by decide +kernel
theorem dX13_inside_15 : decode cX13_inside 15 = .ok (.if_icmp .ne (-13), 3) := by decide +kernel
theorem dX13_inside_18 : decode cX13_inside 18 = .ok (.iconst 1, 1) := by decide +kernel
theorem dX13_inside_19 : decode cX13_inside 19 = .ok (.ireturn, 1) := by decide +kernel
theorem dX13_inside_20 : decode cX13_inside 20 = .ok (.iconst 0, 1) := by decide +kernel
theorem dX13_inside_21 : decode cX13_inside 21 = .ok (.ireturn, 1) := by decide +kernel
theorem cwX13_inside : mw_cwV yX13_inside cX13_inside 4 ((some .boolean)) 2 := ⟨⟨wd_20, wd_4129, by decide +kernel⟩, wd_4128, sl_328⟩
set_option maxHeartbeats 4000000 in
set_option maxRecDepth 100000 in
theorem tX13_inside (l : Launch) (G : mwG) (ad : Nat → Nat) (fu : Nat) (k : Nat) (a1 : Int32) (a2 : Int32) (M : mwM) (L : mwL) {r0 : Int32} {M0 : mwM} {L0 : mwL} (hD : DX13_inside fu k a1 a2 M L = some (r0, M0, L0)) (hk0 : isMc k) : Met l yX13_inside (Cond.code yX13_inside cX13_inside 4 ((some .boolean)) :: GT) ({ frames := 0, cells := 0, slots := 0, locals := 0 }) (mw_Pre G ad NF TF FF M L [.ref (ad k), .int a1, .int a2]) (mw_Qi G ad NF TF FF (mw_eqI r0 M0 L0)) 0 0 (mw_fr G) := by
  refine mw_enter (by decide) (Nat.le_of_ble_eq_true rfl) ?_
  intro p e s m below meth c ls C hr hlocks hnm hw hl
  have hl : lv_has ls 4 [(0, .ref (ad k)), (1, .int a1), (2, .int a2)] := hl
  have hh2 : ∀ (f : Nat) (v3 : Int32) (M : mwM) (L : mwL) (H : Heap) (locs : List Loc) (ls : Array Slot), fX13_inside_h2 fu k a1 a2 f (v3, M, L) = some (r0, M0, L0) → mw_W G ad NF TF FF M L H locs → lv_has ls 4 [(0, .ref (ad k)), (2, .int a2), (3, .int v3)] → W p l e ({ frames := 0, cells := 0, slots := 0, locals := 0 }) s m [.ref (ad k), .int a1, .int a2].toArray below meth c H locs 0 0 (MQ below (mw_Qi G ad NF TF FF (mw_eqI r0 M0 L0)) [.ref (ad k), .int a1, .int a2].toArray s 0 0 (mw_fr G)) (F0 m 2 ls []) := by
    intro f
    induction f with
    | zero => intro v3 M L H locs ls hD; cases hD
    | succ f2 ih2 =>
      intro v3 M L H locs ls hD hw hl
      replace hD : fX13_inside_i2 fu k a1 a2 (fX13_inside_h2 fu k a1 a2 f2) v3 M L = some (r0, M0, L0) := hD
      unfold fX13_inside_i2 at hD
      refine lv_iload_n C.1.1 C.1.2.1 dX13_inside_2 rfl (lv_at hl 2 rfl) ?_
      refine lv_if_eq (tgt := 20) C.1.1 C.1.2.1 dX13_inside_3 (by decide) (fun c1 => ?_) (fun c1 => ?_)
      · replace hD := g_pos c1 hD
        refine lv_iconst (v := 0) C.1.1 C.1.2.1 dX13_inside_20 (by decide) ?_
        exact mr_iret C hr hlocks hw (by decide +kernel) (Option.some.inj hD) dX13_inside_21
      · replace hD := g_neg c1 hD
        refine lv_aload_n C.1.1 C.1.2.1 dX13_inside_6 rfl (lv_at hl 0 rfl) ?_
        refine mr_getR C hw kc_13 4 (Mc_N0 hk0) (Mc_T0 hk0) (Mc_F0_4 hk0) wd_2646 dX13_inside_7 (by decide) rfl ?_
        refine lv_iload_n C.1.1 C.1.2.1 dX13_inside_10 rfl (lv_at hl 2 rfl) ?_
        obtain ⟨q2, hD⟩ := g_ck hD
        refine mr_iald C hw (Mc_N2 hk0) (Mc_T2 hk0) q2 dX13_inside_11 ?_
        obtain ⟨x3, ex3, hD⟩ := g_let hD
        refine W.eq (g2 := F0 m 12 ls (.int x3 :: [])) (by rw [ex3]) ?_
        refine lv_istore_n (lv' := [(3, .int x3), (0, .ref (ad k)), (2, .int a2)]) C.1.1 C.1.2.1 dX13_inside_12 rfl hl (by decide) rfl (fun ls hl => ?_)
        refine lv_iload_n C.1.1 C.1.2.1 dX13_inside_13 rfl (lv_at hl 0 rfl) ?_
        refine lv_iload_n C.1.1 C.1.2.1 dX13_inside_14 rfl (lv_at hl 2 rfl) ?_
        refine lv_icmp_ne (tgt := 2) C.1.1 C.1.2.1 dX13_inside_15 (by decide) (fun c4 => ?_) (fun c4 => ?_)
        · replace hD := g_neg c4 hD
          exact ih2 x3 M L _ _ ls hD hw (lv_sub hl [1, 2, 0] rfl)
        · replace hD := g_pos c4 hD
          refine lv_iconst (v := 1) C.1.1 C.1.2.1 dX13_inside_18 (by decide) ?_
          exact mr_iret C hr hlocks hw (by decide +kernel) (Option.some.inj hD) dX13_inside_19
  unfold DX13_inside at hD
  refine lv_iload_n C.1.1 C.1.2.1 dX13_inside_0 rfl (lv_at hl 1 rfl) ?_
  refine lv_istore_n (lv' := [(3, .int a1), (0, .ref (ad k)), (1, .int a1), (2, .int a2)]) C.1.1 C.1.2.1 dX13_inside_1 rfl hl (by decide) rfl (fun ls hl => ?_)
  exact hh2 fu a1 M L _ _ ls hD hw (lv_sub hl [1, 3, 0] rfl)

theorem dX13_child_0 : decode cX13_child 0 = .ok (.iconst 1, 1) := by decide +kernel
theorem dX13_child_1 : decode cX13_child 1 = .ok (.istore_n 3, 1) := by decide +kernel
theorem dX13_child_2 : decode cX13_child 2 = .ok (.iload_n 3, 1) := by decide +kernel
theorem dX13_child_3 : decode cX13_child 3 = .ok (.aload_n 0, 1) := by decide +kernel
theorem dX13_child_4 : decode cX13_child 4 = .ok (.getfield 103, 3) := by decide +kernel
theorem dX13_child_7 : decode cX13_child 7 = .ok (.if_icmp .gt 42, 3) := by decide +kernel
theorem dX13_child_10 : decode cX13_child 10 = .ok (.aload_n 0, 1) := by decide +kernel
theorem dX13_child_11 : decode cX13_child 11 = .ok (.getfield 13, 3) := by decide +kernel
theorem dX13_child_14 : decode cX13_child 14 = .ok (.iload_n 3, 1) := by decide +kernel
theorem dX13_child_15 : decode cX13_child 15 = .ok (.iaload, 1) := by decide +kernel
theorem dX13_child_16 : decode cX13_child 16 = .ok (.iload_n 1, 1) := by decide +kernel
theorem dX13_child_17 : decode cX13_child 17 = .ok (.if_icmp .ne 26, 3) := by decide +kernel
theorem dX13_child_20 : decode cX13_child 20 = .ok (.aload_n 0, 1) := by decide +kernel
theorem dX13_child_21 : decode cX13_child 21 = .ok (.iload_n 3, 1) := by decide +kernel
theorem dX13_child_22 : decode cX13_child 22 = .ok (.invokevirtual 139, 3) := by decide +kernel
theorem dX13_child_25 : decode cX13_child 25 = .ok (.ifCond .ne 18, 3) := by decide +kernel
theorem dX13_child_28 : decode cX13_child 28 = .ok (.iload_n 2, 1) := by decide +kernel
theorem dX13_child_29 : decode cX13_child 29 = .ok (.ifCond .eq 12, 3) := by decide +kernel
theorem dX13_child_32 : decode cX13_child 32 = .ok (.aload_n 0, 1) := by decide +kernel
theorem dX13_child_33 : decode cX13_child 33 = .ok (.getfield 36, 3) := by decide +kernel
theorem dX13_child_36 : decode cX13_child 36 = .ok (.iload_n 3, 1) := by decide +kernel
theorem dX13_child_37 : decode cX13_child 37 = .ok (.baload, 1) := by decide +kernel
theorem dX13_child_38 : decode cX13_child 38 = .ok (.ifCond .eq 5, 3) := by decide +kernel
theorem dX13_child_41 : decode cX13_child 41 = .ok (.iload_n 3, 1) := by decide +kernel
theorem dX13_child_42 : decode cX13_child 42 = .ok (.ireturn, 1) := by decide +kernel
theorem dX13_child_43 : decode cX13_child 43 = .ok (.iinc 3 1, 3) := by decide +kernel
theorem dX13_child_46 : decode cX13_child 46 = .ok (.goto (-44), 3) := by decide +kernel
theorem dX13_child_49 : decode cX13_child 49 = .ok (.iconst 0, 1) := by decide +kernel
theorem dX13_child_50 : decode cX13_child 50 = .ok (.ireturn, 1) := by decide +kernel
theorem cwX13_child : mw_cwV yX13_child cX13_child 4 ((some .int)) 2 := ⟨⟨wd_20, wd_4070, by decide +kernel⟩, wd_4069, sl_314⟩
set_option maxHeartbeats 4000000 in
set_option maxRecDepth 100000 in
theorem tX13_child (l : Launch) (G : mwG) (ad : Nat → Nat) (fu : Nat) (k : Nat) (a1 : Int32) (a2 : Int32) (M : mwM) (L : mwL) {r0 : Int32} {M0 : mwM} {L0 : mwL} (hD : DX13_child fu k a1 a2 M L = some (r0, M0, L0)) (hk0 : isMc k) : Met l yX13_child (Cond.code yX13_child cX13_child 4 ((some .int)) :: GT) ({ frames := 1, cells := 0, slots := 0, locals := 21 }) (mw_Pre G ad NF TF FF M L [.ref (ad k), .int a1, .int a2]) (mw_Qi G ad NF TF FF (mw_eqI r0 M0 L0)) 0 0 (mw_fr G) := by
  refine mw_enter (by decide) (Nat.le_of_ble_eq_true rfl) ?_
  intro p e s m below meth c ls C hr hlocks hnm hw hl
  have hl : lv_has ls 4 [(0, .ref (ad k)), (1, .int a1), (2, .int a2)] := hl
  have hb41 : ∀ (v3 : Int32) (M : mwM) (L : mwL) (H : Heap) (locs : List Loc) (ls : Array Slot), fX13_child_b41 fu k a1 a2 v3 M L = some (r0, M0, L0) → mw_W G ad NF TF FF M L H locs → lv_has ls 4 [(3, .int v3)] → W p l e ({ frames := 1, cells := 0, slots := 0, locals := 21 }) s m [.ref (ad k), .int a1, .int a2].toArray below meth c H locs 0 0 (MQ below (mw_Qi G ad NF TF FF (mw_eqI r0 M0 L0)) [.ref (ad k), .int a1, .int a2].toArray s 0 0 (mw_fr G)) (F0 m 41 ls []) := by
    intro v3 M L H locs ls hD hw hl
    unfold fX13_child_b41 at hD
    refine lv_iload_n C.1.1 C.1.2.1 dX13_child_41 rfl (lv_at hl 0 rfl) ?_
    exact mr_iret C hr hlocks hw rfl (Option.some.inj hD) dX13_child_42
  have hh2 : ∀ (f : Nat) (v3 : Int32) (M : mwM) (L : mwL) (H : Heap) (locs : List Loc) (ls : Array Slot), fX13_child_h2 fu k a1 a2 f (v3, M, L) = some (r0, M0, L0) → mw_W G ad NF TF FF M L H locs → lv_has ls 4 [(0, .ref (ad k)), (1, .int a1), (2, .int a2), (3, .int v3)] → W p l e ({ frames := 1, cells := 0, slots := 0, locals := 21 }) s m [.ref (ad k), .int a1, .int a2].toArray below meth c H locs 0 0 (MQ below (mw_Qi G ad NF TF FF (mw_eqI r0 M0 L0)) [.ref (ad k), .int a1, .int a2].toArray s 0 0 (mw_fr G)) (F0 m 2 ls []) := by
    intro f
    induction f with
    | zero => intro v3 M L H locs ls hD; cases hD
    | succ f2 ih2 =>
      intro v3 M L H locs ls hD hw hl
      replace hD : fX13_child_i2 fu k a1 a2 (fX13_child_h2 fu k a1 a2 f2) v3 M L = some (r0, M0, L0) := hD
      have hb43 : ∀ (v3 : Int32) (M : mwM) (L : mwL) (H : Heap) (locs : List Loc) (ls : Array Slot), fX13_child_b43 fu k a1 a2 (fX13_child_h2 fu k a1 a2 f2) v3 M L = some (r0, M0, L0) → mw_W G ad NF TF FF M L H locs → lv_has ls 4 [(0, .ref (ad k)), (1, .int a1), (2, .int a2), (3, .int v3)] → W p l e ({ frames := 1, cells := 0, slots := 0, locals := 21 }) s m [.ref (ad k), .int a1, .int a2].toArray below meth c H locs 0 0 (MQ below (mw_Qi G ad NF TF FF (mw_eqI r0 M0 L0)) [.ref (ad k), .int a1, .int a2].toArray s 0 0 (mw_fr G)) (F0 m 43 ls []) := by
        intro v3 M L H locs ls hD hw hl
        unfold fX13_child_b43 at hD
        obtain ⟨x11, ex11, hD⟩ := g_let hD
        refine lv_iinc (v := x11) (lv' := [(3, .int x11), (0, .ref (ad k)), (1, .int a1), (2, .int a2)]) C.1.1 C.1.2.1 dX13_child_43 hl (k := 3) rfl (by rw [ex11]; rfl) (by decide) rfl (fun ls hl => ?_)
        refine lv_goto (tgt := 2) C.1.1 C.1.2.1 dX13_child_46 (by decide) ?_
        exact ih2 x11 M L _ _ ls hD hw (lv_sub hl [1, 2, 3, 0] rfl)
      unfold fX13_child_i2 at hD
      refine lv_iload_n C.1.1 C.1.2.1 dX13_child_2 rfl (lv_at hl 3 rfl) ?_
      refine lv_aload_n C.1.1 C.1.2.1 dX13_child_3 rfl (lv_at hl 0 rfl) ?_
      refine mr_getI C hw kc_13 2 (Mc_N0 hk0) (Mc_T0 hk0) wd_2644 dX13_child_4 (by decide) rfl ?_
      refine lv_icmp_gt (tgt := 49) C.1.1 C.1.2.1 dX13_child_7 (by decide) (fun c1 => ?_) (fun c1 => ?_)
      · replace hD := g_pos c1 hD
        refine lv_iconst (v := 0) C.1.1 C.1.2.1 dX13_child_49 (by decide) ?_
        exact mr_iret C hr hlocks hw rfl (Option.some.inj hD) dX13_child_50
      · replace hD := g_neg c1 hD
        refine lv_aload_n C.1.1 C.1.2.1 dX13_child_10 rfl (lv_at hl 0 rfl) ?_
        refine mr_getR C hw kc_13 4 (Mc_N0 hk0) (Mc_T0 hk0) (Mc_F0_4 hk0) wd_2646 dX13_child_11 (by decide) rfl ?_
        refine lv_iload_n C.1.1 C.1.2.1 dX13_child_14 rfl (lv_at hl 3 rfl) ?_
        obtain ⟨q2, hD⟩ := g_ck hD
        refine mr_iald C hw (Mc_N2 hk0) (Mc_T2 hk0) q2 dX13_child_15 ?_
        refine lv_iload_n C.1.1 C.1.2.1 dX13_child_16 rfl (lv_at hl 1 rfl) ?_
        refine lv_icmp_ne (tgt := 43) C.1.1 C.1.2.1 dX13_child_17 (by decide) (fun c3 => ?_) (fun c3 => ?_)
        · replace hD := g_neg c3 hD
          exact hb43 v3 M L _ _ ls hD hw (lv_sub hl [0, 1, 2, 3] rfl)
        · replace hD := g_pos c3 hD
          refine lv_aload_n C.1.1 C.1.2.1 dX13_child_20 rfl (lv_at hl 0 rfl) ?_
          refine lv_iload_n C.1.1 C.1.2.1 dX13_child_21 rfl (lv_at hl 3 rfl) ?_
          obtain ⟨r6, M4, L5, h1, hD⟩ := g_b3 hD
          refine md_cvI (As := [.int v3]) (rest := []) C hw (tX13_mark l G ad fu k v3 M L h1 hk0) kc_13 (Mc_N0 hk0) (Mc_T0 hk0) wd_3268 cwX13_mark ⟨Nat.le_of_ble_eq_true rfl, Nat.le_of_ble_eq_true rfl⟩ rfl hl.1 (Nat.le_of_ble_eq_true rfl) dX13_child_22 rfl rfl ⟨Nat.zero_le _, Nat.zero_le _⟩ rfl (fun H locs hw => ?_)
          refine lv_if_ne (tgt := 43) C.1.1 C.1.2.1 dX13_child_25 (by decide) (fun c7 => ?_) (fun c7 => ?_)
          · replace hD := g_neg c7 hD
            exact hb43 v3 M4 L5 _ _ ls hD hw (lv_sub hl [0, 1, 2, 3] rfl)
          · replace hD := g_pos c7 hD
            refine lv_iload_n C.1.1 C.1.2.1 dX13_child_28 rfl (lv_at hl 2 rfl) ?_
            refine lv_if_eq (tgt := 41) C.1.1 C.1.2.1 dX13_child_29 (by decide) (fun c8 => ?_) (fun c8 => ?_)
            · replace hD := g_pos c8 hD
              exact hb41 v3 M4 L5 _ _ ls hD hw (lv_sub hl [3] rfl)
            · replace hD := g_neg c8 hD
              refine lv_aload_n C.1.1 C.1.2.1 dX13_child_32 rfl (lv_at hl 0 rfl) ?_
              refine mr_getR C hw kc_13 11 (Mc_N0 hk0) (Mc_T0 hk0) (Mc_F0_11 hk0) wd_2653 dX13_child_33 (by decide) rfl ?_
              refine lv_iload_n C.1.1 C.1.2.1 dX13_child_36 rfl (lv_at hl 3 rfl) ?_
              obtain ⟨q9, hD⟩ := g_ck hD
              refine mr_zald C hw (Mc_N9 hk0) (Mc_T9 hk0) q9 dX13_child_37 ?_
              refine lv_if_eq (tgt := 43) C.1.1 C.1.2.1 dX13_child_38 (by decide) (fun c10 => ?_) (fun c10 => ?_)
              · replace hD := g_pos c10 hD
                exact hb43 v3 M4 L5 _ _ ls hD hw (lv_sub hl [0, 1, 2, 3] rfl)
              · replace hD := g_neg c10 hD
                exact hb41 v3 M4 L5 _ _ ls hD hw (lv_sub hl [3] rfl)
  unfold DX13_child at hD
  refine lv_iconst (v := 1) C.1.1 C.1.2.1 dX13_child_0 (by decide) ?_
  refine lv_istore_n (lv' := [(3, .int 1), (0, .ref (ad k)), (1, .int a1), (2, .int a2)]) C.1.1 C.1.2.1 dX13_child_1 rfl hl (by decide) rfl (fun ls hl => ?_)
  exact hh2 fu 1 M L _ _ ls hD hw (lv_sub hl [1, 2, 3, 0] rfl)

theorem dX13_ask_0 : decode cX13_ask 0 = .ok (.iload_n 0, 1) := by decide +kernel
theorem dX13_ask_1 : decode cX13_ask 1 = .ok (.iconst 1, 1) := by decide +kernel
theorem dX13_ask_2 : decode cX13_ask 2 = .ok (.if_icmp .ne 15, 3) := by decide +kernel
theorem dX13_ask_5 : decode cX13_ask 5 = .ok (.lload_n 1, 1) := by decide +kernel
theorem dX13_ask_6 : decode cX13_ask 6 = .ok (.lload_n 3, 1) := by decide +kernel
theorem dX13_ask_7 : decode cX13_ask 7 = .ok (.lcmp, 1) := by decide +kernel
theorem dX13_ask_8 : decode cX13_ask 8 = .ok (.ifCond .ne 7, 3) := by decide +kernel
theorem dX13_ask_11 : decode cX13_ask 11 = .ok (.lconst 1, 1) := by decide +kernel
theorem dX13_ask_12 : decode cX13_ask 12 = .ok (.goto 4, 3) := by decide +kernel
theorem dX13_ask_15 : decode cX13_ask 15 = .ok (.lconst 0, 1) := by decide +kernel
theorem dX13_ask_16 : decode cX13_ask 16 = .ok (.lreturn, 1) := by decide +kernel
theorem dX13_ask_17 : decode cX13_ask 17 = .ok (.iload_n 0, 1) := by decide +kernel
theorem dX13_ask_18 : decode cX13_ask 18 = .ok (.iconst 2, 1) := by decide +kernel
theorem dX13_ask_19 : decode cX13_ask 19 = .ok (.if_icmp .ne 15, 3) := by decide +kernel
theorem dX13_ask_22 : decode cX13_ask 22 = .ok (.lload_n 1, 1) := by decide +kernel
theorem dX13_ask_23 : decode cX13_ask 23 = .ok (.lload_n 3, 1) := by decide +kernel
theorem dX13_ask_24 : decode cX13_ask 24 = .ok (.lcmp, 1) := by decide +kernel
theorem dX13_ask_25 : decode cX13_ask 25 = .ok (.ifCond .ne 7, 3) := by decide +kernel
theorem dX13_ask_28 : decode cX13_ask 28 = .ok (.lconst 0, 1) := by decide +kernel
theorem dX13_ask_29 : decode cX13_ask 29 = .ok (.goto 4, 3) := by decide +kernel
theorem dX13_ask_32 : decode cX13_ask 32 = .ok (.lconst 1, 1) := by decide +kernel
theorem dX13_ask_33 : decode cX13_ask 33 = .ok (.lreturn, 1) := by decide +kernel
theorem dX13_ask_34 : decode cX13_ask 34 = .ok (.iload_n 0, 1) := by decide +kernel
theorem dX13_ask_35 : decode cX13_ask 35 = .ok (.iconst 3, 1) := by decide +kernel
theorem dX13_ask_36 : decode cX13_ask 36 = .ok (.if_icmp .ne 15, 3) := by decide +kernel
theorem dX13_ask_39 : decode cX13_ask 39 = .ok (.lload_n 1, 1) := by decide +kernel
theorem dX13_ask_40 : decode cX13_ask 40 = .ok (.lload_n 3, 1) := by decide +kernel
theorem dX13_ask_41 : decode cX13_ask 41 = .ok (.lcmp, 1) := by decide +kernel
theorem dX13_ask_42 : decode cX13_ask 42 = .ok (.ifCond .ge 7, 3) := by decide +kernel
theorem dX13_ask_45 : decode cX13_ask 45 = .ok (.lconst 1, 1) := by decide +kernel
theorem dX13_ask_46 : decode cX13_ask 46 = .ok (.goto 4, 3) := by decide +kernel
theorem dX13_ask_49 : decode cX13_ask 49 = .ok (.lconst 0, 1) := by decide +kernel
theorem dX13_ask_50 : decode cX13_ask 50 = .ok (.lreturn, 1) := by decide +kernel
theorem dX13_ask_51 : decode cX13_ask 51 = .ok (.iload_n 0, 1) := by decide +kernel
theorem dX13_ask_52 : decode cX13_ask 52 = .ok (.iconst 4, 1) := by decide +kernel
theorem dX13_ask_53 : decode cX13_ask 53 = .ok (.if_icmp .ne 15, 3) := by decide +kernel
theorem dX13_ask_56 : decode cX13_ask 56 = .ok (.lload_n 1, 1) := by decide +kernel
theorem dX13_ask_57 : decode cX13_ask 57 = .ok (.lload_n 3, 1) := by decide +kernel
theorem dX13_ask_58 : decode cX13_ask 58 = .ok (.lcmp, 1) := by decide +kernel
theorem dX13_ask_59 : decode cX13_ask 59 = .ok (.ifCond .ge 7, 3) := by decide +kernel
theorem dX13_ask_62 : decode cX13_ask 62 = .ok (.lconst 0, 1) := by decide +kernel
theorem dX13_ask_63 : decode cX13_ask 63 = .ok (.goto 4, 3) := by decide +kernel
theorem dX13_ask_66 : decode cX13_ask 66 = .ok (.lconst 1, 1) := by decide +kernel
theorem dX13_ask_67 : decode cX13_ask 67 = .ok (.lreturn, 1) := by decide +kernel
theorem dX13_ask_68 : decode cX13_ask 68 = .ok (.iload_n 0, 1) := by decide +kernel
theorem dX13_ask_69 : decode cX13_ask 69 = .ok (.iconst 5, 1) := by decide +kernel
theorem dX13_ask_70 : decode cX13_ask 70 = .ok (.if_icmp .ne 17, 3) := by decide +kernel
theorem dX13_ask_73 : decode cX13_ask 73 = .ok (.lload_n 1, 1) := by decide +kernel
theorem dX13_ask_74 : decode cX13_ask 74 = .ok (.lload_n 3, 1) := by decide +kernel
theorem dX13_ask_75 : decode cX13_ask 75 = .ok (.ldiv, 1) := by decide +kernel
theorem dX13_ask_76 : decode cX13_ask 76 = .ok (.lconst 0, 1) := by decide +kernel
theorem dX13_ask_77 : decode cX13_ask 77 = .ok (.lcmp, 1) := by decide +kernel
theorem dX13_ask_78 : decode cX13_ask 78 = .ok (.ifCond .ne 7, 3) := by decide +kernel
theorem dX13_ask_81 : decode cX13_ask 81 = .ok (.lconst 0, 1) := by decide +kernel
theorem dX13_ask_82 : decode cX13_ask 82 = .ok (.goto 4, 3) := by decide +kernel
theorem dX13_ask_85 : decode cX13_ask 85 = .ok (.lconst 1, 1) := by decide +kernel
theorem dX13_ask_86 : decode cX13_ask 86 = .ok (.lreturn, 1) := by decide +kernel
theorem dX13_ask_87 : decode cX13_ask 87 = .ok (.lload_n 1, 1) := by decide +kernel
theorem dX13_ask_88 : decode cX13_ask 88 = .ok (.lload_n 1, 1) := by decide +kernel
theorem dX13_ask_89 : decode cX13_ask 89 = .ok (.lload_n 3, 1) := by decide +kernel
theorem dX13_ask_90 : decode cX13_ask 90 = .ok (.ldiv, 1) := by decide +kernel
theorem dX13_ask_91 : decode cX13_ask 91 = .ok (.lload_n 3, 1) := by decide +kernel
theorem dX13_ask_92 : decode cX13_ask 92 = .ok (.lmul, 1) := by decide +kernel
theorem dX13_ask_93 : decode cX13_ask 93 = .ok (.lsub, 1) := by decide +kernel
theorem dX13_ask_94 : decode cX13_ask 94 = .ok (.lconst 0, 1) := by decide +kernel
theorem dX13_ask_95 : decode cX13_ask 95 = .ok (.lcmp, 1) := by decide +kernel
theorem dX13_ask_96 : decode cX13_ask 96 = .ok (.ifCond .ne 7, 3) := by decide +kernel
theorem dX13_ask_99 : decode cX13_ask 99 = .ok (.lconst 1, 1) := by decide +kernel
theorem dX13_ask_100 : decode cX13_ask 100 = .ok (.goto 4, 3) := by decide +kernel
theorem dX13_ask_103 : decode cX13_ask 103 = .ok (.lconst 0, 1) := by decide +kernel
theorem dX13_ask_104 : decode cX13_ask 104 = .ok (.lreturn, 1) := by decide +kernel
theorem cwX13_ask : mw_cwS yX13_ask cX13_ask 5 ((some .long)) 3 := ⟨⟨wd_20, wd_4121, by decide +kernel⟩, wd_4120⟩
set_option maxHeartbeats 4000000 in
set_option maxRecDepth 100000 in
theorem tX13_ask (l : Launch) (G : mwG) (ad : Nat → Nat) (fu : Nat) (a1 : Int32) (a2 : Int64) (a3 : Int64) (M : mwM) (L : mwL) {r0 : Int64} {M0 : mwM} {L0 : mwL} (hD : DX13_ask fu a1 a2 a3 M L = some (r0, M0, L0)) : Met l yX13_ask (Cond.code yX13_ask cX13_ask 5 ((some .long)) :: GT) ({ frames := 0, cells := 0, slots := 0, locals := 0 }) (mw_Pre G ad NF TF FF M L [.int a1, .long a2, .long a3]) (mw_Ql G ad NF TF FF (mw_eqL r0 M0 L0)) 0 0 (mw_fr G) := by
  refine mw_enter (by decide) (Nat.le_of_ble_eq_true rfl) ?_
  intro p e s m below meth c ls C hr hlocks hnm hw hl
  have hl : lv_has ls 5 [(0, .int a1), (1, .long a2), (3, .long a3)] := hl
  have hb16 : ∀ (s0 : Int64) (M : mwM) (L : mwL) (H : Heap) (locs : List Loc) (ls : Array Slot), fX13_ask_b16 fu a1 a2 a3 s0 M L = some (r0, M0, L0) → mw_W G ad NF TF FF M L H locs → lv_has ls 5 [] → W p l e ({ frames := 0, cells := 0, slots := 0, locals := 0 }) s m [.int a1, .long a2, .long a3].toArray below meth c H locs 0 0 (MQ below (mw_Ql G ad NF TF FF (mw_eqL r0 M0 L0)) [.int a1, .long a2, .long a3].toArray s 0 0 (mw_fr G)) (F0 m 16 ls [.long s0]) := by
    intro s0 M L H locs ls hD hw hl
    unfold fX13_ask_b16 at hD
    exact mr_lret C hr hlocks hw (Option.some.inj hD) dX13_ask_16
  have hb33 : ∀ (s0 : Int64) (M : mwM) (L : mwL) (H : Heap) (locs : List Loc) (ls : Array Slot), fX13_ask_b33 fu a1 a2 a3 s0 M L = some (r0, M0, L0) → mw_W G ad NF TF FF M L H locs → lv_has ls 5 [] → W p l e ({ frames := 0, cells := 0, slots := 0, locals := 0 }) s m [.int a1, .long a2, .long a3].toArray below meth c H locs 0 0 (MQ below (mw_Ql G ad NF TF FF (mw_eqL r0 M0 L0)) [.int a1, .long a2, .long a3].toArray s 0 0 (mw_fr G)) (F0 m 33 ls [.long s0]) := by
    intro s0 M L H locs ls hD hw hl
    unfold fX13_ask_b33 at hD
    exact mr_lret C hr hlocks hw (Option.some.inj hD) dX13_ask_33
  have hb50 : ∀ (s0 : Int64) (M : mwM) (L : mwL) (H : Heap) (locs : List Loc) (ls : Array Slot), fX13_ask_b50 fu a1 a2 a3 s0 M L = some (r0, M0, L0) → mw_W G ad NF TF FF M L H locs → lv_has ls 5 [] → W p l e ({ frames := 0, cells := 0, slots := 0, locals := 0 }) s m [.int a1, .long a2, .long a3].toArray below meth c H locs 0 0 (MQ below (mw_Ql G ad NF TF FF (mw_eqL r0 M0 L0)) [.int a1, .long a2, .long a3].toArray s 0 0 (mw_fr G)) (F0 m 50 ls [.long s0]) := by
    intro s0 M L H locs ls hD hw hl
    unfold fX13_ask_b50 at hD
    exact mr_lret C hr hlocks hw (Option.some.inj hD) dX13_ask_50
  have hb67 : ∀ (s0 : Int64) (M : mwM) (L : mwL) (H : Heap) (locs : List Loc) (ls : Array Slot), fX13_ask_b67 fu a1 a2 a3 s0 M L = some (r0, M0, L0) → mw_W G ad NF TF FF M L H locs → lv_has ls 5 [] → W p l e ({ frames := 0, cells := 0, slots := 0, locals := 0 }) s m [.int a1, .long a2, .long a3].toArray below meth c H locs 0 0 (MQ below (mw_Ql G ad NF TF FF (mw_eqL r0 M0 L0)) [.int a1, .long a2, .long a3].toArray s 0 0 (mw_fr G)) (F0 m 67 ls [.long s0]) := by
    intro s0 M L H locs ls hD hw hl
    unfold fX13_ask_b67 at hD
    exact mr_lret C hr hlocks hw (Option.some.inj hD) dX13_ask_67
  have hb86 : ∀ (s0 : Int64) (M : mwM) (L : mwL) (H : Heap) (locs : List Loc) (ls : Array Slot), fX13_ask_b86 fu a1 a2 a3 s0 M L = some (r0, M0, L0) → mw_W G ad NF TF FF M L H locs → lv_has ls 5 [] → W p l e ({ frames := 0, cells := 0, slots := 0, locals := 0 }) s m [.int a1, .long a2, .long a3].toArray below meth c H locs 0 0 (MQ below (mw_Ql G ad NF TF FF (mw_eqL r0 M0 L0)) [.int a1, .long a2, .long a3].toArray s 0 0 (mw_fr G)) (F0 m 86 ls [.long s0]) := by
    intro s0 M L H locs ls hD hw hl
    unfold fX13_ask_b86 at hD
    exact mr_lret C hr hlocks hw (Option.some.inj hD) dX13_ask_86
  have hb104 : ∀ (s0 : Int64) (M : mwM) (L : mwL) (H : Heap) (locs : List Loc) (ls : Array Slot), fX13_ask_b104 fu a1 a2 a3 s0 M L = some (r0, M0, L0) → mw_W G ad NF TF FF M L H locs → lv_has ls 5 [] → W p l e ({ frames := 0, cells := 0, slots := 0, locals := 0 }) s m [.int a1, .long a2, .long a3].toArray below meth c H locs 0 0 (MQ below (mw_Ql G ad NF TF FF (mw_eqL r0 M0 L0)) [.int a1, .long a2, .long a3].toArray s 0 0 (mw_fr G)) (F0 m 104 ls [.long s0]) := by
    intro s0 M L H locs ls hD hw hl
    unfold fX13_ask_b104 at hD
    exact mr_lret C hr hlocks hw (Option.some.inj hD) dX13_ask_104
  unfold DX13_ask at hD
  refine lv_iload_n C.1.1 C.1.2.1 dX13_ask_0 rfl (lv_at hl 0 rfl) ?_
  refine lv_iconst (v := 1) C.1.1 C.1.2.1 dX13_ask_1 (by decide) ?_
  refine lv_icmp_ne (tgt := 17) C.1.1 C.1.2.1 dX13_ask_2 (by decide) (fun c1 => ?_) (fun c1 => ?_)
  · replace hD := g_neg c1 hD
    refine lv_iload_n C.1.1 C.1.2.1 dX13_ask_17 rfl (lv_at hl 0 rfl) ?_
    refine lv_iconst (v := 2) C.1.1 C.1.2.1 dX13_ask_18 (by decide) ?_
    refine lv_icmp_ne (tgt := 34) C.1.1 C.1.2.1 dX13_ask_19 (by decide) (fun c2 => ?_) (fun c2 => ?_)
    · replace hD := g_neg c2 hD
      refine lv_iload_n C.1.1 C.1.2.1 dX13_ask_34 rfl (lv_at hl 0 rfl) ?_
      refine lv_iconst (v := 3) C.1.1 C.1.2.1 dX13_ask_35 (by decide) ?_
      refine lv_icmp_ne (tgt := 51) C.1.1 C.1.2.1 dX13_ask_36 (by decide) (fun c3 => ?_) (fun c3 => ?_)
      · replace hD := g_neg c3 hD
        refine lv_iload_n C.1.1 C.1.2.1 dX13_ask_51 rfl (lv_at hl 0 rfl) ?_
        refine lv_iconst (v := 4) C.1.1 C.1.2.1 dX13_ask_52 (by decide) ?_
        refine lv_icmp_ne (tgt := 68) C.1.1 C.1.2.1 dX13_ask_53 (by decide) (fun c4 => ?_) (fun c4 => ?_)
        · replace hD := g_neg c4 hD
          refine lv_iload_n C.1.1 C.1.2.1 dX13_ask_68 rfl (lv_at hl 0 rfl) ?_
          refine lv_iconst (v := 5) C.1.1 C.1.2.1 dX13_ask_69 (by decide) ?_
          refine lv_icmp_ne (tgt := 87) C.1.1 C.1.2.1 dX13_ask_70 (by decide) (fun c5 => ?_) (fun c5 => ?_)
          · replace hD := g_neg c5 hD
            refine lv_lload_n C.1.1 C.1.2.1 dX13_ask_87 rfl (lv_at hl 1 rfl) ?_
            refine lv_lload_n C.1.1 C.1.2.1 dX13_ask_88 rfl (lv_at hl 1 rfl) ?_
            refine lv_lload_n C.1.1 C.1.2.1 dX13_ask_89 rfl (lv_at hl 2 rfl) ?_
            obtain ⟨q6, hD⟩ := g_nzL hD
            refine lv_ldiv C.1.1 C.1.2.1 dX13_ask_90 q6 ?_
            refine lv_lload_n C.1.1 C.1.2.1 dX13_ask_91 rfl (lv_at hl 2 rfl) ?_
            refine lv_lmul C.1.1 C.1.2.1 dX13_ask_92 ?_
            refine lv_lsub C.1.1 C.1.2.1 dX13_ask_93 ?_
            refine lv_lconst (v := 0) C.1.1 C.1.2.1 dX13_ask_94 (by decide) ?_
            refine W.lcmp C.1.1 C.1.2.1 dX13_ask_95 ?_
            refine lv_if_ne (tgt := 103) C.1.1 C.1.2.1 dX13_ask_96 (by decide) (fun c7 => ?_) (fun c7 => ?_)
            · replace hD := g_neg c7 hD
              refine lv_lconst (v := 0) C.1.1 C.1.2.1 dX13_ask_103 (by decide) ?_
              exact hb104 0 M L _ _ ls hD hw (lv_sub hl [] rfl)
            · replace hD := g_pos c7 hD
              refine lv_lconst (v := 1) C.1.1 C.1.2.1 dX13_ask_99 (by decide) ?_
              refine lv_goto (tgt := 104) C.1.1 C.1.2.1 dX13_ask_100 (by decide) ?_
              exact hb104 1 M L _ _ ls hD hw (lv_sub hl [] rfl)
          · replace hD := g_pos c5 hD
            refine lv_lload_n C.1.1 C.1.2.1 dX13_ask_73 rfl (lv_at hl 1 rfl) ?_
            refine lv_lload_n C.1.1 C.1.2.1 dX13_ask_74 rfl (lv_at hl 2 rfl) ?_
            obtain ⟨q8, hD⟩ := g_nzL hD
            refine lv_ldiv C.1.1 C.1.2.1 dX13_ask_75 q8 ?_
            refine lv_lconst (v := 0) C.1.1 C.1.2.1 dX13_ask_76 (by decide) ?_
            refine W.lcmp C.1.1 C.1.2.1 dX13_ask_77 ?_
            refine lv_if_ne (tgt := 85) C.1.1 C.1.2.1 dX13_ask_78 (by decide) (fun c9 => ?_) (fun c9 => ?_)
            · replace hD := g_neg c9 hD
              refine lv_lconst (v := 1) C.1.1 C.1.2.1 dX13_ask_85 (by decide) ?_
              exact hb86 1 M L _ _ ls hD hw (lv_sub hl [] rfl)
            · replace hD := g_pos c9 hD
              refine lv_lconst (v := 0) C.1.1 C.1.2.1 dX13_ask_81 (by decide) ?_
              refine lv_goto (tgt := 86) C.1.1 C.1.2.1 dX13_ask_82 (by decide) ?_
              exact hb86 0 M L _ _ ls hD hw (lv_sub hl [] rfl)
        · replace hD := g_pos c4 hD
          refine lv_lload_n C.1.1 C.1.2.1 dX13_ask_56 rfl (lv_at hl 1 rfl) ?_
          refine lv_lload_n C.1.1 C.1.2.1 dX13_ask_57 rfl (lv_at hl 2 rfl) ?_
          refine W.lcmp C.1.1 C.1.2.1 dX13_ask_58 ?_
          refine lv_if_ge (tgt := 66) C.1.1 C.1.2.1 dX13_ask_59 (by decide) (fun c10 => ?_) (fun c10 => ?_)
          · replace hD := g_pos c10 hD
            refine lv_lconst (v := 1) C.1.1 C.1.2.1 dX13_ask_66 (by decide) ?_
            exact hb67 1 M L _ _ ls hD hw (lv_sub hl [] rfl)
          · replace hD := g_neg c10 hD
            refine lv_lconst (v := 0) C.1.1 C.1.2.1 dX13_ask_62 (by decide) ?_
            refine lv_goto (tgt := 67) C.1.1 C.1.2.1 dX13_ask_63 (by decide) ?_
            exact hb67 0 M L _ _ ls hD hw (lv_sub hl [] rfl)
      · replace hD := g_pos c3 hD
        refine lv_lload_n C.1.1 C.1.2.1 dX13_ask_39 rfl (lv_at hl 1 rfl) ?_
        refine lv_lload_n C.1.1 C.1.2.1 dX13_ask_40 rfl (lv_at hl 2 rfl) ?_
        refine W.lcmp C.1.1 C.1.2.1 dX13_ask_41 ?_
        refine lv_if_ge (tgt := 49) C.1.1 C.1.2.1 dX13_ask_42 (by decide) (fun c11 => ?_) (fun c11 => ?_)
        · replace hD := g_pos c11 hD
          refine lv_lconst (v := 0) C.1.1 C.1.2.1 dX13_ask_49 (by decide) ?_
          exact hb50 0 M L _ _ ls hD hw (lv_sub hl [] rfl)
        · replace hD := g_neg c11 hD
          refine lv_lconst (v := 1) C.1.1 C.1.2.1 dX13_ask_45 (by decide) ?_
          refine lv_goto (tgt := 50) C.1.1 C.1.2.1 dX13_ask_46 (by decide) ?_
          exact hb50 1 M L _ _ ls hD hw (lv_sub hl [] rfl)
    · replace hD := g_pos c2 hD
      refine lv_lload_n C.1.1 C.1.2.1 dX13_ask_22 rfl (lv_at hl 1 rfl) ?_
      refine lv_lload_n C.1.1 C.1.2.1 dX13_ask_23 rfl (lv_at hl 2 rfl) ?_
      refine W.lcmp C.1.1 C.1.2.1 dX13_ask_24 ?_
      refine lv_if_ne (tgt := 32) C.1.1 C.1.2.1 dX13_ask_25 (by decide) (fun c12 => ?_) (fun c12 => ?_)
      · replace hD := g_neg c12 hD
        refine lv_lconst (v := 1) C.1.1 C.1.2.1 dX13_ask_32 (by decide) ?_
        exact hb33 1 M L _ _ ls hD hw (lv_sub hl [] rfl)
      · replace hD := g_pos c12 hD
        refine lv_lconst (v := 0) C.1.1 C.1.2.1 dX13_ask_28 (by decide) ?_
        refine lv_goto (tgt := 33) C.1.1 C.1.2.1 dX13_ask_29 (by decide) ?_
        exact hb33 0 M L _ _ ls hD hw (lv_sub hl [] rfl)
  · replace hD := g_pos c1 hD
    refine lv_lload_n C.1.1 C.1.2.1 dX13_ask_5 rfl (lv_at hl 1 rfl) ?_
    refine lv_lload_n C.1.1 C.1.2.1 dX13_ask_6 rfl (lv_at hl 2 rfl) ?_
    refine W.lcmp C.1.1 C.1.2.1 dX13_ask_7 ?_
    refine lv_if_ne (tgt := 15) C.1.1 C.1.2.1 dX13_ask_8 (by decide) (fun c13 => ?_) (fun c13 => ?_)
    · replace hD := g_neg c13 hD
      refine lv_lconst (v := 0) C.1.1 C.1.2.1 dX13_ask_15 (by decide) ?_
      exact hb16 0 M L _ _ ls hD hw (lv_sub hl [] rfl)
    · replace hD := g_pos c13 hD
      refine lv_lconst (v := 1) C.1.1 C.1.2.1 dX13_ask_11 (by decide) ?_
      refine lv_goto (tgt := 16) C.1.1 C.1.2.1 dX13_ask_12 (by decide) ?_
      exact hb16 1 M L _ _ ls hD hw (lv_sub hl [] rfl)
