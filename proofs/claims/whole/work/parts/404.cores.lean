theorem dX4_clear_0 : decode cX4_clear 0 = .ok (.aload_n 0, 1) := by decide +kernel
theorem dX4_clear_1 : decode cX4_clear 1 = .ok (.iconst 0, 1) := by decide +kernel
theorem dX4_clear_2 : decode cX4_clear 2 = .ok (.putfield 23, 3) := by decide +kernel
theorem dX4_clear_5 : decode cX4_clear 5 = .ok (.aload_n 0, 1) := by decide +kernel
theorem dX4_clear_6 : decode cX4_clear 6 = .ok (.iconst 0, 1) := by decide +kernel
theorem dX4_clear_7 : decode cX4_clear 7 = .ok (.putfield 27, 3) := by decide +kernel
theorem dX4_clear_10 : decode cX4_clear 10 = .ok (.aload_n 0, 1) := by decide +kernel
theorem dX4_clear_11 : decode cX4_clear 11 = .ok (.iconst 0, 1) := by decide +kernel
theorem dX4_clear_12 : decode cX4_clear 12 = .ok (.putfield 30, 3) := by decide +kernel
theorem dX4_clear_15 : decode cX4_clear 15 = .ok (.aload_n 0, 1) := by decide +kernel
theorem dX4_clear_16 : decode cX4_clear 16 = .ok (.iconst 1, 1) := by decide +kernel
theorem dX4_clear_17 : decode cX4_clear 17 = .ok (.putfield 33, 3) := by decide +kernel
theorem dX4_clear_20 : decode cX4_clear 20 = .ok (.iconst 0, 1) := by decide +kernel
theorem dX4_clear_21 : decode cX4_clear 21 = .ok (.istore_n 1, 1) := by decide +kernel
theorem dX4_clear_22 : decode cX4_clear 22 = .ok (.iload_n 1, 1) := by decide +kernel
theorem dX4_clear_23 : decode cX4_clear 23 = .ok (.bipush 6, 2) := by decide +kernel
theorem dX4_clear_25 : decode cX4_clear 25 = .ok (.if_icmp .ge 16, 3) := by decide +kernel
theorem dX4_clear_28 : decode cX4_clear 28 = .ok (.aload_n 0, 1) := by decide +kernel
theorem dX4_clear_29 : decode cX4_clear 29 = .ok (.getfield 16, 3) := by decide +kernel
theorem dX4_clear_32 : decode cX4_clear 32 = .ok (.iload_n 1, 1) := by decide +kernel
theorem dX4_clear_33 : decode cX4_clear 33 = .ok (.iconst (-1), 1) := by decide +kernel
theorem dX4_clear_34 : decode cX4_clear 34 = .ok (.iastore, 1) := by decide +kernel
theorem dX4_clear_35 : decode cX4_clear 35 = .ok (.iinc 1 1, 3) := by decide +kernel
theorem dX4_clear_38 : decode cX4_clear 38 = .ok (.goto (-16), 3) := by decide +kernel
theorem dX4_clear_41 : decode cX4_clear 41 = .ok (.return_, 1) := by decide +kernel
theorem cwX4_clear : mw_cwV yX4_clear cX4_clear 2 (none) 0 := ⟨⟨wd_4, wd_804, by decide +kernel⟩, wd_802, wd_803⟩
set_option maxHeartbeats 4000000 in
set_option maxRecDepth 100000 in
theorem tX4_clear (l : Launch) (G : mwG) (ad : Nat → Nat) (fu : Nat) (M : mwM) (L : mwL) {M0 : mwM} {L0 : mwL} (hD : DX4_clear fu M L = some (M0, L0)) : Met l yX4_clear (Cond.code yX4_clear cX4_clear 2 (none) :: GT) ({ frames := 0, cells := 0, slots := 0, locals := 0 }) (mw_Pre G ad NF TF FF M L [.ref (ad 5)]) (mw_Qv G ad NF TF FF (mw_eqV M0 L0)) 0 0 (mw_fr G) := by
  refine mw_enter (by decide) (Nat.le_of_ble_eq_true rfl) ?_
  intro p e s m below meth c ls C hr hlocks hnm hw hl
  have hl : lv_has ls 2 [(0, .ref (ad 5))] := hl
  have hh22 : ∀ (f : Nat) (v1 : Int32) (M : mwM) (L : mwL) (H : Heap) (locs : List Loc) (ls : Array Slot), fX4_clear_h22 fu f (v1, M, L) = some (M0, L0) → mw_W G ad NF TF FF M L H locs → lv_has ls 2 [(0, .ref (ad 5)), (1, .int v1)] → W p l e ({ frames := 0, cells := 0, slots := 0, locals := 0 }) s m [.ref (ad 5)].toArray below meth c H locs 0 0 (MQ below (mw_Qv G ad NF TF FF (mw_eqV M0 L0)) [.ref (ad 5)].toArray s 0 0 (mw_fr G)) (F0 m 22 ls []) := by
    intro f
    induction f with
    | zero => intro v1 M L H locs ls hD; cases hD
    | succ f22 ih22 =>
      intro v1 M L H locs ls hD hw hl
      replace hD : fX4_clear_i22 fu (fX4_clear_h22 fu f22) v1 M L = some (M0, L0) := hD
      unfold fX4_clear_i22 at hD
      refine lv_iload_n C.1.1 C.1.2.1 dX4_clear_22 rfl (lv_at hl 1 rfl) ?_
      refine lv_bipush (v := 6) C.1.1 C.1.2.1 dX4_clear_23 (by decide) ?_
      refine lv_icmp_ge (tgt := 41) C.1.1 C.1.2.1 dX4_clear_25 (by decide) (fun c1 => ?_) (fun c1 => ?_)
      · replace hD := g_pos c1 hD
        exact mr_vret C hr hlocks hw (Option.some.inj hD) dX4_clear_41
      · replace hD := g_neg c1 hD
        refine lv_aload_n C.1.1 C.1.2.1 dX4_clear_28 rfl (lv_at hl 0 rfl) ?_
        refine mr_getR C hw kc_4 1 (by decide) tf_5 ff_5_1 wd_66 dX4_clear_29 (by decide) rfl ?_
        refine lv_iload_n C.1.1 C.1.2.1 dX4_clear_32 rfl (lv_at hl 1 rfl) ?_
        refine lv_iconst (v := (-1)) C.1.1 C.1.2.1 dX4_clear_33 (by decide) ?_
        obtain ⟨q2, hD⟩ := g_ck hD
        obtain ⟨M3, eM3, hD⟩ := g_let hD
        refine mr_iast C hw (by decide) tf_18 q2 dX4_clear_34 (fun H locs hw => ?_)
        replace hw : mw_W G ad NF TF FF M3 L H locs := by rw [eM3]; exact hw
        obtain ⟨x4, ex4, hD⟩ := g_let hD
        refine lv_iinc (v := x4) (lv' := [(1, .int x4), (0, .ref (ad 5))]) C.1.1 C.1.2.1 dX4_clear_35 hl (k := 1) rfl (by rw [ex4]; rfl) (by decide) rfl (fun ls hl => ?_)
        refine lv_goto (tgt := 22) C.1.1 C.1.2.1 dX4_clear_38 (by decide) ?_
        exact ih22 x4 M3 L _ _ ls hD hw (lv_sub hl [1, 0] rfl)
  unfold DX4_clear at hD
  refine lv_aload_n C.1.1 C.1.2.1 dX4_clear_0 rfl (lv_at hl 0 rfl) ?_
  refine lv_iconst (v := 0) C.1.1 C.1.2.1 dX4_clear_1 (by decide) ?_
  obtain ⟨M5, eM5, hD⟩ := g_let hD
  refine mr_putI C hw kc_4 3 (by decide) tf_5 wd_68 dX4_clear_2 (by decide) rfl rfl rfl rfl (fun H locs hw => ?_)
  replace hw : mw_W G ad NF TF FF M5 L H locs := by rw [eM5]; exact hw
  refine lv_aload_n C.1.1 C.1.2.1 dX4_clear_5 rfl (lv_at hl 0 rfl) ?_
  refine lv_iconst (v := 0) C.1.1 C.1.2.1 dX4_clear_6 (by decide) ?_
  obtain ⟨M6, eM6, hD⟩ := g_let hD
  refine mr_putI C hw kc_4 4 (by decide) tf_5 wd_71 dX4_clear_7 (by decide) rfl rfl rfl rfl (fun H locs hw => ?_)
  replace hw : mw_W G ad NF TF FF M6 L H locs := by rw [eM6]; exact hw
  refine lv_aload_n C.1.1 C.1.2.1 dX4_clear_10 rfl (lv_at hl 0 rfl) ?_
  refine lv_iconst (v := 0) C.1.1 C.1.2.1 dX4_clear_11 (by decide) ?_
  obtain ⟨M7, eM7, hD⟩ := g_let hD
  refine mr_putI C hw kc_4 5 (by decide) tf_5 wd_72 dX4_clear_12 (by decide) rfl rfl rfl rfl (fun H locs hw => ?_)
  replace hw : mw_W G ad NF TF FF M7 L H locs := by rw [eM7]; exact hw
  refine lv_aload_n C.1.1 C.1.2.1 dX4_clear_15 rfl (lv_at hl 0 rfl) ?_
  refine lv_iconst (v := 1) C.1.1 C.1.2.1 dX4_clear_16 (by decide) ?_
  obtain ⟨M8, eM8, hD⟩ := g_let hD
  refine mr_putI C hw kc_4 6 (by decide) tf_5 wd_74 dX4_clear_17 (by decide) rfl rfl (by decide +kernel) (by decide +kernel) (fun H locs hw => ?_)
  replace hw : mw_W G ad NF TF FF M8 L H locs := by rw [eM8]; exact hw
  refine lv_iconst (v := 0) C.1.1 C.1.2.1 dX4_clear_20 (by decide) ?_
  refine lv_istore_n (lv' := [(1, .int 0), (0, .ref (ad 5))]) C.1.1 C.1.2.1 dX4_clear_21 rfl hl (by decide) rfl (fun ls hl => ?_)
  exact hh22 fu 0 M8 L _ _ ls hD hw (lv_sub hl [1, 0] rfl)

theorem dX4_addTask_0 : decode cX4_addTask 0 = .ok (.aload_n 0, 1) := by decide +kernel
theorem dX4_addTask_1 : decode cX4_addTask 1 = .ok (.getfield 23, 3) := by decide +kernel
theorem dX4_addTask_4 : decode cX4_addTask 4 = .ok (.bipush 12, 2) := by decide +kernel
theorem dX4_addTask_6 : decode cX4_addTask 6 = .ok (.if_icmp .lt 4, 3) := by decide +kernel
theorem dX4_addTask_9 : decode cX4_addTask 9 = .ok (.return_, 1) := by decide +kernel
theorem dX4_addTask_10 : decode cX4_addTask 10 = .ok (.aload_n 0, 1) := by decide +kernel
theorem dX4_addTask_11 : decode cX4_addTask 11 = .ok (.getfield 11, 3) := by decide +kernel
theorem dX4_addTask_14 : decode cX4_addTask 14 = .ok (.iconst 0, 1) := by decide +kernel
theorem dX4_addTask_15 : decode cX4_addTask 15 = .ok (.aaload, 1) := by decide +kernel
theorem dX4_addTask_16 : decode cX4_addTask 16 = .ok (.aload_n 0, 1) := by decide +kernel
theorem dX4_addTask_17 : decode cX4_addTask 17 = .ok (.getfield 23, 3) := by decide +kernel
theorem dX4_addTask_20 : decode cX4_addTask 20 = .ok (.iload_n 1, 1) := by decide +kernel
theorem dX4_addTask_21 : decode cX4_addTask 21 = .ok (.iastore, 1) := by decide +kernel
theorem dX4_addTask_22 : decode cX4_addTask 22 = .ok (.aload_n 0, 1) := by decide +kernel
theorem dX4_addTask_23 : decode cX4_addTask 23 = .ok (.getfield 11, 3) := by decide +kernel
theorem dX4_addTask_26 : decode cX4_addTask 26 = .ok (.iconst 1, 1) := by decide +kernel
theorem dX4_addTask_27 : decode cX4_addTask 27 = .ok (.aaload, 1) := by decide +kernel
theorem dX4_addTask_28 : decode cX4_addTask 28 = .ok (.aload_n 0, 1) := by decide +kernel
theorem dX4_addTask_29 : decode cX4_addTask 29 = .ok (.getfield 23, 3) := by decide +kernel
theorem dX4_addTask_32 : decode cX4_addTask 32 = .ok (.iload_n 2, 1) := by decide +kernel
theorem dX4_addTask_33 : decode cX4_addTask 33 = .ok (.iastore, 1) := by decide +kernel
theorem dX4_addTask_34 : decode cX4_addTask 34 = .ok (.aload_n 0, 1) := by decide +kernel
theorem dX4_addTask_35 : decode cX4_addTask 35 = .ok (.getfield 11, 3) := by decide +kernel
theorem dX4_addTask_38 : decode cX4_addTask 38 = .ok (.iconst 2, 1) := by decide +kernel
theorem dX4_addTask_39 : decode cX4_addTask 39 = .ok (.aaload, 1) := by decide +kernel
theorem dX4_addTask_40 : decode cX4_addTask 40 = .ok (.aload_n 0, 1) := by decide +kernel
theorem dX4_addTask_41 : decode cX4_addTask 41 = .ok (.getfield 23, 3) := by decide +kernel
theorem dX4_addTask_44 : decode cX4_addTask 44 = .ok (.iload_n 3, 1) := by decide +kernel
theorem dX4_addTask_45 : decode cX4_addTask 45 = .ok (.iastore, 1) := by decide +kernel
theorem dX4_addTask_46 : decode cX4_addTask 46 = .ok (.aload_n 0, 1) := by decide +kernel
theorem dX4_addTask_47 : decode cX4_addTask 47 = .ok (.getfield 11, 3) := by decide +kernel
theorem dX4_addTask_50 : decode cX4_addTask 50 = .ok (.iconst 3, 1) := by decide +kernel
theorem dX4_addTask_51 : decode cX4_addTask 51 = .ok (.aaload, 1) := by decide +kernel
theorem dX4_addTask_52 : decode cX4_addTask 52 = .ok (.aload_n 0, 1) := by decide +kernel
theorem dX4_addTask_53 : decode cX4_addTask 53 = .ok (.getfield 23, 3) := by decide +kernel
theorem dX4_addTask_56 : decode cX4_addTask 56 = .ok (.iload 5, 2) := by decide +kernel
theorem dX4_addTask_58 : decode cX4_addTask 58 = .ok (.iastore, 1) := by decide +kernel
theorem dX4_addTask_59 : decode cX4_addTask 59 = .ok (.aload_n 0, 1) := by decide +kernel
theorem dX4_addTask_60 : decode cX4_addTask 60 = .ok (.getfield 11, 3) := by decide +kernel
theorem dX4_addTask_63 : decode cX4_addTask 63 = .ok (.iconst 4, 1) := by decide +kernel
theorem dX4_addTask_64 : decode cX4_addTask 64 = .ok (.aaload, 1) := by decide +kernel
theorem dX4_addTask_65 : decode cX4_addTask 65 = .ok (.aload_n 0, 1) := by decide +kernel
theorem dX4_addTask_66 : decode cX4_addTask 66 = .ok (.getfield 23, 3) := by decide +kernel
theorem dX4_addTask_69 : decode cX4_addTask 69 = .ok (.iload 4, 2) := by decide +kernel
theorem dX4_addTask_71 : decode cX4_addTask 71 = .ok (.iastore, 1) := by decide +kernel
theorem dX4_addTask_72 : decode cX4_addTask 72 = .ok (.aload_n 0, 1) := by decide +kernel
theorem dX4_addTask_73 : decode cX4_addTask 73 = .ok (.getfield 11, 3) := by decide +kernel
theorem dX4_addTask_76 : decode cX4_addTask 76 = .ok (.iconst 5, 1) := by decide +kernel
theorem dX4_addTask_77 : decode cX4_addTask 77 = .ok (.aaload, 1) := by decide +kernel
theorem dX4_addTask_78 : decode cX4_addTask 78 = .ok (.aload_n 0, 1) := by decide +kernel
theorem dX4_addTask_79 : decode cX4_addTask 79 = .ok (.getfield 23, 3) := by decide +kernel
theorem dX4_addTask_82 : decode cX4_addTask 82 = .ok (.iconst 0, 1) := by decide +kernel
theorem dX4_addTask_83 : decode cX4_addTask 83 = .ok (.iastore, 1) := by decide +kernel
theorem dX4_addTask_84 : decode cX4_addTask 84 = .ok (.aload_n 0, 1) := by decide +kernel
theorem dX4_addTask_85 : decode cX4_addTask 85 = .ok (.getfield 11, 3) := by decide +kernel
theorem dX4_addTask_88 : decode cX4_addTask 88 = .ok (.bipush 6, 2) := by decide +kernel
theorem dX4_addTask_90 : decode cX4_addTask 90 = .ok (.aaload, 1) := by decide +kernel
theorem dX4_addTask_91 : decode cX4_addTask 91 = .ok (.aload_n 0, 1) := by decide +kernel
theorem dX4_addTask_92 : decode cX4_addTask 92 = .ok (.getfield 23, 3) := by decide +kernel
theorem dX4_addTask_95 : decode cX4_addTask 95 = .ok (.iconst 0, 1) := by decide +kernel
theorem dX4_addTask_96 : decode cX4_addTask 96 = .ok (.iastore, 1) := by decide +kernel
theorem dX4_addTask_97 : decode cX4_addTask 97 = .ok (.aload_n 0, 1) := by decide +kernel
theorem dX4_addTask_98 : decode cX4_addTask 98 = .ok (.getfield 11, 3) := by decide +kernel
theorem dX4_addTask_101 : decode cX4_addTask 101 = .ok (.bipush 7, 2) := by decide +kernel
theorem dX4_addTask_103 : decode cX4_addTask 103 = .ok (.aaload, 1) := by decide +kernel
theorem dX4_addTask_104 : decode cX4_addTask 104 = .ok (.aload_n 0, 1) := by decide +kernel
theorem dX4_addTask_105 : decode cX4_addTask 105 = .ok (.getfield 23, 3) := by decide +kernel
theorem dX4_addTask_108 : decode cX4_addTask 108 = .ok (.iconst 0, 1) := by decide +kernel
theorem dX4_addTask_109 : decode cX4_addTask 109 = .ok (.iastore, 1) := by decide +kernel
theorem dX4_addTask_110 : decode cX4_addTask 110 = .ok (.aload_n 0, 1) := by decide +kernel
theorem dX4_addTask_111 : decode cX4_addTask 111 = .ok (.getfield 11, 3) := by decide +kernel
theorem dX4_addTask_114 : decode cX4_addTask 114 = .ok (.bipush 8, 2) := by decide +kernel
theorem dX4_addTask_116 : decode cX4_addTask 116 = .ok (.aaload, 1) := by decide +kernel
theorem dX4_addTask_117 : decode cX4_addTask 117 = .ok (.aload_n 0, 1) := by decide +kernel
theorem dX4_addTask_118 : decode cX4_addTask 118 = .ok (.getfield 23, 3) := by decide +kernel
theorem dX4_addTask_121 : decode cX4_addTask 121 = .ok (.iconst 0, 1) := by decide +kernel
theorem dX4_addTask_122 : decode cX4_addTask 122 = .ok (.iastore, 1) := by decide +kernel
theorem dX4_addTask_123 : decode cX4_addTask 123 = .ok (.aload_n 0, 1) := by decide +kernel
theorem dX4_addTask_124 : decode cX4_addTask 124 = .ok (.getfield 11, 3) := by decide +kernel
theorem dX4_addTask_127 : decode cX4_addTask 127 = .ok (.bipush 9, 2) := by decide +kernel
theorem dX4_addTask_129 : decode cX4_addTask 129 = .ok (.aaload, 1) := by decide +kernel
theorem dX4_addTask_130 : decode cX4_addTask 130 = .ok (.aload_n 0, 1) := by decide +kernel
theorem dX4_addTask_131 : decode cX4_addTask 131 = .ok (.getfield 23, 3) := by decide +kernel
theorem dX4_addTask_134 : decode cX4_addTask 134 = .ok (.iconst 0, 1) := by decide +kernel
theorem dX4_addTask_135 : decode cX4_addTask 135 = .ok (.iastore, 1) := by decide +kernel
theorem dX4_addTask_136 : decode cX4_addTask 136 = .ok (.aload_n 0, 1) := by decide +kernel
theorem dX4_addTask_137 : decode cX4_addTask 137 = .ok (.getfield 11, 3) := by decide +kernel
theorem dX4_addTask_140 : decode cX4_addTask 140 = .ok (.bipush 10, 2) := by decide +kernel
theorem dX4_addTask_142 : decode cX4_addTask 142 = .ok (.aaload, 1) := by decide +kernel
theorem dX4_addTask_143 : decode cX4_addTask 143 = .ok (.aload_n 0, 1) := by decide +kernel
theorem dX4_addTask_144 : decode cX4_addTask 144 = .ok (.getfield 23, 3) := by decide +kernel
theorem dX4_addTask_147 : decode cX4_addTask 147 = .ok (.iconst 0, 1) := by decide +kernel
theorem dX4_addTask_148 : decode cX4_addTask 148 = .ok (.iastore, 1) := by decide +kernel
theorem dX4_addTask_149 : decode cX4_addTask 149 = .ok (.aload_n 0, 1) := by decide +kernel
theorem dX4_addTask_150 : decode cX4_addTask 150 = .ok (.dup, 1) := by decide +kernel
theorem dX4_addTask_151 : decode cX4_addTask 151 = .ok (.getfield 23, 3) := by decide +kernel
theorem dX4_addTask_154 : decode cX4_addTask 154 = .ok (.iconst 1, 1) := by decide +kernel
theorem dX4_addTask_155 : decode cX4_addTask 155 = .ok (.iadd, 1) := by decide +kernel
theorem dX4_addTask_156 : decode cX4_addTask 156 = .ok (.putfield 23, 3) := by decide +kernel
theorem dX4_addTask_159 : decode cX4_addTask 159 = .ok (.return_, 1) := by decide +kernel
theorem cwX4_addTask : mw_cwV yX4_addTask cX4_addTask 6 (none) 5 := ⟨⟨wd_4, wd_969, by decide +kernel⟩, wd_967, wd_968⟩
set_option maxHeartbeats 4000000 in
set_option maxRecDepth 100000 in
theorem tX4_addTask (l : Launch) (G : mwG) (ad : Nat → Nat) (fu : Nat) (a1 : Int32) (a2 : Int32) (a3 : Int32) (a4 : Int32) (a5 : Int32) (M : mwM) (L : mwL) {M0 : mwM} {L0 : mwL} (hD : DX4_addTask fu a1 a2 a3 a4 a5 M L = some (M0, L0)) : Met l yX4_addTask (Cond.code yX4_addTask cX4_addTask 6 (none) :: GT) ({ frames := 0, cells := 0, slots := 0, locals := 0 }) (mw_Pre G ad NF TF FF M L [.ref (ad 5), .int a1, .int a2, .int a3, .int a4, .int a5]) (mw_Qv G ad NF TF FF (mw_eqV M0 L0)) 0 0 (mw_fr G) := by
  refine mw_enter (by decide) (Nat.le_of_ble_eq_true rfl) ?_
  intro p e s m below meth c ls C hr hlocks hnm hw hl
  have hl : lv_has ls 6 [(0, .ref (ad 5)), (1, .int a1), (2, .int a2), (3, .int a3), (4, .int a4), (5, .int a5)] := hl
  unfold DX4_addTask at hD
  refine lv_aload_n C.1.1 C.1.2.1 dX4_addTask_0 rfl (lv_at hl 0 rfl) ?_
  refine mr_getI C hw kc_4 3 (by decide) tf_5 wd_68 dX4_addTask_1 (by decide) rfl ?_
  refine lv_bipush (v := 12) C.1.1 C.1.2.1 dX4_addTask_4 (by decide) ?_
  refine lv_icmp_lt (tgt := 10) C.1.1 C.1.2.1 dX4_addTask_6 (by decide) (fun c1 => ?_) (fun c1 => ?_)
  · replace hD := g_pos c1 hD
    refine lv_aload_n C.1.1 C.1.2.1 dX4_addTask_10 rfl (lv_at hl 0 rfl) ?_
    refine mr_getR C hw kc_4 0 (by decide) tf_5 ff_5_0 wd_63 dX4_addTask_11 (by decide) rfl ?_
    refine lv_iconst (v := 0) C.1.1 C.1.2.1 dX4_addTask_14 (by decide) ?_
    refine mr_aald C hw (by decide) tf_6 (by decide) (by decide) rfl rfl (show vp_in 0 11 from by unfold vp_in; decide) ff_6_0 dX4_addTask_15 ?_
    refine lv_aload_n C.1.1 C.1.2.1 dX4_addTask_16 rfl (lv_at hl 0 rfl) ?_
    refine mr_getI C hw kc_4 3 (by decide) tf_5 wd_68 dX4_addTask_17 (by decide) rfl ?_
    refine lv_iload_n C.1.1 C.1.2.1 dX4_addTask_20 rfl (lv_at hl 1 rfl) ?_
    obtain ⟨q3, hD⟩ := g_ck hD
    obtain ⟨M4, eM4, hD⟩ := g_let hD
    refine mr_iast C hw (by decide) tf_7 q3 dX4_addTask_21 (fun H locs hw => ?_)
    replace hw : mw_W G ad NF TF FF M4 L H locs := by rw [eM4]; exact hw
    refine lv_aload_n C.1.1 C.1.2.1 dX4_addTask_22 rfl (lv_at hl 0 rfl) ?_
    refine mr_getR C hw kc_4 0 (by decide) tf_5 ff_5_0 wd_63 dX4_addTask_23 (by decide) rfl ?_
    refine lv_iconst (v := 1) C.1.1 C.1.2.1 dX4_addTask_26 (by decide) ?_
    refine mr_aald C hw (by decide) tf_6 (by decide) (by decide) rfl rfl (show vp_in 1 11 from by unfold vp_in; decide) ff_6_1 dX4_addTask_27 ?_
    refine lv_aload_n C.1.1 C.1.2.1 dX4_addTask_28 rfl (lv_at hl 0 rfl) ?_
    refine mr_getI C hw kc_4 3 (by decide) tf_5 wd_68 dX4_addTask_29 (by decide) rfl ?_
    refine lv_iload_n C.1.1 C.1.2.1 dX4_addTask_32 rfl (lv_at hl 2 rfl) ?_
    obtain ⟨q6, hD⟩ := g_ck hD
    obtain ⟨M7, eM7, hD⟩ := g_let hD
    refine mr_iast C hw (by decide) tf_8 q6 dX4_addTask_33 (fun H locs hw => ?_)
    replace hw : mw_W G ad NF TF FF M7 L H locs := by rw [eM7]; exact hw
    refine lv_aload_n C.1.1 C.1.2.1 dX4_addTask_34 rfl (lv_at hl 0 rfl) ?_
    refine mr_getR C hw kc_4 0 (by decide) tf_5 ff_5_0 wd_63 dX4_addTask_35 (by decide) rfl ?_
    refine lv_iconst (v := 2) C.1.1 C.1.2.1 dX4_addTask_38 (by decide) ?_
    refine mr_aald C hw (by decide) tf_6 (by decide) (by decide) rfl rfl (show vp_in 2 11 from by unfold vp_in; decide) ff_6_2 dX4_addTask_39 ?_
    refine lv_aload_n C.1.1 C.1.2.1 dX4_addTask_40 rfl (lv_at hl 0 rfl) ?_
    refine mr_getI C hw kc_4 3 (by decide) tf_5 wd_68 dX4_addTask_41 (by decide) rfl ?_
    refine lv_iload_n C.1.1 C.1.2.1 dX4_addTask_44 rfl (lv_at hl 3 rfl) ?_
    obtain ⟨q9, hD⟩ := g_ck hD
    obtain ⟨M10, eM10, hD⟩ := g_let hD
    refine mr_iast C hw (by decide) tf_9 q9 dX4_addTask_45 (fun H locs hw => ?_)
    replace hw : mw_W G ad NF TF FF M10 L H locs := by rw [eM10]; exact hw
    refine lv_aload_n C.1.1 C.1.2.1 dX4_addTask_46 rfl (lv_at hl 0 rfl) ?_
    refine mr_getR C hw kc_4 0 (by decide) tf_5 ff_5_0 wd_63 dX4_addTask_47 (by decide) rfl ?_
    refine lv_iconst (v := 3) C.1.1 C.1.2.1 dX4_addTask_50 (by decide) ?_
    refine mr_aald C hw (by decide) tf_6 (by decide) (by decide) rfl rfl (show vp_in 3 11 from by unfold vp_in; decide) ff_6_3 dX4_addTask_51 ?_
    refine lv_aload_n C.1.1 C.1.2.1 dX4_addTask_52 rfl (lv_at hl 0 rfl) ?_
    refine mr_getI C hw kc_4 3 (by decide) tf_5 wd_68 dX4_addTask_53 (by decide) rfl ?_
    refine lv_iload C.1.1 C.1.2.1 dX4_addTask_56 (lv_at hl 5 rfl) ?_
    obtain ⟨q12, hD⟩ := g_ck hD
    obtain ⟨M13, eM13, hD⟩ := g_let hD
    refine mr_iast C hw (by decide) tf_10 q12 dX4_addTask_58 (fun H locs hw => ?_)
    replace hw : mw_W G ad NF TF FF M13 L H locs := by rw [eM13]; exact hw
    refine lv_aload_n C.1.1 C.1.2.1 dX4_addTask_59 rfl (lv_at hl 0 rfl) ?_
    refine mr_getR C hw kc_4 0 (by decide) tf_5 ff_5_0 wd_63 dX4_addTask_60 (by decide) rfl ?_
    refine lv_iconst (v := 4) C.1.1 C.1.2.1 dX4_addTask_63 (by decide) ?_
    refine mr_aald C hw (by decide) tf_6 (by decide) (by decide) rfl rfl (show vp_in 4 11 from by unfold vp_in; decide) ff_6_4 dX4_addTask_64 ?_
    refine lv_aload_n C.1.1 C.1.2.1 dX4_addTask_65 rfl (lv_at hl 0 rfl) ?_
    refine mr_getI C hw kc_4 3 (by decide) tf_5 wd_68 dX4_addTask_66 (by decide) rfl ?_
    refine lv_iload C.1.1 C.1.2.1 dX4_addTask_69 (lv_at hl 4 rfl) ?_
    obtain ⟨q15, hD⟩ := g_ck hD
    obtain ⟨M16, eM16, hD⟩ := g_let hD
    refine mr_iast C hw (by decide) tf_11 q15 dX4_addTask_71 (fun H locs hw => ?_)
    replace hw : mw_W G ad NF TF FF M16 L H locs := by rw [eM16]; exact hw
    refine lv_aload_n C.1.1 C.1.2.1 dX4_addTask_72 rfl (lv_at hl 0 rfl) ?_
    refine mr_getR C hw kc_4 0 (by decide) tf_5 ff_5_0 wd_63 dX4_addTask_73 (by decide) rfl ?_
    refine lv_iconst (v := 5) C.1.1 C.1.2.1 dX4_addTask_76 (by decide) ?_
    refine mr_aald C hw (by decide) tf_6 (by decide) (by decide) rfl rfl (show vp_in 5 11 from by unfold vp_in; decide) ff_6_5 dX4_addTask_77 ?_
    refine lv_aload_n C.1.1 C.1.2.1 dX4_addTask_78 rfl (lv_at hl 0 rfl) ?_
    refine mr_getI C hw kc_4 3 (by decide) tf_5 wd_68 dX4_addTask_79 (by decide) rfl ?_
    refine lv_iconst (v := 0) C.1.1 C.1.2.1 dX4_addTask_82 (by decide) ?_
    obtain ⟨q18, hD⟩ := g_ck hD
    obtain ⟨M19, eM19, hD⟩ := g_let hD
    refine mr_iast C hw (by decide) tf_12 q18 dX4_addTask_83 (fun H locs hw => ?_)
    replace hw : mw_W G ad NF TF FF M19 L H locs := by rw [eM19]; exact hw
    refine lv_aload_n C.1.1 C.1.2.1 dX4_addTask_84 rfl (lv_at hl 0 rfl) ?_
    refine mr_getR C hw kc_4 0 (by decide) tf_5 ff_5_0 wd_63 dX4_addTask_85 (by decide) rfl ?_
    refine lv_bipush (v := 6) C.1.1 C.1.2.1 dX4_addTask_88 (by decide) ?_
    refine mr_aald C hw (by decide) tf_6 (by decide) (by decide) rfl rfl (show vp_in 6 11 from by unfold vp_in; decide) ff_6_6 dX4_addTask_90 ?_
    refine lv_aload_n C.1.1 C.1.2.1 dX4_addTask_91 rfl (lv_at hl 0 rfl) ?_
    refine mr_getI C hw kc_4 3 (by decide) tf_5 wd_68 dX4_addTask_92 (by decide) rfl ?_
    refine lv_iconst (v := 0) C.1.1 C.1.2.1 dX4_addTask_95 (by decide) ?_
    obtain ⟨q21, hD⟩ := g_ck hD
    obtain ⟨M22, eM22, hD⟩ := g_let hD
    refine mr_iast C hw (by decide) tf_13 q21 dX4_addTask_96 (fun H locs hw => ?_)
    replace hw : mw_W G ad NF TF FF M22 L H locs := by rw [eM22]; exact hw
    refine lv_aload_n C.1.1 C.1.2.1 dX4_addTask_97 rfl (lv_at hl 0 rfl) ?_
    refine mr_getR C hw kc_4 0 (by decide) tf_5 ff_5_0 wd_63 dX4_addTask_98 (by decide) rfl ?_
    refine lv_bipush (v := 7) C.1.1 C.1.2.1 dX4_addTask_101 (by decide) ?_
    refine mr_aald C hw (by decide) tf_6 (by decide) (by decide) rfl rfl (show vp_in 7 11 from by unfold vp_in; decide) ff_6_7 dX4_addTask_103 ?_
    refine lv_aload_n C.1.1 C.1.2.1 dX4_addTask_104 rfl (lv_at hl 0 rfl) ?_
    refine mr_getI C hw kc_4 3 (by decide) tf_5 wd_68 dX4_addTask_105 (by decide) rfl ?_
    refine lv_iconst (v := 0) C.1.1 C.1.2.1 dX4_addTask_108 (by decide) ?_
    obtain ⟨q24, hD⟩ := g_ck hD
    obtain ⟨M25, eM25, hD⟩ := g_let hD
    refine mr_iast C hw (by decide) tf_14 q24 dX4_addTask_109 (fun H locs hw => ?_)
    replace hw : mw_W G ad NF TF FF M25 L H locs := by rw [eM25]; exact hw
    refine lv_aload_n C.1.1 C.1.2.1 dX4_addTask_110 rfl (lv_at hl 0 rfl) ?_
    refine mr_getR C hw kc_4 0 (by decide) tf_5 ff_5_0 wd_63 dX4_addTask_111 (by decide) rfl ?_
    refine lv_bipush (v := 8) C.1.1 C.1.2.1 dX4_addTask_114 (by decide) ?_
    refine mr_aald C hw (by decide) tf_6 (by decide) (by decide) rfl rfl (show vp_in 8 11 from by unfold vp_in; decide) ff_6_8 dX4_addTask_116 ?_
    refine lv_aload_n C.1.1 C.1.2.1 dX4_addTask_117 rfl (lv_at hl 0 rfl) ?_
    refine mr_getI C hw kc_4 3 (by decide) tf_5 wd_68 dX4_addTask_118 (by decide) rfl ?_
    refine lv_iconst (v := 0) C.1.1 C.1.2.1 dX4_addTask_121 (by decide) ?_
    obtain ⟨q27, hD⟩ := g_ck hD
    obtain ⟨M28, eM28, hD⟩ := g_let hD
    refine mr_iast C hw (by decide) tf_15 q27 dX4_addTask_122 (fun H locs hw => ?_)
    replace hw : mw_W G ad NF TF FF M28 L H locs := by rw [eM28]; exact hw
    refine lv_aload_n C.1.1 C.1.2.1 dX4_addTask_123 rfl (lv_at hl 0 rfl) ?_
    refine mr_getR C hw kc_4 0 (by decide) tf_5 ff_5_0 wd_63 dX4_addTask_124 (by decide) rfl ?_
    refine lv_bipush (v := 9) C.1.1 C.1.2.1 dX4_addTask_127 (by decide) ?_
    refine mr_aald C hw (by decide) tf_6 (by decide) (by decide) rfl rfl (show vp_in 9 11 from by unfold vp_in; decide) ff_6_9 dX4_addTask_129 ?_
    refine lv_aload_n C.1.1 C.1.2.1 dX4_addTask_130 rfl (lv_at hl 0 rfl) ?_
    refine mr_getI C hw kc_4 3 (by decide) tf_5 wd_68 dX4_addTask_131 (by decide) rfl ?_
    refine lv_iconst (v := 0) C.1.1 C.1.2.1 dX4_addTask_134 (by decide) ?_
    obtain ⟨q30, hD⟩ := g_ck hD
    obtain ⟨M31, eM31, hD⟩ := g_let hD
    refine mr_iast C hw (by decide) tf_16 q30 dX4_addTask_135 (fun H locs hw => ?_)
    replace hw : mw_W G ad NF TF FF M31 L H locs := by rw [eM31]; exact hw
    refine lv_aload_n C.1.1 C.1.2.1 dX4_addTask_136 rfl (lv_at hl 0 rfl) ?_
    refine mr_getR C hw kc_4 0 (by decide) tf_5 ff_5_0 wd_63 dX4_addTask_137 (by decide) rfl ?_
    refine lv_bipush (v := 10) C.1.1 C.1.2.1 dX4_addTask_140 (by decide) ?_
    refine mr_aald C hw (by decide) tf_6 (by decide) (by decide) rfl rfl (show vp_in 10 11 from by unfold vp_in; decide) ff_6_10 dX4_addTask_142 ?_
    refine lv_aload_n C.1.1 C.1.2.1 dX4_addTask_143 rfl (lv_at hl 0 rfl) ?_
    refine mr_getI C hw kc_4 3 (by decide) tf_5 wd_68 dX4_addTask_144 (by decide) rfl ?_
    refine lv_iconst (v := 0) C.1.1 C.1.2.1 dX4_addTask_147 (by decide) ?_
    obtain ⟨q33, hD⟩ := g_ck hD
    obtain ⟨M34, eM34, hD⟩ := g_let hD
    refine mr_iast C hw (by decide) tf_17 q33 dX4_addTask_148 (fun H locs hw => ?_)
    replace hw : mw_W G ad NF TF FF M34 L H locs := by rw [eM34]; exact hw
    refine lv_aload_n C.1.1 C.1.2.1 dX4_addTask_149 rfl (lv_at hl 0 rfl) ?_
    refine lv_dup C.1.1 C.1.2.1 dX4_addTask_150 rfl ?_
    refine mr_getI C hw kc_4 3 (by decide) tf_5 wd_68 dX4_addTask_151 (by decide) rfl ?_
    refine lv_iconst (v := 1) C.1.1 C.1.2.1 dX4_addTask_154 (by decide) ?_
    refine lv_iadd C.1.1 C.1.2.1 dX4_addTask_155 ?_
    obtain ⟨M35, eM35, hD⟩ := g_let hD
    refine mr_putI C hw kc_4 3 (by decide) tf_5 wd_68 dX4_addTask_156 (by decide) rfl rfl rfl rfl (fun H locs hw => ?_)
    replace hw : mw_W G ad NF TF FF M35 L H locs := by rw [eM35]; exact hw
    exact mr_vret C hr hlocks hw (Option.some.inj hD) dX4_addTask_159
  · replace hD := g_neg c1 hD
    exact mr_vret C hr hlocks hw (Option.some.inj hD) dX4_addTask_9

theorem dX4_whoRan_0 : decode cX4_whoRan 0 = .ok (.aload_n 0, 1) := by decide +kernel
theorem dX4_whoRan_1 : decode cX4_whoRan 1 = .ok (.getfield 20, 3) := by decide +kernel
theorem dX4_whoRan_4 : decode cX4_whoRan 4 = .ok (.iload_n 2, 1) := by decide +kernel
theorem dX4_whoRan_5 : decode cX4_whoRan 5 = .ok (.iaload, 1) := by decide +kernel
theorem dX4_whoRan_6 : decode cX4_whoRan 6 = .ok (.iconst 4, 1) := by decide +kernel
theorem dX4_whoRan_7 : decode cX4_whoRan 7 = .ok (.iload_n 1, 1) := by decide +kernel
theorem dX4_whoRan_8 : decode cX4_whoRan 8 = .ok (.imul, 1) := by decide +kernel
theorem dX4_whoRan_9 : decode cX4_whoRan 9 = .ok (.ishr, 1) := by decide +kernel
theorem dX4_whoRan_10 : decode cX4_whoRan 10 = .ok (.bipush 15, 2) := by decide +kernel
theorem dX4_whoRan_12 : decode cX4_whoRan 12 = .ok (.iand, 1) := by decide +kernel
theorem dX4_whoRan_13 : decode cX4_whoRan 13 = .ok (.ireturn, 1) := by decide +kernel
theorem cwX4_whoRan : mw_cwV yX4_whoRan cX4_whoRan 3 ((some .int)) 2 := ⟨⟨wd_4, wd_1842, by decide +kernel⟩, wd_1840, wd_1841⟩
set_option maxHeartbeats 4000000 in
set_option maxRecDepth 100000 in
theorem tX4_whoRan (l : Launch) (G : mwG) (ad : Nat → Nat) (fu : Nat) (a1 : Int32) (a2 : Int32) (M : mwM) (L : mwL) {r0 : Int32} {M0 : mwM} {L0 : mwL} (hD : DX4_whoRan fu a1 a2 M L = some (r0, M0, L0)) : Met l yX4_whoRan (Cond.code yX4_whoRan cX4_whoRan 3 ((some .int)) :: GT) ({ frames := 0, cells := 0, slots := 0, locals := 0 }) (mw_Pre G ad NF TF FF M L [.ref (ad 5), .int a1, .int a2]) (mw_Qi G ad NF TF FF (mw_eqI r0 M0 L0)) 0 0 (mw_fr G) := by
  refine mw_enter (by decide) (Nat.le_of_ble_eq_true rfl) ?_
  intro p e s m below meth c ls C hr hlocks hnm hw hl
  have hl : lv_has ls 3 [(0, .ref (ad 5)), (1, .int a1), (2, .int a2)] := hl
  unfold DX4_whoRan at hD
  refine lv_aload_n C.1.1 C.1.2.1 dX4_whoRan_0 rfl (lv_at hl 0 rfl) ?_
  refine mr_getR C hw kc_4 2 (by decide) tf_5 ff_5_2 wd_67 dX4_whoRan_1 (by decide) rfl ?_
  refine lv_iload_n C.1.1 C.1.2.1 dX4_whoRan_4 rfl (lv_at hl 2 rfl) ?_
  obtain ⟨q1, hD⟩ := g_ck hD
  refine mr_iald C hw (by decide) tf_19 q1 dX4_whoRan_5 ?_
  refine lv_iconst (v := 4) C.1.1 C.1.2.1 dX4_whoRan_6 (by decide) ?_
  refine lv_iload_n C.1.1 C.1.2.1 dX4_whoRan_7 rfl (lv_at hl 1 rfl) ?_
  refine lv_imul C.1.1 C.1.2.1 dX4_whoRan_8 ?_
  refine lv_ishr C.1.1 C.1.2.1 dX4_whoRan_9 ?_
  refine lv_bipush (v := 15) C.1.1 C.1.2.1 dX4_whoRan_10 (by decide) ?_
  refine lv_iand C.1.1 C.1.2.1 dX4_whoRan_12 ?_
  exact mr_iret C hr hlocks hw rfl (Option.some.inj hD) dX4_whoRan_13

theorem dX4_makeReady_0 : decode cX4_makeReady 0 = .ok (.aload_n 0, 1) := by decide +kernel
theorem dX4_makeReady_1 : decode cX4_makeReady 1 = .ok (.dup, 1) := by decide +kernel
theorem dX4_makeReady_2 : decode cX4_makeReady 2 = .ok (.getfield 27, 3) := by decide +kernel
theorem dX4_makeReady_5 : decode cX4_makeReady 5 = .ok (.iconst 1, 1) := by decide +kernel
theorem dX4_makeReady_6 : decode cX4_makeReady 6 = .ok (.iadd, 1) := by decide +kernel
theorem dX4_makeReady_7 : decode cX4_makeReady 7 = .ok (.putfield 27, 3) := by decide +kernel
theorem dX4_makeReady_10 : decode cX4_makeReady 10 = .ok (.aload_n 0, 1) := by decide +kernel
theorem dX4_makeReady_11 : decode cX4_makeReady 11 = .ok (.getfield 11, 3) := by decide +kernel
theorem dX4_makeReady_14 : decode cX4_makeReady 14 = .ok (.iconst 5, 1) := by decide +kernel
theorem dX4_makeReady_15 : decode cX4_makeReady 15 = .ok (.aaload, 1) := by decide +kernel
theorem dX4_makeReady_16 : decode cX4_makeReady 16 = .ok (.iload_n 1, 1) := by decide +kernel
theorem dX4_makeReady_17 : decode cX4_makeReady 17 = .ok (.iconst 1, 1) := by decide +kernel
theorem dX4_makeReady_18 : decode cX4_makeReady 18 = .ok (.iastore, 1) := by decide +kernel
theorem dX4_makeReady_19 : decode cX4_makeReady 19 = .ok (.aload_n 0, 1) := by decide +kernel
theorem dX4_makeReady_20 : decode cX4_makeReady 20 = .ok (.getfield 11, 3) := by decide +kernel
theorem dX4_makeReady_23 : decode cX4_makeReady 23 = .ok (.bipush 8, 2) := by decide +kernel
theorem dX4_makeReady_25 : decode cX4_makeReady 25 = .ok (.aaload, 1) := by decide +kernel
theorem dX4_makeReady_26 : decode cX4_makeReady 26 = .ok (.iload_n 1, 1) := by decide +kernel
theorem dX4_makeReady_27 : decode cX4_makeReady 27 = .ok (.aload_n 0, 1) := by decide +kernel
theorem dX4_makeReady_28 : decode cX4_makeReady 28 = .ok (.getfield 27, 3) := by decide +kernel
theorem dX4_makeReady_31 : decode cX4_makeReady 31 = .ok (.iastore, 1) := by decide +kernel
theorem dX4_makeReady_32 : decode cX4_makeReady 32 = .ok (.aload_n 0, 1) := by decide +kernel
theorem dX4_makeReady_33 : decode cX4_makeReady 33 = .ok (.getfield 11, 3) := by decide +kernel
theorem dX4_makeReady_36 : decode cX4_makeReady 36 = .ok (.bipush 6, 2) := by decide +kernel
theorem dX4_makeReady_38 : decode cX4_makeReady 38 = .ok (.aaload, 1) := by decide +kernel
theorem dX4_makeReady_39 : decode cX4_makeReady 39 = .ok (.iload_n 1, 1) := by decide +kernel
theorem dX4_makeReady_40 : decode cX4_makeReady 40 = .ok (.aload_n 0, 1) := by decide +kernel
theorem dX4_makeReady_41 : decode cX4_makeReady 41 = .ok (.getfield 11, 3) := by decide +kernel
theorem dX4_makeReady_44 : decode cX4_makeReady 44 = .ok (.iconst 3, 1) := by decide +kernel
theorem dX4_makeReady_45 : decode cX4_makeReady 45 = .ok (.aaload, 1) := by decide +kernel
theorem dX4_makeReady_46 : decode cX4_makeReady 46 = .ok (.iload_n 1, 1) := by decide +kernel
theorem dX4_makeReady_47 : decode cX4_makeReady 47 = .ok (.iaload, 1) := by decide +kernel
theorem dX4_makeReady_48 : decode cX4_makeReady 48 = .ok (.iconst 1, 1) := by decide +kernel
theorem dX4_makeReady_49 : decode cX4_makeReady 49 = .ok (.iadd, 1) := by decide +kernel
theorem dX4_makeReady_50 : decode cX4_makeReady 50 = .ok (.iastore, 1) := by decide +kernel
theorem dX4_makeReady_51 : decode cX4_makeReady 51 = .ok (.return_, 1) := by decide +kernel
theorem cwX4_makeReady : mw_cwV yX4_makeReady cX4_makeReady 2 (none) 1 := ⟨⟨wd_4, wd_1483, by decide +kernel⟩, wd_1482, sl_96⟩
set_option maxHeartbeats 4000000 in
set_option maxRecDepth 100000 in
theorem tX4_makeReady (l : Launch) (G : mwG) (ad : Nat → Nat) (fu : Nat) (a1 : Int32) (M : mwM) (L : mwL) {M0 : mwM} {L0 : mwL} (hD : DX4_makeReady fu a1 M L = some (M0, L0)) : Met l yX4_makeReady (Cond.code yX4_makeReady cX4_makeReady 2 (none) :: GT) ({ frames := 0, cells := 0, slots := 0, locals := 0 }) (mw_Pre G ad NF TF FF M L [.ref (ad 5), .int a1]) (mw_Qv G ad NF TF FF (mw_eqV M0 L0)) 0 0 (mw_fr G) := by
  refine mw_enter (by decide) (Nat.le_of_ble_eq_true rfl) ?_
  intro p e s m below meth c ls C hr hlocks hnm hw hl
  have hl : lv_has ls 2 [(0, .ref (ad 5)), (1, .int a1)] := hl
  unfold DX4_makeReady at hD
  refine lv_aload_n C.1.1 C.1.2.1 dX4_makeReady_0 rfl (lv_at hl 0 rfl) ?_
  refine lv_dup C.1.1 C.1.2.1 dX4_makeReady_1 rfl ?_
  refine mr_getI C hw kc_4 4 (by decide) tf_5 wd_71 dX4_makeReady_2 (by decide) rfl ?_
  refine lv_iconst (v := 1) C.1.1 C.1.2.1 dX4_makeReady_5 (by decide) ?_
  refine lv_iadd C.1.1 C.1.2.1 dX4_makeReady_6 ?_
  obtain ⟨M1, eM1, hD⟩ := g_let hD
  refine mr_putI C hw kc_4 4 (by decide) tf_5 wd_71 dX4_makeReady_7 (by decide) rfl rfl rfl rfl (fun H locs hw => ?_)
  replace hw : mw_W G ad NF TF FF M1 L H locs := by rw [eM1]; exact hw
  refine lv_aload_n C.1.1 C.1.2.1 dX4_makeReady_10 rfl (lv_at hl 0 rfl) ?_
  refine mr_getR C hw kc_4 0 (by decide) tf_5 ff_5_0 wd_63 dX4_makeReady_11 (by decide) rfl ?_
  refine lv_iconst (v := 5) C.1.1 C.1.2.1 dX4_makeReady_14 (by decide) ?_
  refine mr_aald C hw (by decide) tf_6 (by decide) (by decide) rfl rfl (show vp_in 5 11 from by unfold vp_in; decide) ff_6_5 dX4_makeReady_15 ?_
  refine lv_iload_n C.1.1 C.1.2.1 dX4_makeReady_16 rfl (lv_at hl 1 rfl) ?_
  refine lv_iconst (v := 1) C.1.1 C.1.2.1 dX4_makeReady_17 (by decide) ?_
  obtain ⟨q3, hD⟩ := g_ck hD
  obtain ⟨M4, eM4, hD⟩ := g_let hD
  refine mr_iast C hw (by decide) tf_12 q3 dX4_makeReady_18 (fun H locs hw => ?_)
  replace hw : mw_W G ad NF TF FF M4 L H locs := by rw [eM4]; exact hw
  refine lv_aload_n C.1.1 C.1.2.1 dX4_makeReady_19 rfl (lv_at hl 0 rfl) ?_
  refine mr_getR C hw kc_4 0 (by decide) tf_5 ff_5_0 wd_63 dX4_makeReady_20 (by decide) rfl ?_
  refine lv_bipush (v := 8) C.1.1 C.1.2.1 dX4_makeReady_23 (by decide) ?_
  refine mr_aald C hw (by decide) tf_6 (by decide) (by decide) rfl rfl (show vp_in 8 11 from by unfold vp_in; decide) ff_6_8 dX4_makeReady_25 ?_
  refine lv_iload_n C.1.1 C.1.2.1 dX4_makeReady_26 rfl (lv_at hl 1 rfl) ?_
  refine lv_aload_n C.1.1 C.1.2.1 dX4_makeReady_27 rfl (lv_at hl 0 rfl) ?_
  refine mr_getI C hw kc_4 4 (by decide) tf_5 wd_71 dX4_makeReady_28 (by decide) rfl ?_
  obtain ⟨q6, hD⟩ := g_ck hD
  obtain ⟨M7, eM7, hD⟩ := g_let hD
  refine mr_iast C hw (by decide) tf_15 q6 dX4_makeReady_31 (fun H locs hw => ?_)
  replace hw : mw_W G ad NF TF FF M7 L H locs := by rw [eM7]; exact hw
  refine lv_aload_n C.1.1 C.1.2.1 dX4_makeReady_32 rfl (lv_at hl 0 rfl) ?_
  refine mr_getR C hw kc_4 0 (by decide) tf_5 ff_5_0 wd_63 dX4_makeReady_33 (by decide) rfl ?_
  refine lv_bipush (v := 6) C.1.1 C.1.2.1 dX4_makeReady_36 (by decide) ?_
  refine mr_aald C hw (by decide) tf_6 (by decide) (by decide) rfl rfl (show vp_in 6 11 from by unfold vp_in; decide) ff_6_6 dX4_makeReady_38 ?_
  refine lv_iload_n C.1.1 C.1.2.1 dX4_makeReady_39 rfl (lv_at hl 1 rfl) ?_
  refine lv_aload_n C.1.1 C.1.2.1 dX4_makeReady_40 rfl (lv_at hl 0 rfl) ?_
  refine mr_getR C hw kc_4 0 (by decide) tf_5 ff_5_0 wd_63 dX4_makeReady_41 (by decide) rfl ?_
  refine lv_iconst (v := 3) C.1.1 C.1.2.1 dX4_makeReady_44 (by decide) ?_
  refine mr_aald C hw (by decide) tf_6 (by decide) (by decide) rfl rfl (show vp_in 3 11 from by unfold vp_in; decide) ff_6_3 dX4_makeReady_45 ?_
  refine lv_iload_n C.1.1 C.1.2.1 dX4_makeReady_46 rfl (lv_at hl 1 rfl) ?_
  obtain ⟨q10, hD⟩ := g_ck hD
  refine mr_iald C hw (by decide) tf_10 q10 dX4_makeReady_47 ?_
  refine lv_iconst (v := 1) C.1.1 C.1.2.1 dX4_makeReady_48 (by decide) ?_
  refine lv_iadd C.1.1 C.1.2.1 dX4_makeReady_49 ?_
  obtain ⟨q11, hD⟩ := g_ck hD
  obtain ⟨M12, eM12, hD⟩ := g_let hD
  refine mr_iast C hw (by decide) tf_13 q11 dX4_makeReady_50 (fun H locs hw => ?_)
  replace hw : mw_W G ad NF TF FF M12 L H locs := by rw [eM12]; exact hw
  exact mr_vret C hr hlocks hw (Option.some.inj hD) dX4_makeReady_51

theorem dX4_activateAll_0 : decode cX4_activateAll 0 = .ok (.iconst 0, 1) := by decide +kernel
theorem dX4_activateAll_1 : decode cX4_activateAll 1 = .ok (.istore_n 2, 1) := by decide +kernel
theorem dX4_activateAll_2 : decode cX4_activateAll 2 = .ok (.iload_n 2, 1) := by decide +kernel
theorem dX4_activateAll_3 : decode cX4_activateAll 3 = .ok (.aload_n 0, 1) := by decide +kernel
theorem dX4_activateAll_4 : decode cX4_activateAll 4 = .ok (.getfield 23, 3) := by decide +kernel
theorem dX4_activateAll_7 : decode cX4_activateAll 7 = .ok (.if_icmp .ge 92, 3) := by decide +kernel
theorem dX4_activateAll_10 : decode cX4_activateAll 10 = .ok (.aload_n 0, 1) := by decide +kernel
theorem dX4_activateAll_11 : decode cX4_activateAll 11 = .ok (.getfield 11, 3) := by decide +kernel
theorem dX4_activateAll_14 : decode cX4_activateAll 14 = .ok (.iconst 4, 1) := by decide +kernel
theorem dX4_activateAll_15 : decode cX4_activateAll 15 = .ok (.aaload, 1) := by decide +kernel
theorem dX4_activateAll_16 : decode cX4_activateAll 16 = .ok (.iload_n 2, 1) := by decide +kernel
theorem dX4_activateAll_17 : decode cX4_activateAll 17 = .ok (.iaload, 1) := by decide +kernel
theorem dX4_activateAll_18 : decode cX4_activateAll 18 = .ok (.iload_n 1, 1) := by decide +kernel
theorem dX4_activateAll_19 : decode cX4_activateAll 19 = .ok (.if_icmp .ne 74, 3) := by decide +kernel
theorem dX4_activateAll_22 : decode cX4_activateAll 22 = .ok (.aload_n 0, 1) := by decide +kernel
theorem dX4_activateAll_23 : decode cX4_activateAll 23 = .ok (.getfield 11, 3) := by decide +kernel
theorem dX4_activateAll_26 : decode cX4_activateAll 26 = .ok (.iconst 4, 1) := by decide +kernel
theorem dX4_activateAll_27 : decode cX4_activateAll 27 = .ok (.aaload, 1) := by decide +kernel
theorem dX4_activateAll_28 : decode cX4_activateAll 28 = .ok (.iload_n 2, 1) := by decide +kernel
theorem dX4_activateAll_29 : decode cX4_activateAll 29 = .ok (.dup2, 1) := by decide +kernel
theorem dX4_activateAll_30 : decode cX4_activateAll 30 = .ok (.iaload, 1) := by decide +kernel
theorem dX4_activateAll_31 : decode cX4_activateAll 31 = .ok (.aload_n 0, 1) := by decide +kernel
theorem dX4_activateAll_32 : decode cX4_activateAll 32 = .ok (.getfield 11, 3) := by decide +kernel
theorem dX4_activateAll_35 : decode cX4_activateAll 35 = .ok (.iconst 2, 1) := by decide +kernel
theorem dX4_activateAll_36 : decode cX4_activateAll 36 = .ok (.aaload, 1) := by decide +kernel
theorem dX4_activateAll_37 : decode cX4_activateAll 37 = .ok (.iload_n 2, 1) := by decide +kernel
theorem dX4_activateAll_38 : decode cX4_activateAll 38 = .ok (.iaload, 1) := by decide +kernel
theorem dX4_activateAll_39 : decode cX4_activateAll 39 = .ok (.iadd, 1) := by decide +kernel
theorem dX4_activateAll_40 : decode cX4_activateAll 40 = .ok (.iastore, 1) := by decide +kernel
theorem dX4_activateAll_41 : decode cX4_activateAll 41 = .ok (.aload_n 0, 1) := by decide +kernel
theorem dX4_activateAll_42 : decode cX4_activateAll 42 = .ok (.iconst 0, 1) := by decide +kernel
theorem dX4_activateAll_43 : decode cX4_activateAll 43 = .ok (.putfield 33, 3) := by decide +kernel
theorem dX4_activateAll_46 : decode cX4_activateAll 46 = .ok (.aload_n 0, 1) := by decide +kernel
theorem dX4_activateAll_47 : decode cX4_activateAll 47 = .ok (.getfield 11, 3) := by decide +kernel
theorem dX4_activateAll_50 : decode cX4_activateAll 50 = .ok (.iconst 5, 1) := by decide +kernel
theorem dX4_activateAll_51 : decode cX4_activateAll 51 = .ok (.aaload, 1) := by decide +kernel
theorem dX4_activateAll_52 : decode cX4_activateAll 52 = .ok (.iload_n 2, 1) := by decide +kernel
theorem dX4_activateAll_53 : decode cX4_activateAll 53 = .ok (.iaload, 1) := by decide +kernel
theorem dX4_activateAll_54 : decode cX4_activateAll 54 = .ok (.ifCond .ne 11, 3) := by decide +kernel
theorem dX4_activateAll_57 : decode cX4_activateAll 57 = .ok (.aload_n 0, 1) := by decide +kernel
theorem dX4_activateAll_58 : decode cX4_activateAll 58 = .ok (.iload_n 2, 1) := by decide +kernel
theorem dX4_activateAll_59 : decode cX4_activateAll 59 = .ok (.invokevirtual 47, 3) := by decide +kernel
theorem dX4_activateAll_62 : decode cX4_activateAll 62 = .ok (.goto 31, 3) := by decide +kernel
theorem dX4_activateAll_65 : decode cX4_activateAll 65 = .ok (.aload_n 0, 1) := by decide +kernel
theorem dX4_activateAll_66 : decode cX4_activateAll 66 = .ok (.getfield 11, 3) := by decide +kernel
theorem dX4_activateAll_69 : decode cX4_activateAll 69 = .ok (.bipush 7, 2) := by decide +kernel
theorem dX4_activateAll_71 : decode cX4_activateAll 71 = .ok (.aaload, 1) := by decide +kernel
theorem dX4_activateAll_72 : decode cX4_activateAll 72 = .ok (.iload_n 2, 1) := by decide +kernel
theorem dX4_activateAll_73 : decode cX4_activateAll 73 = .ok (.iaload, 1) := by decide +kernel
theorem dX4_activateAll_74 : decode cX4_activateAll 74 = .ok (.iconst 1, 1) := by decide +kernel
theorem dX4_activateAll_75 : decode cX4_activateAll 75 = .ok (.iadd, 1) := by decide +kernel
theorem dX4_activateAll_76 : decode cX4_activateAll 76 = .ok (.iconst 2, 1) := by decide +kernel
theorem dX4_activateAll_77 : decode cX4_activateAll 77 = .ok (.if_icmp .ge 16, 3) := by decide +kernel
theorem dX4_activateAll_80 : decode cX4_activateAll 80 = .ok (.aload_n 0, 1) := by decide +kernel
theorem dX4_activateAll_81 : decode cX4_activateAll 81 = .ok (.getfield 11, 3) := by decide +kernel
theorem dX4_activateAll_84 : decode cX4_activateAll 84 = .ok (.bipush 7, 2) := by decide +kernel
theorem dX4_activateAll_86 : decode cX4_activateAll 86 = .ok (.aaload, 1) := by decide +kernel
theorem dX4_activateAll_87 : decode cX4_activateAll 87 = .ok (.iload_n 2, 1) := by decide +kernel
theorem dX4_activateAll_88 : decode cX4_activateAll 88 = .ok (.dup2, 1) := by decide +kernel
theorem dX4_activateAll_89 : decode cX4_activateAll 89 = .ok (.iaload, 1) := by decide +kernel
theorem dX4_activateAll_90 : decode cX4_activateAll 90 = .ok (.iconst 1, 1) := by decide +kernel
theorem dX4_activateAll_91 : decode cX4_activateAll 91 = .ok (.iadd, 1) := by decide +kernel
theorem dX4_activateAll_92 : decode cX4_activateAll 92 = .ok (.iastore, 1) := by decide +kernel
theorem dX4_activateAll_93 : decode cX4_activateAll 93 = .ok (.iinc 2 1, 3) := by decide +kernel
theorem dX4_activateAll_96 : decode cX4_activateAll 96 = .ok (.goto (-94), 3) := by decide +kernel
theorem dX4_activateAll_99 : decode cX4_activateAll 99 = .ok (.return_, 1) := by decide +kernel
theorem cwX4_activateAll : mw_cwV yX4_activateAll cX4_activateAll 3 (none) 1 := ⟨⟨wd_4, wd_1479, by decide +kernel⟩, wd_1478, sl_95⟩
set_option maxHeartbeats 4000000 in
set_option maxRecDepth 100000 in
theorem tX4_activateAll (l : Launch) (G : mwG) (ad : Nat → Nat) (fu : Nat) (a1 : Int32) (M : mwM) (L : mwL) {M0 : mwM} {L0 : mwL} (hD : DX4_activateAll fu a1 M L = some (M0, L0)) : Met l yX4_activateAll (Cond.code yX4_activateAll cX4_activateAll 3 (none) :: GT) ({ frames := 1, cells := 0, slots := 0, locals := 21 }) (mw_Pre G ad NF TF FF M L [.ref (ad 5), .int a1]) (mw_Qv G ad NF TF FF (mw_eqV M0 L0)) 0 0 (mw_fr G) := by
  refine mw_enter (by decide) (Nat.le_of_ble_eq_true rfl) ?_
  intro p e s m below meth c ls C hr hlocks hnm hw hl
  have hl : lv_has ls 3 [(0, .ref (ad 5)), (1, .int a1)] := hl
  have hh2 : ∀ (f : Nat) (v2 : Int32) (M : mwM) (L : mwL) (H : Heap) (locs : List Loc) (ls : Array Slot), fX4_activateAll_h2 fu a1 f (v2, M, L) = some (M0, L0) → mw_W G ad NF TF FF M L H locs → lv_has ls 3 [(0, .ref (ad 5)), (1, .int a1), (2, .int v2)] → W p l e ({ frames := 1, cells := 0, slots := 0, locals := 21 }) s m [.ref (ad 5), .int a1].toArray below meth c H locs 0 0 (MQ below (mw_Qv G ad NF TF FF (mw_eqV M0 L0)) [.ref (ad 5), .int a1].toArray s 0 0 (mw_fr G)) (F0 m 2 ls []) := by
    intro f
    induction f with
    | zero => intro v2 M L H locs ls hD; cases hD
    | succ f2 ih2 =>
      intro v2 M L H locs ls hD hw hl
      replace hD : fX4_activateAll_i2 fu a1 (fX4_activateAll_h2 fu a1 f2) v2 M L = some (M0, L0) := hD
      have hb93 : ∀ (v2 : Int32) (M : mwM) (L : mwL) (H : Heap) (locs : List Loc) (ls : Array Slot), fX4_activateAll_b93 fu a1 (fX4_activateAll_h2 fu a1 f2) v2 M L = some (M0, L0) → mw_W G ad NF TF FF M L H locs → lv_has ls 3 [(0, .ref (ad 5)), (1, .int a1), (2, .int v2)] → W p l e ({ frames := 1, cells := 0, slots := 0, locals := 21 }) s m [.ref (ad 5), .int a1].toArray below meth c H locs 0 0 (MQ below (mw_Qv G ad NF TF FF (mw_eqV M0 L0)) [.ref (ad 5), .int a1].toArray s 0 0 (mw_fr G)) (F0 m 93 ls []) := by
        intro v2 M L H locs ls hD hw hl
        unfold fX4_activateAll_b93 at hD
        obtain ⟨x24, ex24, hD⟩ := g_let hD
        refine lv_iinc (v := x24) (lv' := [(2, .int x24), (0, .ref (ad 5)), (1, .int a1)]) C.1.1 C.1.2.1 dX4_activateAll_93 hl (k := 2) rfl (by rw [ex24]; rfl) (by decide) rfl (fun ls hl => ?_)
        refine lv_goto (tgt := 2) C.1.1 C.1.2.1 dX4_activateAll_96 (by decide) ?_
        exact ih2 x24 M L _ _ ls hD hw (lv_sub hl [1, 2, 0] rfl)
      unfold fX4_activateAll_i2 at hD
      refine lv_iload_n C.1.1 C.1.2.1 dX4_activateAll_2 rfl (lv_at hl 2 rfl) ?_
      refine lv_aload_n C.1.1 C.1.2.1 dX4_activateAll_3 rfl (lv_at hl 0 rfl) ?_
      refine mr_getI C hw kc_4 3 (by decide) tf_5 wd_68 dX4_activateAll_4 (by decide) rfl ?_
      refine lv_icmp_ge (tgt := 99) C.1.1 C.1.2.1 dX4_activateAll_7 (by decide) (fun c1 => ?_) (fun c1 => ?_)
      · replace hD := g_pos c1 hD
        exact mr_vret C hr hlocks hw (Option.some.inj hD) dX4_activateAll_99
      · replace hD := g_neg c1 hD
        refine lv_aload_n C.1.1 C.1.2.1 dX4_activateAll_10 rfl (lv_at hl 0 rfl) ?_
        refine mr_getR C hw kc_4 0 (by decide) tf_5 ff_5_0 wd_63 dX4_activateAll_11 (by decide) rfl ?_
        refine lv_iconst (v := 4) C.1.1 C.1.2.1 dX4_activateAll_14 (by decide) ?_
        refine mr_aald C hw (by decide) tf_6 (by decide) (by decide) rfl rfl (show vp_in 4 11 from by unfold vp_in; decide) ff_6_4 dX4_activateAll_15 ?_
        refine lv_iload_n C.1.1 C.1.2.1 dX4_activateAll_16 rfl (lv_at hl 2 rfl) ?_
        obtain ⟨q3, hD⟩ := g_ck hD
        refine mr_iald C hw (by decide) tf_11 q3 dX4_activateAll_17 ?_
        refine lv_iload_n C.1.1 C.1.2.1 dX4_activateAll_18 rfl (lv_at hl 1 rfl) ?_
        refine lv_icmp_ne (tgt := 93) C.1.1 C.1.2.1 dX4_activateAll_19 (by decide) (fun c4 => ?_) (fun c4 => ?_)
        · replace hD := g_neg c4 hD
          exact hb93 v2 M L _ _ ls hD hw (lv_sub hl [0, 1, 2] rfl)
        · replace hD := g_pos c4 hD
          refine lv_aload_n C.1.1 C.1.2.1 dX4_activateAll_22 rfl (lv_at hl 0 rfl) ?_
          refine mr_getR C hw kc_4 0 (by decide) tf_5 ff_5_0 wd_63 dX4_activateAll_23 (by decide) rfl ?_
          refine lv_iconst (v := 4) C.1.1 C.1.2.1 dX4_activateAll_26 (by decide) ?_
          refine mr_aald C hw (by decide) tf_6 (by decide) (by decide) rfl rfl (show vp_in 4 11 from by unfold vp_in; decide) ff_6_4 dX4_activateAll_27 ?_
          refine lv_iload_n C.1.1 C.1.2.1 dX4_activateAll_28 rfl (lv_at hl 2 rfl) ?_
          refine lv_dup2_11 C.1.1 C.1.2.1 dX4_activateAll_29 rfl rfl ?_
          obtain ⟨q6, hD⟩ := g_ck hD
          refine mr_iald C hw (by decide) tf_11 q6 dX4_activateAll_30 ?_
          refine lv_aload_n C.1.1 C.1.2.1 dX4_activateAll_31 rfl (lv_at hl 0 rfl) ?_
          refine mr_getR C hw kc_4 0 (by decide) tf_5 ff_5_0 wd_63 dX4_activateAll_32 (by decide) rfl ?_
          refine lv_iconst (v := 2) C.1.1 C.1.2.1 dX4_activateAll_35 (by decide) ?_
          refine mr_aald C hw (by decide) tf_6 (by decide) (by decide) rfl rfl (show vp_in 2 11 from by unfold vp_in; decide) ff_6_2 dX4_activateAll_36 ?_
          refine lv_iload_n C.1.1 C.1.2.1 dX4_activateAll_37 rfl (lv_at hl 2 rfl) ?_
          obtain ⟨q8, hD⟩ := g_ck hD
          refine mr_iald C hw (by decide) tf_9 q8 dX4_activateAll_38 ?_
          refine lv_iadd C.1.1 C.1.2.1 dX4_activateAll_39 ?_
          obtain ⟨q9, hD⟩ := g_ck hD
          obtain ⟨M10, eM10, hD⟩ := g_let hD
          refine mr_iast C hw (by decide) tf_11 q9 dX4_activateAll_40 (fun H locs hw => ?_)
          replace hw : mw_W G ad NF TF FF M10 L H locs := by rw [eM10]; exact hw
          refine lv_aload_n C.1.1 C.1.2.1 dX4_activateAll_41 rfl (lv_at hl 0 rfl) ?_
          refine lv_iconst (v := 0) C.1.1 C.1.2.1 dX4_activateAll_42 (by decide) ?_
          obtain ⟨M11, eM11, hD⟩ := g_let hD
          refine mr_putI C hw kc_4 6 (by decide) tf_5 wd_74 dX4_activateAll_43 (by decide) rfl rfl (by decide +kernel) (by decide +kernel) (fun H locs hw => ?_)
          replace hw : mw_W G ad NF TF FF M11 L H locs := by rw [eM11]; exact hw
          refine lv_aload_n C.1.1 C.1.2.1 dX4_activateAll_46 rfl (lv_at hl 0 rfl) ?_
          refine mr_getR C hw kc_4 0 (by decide) tf_5 ff_5_0 wd_63 dX4_activateAll_47 (by decide) rfl ?_
          refine lv_iconst (v := 5) C.1.1 C.1.2.1 dX4_activateAll_50 (by decide) ?_
          refine mr_aald C hw (by decide) tf_6 (by decide) (by decide) rfl rfl (show vp_in 5 11 from by unfold vp_in; decide) ff_6_5 dX4_activateAll_51 ?_
          refine lv_iload_n C.1.1 C.1.2.1 dX4_activateAll_52 rfl (lv_at hl 2 rfl) ?_
          obtain ⟨q13, hD⟩ := g_ck hD
          refine mr_iald C hw (by decide) tf_12 q13 dX4_activateAll_53 ?_
          refine lv_if_ne (tgt := 65) C.1.1 C.1.2.1 dX4_activateAll_54 (by decide) (fun c14 => ?_) (fun c14 => ?_)
          · replace hD := g_neg c14 hD
            refine lv_aload_n C.1.1 C.1.2.1 dX4_activateAll_65 rfl (lv_at hl 0 rfl) ?_
            refine mr_getR C hw kc_4 0 (by decide) tf_5 ff_5_0 wd_63 dX4_activateAll_66 (by decide) rfl ?_
            refine lv_bipush (v := 7) C.1.1 C.1.2.1 dX4_activateAll_69 (by decide) ?_
            refine mr_aald C hw (by decide) tf_6 (by decide) (by decide) rfl rfl (show vp_in 7 11 from by unfold vp_in; decide) ff_6_7 dX4_activateAll_71 ?_
            refine lv_iload_n C.1.1 C.1.2.1 dX4_activateAll_72 rfl (lv_at hl 2 rfl) ?_
            obtain ⟨q16, hD⟩ := g_ck hD
            refine mr_iald C hw (by decide) tf_14 q16 dX4_activateAll_73 ?_
            refine lv_iconst (v := 1) C.1.1 C.1.2.1 dX4_activateAll_74 (by decide) ?_
            refine lv_iadd C.1.1 C.1.2.1 dX4_activateAll_75 ?_
            refine lv_iconst (v := 2) C.1.1 C.1.2.1 dX4_activateAll_76 (by decide) ?_
            refine lv_icmp_ge (tgt := 93) C.1.1 C.1.2.1 dX4_activateAll_77 (by decide) (fun c17 => ?_) (fun c17 => ?_)
            · replace hD := g_pos c17 hD
              exact hb93 v2 M11 L _ _ ls hD hw (lv_sub hl [0, 1, 2] rfl)
            · replace hD := g_neg c17 hD
              refine lv_aload_n C.1.1 C.1.2.1 dX4_activateAll_80 rfl (lv_at hl 0 rfl) ?_
              refine mr_getR C hw kc_4 0 (by decide) tf_5 ff_5_0 wd_63 dX4_activateAll_81 (by decide) rfl ?_
              refine lv_bipush (v := 7) C.1.1 C.1.2.1 dX4_activateAll_84 (by decide) ?_
              refine mr_aald C hw (by decide) tf_6 (by decide) (by decide) rfl rfl (show vp_in 7 11 from by unfold vp_in; decide) ff_6_7 dX4_activateAll_86 ?_
              refine lv_iload_n C.1.1 C.1.2.1 dX4_activateAll_87 rfl (lv_at hl 2 rfl) ?_
              refine lv_dup2_11 C.1.1 C.1.2.1 dX4_activateAll_88 rfl rfl ?_
              obtain ⟨q19, hD⟩ := g_ck hD
              refine mr_iald C hw (by decide) tf_14 q19 dX4_activateAll_89 ?_
              refine lv_iconst (v := 1) C.1.1 C.1.2.1 dX4_activateAll_90 (by decide) ?_
              refine lv_iadd C.1.1 C.1.2.1 dX4_activateAll_91 ?_
              obtain ⟨q20, hD⟩ := g_ck hD
              obtain ⟨M21, eM21, hD⟩ := g_let hD
              refine mr_iast C hw (by decide) tf_14 q20 dX4_activateAll_92 (fun H locs hw => ?_)
              replace hw : mw_W G ad NF TF FF M21 L H locs := by rw [eM21]; exact hw
              exact hb93 v2 M21 L _ _ ls hD hw (lv_sub hl [0, 1, 2] rfl)
          · replace hD := g_pos c14 hD
            refine lv_aload_n C.1.1 C.1.2.1 dX4_activateAll_57 rfl (lv_at hl 0 rfl) ?_
            refine lv_iload_n C.1.1 C.1.2.1 dX4_activateAll_58 rfl (lv_at hl 2 rfl) ?_
            obtain ⟨M22, L23, h1, hD⟩ := g_b2 hD
            refine md_cvV (As := [.int v2]) (rest := []) C hw (tX4_makeReady l G ad fu v2 M11 L h1) kc_4 (by decide) tf_5 wd_1480 cwX4_makeReady ⟨Nat.le_of_ble_eq_true rfl, Nat.le_of_ble_eq_true rfl⟩ rfl hl.1 (Nat.le_of_ble_eq_true rfl) dX4_activateAll_59 rfl rfl ⟨Nat.zero_le _, Nat.zero_le _⟩ rfl (fun H locs hw => ?_)
            refine lv_goto (tgt := 93) C.1.1 C.1.2.1 dX4_activateAll_62 (by decide) ?_
            exact hb93 v2 M22 L23 _ _ ls hD hw (lv_sub hl [0, 1, 2] rfl)
  unfold DX4_activateAll at hD
  refine lv_iconst (v := 0) C.1.1 C.1.2.1 dX4_activateAll_0 (by decide) ?_
  refine lv_istore_n (lv' := [(2, .int 0), (0, .ref (ad 5)), (1, .int a1)]) C.1.1 C.1.2.1 dX4_activateAll_1 rfl hl (by decide) rfl (fun ls hl => ?_)
  exact hh2 fu 0 M L _ _ ls hD hw (lv_sub hl [1, 2, 0] rfl)

theorem dX4_isBefore_0 : decode cX4_isBefore 0 = .ok (.aload_n 0, 1) := by decide +kernel
theorem dX4_isBefore_1 : decode cX4_isBefore 1 = .ok (.getfield 11, 3) := by decide +kernel
theorem dX4_isBefore_4 : decode cX4_isBefore 4 = .ok (.iconst 0, 1) := by decide +kernel
theorem dX4_isBefore_5 : decode cX4_isBefore 5 = .ok (.aaload, 1) := by decide +kernel
theorem dX4_isBefore_6 : decode cX4_isBefore 6 = .ok (.iload_n 1, 1) := by decide +kernel
theorem dX4_isBefore_7 : decode cX4_isBefore 7 = .ok (.iaload, 1) := by decide +kernel
theorem dX4_isBefore_8 : decode cX4_isBefore 8 = .ok (.aload_n 0, 1) := by decide +kernel
theorem dX4_isBefore_9 : decode cX4_isBefore 9 = .ok (.getfield 11, 3) := by decide +kernel
theorem dX4_isBefore_12 : decode cX4_isBefore 12 = .ok (.iconst 0, 1) := by decide +kernel
theorem dX4_isBefore_13 : decode cX4_isBefore 13 = .ok (.aaload, 1) := by decide +kernel
theorem dX4_isBefore_14 : decode cX4_isBefore 14 = .ok (.iload_n 2, 1) := by decide +kernel
theorem dX4_isBefore_15 : decode cX4_isBefore 15 = .ok (.iaload, 1) := by decide +kernel
theorem dX4_isBefore_16 : decode cX4_isBefore 16 = .ok (.if_icmp .eq 28, 3) := by decide +kernel
theorem dX4_isBefore_19 : decode cX4_isBefore 19 = .ok (.aload_n 0, 1) := by decide +kernel
theorem dX4_isBefore_20 : decode cX4_isBefore 20 = .ok (.getfield 11, 3) := by decide +kernel
theorem dX4_isBefore_23 : decode cX4_isBefore 23 = .ok (.iconst 0, 1) := by decide +kernel
theorem dX4_isBefore_24 : decode cX4_isBefore 24 = .ok (.aaload, 1) := by decide +kernel
theorem dX4_isBefore_25 : decode cX4_isBefore 25 = .ok (.iload_n 1, 1) := by decide +kernel
theorem dX4_isBefore_26 : decode cX4_isBefore 26 = .ok (.iaload, 1) := by decide +kernel
theorem dX4_isBefore_27 : decode cX4_isBefore 27 = .ok (.aload_n 0, 1) := by decide +kernel
theorem dX4_isBefore_28 : decode cX4_isBefore 28 = .ok (.getfield 11, 3) := by decide +kernel
theorem dX4_isBefore_31 : decode cX4_isBefore 31 = .ok (.iconst 0, 1) := by decide +kernel
theorem dX4_isBefore_32 : decode cX4_isBefore 32 = .ok (.aaload, 1) := by decide +kernel
theorem dX4_isBefore_33 : decode cX4_isBefore 33 = .ok (.iload_n 2, 1) := by decide +kernel
theorem dX4_isBefore_34 : decode cX4_isBefore 34 = .ok (.iaload, 1) := by decide +kernel
theorem dX4_isBefore_35 : decode cX4_isBefore 35 = .ok (.if_icmp .le 7, 3) := by decide +kernel
theorem dX4_isBefore_38 : decode cX4_isBefore 38 = .ok (.iconst 1, 1) := by decide +kernel
theorem dX4_isBefore_39 : decode cX4_isBefore 39 = .ok (.goto 4, 3) := by decide +kernel
theorem dX4_isBefore_42 : decode cX4_isBefore 42 = .ok (.iconst 0, 1) := by decide +kernel
theorem dX4_isBefore_43 : decode cX4_isBefore 43 = .ok (.ireturn, 1) := by decide +kernel
theorem dX4_isBefore_44 : decode cX4_isBefore 44 = .ok (.aload_n 0, 1) := by decide +kernel
theorem dX4_isBefore_45 : decode cX4_isBefore 45 = .ok (.getfield 11, 3) := by decide +kernel
theorem dX4_isBefore_48 : decode cX4_isBefore 48 = .ok (.iconst 5, 1) := by decide +kernel
theorem dX4_isBefore_49 : decode cX4_isBefore 49 = .ok (.aaload, 1) := by decide +kernel
theorem dX4_isBefore_50 : decode cX4_isBefore 50 = .ok (.iload_n 2, 1) := by decide +kernel
theorem dX4_isBefore_51 : decode cX4_isBefore 51 = .ok (.iaload, 1) := by decide +kernel
theorem dX4_isBefore_52 : decode cX4_isBefore 52 = .ok (.iconst 2, 1) := by decide +kernel
theorem dX4_isBefore_53 : decode cX4_isBefore 53 = .ok (.if_icmp .eq 28, 3) := by decide +kernel
theorem dX4_isBefore_56 : decode cX4_isBefore 56 = .ok (.aload_n 0, 1) := by decide +kernel
theorem dX4_isBefore_57 : decode cX4_isBefore 57 = .ok (.getfield 11, 3) := by decide +kernel
theorem dX4_isBefore_60 : decode cX4_isBefore 60 = .ok (.bipush 8, 2) := by decide +kernel
theorem dX4_isBefore_62 : decode cX4_isBefore 62 = .ok (.aaload, 1) := by decide +kernel
theorem dX4_isBefore_63 : decode cX4_isBefore 63 = .ok (.iload_n 1, 1) := by decide +kernel
theorem dX4_isBefore_64 : decode cX4_isBefore 64 = .ok (.iaload, 1) := by decide +kernel
theorem dX4_isBefore_65 : decode cX4_isBefore 65 = .ok (.aload_n 0, 1) := by decide +kernel
theorem dX4_isBefore_66 : decode cX4_isBefore 66 = .ok (.getfield 11, 3) := by decide +kernel
theorem dX4_isBefore_69 : decode cX4_isBefore 69 = .ok (.bipush 8, 2) := by decide +kernel
theorem dX4_isBefore_71 : decode cX4_isBefore 71 = .ok (.aaload, 1) := by decide +kernel
theorem dX4_isBefore_72 : decode cX4_isBefore 72 = .ok (.iload_n 2, 1) := by decide +kernel
theorem dX4_isBefore_73 : decode cX4_isBefore 73 = .ok (.iaload, 1) := by decide +kernel
theorem dX4_isBefore_74 : decode cX4_isBefore 74 = .ok (.if_icmp .ge 7, 3) := by decide +kernel
theorem dX4_isBefore_77 : decode cX4_isBefore 77 = .ok (.iconst 1, 1) := by decide +kernel
theorem dX4_isBefore_78 : decode cX4_isBefore 78 = .ok (.goto 4, 3) := by decide +kernel
theorem dX4_isBefore_81 : decode cX4_isBefore 81 = .ok (.iconst 0, 1) := by decide +kernel
theorem dX4_isBefore_82 : decode cX4_isBefore 82 = .ok (.ireturn, 1) := by decide +kernel
theorem cwX4_isBefore : mw_cwV yX4_isBefore cX4_isBefore 3 ((some .boolean)) 2 := ⟨⟨wd_4, wd_1495, by decide +kernel⟩, wd_1494, sl_99⟩
set_option maxHeartbeats 4000000 in
set_option maxRecDepth 100000 in
theorem tX4_isBefore (l : Launch) (G : mwG) (ad : Nat → Nat) (fu : Nat) (a1 : Int32) (a2 : Int32) (M : mwM) (L : mwL) {r0 : Int32} {M0 : mwM} {L0 : mwL} (hD : DX4_isBefore fu a1 a2 M L = some (r0, M0, L0)) : Met l yX4_isBefore (Cond.code yX4_isBefore cX4_isBefore 3 ((some .boolean)) :: GT) ({ frames := 0, cells := 0, slots := 0, locals := 0 }) (mw_Pre G ad NF TF FF M L [.ref (ad 5), .int a1, .int a2]) (mw_Qi G ad NF TF FF (mw_eqI r0 M0 L0)) 0 0 (mw_fr G) := by
  refine mw_enter (by decide) (Nat.le_of_ble_eq_true rfl) ?_
  intro p e s m below meth c ls C hr hlocks hnm hw hl
  have hl : lv_has ls 3 [(0, .ref (ad 5)), (1, .int a1), (2, .int a2)] := hl
  have hb43 : ∀ (s0 : Int32) (M : mwM) (L : mwL) (H : Heap) (locs : List Loc) (ls : Array Slot), fX4_isBefore_b43 fu a1 a2 s0 M L = some (r0, M0, L0) → mw_W G ad NF TF FF M L H locs → lv_has ls 3 [] → W p l e ({ frames := 0, cells := 0, slots := 0, locals := 0 }) s m [.ref (ad 5), .int a1, .int a2].toArray below meth c H locs 0 0 (MQ below (mw_Qi G ad NF TF FF (mw_eqI r0 M0 L0)) [.ref (ad 5), .int a1, .int a2].toArray s 0 0 (mw_fr G)) (F0 m 43 ls [.int s0]) := by
    intro s0 M L H locs ls hD hw hl
    unfold fX4_isBefore_b43 at hD
    obtain ⟨z1, hD⟩ := g_zz hD
    exact mr_iret C hr hlocks hw (nz_zz z1) (Option.some.inj hD) dX4_isBefore_43
  have hb82 : ∀ (s0 : Int32) (M : mwM) (L : mwL) (H : Heap) (locs : List Loc) (ls : Array Slot), fX4_isBefore_b82 fu a1 a2 s0 M L = some (r0, M0, L0) → mw_W G ad NF TF FF M L H locs → lv_has ls 3 [] → W p l e ({ frames := 0, cells := 0, slots := 0, locals := 0 }) s m [.ref (ad 5), .int a1, .int a2].toArray below meth c H locs 0 0 (MQ below (mw_Qi G ad NF TF FF (mw_eqI r0 M0 L0)) [.ref (ad 5), .int a1, .int a2].toArray s 0 0 (mw_fr G)) (F0 m 82 ls [.int s0]) := by
    intro s0 M L H locs ls hD hw hl
    unfold fX4_isBefore_b82 at hD
    obtain ⟨z2, hD⟩ := g_zz hD
    exact mr_iret C hr hlocks hw (nz_zz z2) (Option.some.inj hD) dX4_isBefore_82
  have hb81 : ∀ (M : mwM) (L : mwL) (H : Heap) (locs : List Loc) (ls : Array Slot), fX4_isBefore_b81 fu a1 a2 M L = some (r0, M0, L0) → mw_W G ad NF TF FF M L H locs → lv_has ls 3 [] → W p l e ({ frames := 0, cells := 0, slots := 0, locals := 0 }) s m [.ref (ad 5), .int a1, .int a2].toArray below meth c H locs 0 0 (MQ below (mw_Qi G ad NF TF FF (mw_eqI r0 M0 L0)) [.ref (ad 5), .int a1, .int a2].toArray s 0 0 (mw_fr G)) (F0 m 81 ls []) := by
    intro M L H locs ls hD hw hl
    unfold fX4_isBefore_b81 at hD
    refine lv_iconst (v := 0) C.1.1 C.1.2.1 dX4_isBefore_81 (by decide) ?_
    exact hb82 0 M L _ _ ls hD hw (lv_sub hl [] rfl)
  unfold DX4_isBefore at hD
  refine lv_aload_n C.1.1 C.1.2.1 dX4_isBefore_0 rfl (lv_at hl 0 rfl) ?_
  refine mr_getR C hw kc_4 0 (by decide) tf_5 ff_5_0 wd_63 dX4_isBefore_1 (by decide) rfl ?_
  refine lv_iconst (v := 0) C.1.1 C.1.2.1 dX4_isBefore_4 (by decide) ?_
  refine mr_aald C hw (by decide) tf_6 (by decide) (by decide) rfl rfl (show vp_in 0 11 from by unfold vp_in; decide) ff_6_0 dX4_isBefore_5 ?_
  refine lv_iload_n C.1.1 C.1.2.1 dX4_isBefore_6 rfl (lv_at hl 1 rfl) ?_
  obtain ⟨q4, hD⟩ := g_ck hD
  refine mr_iald C hw (by decide) tf_7 q4 dX4_isBefore_7 ?_
  refine lv_aload_n C.1.1 C.1.2.1 dX4_isBefore_8 rfl (lv_at hl 0 rfl) ?_
  refine mr_getR C hw kc_4 0 (by decide) tf_5 ff_5_0 wd_63 dX4_isBefore_9 (by decide) rfl ?_
  refine lv_iconst (v := 0) C.1.1 C.1.2.1 dX4_isBefore_12 (by decide) ?_
  refine mr_aald C hw (by decide) tf_6 (by decide) (by decide) rfl rfl (show vp_in 0 11 from by unfold vp_in; decide) ff_6_0 dX4_isBefore_13 ?_
  refine lv_iload_n C.1.1 C.1.2.1 dX4_isBefore_14 rfl (lv_at hl 2 rfl) ?_
  obtain ⟨q6, hD⟩ := g_ck hD
  refine mr_iald C hw (by decide) tf_7 q6 dX4_isBefore_15 ?_
  refine lv_icmp_eq (tgt := 44) C.1.1 C.1.2.1 dX4_isBefore_16 (by decide) (fun c7 => ?_) (fun c7 => ?_)
  · replace hD := g_pos c7 hD
    refine lv_aload_n C.1.1 C.1.2.1 dX4_isBefore_44 rfl (lv_at hl 0 rfl) ?_
    refine mr_getR C hw kc_4 0 (by decide) tf_5 ff_5_0 wd_63 dX4_isBefore_45 (by decide) rfl ?_
    refine lv_iconst (v := 5) C.1.1 C.1.2.1 dX4_isBefore_48 (by decide) ?_
    refine mr_aald C hw (by decide) tf_6 (by decide) (by decide) rfl rfl (show vp_in 5 11 from by unfold vp_in; decide) ff_6_5 dX4_isBefore_49 ?_
    refine lv_iload_n C.1.1 C.1.2.1 dX4_isBefore_50 rfl (lv_at hl 2 rfl) ?_
    obtain ⟨q9, hD⟩ := g_ck hD
    refine mr_iald C hw (by decide) tf_12 q9 dX4_isBefore_51 ?_
    refine lv_iconst (v := 2) C.1.1 C.1.2.1 dX4_isBefore_52 (by decide) ?_
    refine lv_icmp_eq (tgt := 81) C.1.1 C.1.2.1 dX4_isBefore_53 (by decide) (fun c10 => ?_) (fun c10 => ?_)
    · replace hD := g_pos c10 hD
      exact hb81 M L _ _ ls hD hw (lv_sub hl [] rfl)
    · replace hD := g_neg c10 hD
      refine lv_aload_n C.1.1 C.1.2.1 dX4_isBefore_56 rfl (lv_at hl 0 rfl) ?_
      refine mr_getR C hw kc_4 0 (by decide) tf_5 ff_5_0 wd_63 dX4_isBefore_57 (by decide) rfl ?_
      refine lv_bipush (v := 8) C.1.1 C.1.2.1 dX4_isBefore_60 (by decide) ?_
      refine mr_aald C hw (by decide) tf_6 (by decide) (by decide) rfl rfl (show vp_in 8 11 from by unfold vp_in; decide) ff_6_8 dX4_isBefore_62 ?_
      refine lv_iload_n C.1.1 C.1.2.1 dX4_isBefore_63 rfl (lv_at hl 1 rfl) ?_
      obtain ⟨q12, hD⟩ := g_ck hD
      refine mr_iald C hw (by decide) tf_15 q12 dX4_isBefore_64 ?_
      refine lv_aload_n C.1.1 C.1.2.1 dX4_isBefore_65 rfl (lv_at hl 0 rfl) ?_
      refine mr_getR C hw kc_4 0 (by decide) tf_5 ff_5_0 wd_63 dX4_isBefore_66 (by decide) rfl ?_
      refine lv_bipush (v := 8) C.1.1 C.1.2.1 dX4_isBefore_69 (by decide) ?_
      refine mr_aald C hw (by decide) tf_6 (by decide) (by decide) rfl rfl (show vp_in 8 11 from by unfold vp_in; decide) ff_6_8 dX4_isBefore_71 ?_
      refine lv_iload_n C.1.1 C.1.2.1 dX4_isBefore_72 rfl (lv_at hl 2 rfl) ?_
      obtain ⟨q14, hD⟩ := g_ck hD
      refine mr_iald C hw (by decide) tf_15 q14 dX4_isBefore_73 ?_
      refine lv_icmp_ge (tgt := 81) C.1.1 C.1.2.1 dX4_isBefore_74 (by decide) (fun c15 => ?_) (fun c15 => ?_)
      · replace hD := g_pos c15 hD
        exact hb81 M L _ _ ls hD hw (lv_sub hl [] rfl)
      · replace hD := g_neg c15 hD
        refine lv_iconst (v := 1) C.1.1 C.1.2.1 dX4_isBefore_77 (by decide) ?_
        refine lv_goto (tgt := 82) C.1.1 C.1.2.1 dX4_isBefore_78 (by decide) ?_
        exact hb82 1 M L _ _ ls hD hw (lv_sub hl [] rfl)
  · replace hD := g_neg c7 hD
    refine lv_aload_n C.1.1 C.1.2.1 dX4_isBefore_19 rfl (lv_at hl 0 rfl) ?_
    refine mr_getR C hw kc_4 0 (by decide) tf_5 ff_5_0 wd_63 dX4_isBefore_20 (by decide) rfl ?_
    refine lv_iconst (v := 0) C.1.1 C.1.2.1 dX4_isBefore_23 (by decide) ?_
    refine mr_aald C hw (by decide) tf_6 (by decide) (by decide) rfl rfl (show vp_in 0 11 from by unfold vp_in; decide) ff_6_0 dX4_isBefore_24 ?_
    refine lv_iload_n C.1.1 C.1.2.1 dX4_isBefore_25 rfl (lv_at hl 1 rfl) ?_
    obtain ⟨q17, hD⟩ := g_ck hD
    refine mr_iald C hw (by decide) tf_7 q17 dX4_isBefore_26 ?_
    refine lv_aload_n C.1.1 C.1.2.1 dX4_isBefore_27 rfl (lv_at hl 0 rfl) ?_
    refine mr_getR C hw kc_4 0 (by decide) tf_5 ff_5_0 wd_63 dX4_isBefore_28 (by decide) rfl ?_
    refine lv_iconst (v := 0) C.1.1 C.1.2.1 dX4_isBefore_31 (by decide) ?_
    refine mr_aald C hw (by decide) tf_6 (by decide) (by decide) rfl rfl (show vp_in 0 11 from by unfold vp_in; decide) ff_6_0 dX4_isBefore_32 ?_
    refine lv_iload_n C.1.1 C.1.2.1 dX4_isBefore_33 rfl (lv_at hl 2 rfl) ?_
    obtain ⟨q19, hD⟩ := g_ck hD
    refine mr_iald C hw (by decide) tf_7 q19 dX4_isBefore_34 ?_
    refine lv_icmp_le (tgt := 42) C.1.1 C.1.2.1 dX4_isBefore_35 (by decide) (fun c20 => ?_) (fun c20 => ?_)
    · replace hD := g_pos c20 hD
      refine lv_iconst (v := 0) C.1.1 C.1.2.1 dX4_isBefore_42 (by decide) ?_
      exact hb43 0 M L _ _ ls hD hw (lv_sub hl [] rfl)
    · replace hD := g_neg c20 hD
      refine lv_iconst (v := 1) C.1.1 C.1.2.1 dX4_isBefore_38 (by decide) ?_
      refine lv_goto (tgt := 43) C.1.1 C.1.2.1 dX4_isBefore_39 (by decide) ?_
      exact hb43 1 M L _ _ ls hD hw (lv_sub hl [] rfl)

theorem dX4_choose_0 : decode cX4_choose 0 = .ok (.aload_n 0, 1) := by decide +kernel
theorem dX4_choose_1 : decode cX4_choose 1 = .ok (.getfield 16, 3) := by decide +kernel
theorem dX4_choose_4 : decode cX4_choose 4 = .ok (.iload_n 1, 1) := by decide +kernel
theorem dX4_choose_5 : decode cX4_choose 5 = .ok (.iaload, 1) := by decide +kernel
theorem dX4_choose_6 : decode cX4_choose 6 = .ok (.istore_n 2, 1) := by decide +kernel
theorem dX4_choose_7 : decode cX4_choose 7 = .ok (.iconst 0, 1) := by decide +kernel
theorem dX4_choose_8 : decode cX4_choose 8 = .ok (.istore_n 3, 1) := by decide +kernel
theorem dX4_choose_9 : decode cX4_choose 9 = .ok (.iload_n 3, 1) := by decide +kernel
theorem dX4_choose_10 : decode cX4_choose 10 = .ok (.aload_n 0, 1) := by decide +kernel
theorem dX4_choose_11 : decode cX4_choose 11 = .ok (.getfield 23, 3) := by decide +kernel
theorem dX4_choose_14 : decode cX4_choose 14 = .ok (.if_icmp .ge 48, 3) := by decide +kernel
theorem dX4_choose_17 : decode cX4_choose 17 = .ok (.aload_n 0, 1) := by decide +kernel
theorem dX4_choose_18 : decode cX4_choose 18 = .ok (.getfield 11, 3) := by decide +kernel
theorem dX4_choose_21 : decode cX4_choose 21 = .ok (.iconst 1, 1) := by decide +kernel
theorem dX4_choose_22 : decode cX4_choose 22 = .ok (.aaload, 1) := by decide +kernel
theorem dX4_choose_23 : decode cX4_choose 23 = .ok (.iload_n 3, 1) := by decide +kernel
theorem dX4_choose_24 : decode cX4_choose 24 = .ok (.iaload, 1) := by decide +kernel
theorem dX4_choose_25 : decode cX4_choose 25 = .ok (.iload_n 1, 1) := by decide +kernel
theorem dX4_choose_26 : decode cX4_choose 26 = .ok (.if_icmp .ne 30, 3) := by decide +kernel
theorem dX4_choose_29 : decode cX4_choose 29 = .ok (.aload_n 0, 1) := by decide +kernel
theorem dX4_choose_30 : decode cX4_choose 30 = .ok (.getfield 11, 3) := by decide +kernel
theorem dX4_choose_33 : decode cX4_choose 33 = .ok (.iconst 5, 1) := by decide +kernel
theorem dX4_choose_34 : decode cX4_choose 34 = .ok (.aaload, 1) := by decide +kernel
theorem dX4_choose_35 : decode cX4_choose 35 = .ok (.iload_n 3, 1) := by decide +kernel
theorem dX4_choose_36 : decode cX4_choose 36 = .ok (.iaload, 1) := by decide +kernel
theorem dX4_choose_37 : decode cX4_choose 37 = .ok (.iconst 1, 1) := by decide +kernel
theorem dX4_choose_38 : decode cX4_choose 38 = .ok (.if_icmp .ne 18, 3) := by decide +kernel
theorem dX4_choose_41 : decode cX4_choose 41 = .ok (.iload_n 2, 1) := by decide +kernel
theorem dX4_choose_42 : decode cX4_choose 42 = .ok (.ifCond .lt 12, 3) := by decide +kernel
theorem dX4_choose_45 : decode cX4_choose 45 = .ok (.aload_n 0, 1) := by decide +kernel
theorem dX4_choose_46 : decode cX4_choose 46 = .ok (.iload_n 3, 1) := by decide +kernel
theorem dX4_choose_47 : decode cX4_choose 47 = .ok (.iload_n 2, 1) := by decide +kernel
theorem dX4_choose_48 : decode cX4_choose 48 = .ok (.invokevirtual 53, 3) := by decide +kernel
theorem dX4_choose_51 : decode cX4_choose 51 = .ok (.ifCond .eq 5, 3) := by decide +kernel
theorem dX4_choose_54 : decode cX4_choose 54 = .ok (.iload_n 3, 1) := by decide +kernel
theorem dX4_choose_55 : decode cX4_choose 55 = .ok (.istore_n 2, 1) := by decide +kernel
theorem dX4_choose_56 : decode cX4_choose 56 = .ok (.iinc 3 1, 3) := by decide +kernel
theorem dX4_choose_59 : decode cX4_choose 59 = .ok (.goto (-50), 3) := by decide +kernel
theorem dX4_choose_62 : decode cX4_choose 62 = .ok (.aload_n 0, 1) := by decide +kernel
theorem dX4_choose_63 : decode cX4_choose 63 = .ok (.getfield 16, 3) := by decide +kernel
theorem dX4_choose_66 : decode cX4_choose 66 = .ok (.iload_n 1, 1) := by decide +kernel
theorem dX4_choose_67 : decode cX4_choose 67 = .ok (.iaload, 1) := by decide +kernel
theorem dX4_choose_68 : decode cX4_choose 68 = .ok (.ifCond .lt 17, 3) := by decide +kernel
theorem dX4_choose_71 : decode cX4_choose 71 = .ok (.aload_n 0, 1) := by decide +kernel
theorem dX4_choose_72 : decode cX4_choose 72 = .ok (.getfield 11, 3) := by decide +kernel
theorem dX4_choose_75 : decode cX4_choose 75 = .ok (.iconst 5, 1) := by decide +kernel
theorem dX4_choose_76 : decode cX4_choose 76 = .ok (.aaload, 1) := by decide +kernel
theorem dX4_choose_77 : decode cX4_choose 77 = .ok (.aload_n 0, 1) := by decide +kernel
theorem dX4_choose_78 : decode cX4_choose 78 = .ok (.getfield 16, 3) := by decide +kernel
theorem dX4_choose_81 : decode cX4_choose 81 = .ok (.iload_n 1, 1) := by decide +kernel
theorem dX4_choose_82 : decode cX4_choose 82 = .ok (.iaload, 1) := by decide +kernel
theorem dX4_choose_83 : decode cX4_choose 83 = .ok (.iconst 1, 1) := by decide +kernel
theorem dX4_choose_84 : decode cX4_choose 84 = .ok (.iastore, 1) := by decide +kernel
theorem dX4_choose_85 : decode cX4_choose 85 = .ok (.iload_n 2, 1) := by decide +kernel
theorem dX4_choose_86 : decode cX4_choose 86 = .ok (.ifCond .lt 12, 3) := by decide +kernel
theorem dX4_choose_89 : decode cX4_choose 89 = .ok (.aload_n 0, 1) := by decide +kernel
theorem dX4_choose_90 : decode cX4_choose 90 = .ok (.getfield 11, 3) := by decide +kernel
theorem dX4_choose_93 : decode cX4_choose 93 = .ok (.iconst 5, 1) := by decide +kernel
theorem dX4_choose_94 : decode cX4_choose 94 = .ok (.aaload, 1) := by decide +kernel
theorem dX4_choose_95 : decode cX4_choose 95 = .ok (.iload_n 2, 1) := by decide +kernel
theorem dX4_choose_96 : decode cX4_choose 96 = .ok (.iconst 2, 1) := by decide +kernel
theorem dX4_choose_97 : decode cX4_choose 97 = .ok (.iastore, 1) := by decide +kernel
theorem dX4_choose_98 : decode cX4_choose 98 = .ok (.aload_n 0, 1) := by decide +kernel
theorem dX4_choose_99 : decode cX4_choose 99 = .ok (.getfield 16, 3) := by decide +kernel
theorem dX4_choose_102 : decode cX4_choose 102 = .ok (.iload_n 1, 1) := by decide +kernel
theorem dX4_choose_103 : decode cX4_choose 103 = .ok (.iload_n 2, 1) := by decide +kernel
theorem dX4_choose_104 : decode cX4_choose 104 = .ok (.iastore, 1) := by decide +kernel
theorem dX4_choose_105 : decode cX4_choose 105 = .ok (.return_, 1) := by decide +kernel
theorem cwX4_choose : mw_cwV yX4_choose cX4_choose 4 (none) 1 := ⟨⟨wd_4, wd_1491, by decide +kernel⟩, wd_1490, sl_98⟩
set_option maxHeartbeats 4000000 in
set_option maxRecDepth 100000 in
theorem tX4_choose (l : Launch) (G : mwG) (ad : Nat → Nat) (fu : Nat) (a1 : Int32) (M : mwM) (L : mwL) {M0 : mwM} {L0 : mwL} (hD : DX4_choose fu a1 M L = some (M0, L0)) : Met l yX4_choose (Cond.code yX4_choose cX4_choose 4 (none) :: GT) ({ frames := 1, cells := 0, slots := 0, locals := 22 }) (mw_Pre G ad NF TF FF M L [.ref (ad 5), .int a1]) (mw_Qv G ad NF TF FF (mw_eqV M0 L0)) 0 0 (mw_fr G) := by
  refine mw_enter (by decide) (Nat.le_of_ble_eq_true rfl) ?_
  intro p e s m below meth c ls C hr hlocks hnm hw hl
  have hl : lv_has ls 4 [(0, .ref (ad 5)), (1, .int a1)] := hl
  have hb98 : ∀ (v2 : Int32) (M : mwM) (L : mwL) (H : Heap) (locs : List Loc) (ls : Array Slot), fX4_choose_b98 fu a1 v2 M L = some (M0, L0) → mw_W G ad NF TF FF M L H locs → lv_has ls 4 [(0, .ref (ad 5)), (1, .int a1), (2, .int v2)] → W p l e ({ frames := 1, cells := 0, slots := 0, locals := 22 }) s m [.ref (ad 5), .int a1].toArray below meth c H locs 0 0 (MQ below (mw_Qv G ad NF TF FF (mw_eqV M0 L0)) [.ref (ad 5), .int a1].toArray s 0 0 (mw_fr G)) (F0 m 98 ls []) := by
    intro v2 M L H locs ls hD hw hl
    unfold fX4_choose_b98 at hD
    refine lv_aload_n C.1.1 C.1.2.1 dX4_choose_98 rfl (lv_at hl 0 rfl) ?_
    refine mr_getR C hw kc_4 1 (by decide) tf_5 ff_5_1 wd_66 dX4_choose_99 (by decide) rfl ?_
    refine lv_iload_n C.1.1 C.1.2.1 dX4_choose_102 rfl (lv_at hl 1 rfl) ?_
    refine lv_iload_n C.1.1 C.1.2.1 dX4_choose_103 rfl (lv_at hl 2 rfl) ?_
    obtain ⟨q24, hD⟩ := g_ck hD
    obtain ⟨M25, eM25, hD⟩ := g_let hD
    refine mr_iast C hw (by decide) tf_18 q24 dX4_choose_104 (fun H locs hw => ?_)
    replace hw : mw_W G ad NF TF FF M25 L H locs := by rw [eM25]; exact hw
    exact mr_vret C hr hlocks hw (Option.some.inj hD) dX4_choose_105
  have hb85 : ∀ (v2 : Int32) (M : mwM) (L : mwL) (H : Heap) (locs : List Loc) (ls : Array Slot), fX4_choose_b85 fu a1 v2 M L = some (M0, L0) → mw_W G ad NF TF FF M L H locs → lv_has ls 4 [(0, .ref (ad 5)), (1, .int a1), (2, .int v2)] → W p l e ({ frames := 1, cells := 0, slots := 0, locals := 22 }) s m [.ref (ad 5), .int a1].toArray below meth c H locs 0 0 (MQ below (mw_Qv G ad NF TF FF (mw_eqV M0 L0)) [.ref (ad 5), .int a1].toArray s 0 0 (mw_fr G)) (F0 m 85 ls []) := by
    intro v2 M L H locs ls hD hw hl
    unfold fX4_choose_b85 at hD
    refine lv_iload_n C.1.1 C.1.2.1 dX4_choose_85 rfl (lv_at hl 2 rfl) ?_
    refine lv_if_lt (tgt := 98) C.1.1 C.1.2.1 dX4_choose_86 (by decide) (fun c20 => ?_) (fun c20 => ?_)
    · replace hD := g_pos c20 hD
      exact hb98 v2 M L _ _ ls hD hw (lv_sub hl [0, 1, 2] rfl)
    · replace hD := g_neg c20 hD
      refine lv_aload_n C.1.1 C.1.2.1 dX4_choose_89 rfl (lv_at hl 0 rfl) ?_
      refine mr_getR C hw kc_4 0 (by decide) tf_5 ff_5_0 wd_63 dX4_choose_90 (by decide) rfl ?_
      refine lv_iconst (v := 5) C.1.1 C.1.2.1 dX4_choose_93 (by decide) ?_
      refine mr_aald C hw (by decide) tf_6 (by decide) (by decide) rfl rfl (show vp_in 5 11 from by unfold vp_in; decide) ff_6_5 dX4_choose_94 ?_
      refine lv_iload_n C.1.1 C.1.2.1 dX4_choose_95 rfl (lv_at hl 2 rfl) ?_
      refine lv_iconst (v := 2) C.1.1 C.1.2.1 dX4_choose_96 (by decide) ?_
      obtain ⟨q22, hD⟩ := g_ck hD
      obtain ⟨M23, eM23, hD⟩ := g_let hD
      refine mr_iast C hw (by decide) tf_12 q22 dX4_choose_97 (fun H locs hw => ?_)
      replace hw : mw_W G ad NF TF FF M23 L H locs := by rw [eM23]; exact hw
      exact hb98 v2 M23 L _ _ ls hD hw (lv_sub hl [0, 1, 2] rfl)
  have hh9 : ∀ (f : Nat) (v2 : Int32) (v3 : Int32) (M : mwM) (L : mwL) (H : Heap) (locs : List Loc) (ls : Array Slot), fX4_choose_h9 fu a1 f (v2, v3, M, L) = some (M0, L0) → mw_W G ad NF TF FF M L H locs → lv_has ls 4 [(0, .ref (ad 5)), (1, .int a1), (2, .int v2), (3, .int v3)] → W p l e ({ frames := 1, cells := 0, slots := 0, locals := 22 }) s m [.ref (ad 5), .int a1].toArray below meth c H locs 0 0 (MQ below (mw_Qv G ad NF TF FF (mw_eqV M0 L0)) [.ref (ad 5), .int a1].toArray s 0 0 (mw_fr G)) (F0 m 9 ls []) := by
    intro f
    induction f with
    | zero => intro v2 v3 M L H locs ls hD; cases hD
    | succ f9 ih9 =>
      intro v2 v3 M L H locs ls hD hw hl
      replace hD : fX4_choose_i9 fu a1 (fX4_choose_h9 fu a1 f9) v2 v3 M L = some (M0, L0) := hD
      have hb56 : ∀ (v2 : Int32) (v3 : Int32) (M : mwM) (L : mwL) (H : Heap) (locs : List Loc) (ls : Array Slot), fX4_choose_b56 fu a1 (fX4_choose_h9 fu a1 f9) v2 v3 M L = some (M0, L0) → mw_W G ad NF TF FF M L H locs → lv_has ls 4 [(0, .ref (ad 5)), (1, .int a1), (2, .int v2), (3, .int v3)] → W p l e ({ frames := 1, cells := 0, slots := 0, locals := 22 }) s m [.ref (ad 5), .int a1].toArray below meth c H locs 0 0 (MQ below (mw_Qv G ad NF TF FF (mw_eqV M0 L0)) [.ref (ad 5), .int a1].toArray s 0 0 (mw_fr G)) (F0 m 56 ls []) := by
        intro v2 v3 M L H locs ls hD hw hl
        unfold fX4_choose_b56 at hD
        obtain ⟨x19, ex19, hD⟩ := g_let hD
        refine lv_iinc (v := x19) (lv' := [(3, .int x19), (0, .ref (ad 5)), (1, .int a1), (2, .int v2)]) C.1.1 C.1.2.1 dX4_choose_56 hl (k := 3) rfl (by rw [ex19]; rfl) (by decide) rfl (fun ls hl => ?_)
        refine lv_goto (tgt := 9) C.1.1 C.1.2.1 dX4_choose_59 (by decide) ?_
        exact ih9 v2 x19 M L _ _ ls hD hw (lv_sub hl [1, 2, 3, 0] rfl)
      have hb54 : ∀ (v3 : Int32) (M : mwM) (L : mwL) (H : Heap) (locs : List Loc) (ls : Array Slot), fX4_choose_b54 fu a1 (fX4_choose_h9 fu a1 f9) v3 M L = some (M0, L0) → mw_W G ad NF TF FF M L H locs → lv_has ls 4 [(0, .ref (ad 5)), (1, .int a1), (3, .int v3)] → W p l e ({ frames := 1, cells := 0, slots := 0, locals := 22 }) s m [.ref (ad 5), .int a1].toArray below meth c H locs 0 0 (MQ below (mw_Qv G ad NF TF FF (mw_eqV M0 L0)) [.ref (ad 5), .int a1].toArray s 0 0 (mw_fr G)) (F0 m 54 ls []) := by
        intro v3 M L H locs ls hD hw hl
        unfold fX4_choose_b54 at hD
        refine lv_iload_n C.1.1 C.1.2.1 dX4_choose_54 rfl (lv_at hl 2 rfl) ?_
        refine lv_istore_n (lv' := [(2, .int v3), (0, .ref (ad 5)), (1, .int a1), (3, .int v3)]) C.1.1 C.1.2.1 dX4_choose_55 rfl hl (by decide) rfl (fun ls hl => ?_)
        exact hb56 v3 v3 M L _ _ ls hD hw (lv_sub hl [1, 2, 0, 3] rfl)
      unfold fX4_choose_i9 at hD
      refine lv_iload_n C.1.1 C.1.2.1 dX4_choose_9 rfl (lv_at hl 3 rfl) ?_
      refine lv_aload_n C.1.1 C.1.2.1 dX4_choose_10 rfl (lv_at hl 0 rfl) ?_
      refine mr_getI C hw kc_4 3 (by decide) tf_5 wd_68 dX4_choose_11 (by decide) rfl ?_
      refine lv_icmp_ge (tgt := 62) C.1.1 C.1.2.1 dX4_choose_14 (by decide) (fun c1 => ?_) (fun c1 => ?_)
      · replace hD := g_pos c1 hD
        refine lv_aload_n C.1.1 C.1.2.1 dX4_choose_62 rfl (lv_at hl 0 rfl) ?_
        refine mr_getR C hw kc_4 1 (by decide) tf_5 ff_5_1 wd_66 dX4_choose_63 (by decide) rfl ?_
        refine lv_iload_n C.1.1 C.1.2.1 dX4_choose_66 rfl (lv_at hl 1 rfl) ?_
        obtain ⟨q2, hD⟩ := g_ck hD
        refine mr_iald C hw (by decide) tf_18 q2 dX4_choose_67 ?_
        refine lv_if_lt (tgt := 85) C.1.1 C.1.2.1 dX4_choose_68 (by decide) (fun c3 => ?_) (fun c3 => ?_)
        · replace hD := g_pos c3 hD
          exact hb85 v2 M L _ _ ls hD hw (lv_sub hl [0, 1, 2] rfl)
        · replace hD := g_neg c3 hD
          refine lv_aload_n C.1.1 C.1.2.1 dX4_choose_71 rfl (lv_at hl 0 rfl) ?_
          refine mr_getR C hw kc_4 0 (by decide) tf_5 ff_5_0 wd_63 dX4_choose_72 (by decide) rfl ?_
          refine lv_iconst (v := 5) C.1.1 C.1.2.1 dX4_choose_75 (by decide) ?_
          refine mr_aald C hw (by decide) tf_6 (by decide) (by decide) rfl rfl (show vp_in 5 11 from by unfold vp_in; decide) ff_6_5 dX4_choose_76 ?_
          refine lv_aload_n C.1.1 C.1.2.1 dX4_choose_77 rfl (lv_at hl 0 rfl) ?_
          refine mr_getR C hw kc_4 1 (by decide) tf_5 ff_5_1 wd_66 dX4_choose_78 (by decide) rfl ?_
          refine lv_iload_n C.1.1 C.1.2.1 dX4_choose_81 rfl (lv_at hl 1 rfl) ?_
          obtain ⟨q5, hD⟩ := g_ck hD
          refine mr_iald C hw (by decide) tf_18 q5 dX4_choose_82 ?_
          refine lv_iconst (v := 1) C.1.1 C.1.2.1 dX4_choose_83 (by decide) ?_
          obtain ⟨q6, hD⟩ := g_ck hD
          obtain ⟨M7, eM7, hD⟩ := g_let hD
          refine mr_iast C hw (by decide) tf_12 q6 dX4_choose_84 (fun H locs hw => ?_)
          replace hw : mw_W G ad NF TF FF M7 L H locs := by rw [eM7]; exact hw
          exact hb85 v2 M7 L _ _ ls hD hw (lv_sub hl [0, 1, 2] rfl)
      · replace hD := g_neg c1 hD
        refine lv_aload_n C.1.1 C.1.2.1 dX4_choose_17 rfl (lv_at hl 0 rfl) ?_
        refine mr_getR C hw kc_4 0 (by decide) tf_5 ff_5_0 wd_63 dX4_choose_18 (by decide) rfl ?_
        refine lv_iconst (v := 1) C.1.1 C.1.2.1 dX4_choose_21 (by decide) ?_
        refine mr_aald C hw (by decide) tf_6 (by decide) (by decide) rfl rfl (show vp_in 1 11 from by unfold vp_in; decide) ff_6_1 dX4_choose_22 ?_
        refine lv_iload_n C.1.1 C.1.2.1 dX4_choose_23 rfl (lv_at hl 3 rfl) ?_
        obtain ⟨q9, hD⟩ := g_ck hD
        refine mr_iald C hw (by decide) tf_8 q9 dX4_choose_24 ?_
        refine lv_iload_n C.1.1 C.1.2.1 dX4_choose_25 rfl (lv_at hl 1 rfl) ?_
        refine lv_icmp_ne (tgt := 56) C.1.1 C.1.2.1 dX4_choose_26 (by decide) (fun c10 => ?_) (fun c10 => ?_)
        · replace hD := g_neg c10 hD
          exact hb56 v2 v3 M L _ _ ls hD hw (lv_sub hl [0, 1, 2, 3] rfl)
        · replace hD := g_pos c10 hD
          refine lv_aload_n C.1.1 C.1.2.1 dX4_choose_29 rfl (lv_at hl 0 rfl) ?_
          refine mr_getR C hw kc_4 0 (by decide) tf_5 ff_5_0 wd_63 dX4_choose_30 (by decide) rfl ?_
          refine lv_iconst (v := 5) C.1.1 C.1.2.1 dX4_choose_33 (by decide) ?_
          refine mr_aald C hw (by decide) tf_6 (by decide) (by decide) rfl rfl (show vp_in 5 11 from by unfold vp_in; decide) ff_6_5 dX4_choose_34 ?_
          refine lv_iload_n C.1.1 C.1.2.1 dX4_choose_35 rfl (lv_at hl 3 rfl) ?_
          obtain ⟨q12, hD⟩ := g_ck hD
          refine mr_iald C hw (by decide) tf_12 q12 dX4_choose_36 ?_
          refine lv_iconst (v := 1) C.1.1 C.1.2.1 dX4_choose_37 (by decide) ?_
          refine lv_icmp_ne (tgt := 56) C.1.1 C.1.2.1 dX4_choose_38 (by decide) (fun c13 => ?_) (fun c13 => ?_)
          · replace hD := g_neg c13 hD
            exact hb56 v2 v3 M L _ _ ls hD hw (lv_sub hl [0, 1, 2, 3] rfl)
          · replace hD := g_pos c13 hD
            refine lv_iload_n C.1.1 C.1.2.1 dX4_choose_41 rfl (lv_at hl 2 rfl) ?_
            refine lv_if_lt (tgt := 54) C.1.1 C.1.2.1 dX4_choose_42 (by decide) (fun c14 => ?_) (fun c14 => ?_)
            · replace hD := g_pos c14 hD
              exact hb54 v3 M L _ _ ls hD hw (lv_sub hl [0, 1, 3] rfl)
            · replace hD := g_neg c14 hD
              refine lv_aload_n C.1.1 C.1.2.1 dX4_choose_45 rfl (lv_at hl 0 rfl) ?_
              refine lv_iload_n C.1.1 C.1.2.1 dX4_choose_46 rfl (lv_at hl 3 rfl) ?_
              refine lv_iload_n C.1.1 C.1.2.1 dX4_choose_47 rfl (lv_at hl 2 rfl) ?_
              obtain ⟨r17, M15, L16, h1, hD⟩ := g_b3 hD
              refine md_cvI (As := [.int v3, .int v2]) (rest := []) C hw (tX4_isBefore l G ad fu v3 v2 M L h1) kc_4 (by decide) tf_5 wd_1492 cwX4_isBefore ⟨Nat.le_of_ble_eq_true rfl, Nat.le_of_ble_eq_true rfl⟩ rfl hl.1 (Nat.le_of_ble_eq_true rfl) dX4_choose_48 rfl rfl ⟨Nat.zero_le _, Nat.zero_le _⟩ rfl (fun H locs hw => ?_)
              refine lv_if_eq (tgt := 56) C.1.1 C.1.2.1 dX4_choose_51 (by decide) (fun c18 => ?_) (fun c18 => ?_)
              · replace hD := g_pos c18 hD
                exact hb56 v2 v3 M15 L16 _ _ ls hD hw (lv_sub hl [0, 1, 2, 3] rfl)
              · replace hD := g_neg c18 hD
                exact hb54 v3 M15 L16 _ _ ls hD hw (lv_sub hl [0, 1, 3] rfl)
  unfold DX4_choose at hD
  refine lv_aload_n C.1.1 C.1.2.1 dX4_choose_0 rfl (lv_at hl 0 rfl) ?_
  refine mr_getR C hw kc_4 1 (by decide) tf_5 ff_5_1 wd_66 dX4_choose_1 (by decide) rfl ?_
  refine lv_iload_n C.1.1 C.1.2.1 dX4_choose_4 rfl (lv_at hl 1 rfl) ?_
  obtain ⟨q26, hD⟩ := g_ck hD
  refine mr_iald C hw (by decide) tf_18 q26 dX4_choose_5 ?_
  obtain ⟨x27, ex27, hD⟩ := g_let hD
  refine W.eq (g2 := F0 m 6 ls (.int x27 :: [])) (by rw [ex27]) ?_
  refine lv_istore_n (lv' := [(2, .int x27), (0, .ref (ad 5)), (1, .int a1)]) C.1.1 C.1.2.1 dX4_choose_6 rfl hl (by decide) rfl (fun ls hl => ?_)
  refine lv_iconst (v := 0) C.1.1 C.1.2.1 dX4_choose_7 (by decide) ?_
  refine lv_istore_n (lv' := [(3, .int 0), (2, .int x27), (0, .ref (ad 5)), (1, .int a1)]) C.1.1 C.1.2.1 dX4_choose_8 rfl hl (by decide) rfl (fun ls hl => ?_)
  exact hh9 fu x27 0 M L _ _ ls hD hw (lv_sub hl [2, 3, 1, 0] rfl)

theorem dX4_settle_0 : decode cX4_settle 0 = .ok (.iconst 0, 1) := by decide +kernel
theorem dX4_settle_1 : decode cX4_settle 1 = .ok (.istore_n 2, 1) := by decide +kernel
theorem dX4_settle_2 : decode cX4_settle 2 = .ok (.iload_n 2, 1) := by decide +kernel
theorem dX4_settle_3 : decode cX4_settle 3 = .ok (.bipush 24, 2) := by decide +kernel
theorem dX4_settle_5 : decode cX4_settle 5 = .ok (.if_icmp .gt 84, 3) := by decide +kernel
theorem dX4_settle_8 : decode cX4_settle 8 = .ok (.aload_n 0, 1) := by decide +kernel
theorem dX4_settle_9 : decode cX4_settle 9 = .ok (.iload_n 1, 1) := by decide +kernel
theorem dX4_settle_10 : decode cX4_settle 10 = .ok (.invokevirtual 50, 3) := by decide +kernel
theorem dX4_settle_13 : decode cX4_settle 13 = .ok (.aload_n 0, 1) := by decide +kernel
theorem dX4_settle_14 : decode cX4_settle 14 = .ok (.getfield 16, 3) := by decide +kernel
theorem dX4_settle_17 : decode cX4_settle 17 = .ok (.iload_n 1, 1) := by decide +kernel
theorem dX4_settle_18 : decode cX4_settle 18 = .ok (.iaload, 1) := by decide +kernel
theorem dX4_settle_19 : decode cX4_settle 19 = .ok (.istore_n 3, 1) := by decide +kernel
theorem dX4_settle_20 : decode cX4_settle 20 = .ok (.iload_n 3, 1) := by decide +kernel
theorem dX4_settle_21 : decode cX4_settle 21 = .ok (.ifCond .lt 15, 3) := by decide +kernel
theorem dX4_settle_24 : decode cX4_settle 24 = .ok (.aload_n 0, 1) := by decide +kernel
theorem dX4_settle_25 : decode cX4_settle 25 = .ok (.getfield 11, 3) := by decide +kernel
theorem dX4_settle_28 : decode cX4_settle 28 = .ok (.bipush 6, 2) := by decide +kernel
theorem dX4_settle_30 : decode cX4_settle 30 = .ok (.aaload, 1) := by decide +kernel
theorem dX4_settle_31 : decode cX4_settle 31 = .ok (.iload_n 3, 1) := by decide +kernel
theorem dX4_settle_32 : decode cX4_settle 32 = .ok (.iaload, 1) := by decide +kernel
theorem dX4_settle_33 : decode cX4_settle 33 = .ok (.ifCond .le 4, 3) := by decide +kernel
theorem dX4_settle_36 : decode cX4_settle 36 = .ok (.return_, 1) := by decide +kernel
theorem dX4_settle_37 : decode cX4_settle 37 = .ok (.aload_n 0, 1) := by decide +kernel
theorem dX4_settle_38 : decode cX4_settle 38 = .ok (.getfield 11, 3) := by decide +kernel
theorem dX4_settle_41 : decode cX4_settle 41 = .ok (.iconst 5, 1) := by decide +kernel
theorem dX4_settle_42 : decode cX4_settle 42 = .ok (.aaload, 1) := by decide +kernel
theorem dX4_settle_43 : decode cX4_settle 43 = .ok (.iload_n 3, 1) := by decide +kernel
theorem dX4_settle_44 : decode cX4_settle 44 = .ok (.iconst 0, 1) := by decide +kernel
theorem dX4_settle_45 : decode cX4_settle 45 = .ok (.iastore, 1) := by decide +kernel
theorem dX4_settle_46 : decode cX4_settle 46 = .ok (.aload_n 0, 1) := by decide +kernel
theorem dX4_settle_47 : decode cX4_settle 47 = .ok (.getfield 16, 3) := by decide +kernel
theorem dX4_settle_50 : decode cX4_settle 50 = .ok (.iload_n 1, 1) := by decide +kernel
theorem dX4_settle_51 : decode cX4_settle 51 = .ok (.iconst (-1), 1) := by decide +kernel
theorem dX4_settle_52 : decode cX4_settle 52 = .ok (.iastore, 1) := by decide +kernel
theorem dX4_settle_53 : decode cX4_settle 53 = .ok (.aload_n 0, 1) := by decide +kernel
theorem dX4_settle_54 : decode cX4_settle 54 = .ok (.getfield 11, 3) := by decide +kernel
theorem dX4_settle_57 : decode cX4_settle 57 = .ok (.bipush 7, 2) := by decide +kernel
theorem dX4_settle_59 : decode cX4_settle 59 = .ok (.aaload, 1) := by decide +kernel
theorem dX4_settle_60 : decode cX4_settle 60 = .ok (.iload_n 3, 1) := by decide +kernel
theorem dX4_settle_61 : decode cX4_settle 61 = .ok (.iaload, 1) := by decide +kernel
theorem dX4_settle_62 : decode cX4_settle 62 = .ok (.ifCond .le 21, 3) := by decide +kernel
theorem dX4_settle_65 : decode cX4_settle 65 = .ok (.aload_n 0, 1) := by decide +kernel
theorem dX4_settle_66 : decode cX4_settle 66 = .ok (.getfield 11, 3) := by decide +kernel
theorem dX4_settle_69 : decode cX4_settle 69 = .ok (.bipush 7, 2) := by decide +kernel
theorem dX4_settle_71 : decode cX4_settle 71 = .ok (.aaload, 1) := by decide +kernel
theorem dX4_settle_72 : decode cX4_settle 72 = .ok (.iload_n 3, 1) := by decide +kernel
theorem dX4_settle_73 : decode cX4_settle 73 = .ok (.dup2, 1) := by decide +kernel
theorem dX4_settle_74 : decode cX4_settle 74 = .ok (.iaload, 1) := by decide +kernel
theorem dX4_settle_75 : decode cX4_settle 75 = .ok (.iconst 1, 1) := by decide +kernel
theorem dX4_settle_76 : decode cX4_settle 76 = .ok (.isub, 1) := by decide +kernel
theorem dX4_settle_77 : decode cX4_settle 77 = .ok (.iastore, 1) := by decide +kernel
theorem dX4_settle_78 : decode cX4_settle 78 = .ok (.aload_n 0, 1) := by decide +kernel
theorem dX4_settle_79 : decode cX4_settle 79 = .ok (.iload_n 3, 1) := by decide +kernel
theorem dX4_settle_80 : decode cX4_settle 80 = .ok (.invokevirtual 47, 3) := by decide +kernel
theorem dX4_settle_83 : decode cX4_settle 83 = .ok (.iinc 2 1, 3) := by decide +kernel
theorem dX4_settle_86 : decode cX4_settle 86 = .ok (.goto (-84), 3) := by decide +kernel
theorem dX4_settle_89 : decode cX4_settle 89 = .ok (.return_, 1) := by decide +kernel
theorem cwX4_settle : mw_cwV yX4_settle cX4_settle 4 (none) 1 := ⟨⟨wd_4, wd_1487, by decide +kernel⟩, wd_1486, sl_97⟩
set_option maxHeartbeats 4000000 in
set_option maxRecDepth 100000 in
theorem tX4_settle (l : Launch) (G : mwG) (ad : Nat → Nat) (fu : Nat) (a1 : Int32) (M : mwM) (L : mwL) {M0 : mwM} {L0 : mwL} (hD : DX4_settle fu a1 M L = some (M0, L0)) : Met l yX4_settle (Cond.code yX4_settle cX4_settle 4 (none) :: GT) ({ frames := 2, cells := 0, slots := 0, locals := 45 }) (mw_Pre G ad NF TF FF M L [.ref (ad 5), .int a1]) (mw_Qv G ad NF TF FF (mw_eqV M0 L0)) 0 0 (mw_fr G) := by
  refine mw_enter (by decide) (Nat.le_of_ble_eq_true rfl) ?_
  intro p e s m below meth c ls C hr hlocks hnm hw hl
  have hl : lv_has ls 4 [(0, .ref (ad 5)), (1, .int a1)] := hl
  have hb36 : ∀ (M : mwM) (L : mwL) (H : Heap) (locs : List Loc) (ls : Array Slot), fX4_settle_b36 fu a1 M L = some (M0, L0) → mw_W G ad NF TF FF M L H locs → lv_has ls 4 [] → W p l e ({ frames := 2, cells := 0, slots := 0, locals := 45 }) s m [.ref (ad 5), .int a1].toArray below meth c H locs 0 0 (MQ below (mw_Qv G ad NF TF FF (mw_eqV M0 L0)) [.ref (ad 5), .int a1].toArray s 0 0 (mw_fr G)) (F0 m 36 ls []) := by
    intro M L H locs ls hD hw hl
    unfold fX4_settle_b36 at hD
    exact mr_vret C hr hlocks hw (Option.some.inj hD) dX4_settle_36
  have hh2 : ∀ (f : Nat) (v2 : Int32) (M : mwM) (L : mwL) (H : Heap) (locs : List Loc) (ls : Array Slot), fX4_settle_h2 fu a1 f (v2, M, L) = some (M0, L0) → mw_W G ad NF TF FF M L H locs → lv_has ls 4 [(0, .ref (ad 5)), (1, .int a1), (2, .int v2)] → W p l e ({ frames := 2, cells := 0, slots := 0, locals := 45 }) s m [.ref (ad 5), .int a1].toArray below meth c H locs 0 0 (MQ below (mw_Qv G ad NF TF FF (mw_eqV M0 L0)) [.ref (ad 5), .int a1].toArray s 0 0 (mw_fr G)) (F0 m 2 ls []) := by
    intro f
    induction f with
    | zero => intro v2 M L H locs ls hD; cases hD
    | succ f2 ih2 =>
      intro v2 M L H locs ls hD hw hl
      replace hD : fX4_settle_i2 fu a1 (fX4_settle_h2 fu a1 f2) v2 M L = some (M0, L0) := hD
      have hb83 : ∀ (v2 : Int32) (M : mwM) (L : mwL) (H : Heap) (locs : List Loc) (ls : Array Slot), fX4_settle_b83 fu a1 (fX4_settle_h2 fu a1 f2) v2 M L = some (M0, L0) → mw_W G ad NF TF FF M L H locs → lv_has ls 4 [(0, .ref (ad 5)), (1, .int a1), (2, .int v2)] → W p l e ({ frames := 2, cells := 0, slots := 0, locals := 45 }) s m [.ref (ad 5), .int a1].toArray below meth c H locs 0 0 (MQ below (mw_Qv G ad NF TF FF (mw_eqV M0 L0)) [.ref (ad 5), .int a1].toArray s 0 0 (mw_fr G)) (F0 m 83 ls []) := by
        intro v2 M L H locs ls hD hw hl
        unfold fX4_settle_b83 at hD
        obtain ⟨x24, ex24, hD⟩ := g_let hD
        refine lv_iinc (v := x24) (lv' := [(2, .int x24), (0, .ref (ad 5)), (1, .int a1)]) C.1.1 C.1.2.1 dX4_settle_83 hl (k := 2) rfl (by rw [ex24]; rfl) (by decide) rfl (fun ls hl => ?_)
        refine lv_goto (tgt := 2) C.1.1 C.1.2.1 dX4_settle_86 (by decide) ?_
        exact ih2 x24 M L _ _ ls hD hw (lv_sub hl [1, 2, 0] rfl)
      unfold fX4_settle_i2 at hD
      refine lv_iload_n C.1.1 C.1.2.1 dX4_settle_2 rfl (lv_at hl 2 rfl) ?_
      refine lv_bipush (v := 24) C.1.1 C.1.2.1 dX4_settle_3 (by decide) ?_
      refine lv_icmp_gt (tgt := 89) C.1.1 C.1.2.1 dX4_settle_5 (by decide) (fun c1 => ?_) (fun c1 => ?_)
      · replace hD := g_pos c1 hD
        exact mr_vret C hr hlocks hw (Option.some.inj hD) dX4_settle_89
      · replace hD := g_neg c1 hD
        refine lv_aload_n C.1.1 C.1.2.1 dX4_settle_8 rfl (lv_at hl 0 rfl) ?_
        refine lv_iload_n C.1.1 C.1.2.1 dX4_settle_9 rfl (lv_at hl 1 rfl) ?_
        obtain ⟨M2, L3, h1, hD⟩ := g_b2 hD
        refine md_cvV (As := [.int a1]) (rest := []) C hw (tX4_choose l G ad fu a1 M L h1) kc_4 (by decide) tf_5 wd_1488 cwX4_choose ⟨Nat.le_of_ble_eq_true rfl, Nat.le_of_ble_eq_true rfl⟩ rfl hl.1 (Nat.le_of_ble_eq_true rfl) dX4_settle_10 rfl rfl ⟨Nat.zero_le _, Nat.zero_le _⟩ rfl (fun H locs hw => ?_)
        refine lv_aload_n C.1.1 C.1.2.1 dX4_settle_13 rfl (lv_at hl 0 rfl) ?_
        refine mr_getR C hw kc_4 1 (by decide) tf_5 ff_5_1 wd_66 dX4_settle_14 (by decide) rfl ?_
        refine lv_iload_n C.1.1 C.1.2.1 dX4_settle_17 rfl (lv_at hl 1 rfl) ?_
        obtain ⟨q4, hD⟩ := g_ck hD
        refine mr_iald C hw (by decide) tf_18 q4 dX4_settle_18 ?_
        obtain ⟨x5, ex5, hD⟩ := g_let hD
        refine W.eq (g2 := F0 m 19 ls (.int x5 :: [])) (by rw [ex5]) ?_
        refine lv_istore_n (lv' := [(3, .int x5), (0, .ref (ad 5)), (1, .int a1), (2, .int v2)]) C.1.1 C.1.2.1 dX4_settle_19 rfl hl (by decide) rfl (fun ls hl => ?_)
        refine lv_iload_n C.1.1 C.1.2.1 dX4_settle_20 rfl (lv_at hl 0 rfl) ?_
        refine lv_if_lt (tgt := 36) C.1.1 C.1.2.1 dX4_settle_21 (by decide) (fun c6 => ?_) (fun c6 => ?_)
        · replace hD := g_pos c6 hD
          exact hb36 M2 L3 _ _ ls hD hw (lv_sub hl [] rfl)
        · replace hD := g_neg c6 hD
          refine lv_aload_n C.1.1 C.1.2.1 dX4_settle_24 rfl (lv_at hl 1 rfl) ?_
          refine mr_getR C hw kc_4 0 (by decide) tf_5 ff_5_0 wd_63 dX4_settle_25 (by decide) rfl ?_
          refine lv_bipush (v := 6) C.1.1 C.1.2.1 dX4_settle_28 (by decide) ?_
          refine mr_aald C hw (by decide) tf_6 (by decide) (by decide) rfl rfl (show vp_in 6 11 from by unfold vp_in; decide) ff_6_6 dX4_settle_30 ?_
          refine lv_iload_n C.1.1 C.1.2.1 dX4_settle_31 rfl (lv_at hl 0 rfl) ?_
          obtain ⟨q8, hD⟩ := g_ck hD
          refine mr_iald C hw (by decide) tf_13 q8 dX4_settle_32 ?_
          refine lv_if_le (tgt := 37) C.1.1 C.1.2.1 dX4_settle_33 (by decide) (fun c9 => ?_) (fun c9 => ?_)
          · replace hD := g_pos c9 hD
            refine lv_aload_n C.1.1 C.1.2.1 dX4_settle_37 rfl (lv_at hl 1 rfl) ?_
            refine mr_getR C hw kc_4 0 (by decide) tf_5 ff_5_0 wd_63 dX4_settle_38 (by decide) rfl ?_
            refine lv_iconst (v := 5) C.1.1 C.1.2.1 dX4_settle_41 (by decide) ?_
            refine mr_aald C hw (by decide) tf_6 (by decide) (by decide) rfl rfl (show vp_in 5 11 from by unfold vp_in; decide) ff_6_5 dX4_settle_42 ?_
            refine lv_iload_n C.1.1 C.1.2.1 dX4_settle_43 rfl (lv_at hl 0 rfl) ?_
            refine lv_iconst (v := 0) C.1.1 C.1.2.1 dX4_settle_44 (by decide) ?_
            obtain ⟨q11, hD⟩ := g_ck hD
            obtain ⟨M12, eM12, hD⟩ := g_let hD
            refine mr_iast C hw (by decide) tf_12 q11 dX4_settle_45 (fun H locs hw => ?_)
            replace hw : mw_W G ad NF TF FF M12 L3 H locs := by rw [eM12]; exact hw
            refine lv_aload_n C.1.1 C.1.2.1 dX4_settle_46 rfl (lv_at hl 1 rfl) ?_
            refine mr_getR C hw kc_4 1 (by decide) tf_5 ff_5_1 wd_66 dX4_settle_47 (by decide) rfl ?_
            refine lv_iload_n C.1.1 C.1.2.1 dX4_settle_50 rfl (lv_at hl 2 rfl) ?_
            refine lv_iconst (v := (-1)) C.1.1 C.1.2.1 dX4_settle_51 (by decide) ?_
            obtain ⟨q13, hD⟩ := g_ck hD
            obtain ⟨M14, eM14, hD⟩ := g_let hD
            refine mr_iast C hw (by decide) tf_18 q13 dX4_settle_52 (fun H locs hw => ?_)
            replace hw : mw_W G ad NF TF FF M14 L3 H locs := by rw [eM14]; exact hw
            refine lv_aload_n C.1.1 C.1.2.1 dX4_settle_53 rfl (lv_at hl 1 rfl) ?_
            refine mr_getR C hw kc_4 0 (by decide) tf_5 ff_5_0 wd_63 dX4_settle_54 (by decide) rfl ?_
            refine lv_bipush (v := 7) C.1.1 C.1.2.1 dX4_settle_57 (by decide) ?_
            refine mr_aald C hw (by decide) tf_6 (by decide) (by decide) rfl rfl (show vp_in 7 11 from by unfold vp_in; decide) ff_6_7 dX4_settle_59 ?_
            refine lv_iload_n C.1.1 C.1.2.1 dX4_settle_60 rfl (lv_at hl 0 rfl) ?_
            obtain ⟨q16, hD⟩ := g_ck hD
            refine mr_iald C hw (by decide) tf_14 q16 dX4_settle_61 ?_
            refine lv_if_le (tgt := 83) C.1.1 C.1.2.1 dX4_settle_62 (by decide) (fun c17 => ?_) (fun c17 => ?_)
            · replace hD := g_pos c17 hD
              exact hb83 v2 M14 L3 _ _ ls hD hw (lv_sub hl [1, 2, 3] rfl)
            · replace hD := g_neg c17 hD
              refine lv_aload_n C.1.1 C.1.2.1 dX4_settle_65 rfl (lv_at hl 1 rfl) ?_
              refine mr_getR C hw kc_4 0 (by decide) tf_5 ff_5_0 wd_63 dX4_settle_66 (by decide) rfl ?_
              refine lv_bipush (v := 7) C.1.1 C.1.2.1 dX4_settle_69 (by decide) ?_
              refine mr_aald C hw (by decide) tf_6 (by decide) (by decide) rfl rfl (show vp_in 7 11 from by unfold vp_in; decide) ff_6_7 dX4_settle_71 ?_
              refine lv_iload_n C.1.1 C.1.2.1 dX4_settle_72 rfl (lv_at hl 0 rfl) ?_
              refine lv_dup2_11 C.1.1 C.1.2.1 dX4_settle_73 rfl rfl ?_
              obtain ⟨q19, hD⟩ := g_ck hD
              refine mr_iald C hw (by decide) tf_14 q19 dX4_settle_74 ?_
              refine lv_iconst (v := 1) C.1.1 C.1.2.1 dX4_settle_75 (by decide) ?_
              refine lv_isub C.1.1 C.1.2.1 dX4_settle_76 ?_
              obtain ⟨q20, hD⟩ := g_ck hD
              obtain ⟨M21, eM21, hD⟩ := g_let hD
              refine mr_iast C hw (by decide) tf_14 q20 dX4_settle_77 (fun H locs hw => ?_)
              replace hw : mw_W G ad NF TF FF M21 L3 H locs := by rw [eM21]; exact hw
              refine lv_aload_n C.1.1 C.1.2.1 dX4_settle_78 rfl (lv_at hl 1 rfl) ?_
              refine lv_iload_n C.1.1 C.1.2.1 dX4_settle_79 rfl (lv_at hl 0 rfl) ?_
              obtain ⟨M22, L23, h1, hD⟩ := g_b2 hD
              refine md_cvV (As := [.int x5]) (rest := []) C hw (tX4_makeReady l G ad fu x5 M21 L3 h1) kc_4 (by decide) tf_5 wd_1480 cwX4_makeReady ⟨Nat.le_of_ble_eq_true rfl, Nat.le_of_ble_eq_true rfl⟩ rfl hl.1 (Nat.le_of_ble_eq_true rfl) dX4_settle_80 rfl rfl ⟨Nat.zero_le _, Nat.zero_le _⟩ rfl (fun H locs hw => ?_)
              exact hb83 v2 M22 L23 _ _ ls hD hw (lv_sub hl [1, 2, 3] rfl)
          · replace hD := g_neg c9 hD
            exact hb36 M2 L3 _ _ ls hD hw (lv_sub hl [] rfl)
  unfold DX4_settle at hD
  refine lv_iconst (v := 0) C.1.1 C.1.2.1 dX4_settle_0 (by decide) ?_
  refine lv_istore_n (lv' := [(2, .int 0), (0, .ref (ad 5)), (1, .int a1)]) C.1.1 C.1.2.1 dX4_settle_1 rfl hl (by decide) rfl (fun ls hl => ?_)
  exact hh2 fu 0 M L _ _ ls hD hw (lv_sub hl [1, 2, 0] rfl)

theorem dX4_use_0 : decode cX4_use 0 = .ok (.aload_n 0, 1) := by decide +kernel
theorem dX4_use_1 : decode cX4_use 1 = .ok (.getfield 11, 3) := by decide +kernel
theorem dX4_use_4 : decode cX4_use 4 = .ok (.bipush 9, 2) := by decide +kernel
theorem dX4_use_6 : decode cX4_use 6 = .ok (.aaload, 1) := by decide +kernel
theorem dX4_use_7 : decode cX4_use 7 = .ok (.iload_n 1, 1) := by decide +kernel
theorem dX4_use_8 : decode cX4_use 8 = .ok (.dup2, 1) := by decide +kernel
theorem dX4_use_9 : decode cX4_use 9 = .ok (.iaload, 1) := by decide +kernel
theorem dX4_use_10 : decode cX4_use 10 = .ok (.iconst 1, 1) := by decide +kernel
theorem dX4_use_11 : decode cX4_use 11 = .ok (.iadd, 1) := by decide +kernel
theorem dX4_use_12 : decode cX4_use 12 = .ok (.iastore, 1) := by decide +kernel
theorem dX4_use_13 : decode cX4_use 13 = .ok (.aload_n 0, 1) := by decide +kernel
theorem dX4_use_14 : decode cX4_use 14 = .ok (.getfield 11, 3) := by decide +kernel
theorem dX4_use_17 : decode cX4_use 17 = .ok (.bipush 6, 2) := by decide +kernel
theorem dX4_use_19 : decode cX4_use 19 = .ok (.aaload, 1) := by decide +kernel
theorem dX4_use_20 : decode cX4_use 20 = .ok (.iload_n 1, 1) := by decide +kernel
theorem dX4_use_21 : decode cX4_use 21 = .ok (.dup2, 1) := by decide +kernel
theorem dX4_use_22 : decode cX4_use 22 = .ok (.iaload, 1) := by decide +kernel
theorem dX4_use_23 : decode cX4_use 23 = .ok (.iconst 1, 1) := by decide +kernel
theorem dX4_use_24 : decode cX4_use 24 = .ok (.isub, 1) := by decide +kernel
theorem dX4_use_25 : decode cX4_use 25 = .ok (.iastore, 1) := by decide +kernel
theorem dX4_use_26 : decode cX4_use 26 = .ok (.aload_n 0, 1) := by decide +kernel
theorem dX4_use_27 : decode cX4_use 27 = .ok (.getfield 11, 3) := by decide +kernel
theorem dX4_use_30 : decode cX4_use 30 = .ok (.bipush 6, 2) := by decide +kernel
theorem dX4_use_32 : decode cX4_use 32 = .ok (.aaload, 1) := by decide +kernel
theorem dX4_use_33 : decode cX4_use 33 = .ok (.iload_n 1, 1) := by decide +kernel
theorem dX4_use_34 : decode cX4_use 34 = .ok (.iaload, 1) := by decide +kernel
theorem dX4_use_35 : decode cX4_use 35 = .ok (.ifCond .ne 33, 3) := by decide +kernel
theorem dX4_use_38 : decode cX4_use 38 = .ok (.aload_n 0, 1) := by decide +kernel
theorem dX4_use_39 : decode cX4_use 39 = .ok (.getfield 11, 3) := by decide +kernel
theorem dX4_use_42 : decode cX4_use 42 = .ok (.bipush 10, 2) := by decide +kernel
theorem dX4_use_44 : decode cX4_use 44 = .ok (.aaload, 1) := by decide +kernel
theorem dX4_use_45 : decode cX4_use 45 = .ok (.iload_n 1, 1) := by decide +kernel
theorem dX4_use_46 : decode cX4_use 46 = .ok (.dup2, 1) := by decide +kernel
theorem dX4_use_47 : decode cX4_use 47 = .ok (.iaload, 1) := by decide +kernel
theorem dX4_use_48 : decode cX4_use 48 = .ok (.iconst 1, 1) := by decide +kernel
theorem dX4_use_49 : decode cX4_use 49 = .ok (.iadd, 1) := by decide +kernel
theorem dX4_use_50 : decode cX4_use 50 = .ok (.iastore, 1) := by decide +kernel
theorem dX4_use_51 : decode cX4_use 51 = .ok (.aload_n 0, 1) := by decide +kernel
theorem dX4_use_52 : decode cX4_use 52 = .ok (.dup, 1) := by decide +kernel
theorem dX4_use_53 : decode cX4_use 53 = .ok (.getfield 30, 3) := by decide +kernel
theorem dX4_use_56 : decode cX4_use 56 = .ok (.iconst 1, 1) := by decide +kernel
theorem dX4_use_57 : decode cX4_use 57 = .ok (.iload_n 1, 1) := by decide +kernel
theorem dX4_use_58 : decode cX4_use 58 = .ok (.ishl, 1) := by decide +kernel
theorem dX4_use_59 : decode cX4_use 59 = .ok (.ior, 1) := by decide +kernel
theorem dX4_use_60 : decode cX4_use 60 = .ok (.putfield 30, 3) := by decide +kernel
theorem dX4_use_63 : decode cX4_use 63 = .ok (.aload_n 0, 1) := by decide +kernel
theorem dX4_use_64 : decode cX4_use 64 = .ok (.iconst 0, 1) := by decide +kernel
theorem dX4_use_65 : decode cX4_use 65 = .ok (.putfield 33, 3) := by decide +kernel
theorem dX4_use_68 : decode cX4_use 68 = .ok (.return_, 1) := by decide +kernel
theorem cwX4_use : mw_cwV yX4_use cX4_use 2 (none) 1 := ⟨⟨wd_4, wd_1499, by decide +kernel⟩, wd_1498, sl_100⟩
set_option maxHeartbeats 4000000 in
set_option maxRecDepth 100000 in
theorem tX4_use (l : Launch) (G : mwG) (ad : Nat → Nat) (fu : Nat) (a1 : Int32) (M : mwM) (L : mwL) {M0 : mwM} {L0 : mwL} (hD : DX4_use fu a1 M L = some (M0, L0)) : Met l yX4_use (Cond.code yX4_use cX4_use 2 (none) :: GT) ({ frames := 0, cells := 0, slots := 0, locals := 0 }) (mw_Pre G ad NF TF FF M L [.ref (ad 5), .int a1]) (mw_Qv G ad NF TF FF (mw_eqV M0 L0)) 0 0 (mw_fr G) := by
  refine mw_enter (by decide) (Nat.le_of_ble_eq_true rfl) ?_
  intro p e s m below meth c ls C hr hlocks hnm hw hl
  have hl : lv_has ls 2 [(0, .ref (ad 5)), (1, .int a1)] := hl
  have hb68 : ∀ (M : mwM) (L : mwL) (H : Heap) (locs : List Loc) (ls : Array Slot), fX4_use_b68 fu a1 M L = some (M0, L0) → mw_W G ad NF TF FF M L H locs → lv_has ls 2 [] → W p l e ({ frames := 0, cells := 0, slots := 0, locals := 0 }) s m [.ref (ad 5), .int a1].toArray below meth c H locs 0 0 (MQ below (mw_Qv G ad NF TF FF (mw_eqV M0 L0)) [.ref (ad 5), .int a1].toArray s 0 0 (mw_fr G)) (F0 m 68 ls []) := by
    intro M L H locs ls hD hw hl
    unfold fX4_use_b68 at hD
    exact mr_vret C hr hlocks hw (Option.some.inj hD) dX4_use_68
  unfold DX4_use at hD
  refine lv_aload_n C.1.1 C.1.2.1 dX4_use_0 rfl (lv_at hl 0 rfl) ?_
  refine mr_getR C hw kc_4 0 (by decide) tf_5 ff_5_0 wd_63 dX4_use_1 (by decide) rfl ?_
  refine lv_bipush (v := 9) C.1.1 C.1.2.1 dX4_use_4 (by decide) ?_
  refine mr_aald C hw (by decide) tf_6 (by decide) (by decide) rfl rfl (show vp_in 9 11 from by unfold vp_in; decide) ff_6_9 dX4_use_6 ?_
  refine lv_iload_n C.1.1 C.1.2.1 dX4_use_7 rfl (lv_at hl 1 rfl) ?_
  refine lv_dup2_11 C.1.1 C.1.2.1 dX4_use_8 rfl rfl ?_
  obtain ⟨q2, hD⟩ := g_ck hD
  refine mr_iald C hw (by decide) tf_16 q2 dX4_use_9 ?_
  refine lv_iconst (v := 1) C.1.1 C.1.2.1 dX4_use_10 (by decide) ?_
  refine lv_iadd C.1.1 C.1.2.1 dX4_use_11 ?_
  obtain ⟨q3, hD⟩ := g_ck hD
  obtain ⟨M4, eM4, hD⟩ := g_let hD
  refine mr_iast C hw (by decide) tf_16 q3 dX4_use_12 (fun H locs hw => ?_)
  replace hw : mw_W G ad NF TF FF M4 L H locs := by rw [eM4]; exact hw
  refine lv_aload_n C.1.1 C.1.2.1 dX4_use_13 rfl (lv_at hl 0 rfl) ?_
  refine mr_getR C hw kc_4 0 (by decide) tf_5 ff_5_0 wd_63 dX4_use_14 (by decide) rfl ?_
  refine lv_bipush (v := 6) C.1.1 C.1.2.1 dX4_use_17 (by decide) ?_
  refine mr_aald C hw (by decide) tf_6 (by decide) (by decide) rfl rfl (show vp_in 6 11 from by unfold vp_in; decide) ff_6_6 dX4_use_19 ?_
  refine lv_iload_n C.1.1 C.1.2.1 dX4_use_20 rfl (lv_at hl 1 rfl) ?_
  refine lv_dup2_11 C.1.1 C.1.2.1 dX4_use_21 rfl rfl ?_
  obtain ⟨q6, hD⟩ := g_ck hD
  refine mr_iald C hw (by decide) tf_13 q6 dX4_use_22 ?_
  refine lv_iconst (v := 1) C.1.1 C.1.2.1 dX4_use_23 (by decide) ?_
  refine lv_isub C.1.1 C.1.2.1 dX4_use_24 ?_
  obtain ⟨q7, hD⟩ := g_ck hD
  obtain ⟨M8, eM8, hD⟩ := g_let hD
  refine mr_iast C hw (by decide) tf_13 q7 dX4_use_25 (fun H locs hw => ?_)
  replace hw : mw_W G ad NF TF FF M8 L H locs := by rw [eM8]; exact hw
  refine lv_aload_n C.1.1 C.1.2.1 dX4_use_26 rfl (lv_at hl 0 rfl) ?_
  refine mr_getR C hw kc_4 0 (by decide) tf_5 ff_5_0 wd_63 dX4_use_27 (by decide) rfl ?_
  refine lv_bipush (v := 6) C.1.1 C.1.2.1 dX4_use_30 (by decide) ?_
  refine mr_aald C hw (by decide) tf_6 (by decide) (by decide) rfl rfl (show vp_in 6 11 from by unfold vp_in; decide) ff_6_6 dX4_use_32 ?_
  refine lv_iload_n C.1.1 C.1.2.1 dX4_use_33 rfl (lv_at hl 1 rfl) ?_
  obtain ⟨q10, hD⟩ := g_ck hD
  refine mr_iald C hw (by decide) tf_13 q10 dX4_use_34 ?_
  refine lv_if_ne (tgt := 68) C.1.1 C.1.2.1 dX4_use_35 (by decide) (fun c11 => ?_) (fun c11 => ?_)
  · replace hD := g_neg c11 hD
    exact hb68 M8 L _ _ ls hD hw (lv_sub hl [] rfl)
  · replace hD := g_pos c11 hD
    refine lv_aload_n C.1.1 C.1.2.1 dX4_use_38 rfl (lv_at hl 0 rfl) ?_
    refine mr_getR C hw kc_4 0 (by decide) tf_5 ff_5_0 wd_63 dX4_use_39 (by decide) rfl ?_
    refine lv_bipush (v := 10) C.1.1 C.1.2.1 dX4_use_42 (by decide) ?_
    refine mr_aald C hw (by decide) tf_6 (by decide) (by decide) rfl rfl (show vp_in 10 11 from by unfold vp_in; decide) ff_6_10 dX4_use_44 ?_
    refine lv_iload_n C.1.1 C.1.2.1 dX4_use_45 rfl (lv_at hl 1 rfl) ?_
    refine lv_dup2_11 C.1.1 C.1.2.1 dX4_use_46 rfl rfl ?_
    obtain ⟨q13, hD⟩ := g_ck hD
    refine mr_iald C hw (by decide) tf_17 q13 dX4_use_47 ?_
    refine lv_iconst (v := 1) C.1.1 C.1.2.1 dX4_use_48 (by decide) ?_
    refine lv_iadd C.1.1 C.1.2.1 dX4_use_49 ?_
    obtain ⟨q14, hD⟩ := g_ck hD
    obtain ⟨M15, eM15, hD⟩ := g_let hD
    refine mr_iast C hw (by decide) tf_17 q14 dX4_use_50 (fun H locs hw => ?_)
    replace hw : mw_W G ad NF TF FF M15 L H locs := by rw [eM15]; exact hw
    refine lv_aload_n C.1.1 C.1.2.1 dX4_use_51 rfl (lv_at hl 0 rfl) ?_
    refine lv_dup C.1.1 C.1.2.1 dX4_use_52 rfl ?_
    refine mr_getI C hw kc_4 5 (by decide) tf_5 wd_72 dX4_use_53 (by decide) rfl ?_
    refine lv_iconst (v := 1) C.1.1 C.1.2.1 dX4_use_56 (by decide) ?_
    refine lv_iload_n C.1.1 C.1.2.1 dX4_use_57 rfl (lv_at hl 1 rfl) ?_
    refine lv_ishl C.1.1 C.1.2.1 dX4_use_58 ?_
    refine lv_ior C.1.1 C.1.2.1 dX4_use_59 ?_
    obtain ⟨M16, eM16, hD⟩ := g_let hD
    refine mr_putI C hw kc_4 5 (by decide) tf_5 wd_72 dX4_use_60 (by decide) rfl rfl rfl rfl (fun H locs hw => ?_)
    replace hw : mw_W G ad NF TF FF M16 L H locs := by rw [eM16]; exact hw
    refine lv_aload_n C.1.1 C.1.2.1 dX4_use_63 rfl (lv_at hl 0 rfl) ?_
    refine lv_iconst (v := 0) C.1.1 C.1.2.1 dX4_use_64 (by decide) ?_
    obtain ⟨M17, eM17, hD⟩ := g_let hD
    refine mr_putI C hw kc_4 6 (by decide) tf_5 wd_74 dX4_use_65 (by decide) rfl rfl (by decide +kernel) (by decide +kernel) (fun H locs hw => ?_)
    replace hw : mw_W G ad NF TF FF M17 L H locs := by rw [eM17]; exact hw
    exact hb68 M17 L _ _ ls hD hw (lv_sub hl [] rfl)

theorem dX4_passMicrosecond_0 : decode cX4_passMicrosecond 0 = .ok (.aload_n 0, 1) := by decide +kernel
theorem dX4_passMicrosecond_1 : decode cX4_passMicrosecond 1 = .ok (.iload_n 1, 1) := by decide +kernel
theorem dX4_passMicrosecond_2 : decode cX4_passMicrosecond 2 = .ok (.invokevirtual 37, 3) := by decide +kernel
theorem dX4_passMicrosecond_5 : decode cX4_passMicrosecond 5 = .ok (.aload_n 0, 1) := by decide +kernel
theorem dX4_passMicrosecond_6 : decode cX4_passMicrosecond 6 = .ok (.getfield 33, 3) := by decide +kernel
theorem dX4_passMicrosecond_9 : decode cX4_passMicrosecond 9 = .ok (.ifCond .ne 27, 3) := by decide +kernel
theorem dX4_passMicrosecond_12 : decode cX4_passMicrosecond 12 = .ok (.aload_n 0, 1) := by decide +kernel
theorem dX4_passMicrosecond_13 : decode cX4_passMicrosecond 13 = .ok (.iconst 1, 1) := by decide +kernel
theorem dX4_passMicrosecond_14 : decode cX4_passMicrosecond 14 = .ok (.putfield 33, 3) := by decide +kernel
theorem dX4_passMicrosecond_17 : decode cX4_passMicrosecond 17 = .ok (.iconst 0, 1) := by decide +kernel
theorem dX4_passMicrosecond_18 : decode cX4_passMicrosecond 18 = .ok (.istore_n 2, 1) := by decide +kernel
theorem dX4_passMicrosecond_19 : decode cX4_passMicrosecond 19 = .ok (.iload_n 2, 1) := by decide +kernel
theorem dX4_passMicrosecond_20 : decode cX4_passMicrosecond 20 = .ok (.bipush 6, 2) := by decide +kernel
theorem dX4_passMicrosecond_22 : decode cX4_passMicrosecond 22 = .ok (.if_icmp .ge 14, 3) := by decide +kernel
theorem dX4_passMicrosecond_25 : decode cX4_passMicrosecond 25 = .ok (.aload_n 0, 1) := by decide +kernel
theorem dX4_passMicrosecond_26 : decode cX4_passMicrosecond 26 = .ok (.iload_n 2, 1) := by decide +kernel
theorem dX4_passMicrosecond_27 : decode cX4_passMicrosecond 27 = .ok (.invokevirtual 41, 3) := by decide +kernel
theorem dX4_passMicrosecond_30 : decode cX4_passMicrosecond 30 = .ok (.iinc 2 1, 3) := by decide +kernel
theorem dX4_passMicrosecond_33 : decode cX4_passMicrosecond 33 = .ok (.goto (-14), 3) := by decide +kernel
theorem dX4_passMicrosecond_36 : decode cX4_passMicrosecond 36 = .ok (.aload_n 0, 1) := by decide +kernel
theorem dX4_passMicrosecond_37 : decode cX4_passMicrosecond 37 = .ok (.iconst 0, 1) := by decide +kernel
theorem dX4_passMicrosecond_38 : decode cX4_passMicrosecond 38 = .ok (.putfield 30, 3) := by decide +kernel
theorem dX4_passMicrosecond_41 : decode cX4_passMicrosecond 41 = .ok (.iconst 0, 1) := by decide +kernel
theorem dX4_passMicrosecond_42 : decode cX4_passMicrosecond 42 = .ok (.istore_n 2, 1) := by decide +kernel
theorem dX4_passMicrosecond_43 : decode cX4_passMicrosecond 43 = .ok (.iconst 0, 1) := by decide +kernel
theorem dX4_passMicrosecond_44 : decode cX4_passMicrosecond 44 = .ok (.istore_n 3, 1) := by decide +kernel
theorem dX4_passMicrosecond_45 : decode cX4_passMicrosecond 45 = .ok (.iload_n 3, 1) := by decide +kernel
theorem dX4_passMicrosecond_46 : decode cX4_passMicrosecond 46 = .ok (.bipush 6, 2) := by decide +kernel
theorem dX4_passMicrosecond_48 : decode cX4_passMicrosecond 48 = .ok (.if_icmp .ge 43, 3) := by decide +kernel
theorem dX4_passMicrosecond_51 : decode cX4_passMicrosecond 51 = .ok (.aload_n 0, 1) := by decide +kernel
theorem dX4_passMicrosecond_52 : decode cX4_passMicrosecond 52 = .ok (.getfield 16, 3) := by decide +kernel
theorem dX4_passMicrosecond_55 : decode cX4_passMicrosecond 55 = .ok (.iload_n 3, 1) := by decide +kernel
theorem dX4_passMicrosecond_56 : decode cX4_passMicrosecond 56 = .ok (.iaload, 1) := by decide +kernel
theorem dX4_passMicrosecond_57 : decode cX4_passMicrosecond 57 = .ok (.ifCond .lt 28, 3) := by decide +kernel
theorem dX4_passMicrosecond_60 : decode cX4_passMicrosecond 60 = .ok (.iload_n 2, 1) := by decide +kernel
theorem dX4_passMicrosecond_61 : decode cX4_passMicrosecond 61 = .ok (.aload_n 0, 1) := by decide +kernel
theorem dX4_passMicrosecond_62 : decode cX4_passMicrosecond 62 = .ok (.getfield 16, 3) := by decide +kernel
theorem dX4_passMicrosecond_65 : decode cX4_passMicrosecond 65 = .ok (.iload_n 3, 1) := by decide +kernel
theorem dX4_passMicrosecond_66 : decode cX4_passMicrosecond 66 = .ok (.iaload, 1) := by decide +kernel
theorem dX4_passMicrosecond_67 : decode cX4_passMicrosecond 67 = .ok (.iconst 1, 1) := by decide +kernel
theorem dX4_passMicrosecond_68 : decode cX4_passMicrosecond 68 = .ok (.iadd, 1) := by decide +kernel
theorem dX4_passMicrosecond_69 : decode cX4_passMicrosecond 69 = .ok (.iconst 4, 1) := by decide +kernel
theorem dX4_passMicrosecond_70 : decode cX4_passMicrosecond 70 = .ok (.iload_n 3, 1) := by decide +kernel
theorem dX4_passMicrosecond_71 : decode cX4_passMicrosecond 71 = .ok (.imul, 1) := by decide +kernel
theorem dX4_passMicrosecond_72 : decode cX4_passMicrosecond 72 = .ok (.ishl, 1) := by decide +kernel
theorem dX4_passMicrosecond_73 : decode cX4_passMicrosecond 73 = .ok (.ior, 1) := by decide +kernel
theorem dX4_passMicrosecond_74 : decode cX4_passMicrosecond 74 = .ok (.istore_n 2, 1) := by decide +kernel
theorem dX4_passMicrosecond_75 : decode cX4_passMicrosecond 75 = .ok (.aload_n 0, 1) := by decide +kernel
theorem dX4_passMicrosecond_76 : decode cX4_passMicrosecond 76 = .ok (.aload_n 0, 1) := by decide +kernel
theorem dX4_passMicrosecond_77 : decode cX4_passMicrosecond 77 = .ok (.getfield 16, 3) := by decide +kernel
theorem dX4_passMicrosecond_80 : decode cX4_passMicrosecond 80 = .ok (.iload_n 3, 1) := by decide +kernel
theorem dX4_passMicrosecond_81 : decode cX4_passMicrosecond 81 = .ok (.iaload, 1) := by decide +kernel
theorem dX4_passMicrosecond_82 : decode cX4_passMicrosecond 82 = .ok (.invokevirtual 44, 3) := by decide +kernel
theorem dX4_passMicrosecond_85 : decode cX4_passMicrosecond 85 = .ok (.iinc 3 1, 3) := by decide +kernel
theorem dX4_passMicrosecond_88 : decode cX4_passMicrosecond 88 = .ok (.goto (-43), 3) := by decide +kernel
theorem dX4_passMicrosecond_91 : decode cX4_passMicrosecond 91 = .ok (.aload_n 0, 1) := by decide +kernel
theorem dX4_passMicrosecond_92 : decode cX4_passMicrosecond 92 = .ok (.getfield 20, 3) := by decide +kernel
theorem dX4_passMicrosecond_95 : decode cX4_passMicrosecond 95 = .ok (.iload_n 1, 1) := by decide +kernel
theorem dX4_passMicrosecond_96 : decode cX4_passMicrosecond 96 = .ok (.iload_n 2, 1) := by decide +kernel
theorem dX4_passMicrosecond_97 : decode cX4_passMicrosecond 97 = .ok (.iastore, 1) := by decide +kernel
theorem dX4_passMicrosecond_98 : decode cX4_passMicrosecond 98 = .ok (.return_, 1) := by decide +kernel
theorem cwX4_passMicrosecond : mw_cwV yX4_passMicrosecond cX4_passMicrosecond 4 (none) 1 := ⟨⟨wd_4, wd_1475, by decide +kernel⟩, wd_1473, wd_1474⟩
set_option maxHeartbeats 4000000 in
set_option maxRecDepth 100000 in
theorem tX4_passMicrosecond (l : Launch) (G : mwG) (ad : Nat → Nat) (fu : Nat) (a1 : Int32) (M : mwM) (L : mwL) {M0 : mwM} {L0 : mwL} (hD : DX4_passMicrosecond fu a1 M L = some (M0, L0)) : Met l yX4_passMicrosecond (Cond.code yX4_passMicrosecond cX4_passMicrosecond 4 (none) :: GT) ({ frames := 3, cells := 0, slots := 0, locals := 68 }) (mw_Pre G ad NF TF FF M L [.ref (ad 5), .int a1]) (mw_Qv G ad NF TF FF (mw_eqV M0 L0)) 0 0 (mw_fr G) := by
  refine mw_enter (by decide) (Nat.le_of_ble_eq_true rfl) ?_
  intro p e s m below meth c ls C hr hlocks hnm hw hl
  have hl : lv_has ls 4 [(0, .ref (ad 5)), (1, .int a1)] := hl
  have hh45 : ∀ (f : Nat) (v2 : Int32) (v3 : Int32) (M : mwM) (L : mwL) (H : Heap) (locs : List Loc) (ls : Array Slot), fX4_passMicrosecond_h45 fu a1 f (v2, v3, M, L) = some (M0, L0) → mw_W G ad NF TF FF M L H locs → lv_has ls 4 [(0, .ref (ad 5)), (1, .int a1), (2, .int v2), (3, .int v3)] → W p l e ({ frames := 3, cells := 0, slots := 0, locals := 68 }) s m [.ref (ad 5), .int a1].toArray below meth c H locs 0 0 (MQ below (mw_Qv G ad NF TF FF (mw_eqV M0 L0)) [.ref (ad 5), .int a1].toArray s 0 0 (mw_fr G)) (F0 m 45 ls []) := by
    intro f
    induction f with
    | zero => intro v2 v3 M L H locs ls hD; cases hD
    | succ f45 ih45 =>
      intro v2 v3 M L H locs ls hD hw hl
      replace hD : fX4_passMicrosecond_i45 fu a1 (fX4_passMicrosecond_h45 fu a1 f45) v2 v3 M L = some (M0, L0) := hD
      have hb85 : ∀ (v2 : Int32) (v3 : Int32) (M : mwM) (L : mwL) (H : Heap) (locs : List Loc) (ls : Array Slot), fX4_passMicrosecond_b85 fu a1 (fX4_passMicrosecond_h45 fu a1 f45) v2 v3 M L = some (M0, L0) → mw_W G ad NF TF FF M L H locs → lv_has ls 4 [(0, .ref (ad 5)), (1, .int a1), (2, .int v2), (3, .int v3)] → W p l e ({ frames := 3, cells := 0, slots := 0, locals := 68 }) s m [.ref (ad 5), .int a1].toArray below meth c H locs 0 0 (MQ below (mw_Qv G ad NF TF FF (mw_eqV M0 L0)) [.ref (ad 5), .int a1].toArray s 0 0 (mw_fr G)) (F0 m 85 ls []) := by
        intro v2 v3 M L H locs ls hD hw hl
        unfold fX4_passMicrosecond_b85 at hD
        obtain ⟨x16, ex16, hD⟩ := g_let hD
        refine lv_iinc (v := x16) (lv' := [(3, .int x16), (0, .ref (ad 5)), (1, .int a1), (2, .int v2)]) C.1.1 C.1.2.1 dX4_passMicrosecond_85 hl (k := 3) rfl (by rw [ex16]; rfl) (by decide) rfl (fun ls hl => ?_)
        refine lv_goto (tgt := 45) C.1.1 C.1.2.1 dX4_passMicrosecond_88 (by decide) ?_
        exact ih45 v2 x16 M L _ _ ls hD hw (lv_sub hl [1, 2, 3, 0] rfl)
      unfold fX4_passMicrosecond_i45 at hD
      refine lv_iload_n C.1.1 C.1.2.1 dX4_passMicrosecond_45 rfl (lv_at hl 3 rfl) ?_
      refine lv_bipush (v := 6) C.1.1 C.1.2.1 dX4_passMicrosecond_46 (by decide) ?_
      refine lv_icmp_ge (tgt := 91) C.1.1 C.1.2.1 dX4_passMicrosecond_48 (by decide) (fun c6 => ?_) (fun c6 => ?_)
      · replace hD := g_pos c6 hD
        refine lv_aload_n C.1.1 C.1.2.1 dX4_passMicrosecond_91 rfl (lv_at hl 0 rfl) ?_
        refine mr_getR C hw kc_4 2 (by decide) tf_5 ff_5_2 wd_67 dX4_passMicrosecond_92 (by decide) rfl ?_
        refine lv_iload_n C.1.1 C.1.2.1 dX4_passMicrosecond_95 rfl (lv_at hl 1 rfl) ?_
        refine lv_iload_n C.1.1 C.1.2.1 dX4_passMicrosecond_96 rfl (lv_at hl 2 rfl) ?_
        obtain ⟨q7, hD⟩ := g_ck hD
        obtain ⟨M8, eM8, hD⟩ := g_let hD
        refine mr_iast C hw (by decide) tf_19 q7 dX4_passMicrosecond_97 (fun H locs hw => ?_)
        replace hw : mw_W G ad NF TF FF M8 L H locs := by rw [eM8]; exact hw
        exact mr_vret C hr hlocks hw (Option.some.inj hD) dX4_passMicrosecond_98
      · replace hD := g_neg c6 hD
        refine lv_aload_n C.1.1 C.1.2.1 dX4_passMicrosecond_51 rfl (lv_at hl 0 rfl) ?_
        refine mr_getR C hw kc_4 1 (by decide) tf_5 ff_5_1 wd_66 dX4_passMicrosecond_52 (by decide) rfl ?_
        refine lv_iload_n C.1.1 C.1.2.1 dX4_passMicrosecond_55 rfl (lv_at hl 3 rfl) ?_
        obtain ⟨q9, hD⟩ := g_ck hD
        refine mr_iald C hw (by decide) tf_18 q9 dX4_passMicrosecond_56 ?_
        refine lv_if_lt (tgt := 85) C.1.1 C.1.2.1 dX4_passMicrosecond_57 (by decide) (fun c10 => ?_) (fun c10 => ?_)
        · replace hD := g_pos c10 hD
          exact hb85 v2 v3 M L _ _ ls hD hw (lv_sub hl [0, 1, 2, 3] rfl)
        · replace hD := g_neg c10 hD
          refine lv_iload_n C.1.1 C.1.2.1 dX4_passMicrosecond_60 rfl (lv_at hl 2 rfl) ?_
          refine lv_aload_n C.1.1 C.1.2.1 dX4_passMicrosecond_61 rfl (lv_at hl 0 rfl) ?_
          refine mr_getR C hw kc_4 1 (by decide) tf_5 ff_5_1 wd_66 dX4_passMicrosecond_62 (by decide) rfl ?_
          refine lv_iload_n C.1.1 C.1.2.1 dX4_passMicrosecond_65 rfl (lv_at hl 3 rfl) ?_
          obtain ⟨q11, hD⟩ := g_ck hD
          refine mr_iald C hw (by decide) tf_18 q11 dX4_passMicrosecond_66 ?_
          refine lv_iconst (v := 1) C.1.1 C.1.2.1 dX4_passMicrosecond_67 (by decide) ?_
          refine lv_iadd C.1.1 C.1.2.1 dX4_passMicrosecond_68 ?_
          refine lv_iconst (v := 4) C.1.1 C.1.2.1 dX4_passMicrosecond_69 (by decide) ?_
          refine lv_iload_n C.1.1 C.1.2.1 dX4_passMicrosecond_70 rfl (lv_at hl 3 rfl) ?_
          refine lv_imul C.1.1 C.1.2.1 dX4_passMicrosecond_71 ?_
          refine lv_ishl C.1.1 C.1.2.1 dX4_passMicrosecond_72 ?_
          refine lv_ior C.1.1 C.1.2.1 dX4_passMicrosecond_73 ?_
          obtain ⟨x12, ex12, hD⟩ := g_let hD
          refine W.eq (g2 := F0 m 74 ls (.int x12 :: [])) (by rw [ex12]) ?_
          refine lv_istore_n (lv' := [(2, .int x12), (0, .ref (ad 5)), (1, .int a1), (3, .int v3)]) C.1.1 C.1.2.1 dX4_passMicrosecond_74 rfl hl (by decide) rfl (fun ls hl => ?_)
          refine lv_aload_n C.1.1 C.1.2.1 dX4_passMicrosecond_75 rfl (lv_at hl 1 rfl) ?_
          refine lv_aload_n C.1.1 C.1.2.1 dX4_passMicrosecond_76 rfl (lv_at hl 1 rfl) ?_
          refine mr_getR C hw kc_4 1 (by decide) tf_5 ff_5_1 wd_66 dX4_passMicrosecond_77 (by decide) rfl ?_
          refine lv_iload_n C.1.1 C.1.2.1 dX4_passMicrosecond_80 rfl (lv_at hl 3 rfl) ?_
          obtain ⟨q13, hD⟩ := g_ck hD
          refine mr_iald C hw (by decide) tf_18 q13 dX4_passMicrosecond_81 ?_
          obtain ⟨M14, L15, h1, hD⟩ := g_b2 hD
          refine md_cvV (As := [.int (M 18 v3.toNatClampNeg)]) (rest := []) C hw (tX4_use l G ad fu (M 18 v3.toNatClampNeg) M L h1) kc_4 (by decide) tf_5 wd_1496 cwX4_use ⟨Nat.le_of_ble_eq_true rfl, Nat.le_of_ble_eq_true rfl⟩ rfl hl.1 (Nat.le_of_ble_eq_true rfl) dX4_passMicrosecond_82 rfl rfl ⟨Nat.zero_le _, Nat.zero_le _⟩ rfl (fun H locs hw => ?_)
          exact hb85 x12 v3 M14 L15 _ _ ls hD hw (lv_sub hl [1, 2, 0, 3] rfl)
  have hb36 : ∀ (M : mwM) (L : mwL) (H : Heap) (locs : List Loc) (ls : Array Slot), fX4_passMicrosecond_b36 fu a1 M L = some (M0, L0) → mw_W G ad NF TF FF M L H locs → lv_has ls 4 [(0, .ref (ad 5)), (1, .int a1)] → W p l e ({ frames := 3, cells := 0, slots := 0, locals := 68 }) s m [.ref (ad 5), .int a1].toArray below meth c H locs 0 0 (MQ below (mw_Qv G ad NF TF FF (mw_eqV M0 L0)) [.ref (ad 5), .int a1].toArray s 0 0 (mw_fr G)) (F0 m 36 ls []) := by
    intro M L H locs ls hD hw hl
    unfold fX4_passMicrosecond_b36 at hD
    refine lv_aload_n C.1.1 C.1.2.1 dX4_passMicrosecond_36 rfl (lv_at hl 0 rfl) ?_
    refine lv_iconst (v := 0) C.1.1 C.1.2.1 dX4_passMicrosecond_37 (by decide) ?_
    obtain ⟨M5, eM5, hD⟩ := g_let hD
    refine mr_putI C hw kc_4 5 (by decide) tf_5 wd_72 dX4_passMicrosecond_38 (by decide) rfl rfl rfl rfl (fun H locs hw => ?_)
    replace hw : mw_W G ad NF TF FF M5 L H locs := by rw [eM5]; exact hw
    refine lv_iconst (v := 0) C.1.1 C.1.2.1 dX4_passMicrosecond_41 (by decide) ?_
    refine lv_istore_n (lv' := [(2, .int 0), (0, .ref (ad 5)), (1, .int a1)]) C.1.1 C.1.2.1 dX4_passMicrosecond_42 rfl hl (by decide) rfl (fun ls hl => ?_)
    refine lv_iconst (v := 0) C.1.1 C.1.2.1 dX4_passMicrosecond_43 (by decide) ?_
    refine lv_istore_n (lv' := [(3, .int 0), (2, .int 0), (0, .ref (ad 5)), (1, .int a1)]) C.1.1 C.1.2.1 dX4_passMicrosecond_44 rfl hl (by decide) rfl (fun ls hl => ?_)
    exact hh45 fu 0 0 M5 L _ _ ls hD hw (lv_sub hl [2, 3, 1, 0] rfl)
  have hh19 : ∀ (f : Nat) (v2 : Int32) (M : mwM) (L : mwL) (H : Heap) (locs : List Loc) (ls : Array Slot), fX4_passMicrosecond_h19 fu a1 f (v2, M, L) = some (M0, L0) → mw_W G ad NF TF FF M L H locs → lv_has ls 4 [(0, .ref (ad 5)), (1, .int a1), (2, .int v2)] → W p l e ({ frames := 3, cells := 0, slots := 0, locals := 68 }) s m [.ref (ad 5), .int a1].toArray below meth c H locs 0 0 (MQ below (mw_Qv G ad NF TF FF (mw_eqV M0 L0)) [.ref (ad 5), .int a1].toArray s 0 0 (mw_fr G)) (F0 m 19 ls []) := by
    intro f
    induction f with
    | zero => intro v2 M L H locs ls hD; cases hD
    | succ f19 ih19 =>
      intro v2 M L H locs ls hD hw hl
      replace hD : fX4_passMicrosecond_i19 fu a1 (fX4_passMicrosecond_h19 fu a1 f19) v2 M L = some (M0, L0) := hD
      unfold fX4_passMicrosecond_i19 at hD
      refine lv_iload_n C.1.1 C.1.2.1 dX4_passMicrosecond_19 rfl (lv_at hl 2 rfl) ?_
      refine lv_bipush (v := 6) C.1.1 C.1.2.1 dX4_passMicrosecond_20 (by decide) ?_
      refine lv_icmp_ge (tgt := 36) C.1.1 C.1.2.1 dX4_passMicrosecond_22 (by decide) (fun c1 => ?_) (fun c1 => ?_)
      · replace hD := g_pos c1 hD
        exact hb36 M L _ _ ls hD hw (lv_sub hl [0, 1] rfl)
      · replace hD := g_neg c1 hD
        refine lv_aload_n C.1.1 C.1.2.1 dX4_passMicrosecond_25 rfl (lv_at hl 0 rfl) ?_
        refine lv_iload_n C.1.1 C.1.2.1 dX4_passMicrosecond_26 rfl (lv_at hl 2 rfl) ?_
        obtain ⟨M2, L3, h1, hD⟩ := g_b2 hD
        refine md_cvV (As := [.int v2]) (rest := []) C hw (tX4_settle l G ad fu v2 M L h1) kc_4 (by decide) tf_5 wd_1484 cwX4_settle ⟨Nat.le_of_ble_eq_true rfl, Nat.le_of_ble_eq_true rfl⟩ rfl hl.1 (Nat.le_of_ble_eq_true rfl) dX4_passMicrosecond_27 rfl rfl ⟨Nat.zero_le _, Nat.zero_le _⟩ rfl (fun H locs hw => ?_)
        obtain ⟨x4, ex4, hD⟩ := g_let hD
        refine lv_iinc (v := x4) (lv' := [(2, .int x4), (0, .ref (ad 5)), (1, .int a1)]) C.1.1 C.1.2.1 dX4_passMicrosecond_30 hl (k := 2) rfl (by rw [ex4]; rfl) (by decide) rfl (fun ls hl => ?_)
        refine lv_goto (tgt := 19) C.1.1 C.1.2.1 dX4_passMicrosecond_33 (by decide) ?_
        exact ih19 x4 M2 L3 _ _ ls hD hw (lv_sub hl [1, 2, 0] rfl)
  unfold DX4_passMicrosecond at hD
  refine lv_aload_n C.1.1 C.1.2.1 dX4_passMicrosecond_0 rfl (lv_at hl 0 rfl) ?_
  refine lv_iload_n C.1.1 C.1.2.1 dX4_passMicrosecond_1 rfl (lv_at hl 1 rfl) ?_
  obtain ⟨M17, L18, h1, hD⟩ := g_b2 hD
  refine md_cvV (As := [.int a1]) (rest := []) C hw (tX4_activateAll l G ad fu a1 M L h1) kc_4 (by decide) tf_5 wd_1476 cwX4_activateAll ⟨Nat.le_of_ble_eq_true rfl, Nat.le_of_ble_eq_true rfl⟩ rfl hl.1 (Nat.le_of_ble_eq_true rfl) dX4_passMicrosecond_2 rfl rfl ⟨Nat.zero_le _, Nat.zero_le _⟩ rfl (fun H locs hw => ?_)
  refine lv_aload_n C.1.1 C.1.2.1 dX4_passMicrosecond_5 rfl (lv_at hl 0 rfl) ?_
  refine mr_getI C hw kc_4 6 (by decide) tf_5 wd_74 dX4_passMicrosecond_6 (by decide) rfl ?_
  refine lv_if_ne (tgt := 36) C.1.1 C.1.2.1 dX4_passMicrosecond_9 (by decide) (fun c19 => ?_) (fun c19 => ?_)
  · replace hD := g_neg c19 hD
    exact hb36 M17 L18 _ _ ls hD hw (lv_sub hl [0, 1] rfl)
  · replace hD := g_pos c19 hD
    refine lv_aload_n C.1.1 C.1.2.1 dX4_passMicrosecond_12 rfl (lv_at hl 0 rfl) ?_
    refine lv_iconst (v := 1) C.1.1 C.1.2.1 dX4_passMicrosecond_13 (by decide) ?_
    obtain ⟨M20, eM20, hD⟩ := g_let hD
    refine mr_putI C hw kc_4 6 (by decide) tf_5 wd_74 dX4_passMicrosecond_14 (by decide) rfl rfl (by decide +kernel) (by decide +kernel) (fun H locs hw => ?_)
    replace hw : mw_W G ad NF TF FF M20 L18 H locs := by rw [eM20]; exact hw
    refine lv_iconst (v := 0) C.1.1 C.1.2.1 dX4_passMicrosecond_17 (by decide) ?_
    refine lv_istore_n (lv' := [(2, .int 0), (0, .ref (ad 5)), (1, .int a1)]) C.1.1 C.1.2.1 dX4_passMicrosecond_18 rfl hl (by decide) rfl (fun ls hl => ?_)
    exact hh19 fu 0 M20 L18 _ _ ls hD hw (lv_sub hl [1, 2, 0] rfl)
