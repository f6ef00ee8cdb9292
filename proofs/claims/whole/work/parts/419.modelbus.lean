theorem dX12_thrown_0 : decode cX12_thrown 0 = .ok (.aload_n 0, 1) := by decide +kernel
theorem dX12_thrown_1 : decode cX12_thrown 1 = .ok (.getfield 120, 3) := by decide +kernel
theorem dX12_thrown_4 : decode cX12_thrown 4 = .ok (.ireturn, 1) := by decide +kernel
theorem cwX12_thrown : mw_cwV yX12_thrown cX12_thrown 1 ((some .int)) 0 := ⟨⟨wd_15, wd_3630, by decide +kernel⟩, wd_3628, wd_3629⟩
set_option maxHeartbeats 4000000 in
set_option maxRecDepth 100000 in
theorem tX12_thrown (l : Launch) (G : mwG) (ad : Nat → Nat) (fu : Nat) (M : mwM) (L : mwL) {r0 : Int32} {M0 : mwM} {L0 : mwL} (hD : DX12_thrown fu M L = some (r0, M0, L0)) : Met l yX12_thrown (Cond.code yX12_thrown cX12_thrown 1 ((some .int)) :: GT) ({ frames := 0, cells := 0, slots := 0, locals := 0 }) (mw_Pre G ad NF TF FF M L [.ref (ad 821)]) (mw_Qi G ad NF TF FF (mw_eqI r0 M0 L0)) 0 0 (mw_fr G) := by
  refine mw_enter (by decide) (Nat.le_of_ble_eq_true rfl) ?_
  intro p e s m below meth c ls C hr hlocks hnm hw hl
  have hl : lv_has ls 1 [(0, .ref (ad 821))] := hl
  unfold DX12_thrown at hD
  refine lv_aload_n C.1.1 C.1.2.1 dX12_thrown_0 rfl (lv_at hl 0 rfl) ?_
  refine mr_getI C hw kc_12 0 (by decide) tf_821 wd_2100 dX12_thrown_1 (by decide) rfl ?_
  exact mr_iret C hr hlocks hw rfl (Option.some.inj hD) dX12_thrown_4

theorem dX12_nodes_0 : decode cX12_nodes 0 = .ok (.aload_n 0, 1) := by decide +kernel
theorem dX12_nodes_1 : decode cX12_nodes 1 = .ok (.iconst (-1), 1) := by decide +kernel
theorem dX12_nodes_2 : decode cX12_nodes 2 = .ok (.putfield 117, 3) := by decide +kernel
theorem dX12_nodes_5 : decode cX12_nodes 5 = .ok (.aload_n 0, 1) := by decide +kernel
theorem dX12_nodes_6 : decode cX12_nodes 6 = .ok (.iconst (-1), 1) := by decide +kernel
theorem dX12_nodes_7 : decode cX12_nodes 7 = .ok (.putfield 114, 3) := by decide +kernel
theorem dX12_nodes_10 : decode cX12_nodes 10 = .ok (.aload_n 0, 1) := by decide +kernel
theorem dX12_nodes_11 : decode cX12_nodes 11 = .ok (.iload_n 1, 1) := by decide +kernel
theorem dX12_nodes_12 : decode cX12_nodes 12 = .ok (.bipush 32, 2) := by decide +kernel
theorem dX12_nodes_14 : decode cX12_nodes 14 = .ok (.if_icmp .le 7, 3) := by decide +kernel
theorem dX12_nodes_17 : decode cX12_nodes 17 = .ok (.iconst 1, 1) := by decide +kernel
theorem dX12_nodes_18 : decode cX12_nodes 18 = .ok (.goto 12, 3) := by decide +kernel
theorem dX12_nodes_21 : decode cX12_nodes 21 = .ok (.iload_n 1, 1) := by decide +kernel
theorem dX12_nodes_22 : decode cX12_nodes 22 = .ok (.ifCond .ge 7, 3) := by decide +kernel
theorem dX12_nodes_25 : decode cX12_nodes 25 = .ok (.iconst 2, 1) := by decide +kernel
theorem dX12_nodes_26 : decode cX12_nodes 26 = .ok (.goto 4, 3) := by decide +kernel
theorem dX12_nodes_29 : decode cX12_nodes 29 = .ok (.iconst 0, 1) := by decide +kernel
theorem dX12_nodes_30 : decode cX12_nodes 30 = .ok (.putfield 120, 3) := by decide +kernel
theorem dX12_nodes_33 : decode cX12_nodes 33 = .ok (.aload_n 0, 1) := by decide +kernel
theorem dX12_nodes_34 : decode cX12_nodes 34 = .ok (.getfield 120, 3) := by decide +kernel
theorem dX12_nodes_37 : decode cX12_nodes 37 = .ok (.ifCond .le 4, 3) := by decide +kernel
theorem dX12_nodes_40 : decode cX12_nodes 40 = .ok (.return_, 1) := by decide +kernel
theorem dX12_nodes_41 : decode cX12_nodes 41 = .ok (.aload_n 0, 1) := by decide +kernel
theorem dX12_nodes_42 : decode cX12_nodes 42 = .ok (.iload_n 1, 1) := by decide +kernel
theorem dX12_nodes_43 : decode cX12_nodes 43 = .ok (.putfield 7, 3) := by decide +kernel
theorem dX12_nodes_46 : decode cX12_nodes 46 = .ok (.aload_n 0, 1) := by decide +kernel
theorem dX12_nodes_47 : decode cX12_nodes 47 = .ok (.iconst 0, 1) := by decide +kernel
theorem dX12_nodes_48 : decode cX12_nodes 48 = .ok (.putfield 123, 3) := by decide +kernel
theorem dX12_nodes_51 : decode cX12_nodes 51 = .ok (.aload_n 0, 1) := by decide +kernel
theorem dX12_nodes_52 : decode cX12_nodes 52 = .ok (.iconst 0, 1) := by decide +kernel
theorem dX12_nodes_53 : decode cX12_nodes 53 = .ok (.putfield 126, 3) := by decide +kernel
theorem dX12_nodes_56 : decode cX12_nodes 56 = .ok (.aload_n 0, 1) := by decide +kernel
theorem dX12_nodes_57 : decode cX12_nodes 57 = .ok (.iconst 0, 1) := by decide +kernel
theorem dX12_nodes_58 : decode cX12_nodes 58 = .ok (.putfield 129, 3) := by decide +kernel
theorem dX12_nodes_61 : decode cX12_nodes 61 = .ok (.aload_n 0, 1) := by decide +kernel
theorem dX12_nodes_62 : decode cX12_nodes 62 = .ok (.iconst 0, 1) := by decide +kernel
theorem dX12_nodes_63 : decode cX12_nodes 63 = .ok (.putfield 132, 3) := by decide +kernel
theorem dX12_nodes_66 : decode cX12_nodes 66 = .ok (.aload_n 0, 1) := by decide +kernel
theorem dX12_nodes_67 : decode cX12_nodes 67 = .ok (.iconst 0, 1) := by decide +kernel
theorem dX12_nodes_68 : decode cX12_nodes 68 = .ok (.putfield 135, 3) := by decide +kernel
theorem dX12_nodes_71 : decode cX12_nodes 71 = .ok (.iconst 0, 1) := by decide +kernel
theorem dX12_nodes_72 : decode cX12_nodes 72 = .ok (.istore_n 2, 1) := by decide +kernel
theorem dX12_nodes_73 : decode cX12_nodes 73 = .ok (.iload_n 2, 1) := by decide +kernel
theorem dX12_nodes_74 : decode cX12_nodes 74 = .ok (.bipush 32, 2) := by decide +kernel
theorem dX12_nodes_76 : decode cX12_nodes 76 = .ok (.if_icmp .ge 30, 3) := by decide +kernel
theorem dX12_nodes_79 : decode cX12_nodes 79 = .ok (.aload_n 0, 1) := by decide +kernel
theorem dX12_nodes_80 : decode cX12_nodes 80 = .ok (.getfield 43, 3) := by decide +kernel
theorem dX12_nodes_83 : decode cX12_nodes 83 = .ok (.iload_n 2, 1) := by decide +kernel
theorem dX12_nodes_84 : decode cX12_nodes 84 = .ok (.iconst 0, 1) := by decide +kernel
theorem dX12_nodes_85 : decode cX12_nodes 85 = .ok (.iastore, 1) := by decide +kernel
theorem dX12_nodes_86 : decode cX12_nodes 86 = .ok (.aload_n 0, 1) := by decide +kernel
theorem dX12_nodes_87 : decode cX12_nodes 87 = .ok (.getfield 52, 3) := by decide +kernel
theorem dX12_nodes_90 : decode cX12_nodes 90 = .ok (.iload_n 2, 1) := by decide +kernel
theorem dX12_nodes_91 : decode cX12_nodes 91 = .ok (.iconst 0, 1) := by decide +kernel
theorem dX12_nodes_92 : decode cX12_nodes 92 = .ok (.iastore, 1) := by decide +kernel
theorem dX12_nodes_93 : decode cX12_nodes 93 = .ok (.aload_n 0, 1) := by decide +kernel
theorem dX12_nodes_94 : decode cX12_nodes 94 = .ok (.getfield 55, 3) := by decide +kernel
theorem dX12_nodes_97 : decode cX12_nodes 97 = .ok (.iload_n 2, 1) := by decide +kernel
theorem dX12_nodes_98 : decode cX12_nodes 98 = .ok (.iconst 0, 1) := by decide +kernel
theorem dX12_nodes_99 : decode cX12_nodes 99 = .ok (.iastore, 1) := by decide +kernel
theorem dX12_nodes_100 : decode cX12_nodes 100 = .ok (.iinc 2 1, 3) := by decide +kernel
theorem dX12_nodes_103 : decode cX12_nodes 103 = .ok (.goto (-30), 3) := by decide +kernel
theorem dX12_nodes_106 : decode cX12_nodes 106 = .ok (.iconst 0, 1) := by decide +kernel
theorem dX12_nodes_107 : decode cX12_nodes 107 = .ok (.istore_n 2, 1) := by decide +kernel
theorem dX12_nodes_108 : decode cX12_nodes 108 = .ok (.iload_n 2, 1) := by decide +kernel
theorem dX12_nodes_109 : decode cX12_nodes 109 = .ok (.ldc 64, 2) := by decide +kernel
theorem dX12_nodes_111 : decode cX12_nodes 111 = .ok (.if_icmp .ge 16, 3) := by decide +kernel
theorem dX12_nodes_114 : decode cX12_nodes 114 = .ok (.aload_n 0, 1) := by decide +kernel
theorem dX12_nodes_115 : decode cX12_nodes 115 = .ok (.getfield 65, 3) := by decide +kernel
theorem dX12_nodes_118 : decode cX12_nodes 118 = .ok (.iload_n 2, 1) := by decide +kernel
theorem dX12_nodes_119 : decode cX12_nodes 119 = .ok (.iconst 0, 1) := by decide +kernel
theorem dX12_nodes_120 : decode cX12_nodes 120 = .ok (.bastore, 1) := by decide +kernel
theorem dX12_nodes_121 : decode cX12_nodes 121 = .ok (.iinc 2 1, 3) := by decide +kernel
theorem dX12_nodes_124 : decode cX12_nodes 124 = .ok (.goto (-16), 3) := by decide +kernel
theorem dX12_nodes_127 : decode cX12_nodes 127 = .ok (.return_, 1) := by decide +kernel
theorem cwX12_nodes : mw_cwV yX12_nodes cX12_nodes 3 (none) 1 := ⟨⟨wd_15, wd_3502, by decide +kernel⟩, wd_3500, wd_3501⟩
set_option maxHeartbeats 4000000 in
set_option maxRecDepth 100000 in
theorem tX12_nodes (l : Launch) (G : mwG) (ad : Nat → Nat) (fu : Nat) (a1 : Int32) (M : mwM) (L : mwL) {M0 : mwM} {L0 : mwL} (hD : DX12_nodes fu a1 M L = some (M0, L0)) : Met l yX12_nodes (Cond.code yX12_nodes cX12_nodes 3 (none) :: GT) ({ frames := 0, cells := 0, slots := 0, locals := 0 }) (mw_Pre G ad NF TF FF M L [.ref (ad 821), .int a1]) (mw_Qv G ad NF TF FF (mw_eqV M0 L0)) 0 0 (mw_fr G) := by
  refine mw_enter (by decide) (Nat.le_of_ble_eq_true rfl) ?_
  intro p e s m below meth c ls C hr hlocks hnm hw hl
  have hl : lv_has ls 3 [(0, .ref (ad 821)), (1, .int a1)] := hl
  have hh108 : ∀ (f : Nat) (v2 : Int32) (M : mwM) (L : mwL) (H : Heap) (locs : List Loc) (ls : Array Slot), fX12_nodes_h108 fu a1 f (v2, M, L) = some (M0, L0) → mw_W G ad NF TF FF M L H locs → lv_has ls 3 [(0, .ref (ad 821)), (2, .int v2)] → W p l e ({ frames := 0, cells := 0, slots := 0, locals := 0 }) s m [.ref (ad 821), .int a1].toArray below meth c H locs 0 0 (MQ below (mw_Qv G ad NF TF FF (mw_eqV M0 L0)) [.ref (ad 821), .int a1].toArray s 0 0 (mw_fr G)) (F0 m 108 ls []) := by
    intro f
    induction f with
    | zero => intro v2 M L H locs ls hD; cases hD
    | succ f108 ih108 =>
      intro v2 M L H locs ls hD hw hl
      replace hD : fX12_nodes_i108 fu a1 (fX12_nodes_h108 fu a1 f108) v2 M L = some (M0, L0) := hD
      unfold fX12_nodes_i108 at hD
      refine lv_iload_n C.1.1 C.1.2.1 dX12_nodes_108 rfl (lv_at hl 1 rfl) ?_
      refine lv_ldc (v := 140000) C.1.1 C.1.2.1 C.1.2.2.2.1 (C.1.2.2.2.2 _ wd_2098) dX12_nodes_109 ?_
      refine lv_icmp_ge (tgt := 127) C.1.1 C.1.2.1 dX12_nodes_111 (by decide) (fun c17 => ?_) (fun c17 => ?_)
      · replace hD := g_pos c17 hD
        exact mr_vret C hr hlocks hw (Option.some.inj hD) dX12_nodes_127
      · replace hD := g_neg c17 hD
        refine lv_aload_n C.1.1 C.1.2.1 dX12_nodes_114 rfl (lv_at hl 0 rfl) ?_
        refine mr_getR C hw kc_12 21 (by decide) tf_821 ff_821_21 wd_2121 dX12_nodes_115 (by decide) rfl ?_
        refine lv_iload_n C.1.1 C.1.2.1 dX12_nodes_118 rfl (lv_at hl 1 rfl) ?_
        refine lv_iconst (v := 0) C.1.1 C.1.2.1 dX12_nodes_119 (by decide) ?_
        obtain ⟨q18, hD⟩ := g_ck hD
        obtain ⟨M19, eM19, hD⟩ := g_let hD
        refine mr_zast C hw (by decide) tf_838 q18 dX12_nodes_120 (fun H locs hw => ?_)
        replace hw : mw_W G ad NF TF FF M19 L H locs := by rw [eM19]; exact hw
        obtain ⟨x20, ex20, hD⟩ := g_let hD
        refine lv_iinc (v := x20) (lv' := [(2, .int x20), (0, .ref (ad 821))]) C.1.1 C.1.2.1 dX12_nodes_121 hl (k := 1) rfl (by rw [ex20]; rfl) (by decide) rfl (fun ls hl => ?_)
        refine lv_goto (tgt := 108) C.1.1 C.1.2.1 dX12_nodes_124 (by decide) ?_
        exact ih108 x20 M19 L _ _ ls hD hw (lv_sub hl [1, 0] rfl)
  have hh73 : ∀ (f : Nat) (v2 : Int32) (M : mwM) (L : mwL) (H : Heap) (locs : List Loc) (ls : Array Slot), fX12_nodes_h73 fu a1 f (v2, M, L) = some (M0, L0) → mw_W G ad NF TF FF M L H locs → lv_has ls 3 [(0, .ref (ad 821)), (2, .int v2)] → W p l e ({ frames := 0, cells := 0, slots := 0, locals := 0 }) s m [.ref (ad 821), .int a1].toArray below meth c H locs 0 0 (MQ below (mw_Qv G ad NF TF FF (mw_eqV M0 L0)) [.ref (ad 821), .int a1].toArray s 0 0 (mw_fr G)) (F0 m 73 ls []) := by
    intro f
    induction f with
    | zero => intro v2 M L H locs ls hD; cases hD
    | succ f73 ih73 =>
      intro v2 M L H locs ls hD hw hl
      replace hD : fX12_nodes_i73 fu a1 (fX12_nodes_h73 fu a1 f73) v2 M L = some (M0, L0) := hD
      unfold fX12_nodes_i73 at hD
      refine lv_iload_n C.1.1 C.1.2.1 dX12_nodes_73 rfl (lv_at hl 1 rfl) ?_
      refine lv_bipush (v := 32) C.1.1 C.1.2.1 dX12_nodes_74 (by decide) ?_
      refine lv_icmp_ge (tgt := 106) C.1.1 C.1.2.1 dX12_nodes_76 (by decide) (fun c9 => ?_) (fun c9 => ?_)
      · replace hD := g_pos c9 hD
        refine lv_iconst (v := 0) C.1.1 C.1.2.1 dX12_nodes_106 (by decide) ?_
        refine lv_istore_n (lv' := [(2, .int 0), (0, .ref (ad 821))]) C.1.1 C.1.2.1 dX12_nodes_107 rfl hl (by decide) rfl (fun ls hl => ?_)
        exact hh108 fu 0 M L _ _ ls hD hw (lv_sub hl [1, 0] rfl)
      · replace hD := g_neg c9 hD
        refine lv_aload_n C.1.1 C.1.2.1 dX12_nodes_79 rfl (lv_at hl 0 rfl) ?_
        refine mr_getR C hw kc_12 14 (by decide) tf_821 ff_821_14 wd_2114 dX12_nodes_80 (by decide) rfl ?_
        refine lv_iload_n C.1.1 C.1.2.1 dX12_nodes_83 rfl (lv_at hl 1 rfl) ?_
        refine lv_iconst (v := 0) C.1.1 C.1.2.1 dX12_nodes_84 (by decide) ?_
        obtain ⟨q10, hD⟩ := g_ck hD
        obtain ⟨M11, eM11, hD⟩ := g_let hD
        refine mr_iast C hw (by decide) tf_831 q10 dX12_nodes_85 (fun H locs hw => ?_)
        replace hw : mw_W G ad NF TF FF M11 L H locs := by rw [eM11]; exact hw
        refine lv_aload_n C.1.1 C.1.2.1 dX12_nodes_86 rfl (lv_at hl 0 rfl) ?_
        refine mr_getR C hw kc_12 17 (by decide) tf_821 ff_821_17 wd_2117 dX12_nodes_87 (by decide) rfl ?_
        refine lv_iload_n C.1.1 C.1.2.1 dX12_nodes_90 rfl (lv_at hl 1 rfl) ?_
        refine lv_iconst (v := 0) C.1.1 C.1.2.1 dX12_nodes_91 (by decide) ?_
        obtain ⟨q12, hD⟩ := g_ck hD
        obtain ⟨M13, eM13, hD⟩ := g_let hD
        refine mr_iast C hw (by decide) tf_834 q12 dX12_nodes_92 (fun H locs hw => ?_)
        replace hw : mw_W G ad NF TF FF M13 L H locs := by rw [eM13]; exact hw
        refine lv_aload_n C.1.1 C.1.2.1 dX12_nodes_93 rfl (lv_at hl 0 rfl) ?_
        refine mr_getR C hw kc_12 18 (by decide) tf_821 ff_821_18 wd_2118 dX12_nodes_94 (by decide) rfl ?_
        refine lv_iload_n C.1.1 C.1.2.1 dX12_nodes_97 rfl (lv_at hl 1 rfl) ?_
        refine lv_iconst (v := 0) C.1.1 C.1.2.1 dX12_nodes_98 (by decide) ?_
        obtain ⟨q14, hD⟩ := g_ck hD
        obtain ⟨M15, eM15, hD⟩ := g_let hD
        refine mr_iast C hw (by decide) tf_835 q14 dX12_nodes_99 (fun H locs hw => ?_)
        replace hw : mw_W G ad NF TF FF M15 L H locs := by rw [eM15]; exact hw
        obtain ⟨x16, ex16, hD⟩ := g_let hD
        refine lv_iinc (v := x16) (lv' := [(2, .int x16), (0, .ref (ad 821))]) C.1.1 C.1.2.1 dX12_nodes_100 hl (k := 1) rfl (by rw [ex16]; rfl) (by decide) rfl (fun ls hl => ?_)
        refine lv_goto (tgt := 73) C.1.1 C.1.2.1 dX12_nodes_103 (by decide) ?_
        exact ih73 x16 M15 L _ _ ls hD hw (lv_sub hl [1, 0] rfl)
  have hb30 : ∀ (s1 : Int32) (M : mwM) (L : mwL) (H : Heap) (locs : List Loc) (ls : Array Slot), fX12_nodes_b30 fu a1 s1 M L = some (M0, L0) → mw_W G ad NF TF FF M L H locs → lv_has ls 3 [(0, .ref (ad 821)), (1, .int a1)] → W p l e ({ frames := 0, cells := 0, slots := 0, locals := 0 }) s m [.ref (ad 821), .int a1].toArray below meth c H locs 0 0 (MQ below (mw_Qv G ad NF TF FF (mw_eqV M0 L0)) [.ref (ad 821), .int a1].toArray s 0 0 (mw_fr G)) (F0 m 30 ls [.int s1, .ref (ad 821)]) := by
    intro s1 M L H locs ls hD hw hl
    unfold fX12_nodes_b30 at hD
    obtain ⟨M1, eM1, hD⟩ := g_let hD
    refine mr_putI C hw kc_12 0 (by decide) tf_821 wd_2100 dX12_nodes_30 (by decide) rfl rfl rfl rfl (fun H locs hw => ?_)
    replace hw : mw_W G ad NF TF FF M1 L H locs := by rw [eM1]; exact hw
    refine lv_aload_n C.1.1 C.1.2.1 dX12_nodes_33 rfl (lv_at hl 0 rfl) ?_
    refine mr_getI C hw kc_12 0 (by decide) tf_821 wd_2100 dX12_nodes_34 (by decide) rfl ?_
    refine lv_if_le (tgt := 41) C.1.1 C.1.2.1 dX12_nodes_37 (by decide) (fun c2 => ?_) (fun c2 => ?_)
    · replace hD := g_pos c2 hD
      refine lv_aload_n C.1.1 C.1.2.1 dX12_nodes_41 rfl (lv_at hl 0 rfl) ?_
      refine lv_iload_n C.1.1 C.1.2.1 dX12_nodes_42 rfl (lv_at hl 1 rfl) ?_
      obtain ⟨M3, eM3, hD⟩ := g_let hD
      refine mr_putI C hw kc_12 1 (by decide) tf_821 wd_2101 dX12_nodes_43 (by decide) rfl rfl rfl rfl (fun H locs hw => ?_)
      replace hw : mw_W G ad NF TF FF M3 L H locs := by rw [eM3]; exact hw
      refine lv_aload_n C.1.1 C.1.2.1 dX12_nodes_46 rfl (lv_at hl 0 rfl) ?_
      refine lv_iconst (v := 0) C.1.1 C.1.2.1 dX12_nodes_47 (by decide) ?_
      obtain ⟨M4, eM4, hD⟩ := g_let hD
      refine mr_putI C hw kc_12 2 (by decide) tf_821 wd_2102 dX12_nodes_48 (by decide) rfl rfl rfl rfl (fun H locs hw => ?_)
      replace hw : mw_W G ad NF TF FF M4 L H locs := by rw [eM4]; exact hw
      refine lv_aload_n C.1.1 C.1.2.1 dX12_nodes_51 rfl (lv_at hl 0 rfl) ?_
      refine lv_iconst (v := 0) C.1.1 C.1.2.1 dX12_nodes_52 (by decide) ?_
      obtain ⟨M5, eM5, hD⟩ := g_let hD
      refine mr_putI C hw kc_12 4 (by decide) tf_821 wd_2104 dX12_nodes_53 (by decide) rfl rfl rfl rfl (fun H locs hw => ?_)
      replace hw : mw_W G ad NF TF FF M5 L H locs := by rw [eM5]; exact hw
      refine lv_aload_n C.1.1 C.1.2.1 dX12_nodes_56 rfl (lv_at hl 0 rfl) ?_
      refine lv_iconst (v := 0) C.1.1 C.1.2.1 dX12_nodes_57 (by decide) ?_
      obtain ⟨M6, eM6, hD⟩ := g_let hD
      refine mr_putI C hw kc_12 11 (by decide) tf_821 wd_2111 dX12_nodes_58 (by decide) rfl rfl rfl rfl (fun H locs hw => ?_)
      replace hw : mw_W G ad NF TF FF M6 L H locs := by rw [eM6]; exact hw
      refine lv_aload_n C.1.1 C.1.2.1 dX12_nodes_61 rfl (lv_at hl 0 rfl) ?_
      refine lv_iconst (v := 0) C.1.1 C.1.2.1 dX12_nodes_62 (by decide) ?_
      obtain ⟨M7, eM7, hD⟩ := g_let hD
      refine mr_putI C hw kc_12 22 (by decide) tf_821 wd_2122 dX12_nodes_63 (by decide) rfl rfl rfl rfl (fun H locs hw => ?_)
      replace hw : mw_W G ad NF TF FF M7 L H locs := by rw [eM7]; exact hw
      refine lv_aload_n C.1.1 C.1.2.1 dX12_nodes_66 rfl (lv_at hl 0 rfl) ?_
      refine lv_iconst (v := 0) C.1.1 C.1.2.1 dX12_nodes_67 (by decide) ?_
      obtain ⟨M8, eM8, hD⟩ := g_let hD
      refine mr_putI C hw kc_12 29 (by decide) tf_821 wd_2129 dX12_nodes_68 (by decide) rfl rfl rfl rfl (fun H locs hw => ?_)
      replace hw : mw_W G ad NF TF FF M8 L H locs := by rw [eM8]; exact hw
      refine lv_iconst (v := 0) C.1.1 C.1.2.1 dX12_nodes_71 (by decide) ?_
      refine lv_istore_n (lv' := [(2, .int 0), (0, .ref (ad 821)), (1, .int a1)]) C.1.1 C.1.2.1 dX12_nodes_72 rfl hl (by decide) rfl (fun ls hl => ?_)
      exact hh73 fu 0 M8 L _ _ ls hD hw (lv_sub hl [1, 0] rfl)
    · replace hD := g_neg c2 hD
      exact mr_vret C hr hlocks hw (Option.some.inj hD) dX12_nodes_40
  unfold DX12_nodes at hD
  refine lv_aload_n C.1.1 C.1.2.1 dX12_nodes_0 rfl (lv_at hl 0 rfl) ?_
  refine lv_iconst (v := (-1)) C.1.1 C.1.2.1 dX12_nodes_1 (by decide) ?_
  obtain ⟨M21, eM21, hD⟩ := g_let hD
  refine mr_putI C hw kc_12 50 (by decide) tf_821 wd_2150 dX12_nodes_2 (by decide) rfl rfl rfl rfl (fun H locs hw => ?_)
  replace hw : mw_W G ad NF TF FF M21 L H locs := by rw [eM21]; exact hw
  refine lv_aload_n C.1.1 C.1.2.1 dX12_nodes_5 rfl (lv_at hl 0 rfl) ?_
  refine lv_iconst (v := (-1)) C.1.1 C.1.2.1 dX12_nodes_6 (by decide) ?_
  obtain ⟨M22, eM22, hD⟩ := g_let hD
  refine mr_putI C hw kc_12 48 (by decide) tf_821 wd_2148 dX12_nodes_7 (by decide) rfl rfl rfl rfl (fun H locs hw => ?_)
  replace hw : mw_W G ad NF TF FF M22 L H locs := by rw [eM22]; exact hw
  refine lv_aload_n C.1.1 C.1.2.1 dX12_nodes_10 rfl (lv_at hl 0 rfl) ?_
  refine lv_iload_n C.1.1 C.1.2.1 dX12_nodes_11 rfl (lv_at hl 1 rfl) ?_
  refine lv_bipush (v := 32) C.1.1 C.1.2.1 dX12_nodes_12 (by decide) ?_
  refine lv_icmp_le (tgt := 21) C.1.1 C.1.2.1 dX12_nodes_14 (by decide) (fun c23 => ?_) (fun c23 => ?_)
  · replace hD := g_pos c23 hD
    refine lv_iload_n C.1.1 C.1.2.1 dX12_nodes_21 rfl (lv_at hl 1 rfl) ?_
    refine lv_if_ge (tgt := 29) C.1.1 C.1.2.1 dX12_nodes_22 (by decide) (fun c24 => ?_) (fun c24 => ?_)
    · replace hD := g_pos c24 hD
      refine lv_iconst (v := 0) C.1.1 C.1.2.1 dX12_nodes_29 (by decide) ?_
      exact hb30 0 M22 L _ _ ls hD hw (lv_sub hl [0, 1] rfl)
    · replace hD := g_neg c24 hD
      refine lv_iconst (v := 2) C.1.1 C.1.2.1 dX12_nodes_25 (by decide) ?_
      refine lv_goto (tgt := 30) C.1.1 C.1.2.1 dX12_nodes_26 (by decide) ?_
      exact hb30 2 M22 L _ _ ls hD hw (lv_sub hl [0, 1] rfl)
  · replace hD := g_neg c23 hD
    refine lv_iconst (v := 1) C.1.1 C.1.2.1 dX12_nodes_17 (by decide) ?_
    refine lv_goto (tgt := 30) C.1.1 C.1.2.1 dX12_nodes_18 (by decide) ?_
    exact hb30 1 M22 L _ _ ls hD hw (lv_sub hl [0, 1] rfl)

theorem dX12_octetsOf_0 : decode cX12_octetsOf 0 = .ok (.iload_n 0, 1) := by decide +kernel
theorem dX12_octetsOf_1 : decode cX12_octetsOf 1 = .ok (.iconst 3, 1) := by decide +kernel
theorem dX12_octetsOf_2 : decode cX12_octetsOf 2 = .ok (.if_icmp .le 5, 3) := by decide +kernel
theorem dX12_octetsOf_5 : decode cX12_octetsOf 5 = .ok (.iconst 0, 1) := by decide +kernel
theorem dX12_octetsOf_6 : decode cX12_octetsOf 6 = .ok (.ireturn, 1) := by decide +kernel
theorem dX12_octetsOf_7 : decode cX12_octetsOf 7 = .ok (.iload_n 0, 1) := by decide +kernel
theorem dX12_octetsOf_8 : decode cX12_octetsOf 8 = .ok (.iconst 2, 1) := by decide +kernel
theorem dX12_octetsOf_9 : decode cX12_octetsOf 9 = .ok (.if_icmp .ge 16, 3) := by decide +kernel
theorem dX12_octetsOf_12 : decode cX12_octetsOf 12 = .ok (.iload_n 1, 1) := by decide +kernel
theorem dX12_octetsOf_13 : decode cX12_octetsOf 13 = .ok (.bipush 8, 2) := by decide +kernel
theorem dX12_octetsOf_15 : decode cX12_octetsOf 15 = .ok (.if_icmp .le 8, 3) := by decide +kernel
theorem dX12_octetsOf_18 : decode cX12_octetsOf 18 = .ok (.bipush 8, 2) := by decide +kernel
theorem dX12_octetsOf_20 : decode cX12_octetsOf 20 = .ok (.goto 4, 3) := by decide +kernel
theorem dX12_octetsOf_23 : decode cX12_octetsOf 23 = .ok (.iload_n 1, 1) := by decide +kernel
theorem dX12_octetsOf_24 : decode cX12_octetsOf 24 = .ok (.ireturn, 1) := by decide +kernel
theorem dX12_octetsOf_25 : decode cX12_octetsOf 25 = .ok (.iload_n 1, 1) := by decide +kernel
theorem dX12_octetsOf_26 : decode cX12_octetsOf 26 = .ok (.bipush 9, 2) := by decide +kernel
theorem dX12_octetsOf_28 : decode cX12_octetsOf 28 = .ok (.if_icmp .ge 7, 3) := by decide +kernel
theorem dX12_octetsOf_31 : decode cX12_octetsOf 31 = .ok (.iload_n 1, 1) := by decide +kernel
theorem dX12_octetsOf_32 : decode cX12_octetsOf 32 = .ok (.goto 71, 3) := by decide +kernel
theorem dX12_octetsOf_35 : decode cX12_octetsOf 35 = .ok (.iload_n 1, 1) := by decide +kernel
theorem dX12_octetsOf_36 : decode cX12_octetsOf 36 = .ok (.bipush 9, 2) := by decide +kernel
theorem dX12_octetsOf_38 : decode cX12_octetsOf 38 = .ok (.if_icmp .ne 8, 3) := by decide +kernel
theorem dX12_octetsOf_41 : decode cX12_octetsOf 41 = .ok (.bipush 12, 2) := by decide +kernel
theorem dX12_octetsOf_43 : decode cX12_octetsOf 43 = .ok (.goto 60, 3) := by decide +kernel
theorem dX12_octetsOf_46 : decode cX12_octetsOf 46 = .ok (.iload_n 1, 1) := by decide +kernel
theorem dX12_octetsOf_47 : decode cX12_octetsOf 47 = .ok (.bipush 10, 2) := by decide +kernel
theorem dX12_octetsOf_49 : decode cX12_octetsOf 49 = .ok (.if_icmp .ne 8, 3) := by decide +kernel
theorem dX12_octetsOf_52 : decode cX12_octetsOf 52 = .ok (.bipush 16, 2) := by decide +kernel
theorem dX12_octetsOf_54 : decode cX12_octetsOf 54 = .ok (.goto 49, 3) := by decide +kernel
theorem dX12_octetsOf_57 : decode cX12_octetsOf 57 = .ok (.iload_n 1, 1) := by decide +kernel
theorem dX12_octetsOf_58 : decode cX12_octetsOf 58 = .ok (.bipush 11, 2) := by decide +kernel
theorem dX12_octetsOf_60 : decode cX12_octetsOf 60 = .ok (.if_icmp .ne 8, 3) := by decide +kernel
theorem dX12_octetsOf_63 : decode cX12_octetsOf 63 = .ok (.bipush 20, 2) := by decide +kernel
theorem dX12_octetsOf_65 : decode cX12_octetsOf 65 = .ok (.goto 38, 3) := by decide +kernel
theorem dX12_octetsOf_68 : decode cX12_octetsOf 68 = .ok (.iload_n 1, 1) := by decide +kernel
theorem dX12_octetsOf_69 : decode cX12_octetsOf 69 = .ok (.bipush 12, 2) := by decide +kernel
theorem dX12_octetsOf_71 : decode cX12_octetsOf 71 = .ok (.if_icmp .ne 8, 3) := by decide +kernel
theorem dX12_octetsOf_74 : decode cX12_octetsOf 74 = .ok (.bipush 24, 2) := by decide +kernel
theorem dX12_octetsOf_76 : decode cX12_octetsOf 76 = .ok (.goto 27, 3) := by decide +kernel
theorem dX12_octetsOf_79 : decode cX12_octetsOf 79 = .ok (.iload_n 1, 1) := by decide +kernel
theorem dX12_octetsOf_80 : decode cX12_octetsOf 80 = .ok (.bipush 13, 2) := by decide +kernel
theorem dX12_octetsOf_82 : decode cX12_octetsOf 82 = .ok (.if_icmp .ne 8, 3) := by decide +kernel
theorem dX12_octetsOf_85 : decode cX12_octetsOf 85 = .ok (.bipush 32, 2) := by decide +kernel
theorem dX12_octetsOf_87 : decode cX12_octetsOf 87 = .ok (.goto 16, 3) := by decide +kernel
theorem dX12_octetsOf_90 : decode cX12_octetsOf 90 = .ok (.iload_n 1, 1) := by decide +kernel
theorem dX12_octetsOf_91 : decode cX12_octetsOf 91 = .ok (.bipush 14, 2) := by decide +kernel
theorem dX12_octetsOf_93 : decode cX12_octetsOf 93 = .ok (.if_icmp .ne 8, 3) := by decide +kernel
theorem dX12_octetsOf_96 : decode cX12_octetsOf 96 = .ok (.bipush 48, 2) := by decide +kernel
theorem dX12_octetsOf_98 : decode cX12_octetsOf 98 = .ok (.goto 5, 3) := by decide +kernel
theorem dX12_octetsOf_101 : decode cX12_octetsOf 101 = .ok (.bipush 64, 2) := by decide +kernel
theorem dX12_octetsOf_103 : decode cX12_octetsOf 103 = .ok (.ireturn, 1) := by decide +kernel
theorem cwX12_octetsOf : mw_cwS yX12_octetsOf cX12_octetsOf 2 ((some .int)) 2 := ⟨⟨wd_15, wd_3641, by decide +kernel⟩, wd_3640⟩
set_option maxHeartbeats 4000000 in
set_option maxRecDepth 100000 in
theorem tX12_octetsOf (l : Launch) (G : mwG) (ad : Nat → Nat) (fu : Nat) (a1 : Int32) (a2 : Int32) (M : mwM) (L : mwL) {r0 : Int32} {M0 : mwM} {L0 : mwL} (hD : DX12_octetsOf fu a1 a2 M L = some (r0, M0, L0)) : Met l yX12_octetsOf (Cond.code yX12_octetsOf cX12_octetsOf 2 ((some .int)) :: GT) ({ frames := 0, cells := 0, slots := 0, locals := 0 }) (mw_Pre G ad NF TF FF M L [.int a1, .int a2]) (mw_Qi G ad NF TF FF (mw_eqI r0 M0 L0)) 0 0 (mw_fr G) := by
  refine mw_enter (by decide) (Nat.le_of_ble_eq_true rfl) ?_
  intro p e s m below meth c ls C hr hlocks hnm hw hl
  have hl : lv_has ls 2 [(0, .int a1), (1, .int a2)] := hl
  have hb24 : ∀ (s0 : Int32) (M : mwM) (L : mwL) (H : Heap) (locs : List Loc) (ls : Array Slot), fX12_octetsOf_b24 fu a1 a2 s0 M L = some (r0, M0, L0) → mw_W G ad NF TF FF M L H locs → lv_has ls 2 [] → W p l e ({ frames := 0, cells := 0, slots := 0, locals := 0 }) s m [.int a1, .int a2].toArray below meth c H locs 0 0 (MQ below (mw_Qi G ad NF TF FF (mw_eqI r0 M0 L0)) [.int a1, .int a2].toArray s 0 0 (mw_fr G)) (F0 m 24 ls [.int s0]) := by
    intro s0 M L H locs ls hD hw hl
    unfold fX12_octetsOf_b24 at hD
    exact mr_iret C hr hlocks hw rfl (Option.some.inj hD) dX12_octetsOf_24
  have hb103 : ∀ (s0 : Int32) (M : mwM) (L : mwL) (H : Heap) (locs : List Loc) (ls : Array Slot), fX12_octetsOf_b103 fu a1 a2 s0 M L = some (r0, M0, L0) → mw_W G ad NF TF FF M L H locs → lv_has ls 2 [] → W p l e ({ frames := 0, cells := 0, slots := 0, locals := 0 }) s m [.int a1, .int a2].toArray below meth c H locs 0 0 (MQ below (mw_Qi G ad NF TF FF (mw_eqI r0 M0 L0)) [.int a1, .int a2].toArray s 0 0 (mw_fr G)) (F0 m 103 ls [.int s0]) := by
    intro s0 M L H locs ls hD hw hl
    unfold fX12_octetsOf_b103 at hD
    exact mr_iret C hr hlocks hw rfl (Option.some.inj hD) dX12_octetsOf_103
  unfold DX12_octetsOf at hD
  refine lv_iload_n C.1.1 C.1.2.1 dX12_octetsOf_0 rfl (lv_at hl 0 rfl) ?_
  refine lv_iconst (v := 3) C.1.1 C.1.2.1 dX12_octetsOf_1 (by decide) ?_
  refine lv_icmp_le (tgt := 7) C.1.1 C.1.2.1 dX12_octetsOf_2 (by decide) (fun c1 => ?_) (fun c1 => ?_)
  · replace hD := g_pos c1 hD
    refine lv_iload_n C.1.1 C.1.2.1 dX12_octetsOf_7 rfl (lv_at hl 0 rfl) ?_
    refine lv_iconst (v := 2) C.1.1 C.1.2.1 dX12_octetsOf_8 (by decide) ?_
    refine lv_icmp_ge (tgt := 25) C.1.1 C.1.2.1 dX12_octetsOf_9 (by decide) (fun c2 => ?_) (fun c2 => ?_)
    · replace hD := g_pos c2 hD
      refine lv_iload_n C.1.1 C.1.2.1 dX12_octetsOf_25 rfl (lv_at hl 1 rfl) ?_
      refine lv_bipush (v := 9) C.1.1 C.1.2.1 dX12_octetsOf_26 (by decide) ?_
      refine lv_icmp_ge (tgt := 35) C.1.1 C.1.2.1 dX12_octetsOf_28 (by decide) (fun c3 => ?_) (fun c3 => ?_)
      · replace hD := g_pos c3 hD
        refine lv_iload_n C.1.1 C.1.2.1 dX12_octetsOf_35 rfl (lv_at hl 1 rfl) ?_
        refine lv_bipush (v := 9) C.1.1 C.1.2.1 dX12_octetsOf_36 (by decide) ?_
        refine lv_icmp_ne (tgt := 46) C.1.1 C.1.2.1 dX12_octetsOf_38 (by decide) (fun c4 => ?_) (fun c4 => ?_)
        · replace hD := g_neg c4 hD
          refine lv_iload_n C.1.1 C.1.2.1 dX12_octetsOf_46 rfl (lv_at hl 1 rfl) ?_
          refine lv_bipush (v := 10) C.1.1 C.1.2.1 dX12_octetsOf_47 (by decide) ?_
          refine lv_icmp_ne (tgt := 57) C.1.1 C.1.2.1 dX12_octetsOf_49 (by decide) (fun c5 => ?_) (fun c5 => ?_)
          · replace hD := g_neg c5 hD
            refine lv_iload_n C.1.1 C.1.2.1 dX12_octetsOf_57 rfl (lv_at hl 1 rfl) ?_
            refine lv_bipush (v := 11) C.1.1 C.1.2.1 dX12_octetsOf_58 (by decide) ?_
            refine lv_icmp_ne (tgt := 68) C.1.1 C.1.2.1 dX12_octetsOf_60 (by decide) (fun c6 => ?_) (fun c6 => ?_)
            · replace hD := g_neg c6 hD
              refine lv_iload_n C.1.1 C.1.2.1 dX12_octetsOf_68 rfl (lv_at hl 1 rfl) ?_
              refine lv_bipush (v := 12) C.1.1 C.1.2.1 dX12_octetsOf_69 (by decide) ?_
              refine lv_icmp_ne (tgt := 79) C.1.1 C.1.2.1 dX12_octetsOf_71 (by decide) (fun c7 => ?_) (fun c7 => ?_)
              · replace hD := g_neg c7 hD
                refine lv_iload_n C.1.1 C.1.2.1 dX12_octetsOf_79 rfl (lv_at hl 1 rfl) ?_
                refine lv_bipush (v := 13) C.1.1 C.1.2.1 dX12_octetsOf_80 (by decide) ?_
                refine lv_icmp_ne (tgt := 90) C.1.1 C.1.2.1 dX12_octetsOf_82 (by decide) (fun c8 => ?_) (fun c8 => ?_)
                · replace hD := g_neg c8 hD
                  refine lv_iload_n C.1.1 C.1.2.1 dX12_octetsOf_90 rfl (lv_at hl 1 rfl) ?_
                  refine lv_bipush (v := 14) C.1.1 C.1.2.1 dX12_octetsOf_91 (by decide) ?_
                  refine lv_icmp_ne (tgt := 101) C.1.1 C.1.2.1 dX12_octetsOf_93 (by decide) (fun c9 => ?_) (fun c9 => ?_)
                  · replace hD := g_neg c9 hD
                    refine lv_bipush (v := 64) C.1.1 C.1.2.1 dX12_octetsOf_101 (by decide) ?_
                    exact hb103 64 M L _ _ ls hD hw (lv_sub hl [] rfl)
                  · replace hD := g_pos c9 hD
                    refine lv_bipush (v := 48) C.1.1 C.1.2.1 dX12_octetsOf_96 (by decide) ?_
                    refine lv_goto (tgt := 103) C.1.1 C.1.2.1 dX12_octetsOf_98 (by decide) ?_
                    exact hb103 48 M L _ _ ls hD hw (lv_sub hl [] rfl)
                · replace hD := g_pos c8 hD
                  refine lv_bipush (v := 32) C.1.1 C.1.2.1 dX12_octetsOf_85 (by decide) ?_
                  refine lv_goto (tgt := 103) C.1.1 C.1.2.1 dX12_octetsOf_87 (by decide) ?_
                  exact hb103 32 M L _ _ ls hD hw (lv_sub hl [] rfl)
              · replace hD := g_pos c7 hD
                refine lv_bipush (v := 24) C.1.1 C.1.2.1 dX12_octetsOf_74 (by decide) ?_
                refine lv_goto (tgt := 103) C.1.1 C.1.2.1 dX12_octetsOf_76 (by decide) ?_
                exact hb103 24 M L _ _ ls hD hw (lv_sub hl [] rfl)
            · replace hD := g_pos c6 hD
              refine lv_bipush (v := 20) C.1.1 C.1.2.1 dX12_octetsOf_63 (by decide) ?_
              refine lv_goto (tgt := 103) C.1.1 C.1.2.1 dX12_octetsOf_65 (by decide) ?_
              exact hb103 20 M L _ _ ls hD hw (lv_sub hl [] rfl)
          · replace hD := g_pos c5 hD
            refine lv_bipush (v := 16) C.1.1 C.1.2.1 dX12_octetsOf_52 (by decide) ?_
            refine lv_goto (tgt := 103) C.1.1 C.1.2.1 dX12_octetsOf_54 (by decide) ?_
            exact hb103 16 M L _ _ ls hD hw (lv_sub hl [] rfl)
        · replace hD := g_pos c4 hD
          refine lv_bipush (v := 12) C.1.1 C.1.2.1 dX12_octetsOf_41 (by decide) ?_
          refine lv_goto (tgt := 103) C.1.1 C.1.2.1 dX12_octetsOf_43 (by decide) ?_
          exact hb103 12 M L _ _ ls hD hw (lv_sub hl [] rfl)
      · replace hD := g_neg c3 hD
        refine lv_iload_n C.1.1 C.1.2.1 dX12_octetsOf_31 rfl (lv_at hl 1 rfl) ?_
        refine lv_goto (tgt := 103) C.1.1 C.1.2.1 dX12_octetsOf_32 (by decide) ?_
        exact hb103 a2 M L _ _ ls hD hw (lv_sub hl [] rfl)
    · replace hD := g_neg c2 hD
      refine lv_iload_n C.1.1 C.1.2.1 dX12_octetsOf_12 rfl (lv_at hl 1 rfl) ?_
      refine lv_bipush (v := 8) C.1.1 C.1.2.1 dX12_octetsOf_13 (by decide) ?_
      refine lv_icmp_le (tgt := 23) C.1.1 C.1.2.1 dX12_octetsOf_15 (by decide) (fun c10 => ?_) (fun c10 => ?_)
      · replace hD := g_pos c10 hD
        refine lv_iload_n C.1.1 C.1.2.1 dX12_octetsOf_23 rfl (lv_at hl 1 rfl) ?_
        exact hb24 a2 M L _ _ ls hD hw (lv_sub hl [] rfl)
      · replace hD := g_neg c10 hD
        refine lv_bipush (v := 8) C.1.1 C.1.2.1 dX12_octetsOf_18 (by decide) ?_
        refine lv_goto (tgt := 24) C.1.1 C.1.2.1 dX12_octetsOf_20 (by decide) ?_
        exact hb24 8 M L _ _ ls hD hw (lv_sub hl [] rfl)
  · replace hD := g_neg c1 hD
    refine lv_iconst (v := 0) C.1.1 C.1.2.1 dX12_octetsOf_5 (by decide) ?_
    exact mr_iret C hr hlocks hw rfl (Option.some.inj hD) dX12_octetsOf_6

theorem dX12_noNode_0 : decode cX12_noNode 0 = .ok (.iload_n 1, 1) := by decide +kernel
theorem dX12_noNode_1 : decode cX12_noNode 1 = .ok (.ifCond .lt 11, 3) := by decide +kernel
theorem dX12_noNode_4 : decode cX12_noNode 4 = .ok (.iload_n 1, 1) := by decide +kernel
theorem dX12_noNode_5 : decode cX12_noNode 5 = .ok (.aload_n 0, 1) := by decide +kernel
theorem dX12_noNode_6 : decode cX12_noNode 6 = .ok (.getfield 7, 3) := by decide +kernel
theorem dX12_noNode_9 : decode cX12_noNode 9 = .ok (.if_icmp .lt 7, 3) := by decide +kernel
theorem dX12_noNode_12 : decode cX12_noNode 12 = .ok (.iconst 1, 1) := by decide +kernel
theorem dX12_noNode_13 : decode cX12_noNode 13 = .ok (.goto 4, 3) := by decide +kernel
theorem dX12_noNode_16 : decode cX12_noNode 16 = .ok (.iconst 0, 1) := by decide +kernel
theorem dX12_noNode_17 : decode cX12_noNode 17 = .ok (.ireturn, 1) := by decide +kernel
theorem cwX12_noNode : mw_cwV yX12_noNode cX12_noNode 2 ((some .boolean)) 1 := ⟨⟨wd_15, wd_3626, by decide +kernel⟩, wd_3625, sl_228⟩
set_option maxHeartbeats 4000000 in
set_option maxRecDepth 100000 in
theorem tX12_noNode (l : Launch) (G : mwG) (ad : Nat → Nat) (fu : Nat) (a1 : Int32) (M : mwM) (L : mwL) {r0 : Int32} {M0 : mwM} {L0 : mwL} (hD : DX12_noNode fu a1 M L = some (r0, M0, L0)) : Met l yX12_noNode (Cond.code yX12_noNode cX12_noNode 2 ((some .boolean)) :: GT) ({ frames := 0, cells := 0, slots := 0, locals := 0 }) (mw_Pre G ad NF TF FF M L [.ref (ad 821), .int a1]) (mw_Qi G ad NF TF FF (mw_eqI r0 M0 L0)) 0 0 (mw_fr G) := by
  refine mw_enter (by decide) (Nat.le_of_ble_eq_true rfl) ?_
  intro p e s m below meth c ls C hr hlocks hnm hw hl
  have hl : lv_has ls 2 [(0, .ref (ad 821)), (1, .int a1)] := hl
  have hb17 : ∀ (s0 : Int32) (M : mwM) (L : mwL) (H : Heap) (locs : List Loc) (ls : Array Slot), fX12_noNode_b17 fu a1 s0 M L = some (r0, M0, L0) → mw_W G ad NF TF FF M L H locs → lv_has ls 2 [] → W p l e ({ frames := 0, cells := 0, slots := 0, locals := 0 }) s m [.ref (ad 821), .int a1].toArray below meth c H locs 0 0 (MQ below (mw_Qi G ad NF TF FF (mw_eqI r0 M0 L0)) [.ref (ad 821), .int a1].toArray s 0 0 (mw_fr G)) (F0 m 17 ls [.int s0]) := by
    intro s0 M L H locs ls hD hw hl
    unfold fX12_noNode_b17 at hD
    obtain ⟨z1, hD⟩ := g_zz hD
    exact mr_iret C hr hlocks hw (nz_zz z1) (Option.some.inj hD) dX12_noNode_17
  have hb12 : ∀ (M : mwM) (L : mwL) (H : Heap) (locs : List Loc) (ls : Array Slot), fX12_noNode_b12 fu a1 M L = some (r0, M0, L0) → mw_W G ad NF TF FF M L H locs → lv_has ls 2 [] → W p l e ({ frames := 0, cells := 0, slots := 0, locals := 0 }) s m [.ref (ad 821), .int a1].toArray below meth c H locs 0 0 (MQ below (mw_Qi G ad NF TF FF (mw_eqI r0 M0 L0)) [.ref (ad 821), .int a1].toArray s 0 0 (mw_fr G)) (F0 m 12 ls []) := by
    intro M L H locs ls hD hw hl
    unfold fX12_noNode_b12 at hD
    refine lv_iconst (v := 1) C.1.1 C.1.2.1 dX12_noNode_12 (by decide) ?_
    refine lv_goto (tgt := 17) C.1.1 C.1.2.1 dX12_noNode_13 (by decide) ?_
    exact hb17 1 M L _ _ ls hD hw (lv_sub hl [] rfl)
  unfold DX12_noNode at hD
  refine lv_iload_n C.1.1 C.1.2.1 dX12_noNode_0 rfl (lv_at hl 1 rfl) ?_
  refine lv_if_lt (tgt := 12) C.1.1 C.1.2.1 dX12_noNode_1 (by decide) (fun c2 => ?_) (fun c2 => ?_)
  · replace hD := g_pos c2 hD
    exact hb12 M L _ _ ls hD hw (lv_sub hl [] rfl)
  · replace hD := g_neg c2 hD
    refine lv_iload_n C.1.1 C.1.2.1 dX12_noNode_4 rfl (lv_at hl 1 rfl) ?_
    refine lv_aload_n C.1.1 C.1.2.1 dX12_noNode_5 rfl (lv_at hl 0 rfl) ?_
    refine mr_getI C hw kc_12 1 (by decide) tf_821 wd_2101 dX12_noNode_6 (by decide) rfl ?_
    refine lv_icmp_lt (tgt := 16) C.1.1 C.1.2.1 dX12_noNode_9 (by decide) (fun c3 => ?_) (fun c3 => ?_)
    · replace hD := g_pos c3 hD
      refine lv_iconst (v := 0) C.1.1 C.1.2.1 dX12_noNode_16 (by decide) ?_
      exact hb17 0 M L _ _ ls hD hw (lv_sub hl [] rfl)
    · replace hD := g_neg c3 hD
      exact hb12 M L _ _ ls hD hw (lv_sub hl [] rfl)

theorem dX12_send_0 : decode cX12_send 0 = .ok (.iload_n 3, 1) := by decide +kernel
theorem dX12_send_1 : decode cX12_send 1 = .ok (.ifCond .lt 47, 3) := by decide +kernel
theorem dX12_send_4 : decode cX12_send 4 = .ok (.iload_n 3, 1) := by decide +kernel
theorem dX12_send_5 : decode cX12_send 5 = .ok (.iconst 5, 1) := by decide +kernel
theorem dX12_send_6 : decode cX12_send 6 = .ok (.if_icmp .gt 42, 3) := by decide +kernel
theorem dX12_send_9 : decode cX12_send 9 = .ok (.iload 4, 2) := by decide +kernel
theorem dX12_send_11 : decode cX12_send 11 = .ok (.ifCond .lt 37, 3) := by decide +kernel
theorem dX12_send_14 : decode cX12_send 14 = .ok (.iload 4, 2) := by decide +kernel
theorem dX12_send_16 : decode cX12_send 16 = .ok (.bipush 15, 2) := by decide +kernel
theorem dX12_send_18 : decode cX12_send 18 = .ok (.if_icmp .gt 30, 3) := by decide +kernel
theorem dX12_send_21 : decode cX12_send 21 = .ok (.iload_n 2, 1) := by decide +kernel
theorem dX12_send_22 : decode cX12_send 22 = .ok (.ifCond .lt 26, 3) := by decide +kernel
theorem dX12_send_25 : decode cX12_send 25 = .ok (.iload_n 2, 1) := by decide +kernel
theorem dX12_send_26 : decode cX12_send 26 = .ok (.iload_n 3, 1) := by decide +kernel
theorem dX12_send_27 : decode cX12_send 27 = .ok (.iconst 2, 1) := by decide +kernel
theorem dX12_send_28 : decode cX12_send 28 = .ok (.irem, 1) := by decide +kernel
theorem dX12_send_29 : decode cX12_send 29 = .ok (.iconst 1, 1) := by decide +kernel
theorem dX12_send_30 : decode cX12_send 30 = .ok (.if_icmp .ne 8, 3) := by decide +kernel
theorem dX12_send_33 : decode cX12_send 33 = .ok (.ldc 138, 2) := by decide +kernel
theorem dX12_send_35 : decode cX12_send 35 = .ok (.goto 6, 3) := by decide +kernel
theorem dX12_send_38 : decode cX12_send 38 = .ok (.sipush 2048, 3) := by decide +kernel
theorem dX12_send_41 : decode cX12_send 41 = .ok (.if_icmp .ge 7, 3) := by decide +kernel
theorem dX12_send_44 : decode cX12_send 44 = .ok (.iconst 1, 1) := by decide +kernel
theorem dX12_send_45 : decode cX12_send 45 = .ok (.goto 4, 3) := by decide +kernel
theorem dX12_send_48 : decode cX12_send 48 = .ok (.iconst 0, 1) := by decide +kernel
theorem dX12_send_49 : decode cX12_send 49 = .ok (.istore 5, 2) := by decide +kernel
theorem dX12_send_51 : decode cX12_send 51 = .ok (.aload_n 0, 1) := by decide +kernel
theorem dX12_send_52 : decode cX12_send 52 = .ok (.aload_n 0, 1) := by decide +kernel
theorem dX12_send_53 : decode cX12_send 53 = .ok (.iload_n 1, 1) := by decide +kernel
theorem dX12_send_54 : decode cX12_send 54 = .ok (.invokevirtual 139, 3) := by decide +kernel
theorem dX12_send_57 : decode cX12_send 57 = .ok (.ifCond .eq 7, 3) := by decide +kernel
theorem dX12_send_60 : decode cX12_send 60 = .ok (.iconst 1, 1) := by decide +kernel
theorem dX12_send_61 : decode cX12_send 61 = .ok (.goto 27, 3) := by decide +kernel
theorem dX12_send_64 : decode cX12_send 64 = .ok (.iload 5, 2) := by decide +kernel
theorem dX12_send_66 : decode cX12_send 66 = .ok (.ifCond .ne 7, 3) := by decide +kernel
theorem dX12_send_69 : decode cX12_send 69 = .ok (.iconst 2, 1) := by decide +kernel
theorem dX12_send_70 : decode cX12_send 70 = .ok (.goto 18, 3) := by decide +kernel
theorem dX12_send_73 : decode cX12_send 73 = .ok (.aload_n 0, 1) := by decide +kernel
theorem dX12_send_74 : decode cX12_send 74 = .ok (.getfield 126, 3) := by decide +kernel
theorem dX12_send_77 : decode cX12_send 77 = .ok (.sipush 200, 3) := by decide +kernel
theorem dX12_send_80 : decode cX12_send 80 = .ok (.if_icmp .ne 7, 3) := by decide +kernel
theorem dX12_send_83 : decode cX12_send 83 = .ok (.iconst 3, 1) := by decide +kernel
theorem dX12_send_84 : decode cX12_send 84 = .ok (.goto 4, 3) := by decide +kernel
theorem dX12_send_87 : decode cX12_send 87 = .ok (.iconst 0, 1) := by decide +kernel
theorem dX12_send_88 : decode cX12_send 88 = .ok (.putfield 120, 3) := by decide +kernel
theorem dX12_send_91 : decode cX12_send 91 = .ok (.aload_n 0, 1) := by decide +kernel
theorem dX12_send_92 : decode cX12_send 92 = .ok (.getfield 120, 3) := by decide +kernel
theorem dX12_send_95 : decode cX12_send 95 = .ok (.ifCond .le 5, 3) := by decide +kernel
theorem dX12_send_98 : decode cX12_send 98 = .ok (.iconst 0, 1) := by decide +kernel
theorem dX12_send_99 : decode cX12_send 99 = .ok (.ireturn, 1) := by decide +kernel
theorem dX12_send_100 : decode cX12_send 100 = .ok (.aload_n 0, 1) := by decide +kernel
theorem dX12_send_101 : decode cX12_send 101 = .ok (.getfield 17, 3) := by decide +kernel
theorem dX12_send_104 : decode cX12_send 104 = .ok (.aload_n 0, 1) := by decide +kernel
theorem dX12_send_105 : decode cX12_send 105 = .ok (.getfield 126, 3) := by decide +kernel
theorem dX12_send_108 : decode cX12_send 108 = .ok (.iload_n 1, 1) := by decide +kernel
theorem dX12_send_109 : decode cX12_send 109 = .ok (.iastore, 1) := by decide +kernel
theorem dX12_send_110 : decode cX12_send 110 = .ok (.aload_n 0, 1) := by decide +kernel
theorem dX12_send_111 : decode cX12_send 111 = .ok (.getfield 21, 3) := by decide +kernel
theorem dX12_send_114 : decode cX12_send 114 = .ok (.aload_n 0, 1) := by decide +kernel
theorem dX12_send_115 : decode cX12_send 115 = .ok (.getfield 126, 3) := by decide +kernel
theorem dX12_send_118 : decode cX12_send 118 = .ok (.iload_n 2, 1) := by decide +kernel
theorem dX12_send_119 : decode cX12_send 119 = .ok (.iastore, 1) := by decide +kernel
theorem dX12_send_120 : decode cX12_send 120 = .ok (.aload_n 0, 1) := by decide +kernel
theorem dX12_send_121 : decode cX12_send 121 = .ok (.getfield 24, 3) := by decide +kernel
theorem dX12_send_124 : decode cX12_send 124 = .ok (.aload_n 0, 1) := by decide +kernel
theorem dX12_send_125 : decode cX12_send 125 = .ok (.getfield 126, 3) := by decide +kernel
theorem dX12_send_128 : decode cX12_send 128 = .ok (.iload_n 3, 1) := by decide +kernel
theorem dX12_send_129 : decode cX12_send 129 = .ok (.iastore, 1) := by decide +kernel
theorem dX12_send_130 : decode cX12_send 130 = .ok (.aload_n 0, 1) := by decide +kernel
theorem dX12_send_131 : decode cX12_send 131 = .ok (.getfield 27, 3) := by decide +kernel
theorem dX12_send_134 : decode cX12_send 134 = .ok (.aload_n 0, 1) := by decide +kernel
theorem dX12_send_135 : decode cX12_send 135 = .ok (.getfield 126, 3) := by decide +kernel
theorem dX12_send_138 : decode cX12_send 138 = .ok (.iload 4, 2) := by decide +kernel
theorem dX12_send_140 : decode cX12_send 140 = .ok (.iastore, 1) := by decide +kernel
theorem dX12_send_141 : decode cX12_send 141 = .ok (.aload_n 0, 1) := by decide +kernel
theorem dX12_send_142 : decode cX12_send 142 = .ok (.getfield 33, 3) := by decide +kernel
theorem dX12_send_145 : decode cX12_send 145 = .ok (.aload_n 0, 1) := by decide +kernel
theorem dX12_send_146 : decode cX12_send 146 = .ok (.getfield 126, 3) := by decide +kernel
theorem dX12_send_149 : decode cX12_send 149 = .ok (.iconst 0, 1) := by decide +kernel
theorem dX12_send_150 : decode cX12_send 150 = .ok (.bastore, 1) := by decide +kernel
theorem dX12_send_151 : decode cX12_send 151 = .ok (.iconst 0, 1) := by decide +kernel
theorem dX12_send_152 : decode cX12_send 152 = .ok (.istore 6, 2) := by decide +kernel
theorem dX12_send_154 : decode cX12_send 154 = .ok (.iload 6, 2) := by decide +kernel
theorem dX12_send_156 : decode cX12_send 156 = .ok (.bipush 64, 2) := by decide +kernel
theorem dX12_send_158 : decode cX12_send 158 = .ok (.if_icmp .ge 25, 3) := by decide +kernel
theorem dX12_send_161 : decode cX12_send 161 = .ok (.aload_n 0, 1) := by decide +kernel
theorem dX12_send_162 : decode cX12_send 162 = .ok (.getfield 30, 3) := by decide +kernel
theorem dX12_send_165 : decode cX12_send 165 = .ok (.bipush 64, 2) := by decide +kernel
theorem dX12_send_167 : decode cX12_send 167 = .ok (.aload_n 0, 1) := by decide +kernel
theorem dX12_send_168 : decode cX12_send 168 = .ok (.getfield 126, 3) := by decide +kernel
theorem dX12_send_171 : decode cX12_send 171 = .ok (.imul, 1) := by decide +kernel
theorem dX12_send_172 : decode cX12_send 172 = .ok (.iload 6, 2) := by decide +kernel
theorem dX12_send_174 : decode cX12_send 174 = .ok (.iadd, 1) := by decide +kernel
theorem dX12_send_175 : decode cX12_send 175 = .ok (.iconst 0, 1) := by decide +kernel
theorem dX12_send_176 : decode cX12_send 176 = .ok (.iastore, 1) := by decide +kernel
theorem dX12_send_177 : decode cX12_send 177 = .ok (.iinc 6 1, 3) := by decide +kernel
theorem dX12_send_180 : decode cX12_send 180 = .ok (.goto (-26), 3) := by decide +kernel
theorem dX12_send_183 : decode cX12_send 183 = .ok (.aload_n 0, 1) := by decide +kernel
theorem dX12_send_184 : decode cX12_send 184 = .ok (.dup, 1) := by decide +kernel
theorem dX12_send_185 : decode cX12_send 185 = .ok (.getfield 126, 3) := by decide +kernel
theorem dX12_send_188 : decode cX12_send 188 = .ok (.iconst 1, 1) := by decide +kernel
theorem dX12_send_189 : decode cX12_send 189 = .ok (.iadd, 1) := by decide +kernel
theorem dX12_send_190 : decode cX12_send 190 = .ok (.putfield 126, 3) := by decide +kernel
theorem dX12_send_193 : decode cX12_send 193 = .ok (.aload_n 0, 1) := by decide +kernel
theorem dX12_send_194 : decode cX12_send 194 = .ok (.getfield 126, 3) := by decide +kernel
theorem dX12_send_197 : decode cX12_send 197 = .ok (.iconst 1, 1) := by decide +kernel
theorem dX12_send_198 : decode cX12_send 198 = .ok (.isub, 1) := by decide +kernel
theorem dX12_send_199 : decode cX12_send 199 = .ok (.ireturn, 1) := by decide +kernel
theorem cwX12_send : mw_cwV yX12_send cX12_send 7 ((some .int)) 4 := ⟨⟨wd_15, wd_3621, by decide +kernel⟩, wd_3619, wd_3620⟩
set_option maxHeartbeats 4000000 in
set_option maxRecDepth 100000 in
theorem tX12_send (l : Launch) (G : mwG) (ad : Nat → Nat) (fu : Nat) (a1 : Int32) (a2 : Int32) (a3 : Int32) (a4 : Int32) (M : mwM) (L : mwL) {r0 : Int32} {M0 : mwM} {L0 : mwL} (hD : DX12_send fu a1 a2 a3 a4 M L = some (r0, M0, L0)) : Met l yX12_send (Cond.code yX12_send cX12_send 7 ((some .int)) :: GT) ({ frames := 1, cells := 0, slots := 0, locals := 21 }) (mw_Pre G ad NF TF FF M L [.ref (ad 821), .int a1, .int a2, .int a3, .int a4]) (mw_Qi G ad NF TF FF (mw_eqI r0 M0 L0)) 0 0 (mw_fr G) := by
  refine mw_enter (by decide) (Nat.le_of_ble_eq_true rfl) ?_
  intro p e s m below meth c ls C hr hlocks hnm hw hl
  have hl : lv_has ls 7 [(0, .ref (ad 821)), (1, .int a1), (2, .int a2), (3, .int a3), (4, .int a4)] := hl
  have hh154 : ∀ (f : Nat) (v6 : Int32) (M : mwM) (L : mwL) (H : Heap) (locs : List Loc) (ls : Array Slot), fX12_send_h154 fu a1 a2 a3 a4 f (v6, M, L) = some (r0, M0, L0) → mw_W G ad NF TF FF M L H locs → lv_has ls 7 [(0, .ref (ad 821)), (6, .int v6)] → W p l e ({ frames := 1, cells := 0, slots := 0, locals := 21 }) s m [.ref (ad 821), .int a1, .int a2, .int a3, .int a4].toArray below meth c H locs 0 0 (MQ below (mw_Qi G ad NF TF FF (mw_eqI r0 M0 L0)) [.ref (ad 821), .int a1, .int a2, .int a3, .int a4].toArray s 0 0 (mw_fr G)) (F0 m 154 ls []) := by
    intro f
    induction f with
    | zero => intro v6 M L H locs ls hD; cases hD
    | succ f154 ih154 =>
      intro v6 M L H locs ls hD hw hl
      replace hD : fX12_send_i154 fu a1 a2 a3 a4 (fX12_send_h154 fu a1 a2 a3 a4 f154) v6 M L = some (r0, M0, L0) := hD
      unfold fX12_send_i154 at hD
      refine lv_iload C.1.1 C.1.2.1 dX12_send_154 (lv_at hl 1 rfl) ?_
      refine lv_bipush (v := 64) C.1.1 C.1.2.1 dX12_send_156 (by decide) ?_
      refine lv_icmp_ge (tgt := 183) C.1.1 C.1.2.1 dX12_send_158 (by decide) (fun c20 => ?_) (fun c20 => ?_)
      · replace hD := g_pos c20 hD
        refine lv_aload_n C.1.1 C.1.2.1 dX12_send_183 rfl (lv_at hl 0 rfl) ?_
        refine lv_dup C.1.1 C.1.2.1 dX12_send_184 rfl ?_
        refine mr_getI C hw kc_12 4 (by decide) tf_821 wd_2104 dX12_send_185 (by decide) rfl ?_
        refine lv_iconst (v := 1) C.1.1 C.1.2.1 dX12_send_188 (by decide) ?_
        refine lv_iadd C.1.1 C.1.2.1 dX12_send_189 ?_
        obtain ⟨M21, eM21, hD⟩ := g_let hD
        refine mr_putI C hw kc_12 4 (by decide) tf_821 wd_2104 dX12_send_190 (by decide) rfl rfl rfl rfl (fun H locs hw => ?_)
        replace hw : mw_W G ad NF TF FF M21 L H locs := by rw [eM21]; exact hw
        refine lv_aload_n C.1.1 C.1.2.1 dX12_send_193 rfl (lv_at hl 0 rfl) ?_
        refine mr_getI C hw kc_12 4 (by decide) tf_821 wd_2104 dX12_send_194 (by decide) rfl ?_
        refine lv_iconst (v := 1) C.1.1 C.1.2.1 dX12_send_197 (by decide) ?_
        refine lv_isub C.1.1 C.1.2.1 dX12_send_198 ?_
        exact mr_iret C hr hlocks hw rfl (Option.some.inj hD) dX12_send_199
      · replace hD := g_neg c20 hD
        refine lv_aload_n C.1.1 C.1.2.1 dX12_send_161 rfl (lv_at hl 0 rfl) ?_
        refine mr_getR C hw kc_12 9 (by decide) tf_821 ff_821_9 wd_2109 dX12_send_162 (by decide) rfl ?_
        refine lv_bipush (v := 64) C.1.1 C.1.2.1 dX12_send_165 (by decide) ?_
        refine lv_aload_n C.1.1 C.1.2.1 dX12_send_167 rfl (lv_at hl 0 rfl) ?_
        refine mr_getI C hw kc_12 4 (by decide) tf_821 wd_2104 dX12_send_168 (by decide) rfl ?_
        refine lv_imul C.1.1 C.1.2.1 dX12_send_171 ?_
        refine lv_iload C.1.1 C.1.2.1 dX12_send_172 (lv_at hl 1 rfl) ?_
        refine lv_iadd C.1.1 C.1.2.1 dX12_send_174 ?_
        refine lv_iconst (v := 0) C.1.1 C.1.2.1 dX12_send_175 (by decide) ?_
        obtain ⟨q22, hD⟩ := g_ck hD
        obtain ⟨M23, eM23, hD⟩ := g_let hD
        refine mr_iast C hw (by decide) tf_827 q22 dX12_send_176 (fun H locs hw => ?_)
        replace hw : mw_W G ad NF TF FF M23 L H locs := by rw [eM23]; exact hw
        obtain ⟨x24, ex24, hD⟩ := g_let hD
        refine lv_iinc (v := x24) (lv' := [(6, .int x24), (0, .ref (ad 821))]) C.1.1 C.1.2.1 dX12_send_177 hl (k := 1) rfl (by rw [ex24]; rfl) (by decide) rfl (fun ls hl => ?_)
        refine lv_goto (tgt := 154) C.1.1 C.1.2.1 dX12_send_180 (by decide) ?_
        exact ih154 x24 M23 L _ _ ls hD hw (lv_sub hl [1, 0] rfl)
  have hb88 : ∀ (s1 : Int32) (M : mwM) (L : mwL) (H : Heap) (locs : List Loc) (ls : Array Slot), fX12_send_b88 fu a1 a2 a3 a4 s1 M L = some (r0, M0, L0) → mw_W G ad NF TF FF M L H locs → lv_has ls 7 [(0, .ref (ad 821)), (1, .int a1), (2, .int a2), (3, .int a3), (4, .int a4)] → W p l e ({ frames := 1, cells := 0, slots := 0, locals := 21 }) s m [.ref (ad 821), .int a1, .int a2, .int a3, .int a4].toArray below meth c H locs 0 0 (MQ below (mw_Qi G ad NF TF FF (mw_eqI r0 M0 L0)) [.ref (ad 821), .int a1, .int a2, .int a3, .int a4].toArray s 0 0 (mw_fr G)) (F0 m 88 ls [.int s1, .ref (ad 821)]) := by
    intro s1 M L H locs ls hD hw hl
    unfold fX12_send_b88 at hD
    obtain ⟨M8, eM8, hD⟩ := g_let hD
    refine mr_putI C hw kc_12 0 (by decide) tf_821 wd_2100 dX12_send_88 (by decide) rfl rfl rfl rfl (fun H locs hw => ?_)
    replace hw : mw_W G ad NF TF FF M8 L H locs := by rw [eM8]; exact hw
    refine lv_aload_n C.1.1 C.1.2.1 dX12_send_91 rfl (lv_at hl 0 rfl) ?_
    refine mr_getI C hw kc_12 0 (by decide) tf_821 wd_2100 dX12_send_92 (by decide) rfl ?_
    refine lv_if_le (tgt := 100) C.1.1 C.1.2.1 dX12_send_95 (by decide) (fun c9 => ?_) (fun c9 => ?_)
    · replace hD := g_pos c9 hD
      refine lv_aload_n C.1.1 C.1.2.1 dX12_send_100 rfl (lv_at hl 0 rfl) ?_
      refine mr_getR C hw kc_12 5 (by decide) tf_821 ff_821_5 wd_2105 dX12_send_101 (by decide) rfl ?_
      refine lv_aload_n C.1.1 C.1.2.1 dX12_send_104 rfl (lv_at hl 0 rfl) ?_
      refine mr_getI C hw kc_12 4 (by decide) tf_821 wd_2104 dX12_send_105 (by decide) rfl ?_
      refine lv_iload_n C.1.1 C.1.2.1 dX12_send_108 rfl (lv_at hl 1 rfl) ?_
      obtain ⟨q10, hD⟩ := g_ck hD
      obtain ⟨M11, eM11, hD⟩ := g_let hD
      refine mr_iast C hw (by decide) tf_823 q10 dX12_send_109 (fun H locs hw => ?_)
      replace hw : mw_W G ad NF TF FF M11 L H locs := by rw [eM11]; exact hw
      refine lv_aload_n C.1.1 C.1.2.1 dX12_send_110 rfl (lv_at hl 0 rfl) ?_
      refine mr_getR C hw kc_12 6 (by decide) tf_821 ff_821_6 wd_2106 dX12_send_111 (by decide) rfl ?_
      refine lv_aload_n C.1.1 C.1.2.1 dX12_send_114 rfl (lv_at hl 0 rfl) ?_
      refine mr_getI C hw kc_12 4 (by decide) tf_821 wd_2104 dX12_send_115 (by decide) rfl ?_
      refine lv_iload_n C.1.1 C.1.2.1 dX12_send_118 rfl (lv_at hl 2 rfl) ?_
      obtain ⟨q12, hD⟩ := g_ck hD
      obtain ⟨M13, eM13, hD⟩ := g_let hD
      refine mr_iast C hw (by decide) tf_824 q12 dX12_send_119 (fun H locs hw => ?_)
      replace hw : mw_W G ad NF TF FF M13 L H locs := by rw [eM13]; exact hw
      refine lv_aload_n C.1.1 C.1.2.1 dX12_send_120 rfl (lv_at hl 0 rfl) ?_
      refine mr_getR C hw kc_12 7 (by decide) tf_821 ff_821_7 wd_2107 dX12_send_121 (by decide) rfl ?_
      refine lv_aload_n C.1.1 C.1.2.1 dX12_send_124 rfl (lv_at hl 0 rfl) ?_
      refine mr_getI C hw kc_12 4 (by decide) tf_821 wd_2104 dX12_send_125 (by decide) rfl ?_
      refine lv_iload_n C.1.1 C.1.2.1 dX12_send_128 rfl (lv_at hl 3 rfl) ?_
      obtain ⟨q14, hD⟩ := g_ck hD
      obtain ⟨M15, eM15, hD⟩ := g_let hD
      refine mr_iast C hw (by decide) tf_825 q14 dX12_send_129 (fun H locs hw => ?_)
      replace hw : mw_W G ad NF TF FF M15 L H locs := by rw [eM15]; exact hw
      refine lv_aload_n C.1.1 C.1.2.1 dX12_send_130 rfl (lv_at hl 0 rfl) ?_
      refine mr_getR C hw kc_12 8 (by decide) tf_821 ff_821_8 wd_2108 dX12_send_131 (by decide) rfl ?_
      refine lv_aload_n C.1.1 C.1.2.1 dX12_send_134 rfl (lv_at hl 0 rfl) ?_
      refine mr_getI C hw kc_12 4 (by decide) tf_821 wd_2104 dX12_send_135 (by decide) rfl ?_
      refine lv_iload C.1.1 C.1.2.1 dX12_send_138 (lv_at hl 4 rfl) ?_
      obtain ⟨q16, hD⟩ := g_ck hD
      obtain ⟨M17, eM17, hD⟩ := g_let hD
      refine mr_iast C hw (by decide) tf_826 q16 dX12_send_140 (fun H locs hw => ?_)
      replace hw : mw_W G ad NF TF FF M17 L H locs := by rw [eM17]; exact hw
      refine lv_aload_n C.1.1 C.1.2.1 dX12_send_141 rfl (lv_at hl 0 rfl) ?_
      refine mr_getR C hw kc_12 10 (by decide) tf_821 ff_821_10 wd_2110 dX12_send_142 (by decide) rfl ?_
      refine lv_aload_n C.1.1 C.1.2.1 dX12_send_145 rfl (lv_at hl 0 rfl) ?_
      refine mr_getI C hw kc_12 4 (by decide) tf_821 wd_2104 dX12_send_146 (by decide) rfl ?_
      refine lv_iconst (v := 0) C.1.1 C.1.2.1 dX12_send_149 (by decide) ?_
      obtain ⟨q18, hD⟩ := g_ck hD
      obtain ⟨M19, eM19, hD⟩ := g_let hD
      refine mr_zast C hw (by decide) tf_828 q18 dX12_send_150 (fun H locs hw => ?_)
      replace hw : mw_W G ad NF TF FF M19 L H locs := by rw [eM19]; exact hw
      refine lv_iconst (v := 0) C.1.1 C.1.2.1 dX12_send_151 (by decide) ?_
      refine lv_istore (lv' := [(6, .int 0), (0, .ref (ad 821)), (1, .int a1), (2, .int a2), (3, .int a3), (4, .int a4)]) C.1.1 C.1.2.1 dX12_send_152 hl (by decide) rfl (fun ls hl => ?_)
      exact hh154 fu 0 M19 L _ _ ls hD hw (lv_sub hl [1, 0] rfl)
    · replace hD := g_neg c9 hD
      refine lv_iconst (v := 0) C.1.1 C.1.2.1 dX12_send_98 (by decide) ?_
      exact mr_iret C hr hlocks hw rfl (Option.some.inj hD) dX12_send_99
  have hb49 : ∀ (s0 : Int32) (M : mwM) (L : mwL) (H : Heap) (locs : List Loc) (ls : Array Slot), fX12_send_b49 fu a1 a2 a3 a4 s0 M L = some (r0, M0, L0) → mw_W G ad NF TF FF M L H locs → lv_has ls 7 [(0, .ref (ad 821)), (1, .int a1), (2, .int a2), (3, .int a3), (4, .int a4)] → W p l e ({ frames := 1, cells := 0, slots := 0, locals := 21 }) s m [.ref (ad 821), .int a1, .int a2, .int a3, .int a4].toArray below meth c H locs 0 0 (MQ below (mw_Qi G ad NF TF FF (mw_eqI r0 M0 L0)) [.ref (ad 821), .int a1, .int a2, .int a3, .int a4].toArray s 0 0 (mw_fr G)) (F0 m 49 ls [.int s0]) := by
    intro s0 M L H locs ls hD hw hl
    unfold fX12_send_b49 at hD
    refine lv_istore (lv' := [(5, .int s0), (0, .ref (ad 821)), (1, .int a1), (2, .int a2), (3, .int a3), (4, .int a4)]) C.1.1 C.1.2.1 dX12_send_49 hl (by decide) rfl (fun ls hl => ?_)
    refine lv_aload_n C.1.1 C.1.2.1 dX12_send_51 rfl (lv_at hl 1 rfl) ?_
    refine lv_aload_n C.1.1 C.1.2.1 dX12_send_52 rfl (lv_at hl 1 rfl) ?_
    refine lv_iload_n C.1.1 C.1.2.1 dX12_send_53 rfl (lv_at hl 2 rfl) ?_
    obtain ⟨r4, M2, L3, h1, hD⟩ := g_b3 hD
    refine md_cvI (As := [.int a1]) (rest := [.ref (ad 821)]) C hw (tX12_noNode l G ad fu a1 M L h1) kc_12 (by decide) tf_821 wd_3623 cwX12_noNode ⟨Nat.le_of_ble_eq_true rfl, Nat.le_of_ble_eq_true rfl⟩ rfl hl.1 (Nat.le_of_ble_eq_true rfl) dX12_send_54 rfl rfl ⟨Nat.zero_le _, Nat.zero_le _⟩ rfl (fun H locs hw => ?_)
    refine lv_if_eq (tgt := 64) C.1.1 C.1.2.1 dX12_send_57 (by decide) (fun c5 => ?_) (fun c5 => ?_)
    · replace hD := g_pos c5 hD
      refine lv_iload C.1.1 C.1.2.1 dX12_send_64 (lv_at hl 0 rfl) ?_
      refine lv_if_ne (tgt := 73) C.1.1 C.1.2.1 dX12_send_66 (by decide) (fun c6 => ?_) (fun c6 => ?_)
      · replace hD := g_neg c6 hD
        refine lv_aload_n C.1.1 C.1.2.1 dX12_send_73 rfl (lv_at hl 1 rfl) ?_
        refine mr_getI C hw kc_12 4 (by decide) tf_821 wd_2104 dX12_send_74 (by decide) rfl ?_
        refine lv_sipush (v := 200) C.1.1 C.1.2.1 dX12_send_77 (by decide) ?_
        refine lv_icmp_ne (tgt := 87) C.1.1 C.1.2.1 dX12_send_80 (by decide) (fun c7 => ?_) (fun c7 => ?_)
        · replace hD := g_neg c7 hD
          refine lv_iconst (v := 0) C.1.1 C.1.2.1 dX12_send_87 (by decide) ?_
          exact hb88 0 M2 L3 _ _ ls hD hw (lv_sub hl [1, 2, 3, 4, 5] rfl)
        · replace hD := g_pos c7 hD
          refine lv_iconst (v := 3) C.1.1 C.1.2.1 dX12_send_83 (by decide) ?_
          refine lv_goto (tgt := 88) C.1.1 C.1.2.1 dX12_send_84 (by decide) ?_
          exact hb88 3 M2 L3 _ _ ls hD hw (lv_sub hl [1, 2, 3, 4, 5] rfl)
      · replace hD := g_pos c6 hD
        refine lv_iconst (v := 2) C.1.1 C.1.2.1 dX12_send_69 (by decide) ?_
        refine lv_goto (tgt := 88) C.1.1 C.1.2.1 dX12_send_70 (by decide) ?_
        exact hb88 2 M2 L3 _ _ ls hD hw (lv_sub hl [1, 2, 3, 4, 5] rfl)
    · replace hD := g_neg c5 hD
      refine lv_iconst (v := 1) C.1.1 C.1.2.1 dX12_send_60 (by decide) ?_
      refine lv_goto (tgt := 88) C.1.1 C.1.2.1 dX12_send_61 (by decide) ?_
      exact hb88 1 M2 L3 _ _ ls hD hw (lv_sub hl [1, 2, 3, 4, 5] rfl)
  have hb48 : ∀ (M : mwM) (L : mwL) (H : Heap) (locs : List Loc) (ls : Array Slot), fX12_send_b48 fu a1 a2 a3 a4 M L = some (r0, M0, L0) → mw_W G ad NF TF FF M L H locs → lv_has ls 7 [(0, .ref (ad 821)), (1, .int a1), (2, .int a2), (3, .int a3), (4, .int a4)] → W p l e ({ frames := 1, cells := 0, slots := 0, locals := 21 }) s m [.ref (ad 821), .int a1, .int a2, .int a3, .int a4].toArray below meth c H locs 0 0 (MQ below (mw_Qi G ad NF TF FF (mw_eqI r0 M0 L0)) [.ref (ad 821), .int a1, .int a2, .int a3, .int a4].toArray s 0 0 (mw_fr G)) (F0 m 48 ls []) := by
    intro M L H locs ls hD hw hl
    unfold fX12_send_b48 at hD
    refine lv_iconst (v := 0) C.1.1 C.1.2.1 dX12_send_48 (by decide) ?_
    exact hb49 0 M L _ _ ls hD hw (lv_sub hl [0, 1, 2, 3, 4] rfl)
  have hb41 : ∀ (s1 : Int32) (M : mwM) (L : mwL) (H : Heap) (locs : List Loc) (ls : Array Slot), fX12_send_b41 fu a1 a2 a3 a4 s1 M L = some (r0, M0, L0) → mw_W G ad NF TF FF M L H locs → lv_has ls 7 [(0, .ref (ad 821)), (1, .int a1), (2, .int a2), (3, .int a3), (4, .int a4)] → W p l e ({ frames := 1, cells := 0, slots := 0, locals := 21 }) s m [.ref (ad 821), .int a1, .int a2, .int a3, .int a4].toArray below meth c H locs 0 0 (MQ below (mw_Qi G ad NF TF FF (mw_eqI r0 M0 L0)) [.ref (ad 821), .int a1, .int a2, .int a3, .int a4].toArray s 0 0 (mw_fr G)) (F0 m 41 ls [.int s1, .int a2]) := by
    intro s1 M L H locs ls hD hw hl
    unfold fX12_send_b41 at hD
    refine lv_icmp_ge (tgt := 48) C.1.1 C.1.2.1 dX12_send_41 (by decide) (fun c1 => ?_) (fun c1 => ?_)
    · replace hD := g_pos c1 hD
      exact hb48 M L _ _ ls hD hw (lv_sub hl [0, 1, 2, 3, 4] rfl)
    · replace hD := g_neg c1 hD
      refine lv_iconst (v := 1) C.1.1 C.1.2.1 dX12_send_44 (by decide) ?_
      refine lv_goto (tgt := 49) C.1.1 C.1.2.1 dX12_send_45 (by decide) ?_
      exact hb49 1 M L _ _ ls hD hw (lv_sub hl [0, 1, 2, 3, 4] rfl)
  unfold DX12_send at hD
  refine lv_iload_n C.1.1 C.1.2.1 dX12_send_0 rfl (lv_at hl 3 rfl) ?_
  refine lv_if_lt (tgt := 48) C.1.1 C.1.2.1 dX12_send_1 (by decide) (fun c25 => ?_) (fun c25 => ?_)
  · replace hD := g_pos c25 hD
    exact hb48 M L _ _ ls hD hw (lv_sub hl [0, 1, 2, 3, 4] rfl)
  · replace hD := g_neg c25 hD
    refine lv_iload_n C.1.1 C.1.2.1 dX12_send_4 rfl (lv_at hl 3 rfl) ?_
    refine lv_iconst (v := 5) C.1.1 C.1.2.1 dX12_send_5 (by decide) ?_
    refine lv_icmp_gt (tgt := 48) C.1.1 C.1.2.1 dX12_send_6 (by decide) (fun c26 => ?_) (fun c26 => ?_)
    · replace hD := g_pos c26 hD
      exact hb48 M L _ _ ls hD hw (lv_sub hl [0, 1, 2, 3, 4] rfl)
    · replace hD := g_neg c26 hD
      refine lv_iload C.1.1 C.1.2.1 dX12_send_9 (lv_at hl 4 rfl) ?_
      refine lv_if_lt (tgt := 48) C.1.1 C.1.2.1 dX12_send_11 (by decide) (fun c27 => ?_) (fun c27 => ?_)
      · replace hD := g_pos c27 hD
        exact hb48 M L _ _ ls hD hw (lv_sub hl [0, 1, 2, 3, 4] rfl)
      · replace hD := g_neg c27 hD
        refine lv_iload C.1.1 C.1.2.1 dX12_send_14 (lv_at hl 4 rfl) ?_
        refine lv_bipush (v := 15) C.1.1 C.1.2.1 dX12_send_16 (by decide) ?_
        refine lv_icmp_gt (tgt := 48) C.1.1 C.1.2.1 dX12_send_18 (by decide) (fun c28 => ?_) (fun c28 => ?_)
        · replace hD := g_pos c28 hD
          exact hb48 M L _ _ ls hD hw (lv_sub hl [0, 1, 2, 3, 4] rfl)
        · replace hD := g_neg c28 hD
          refine lv_iload_n C.1.1 C.1.2.1 dX12_send_21 rfl (lv_at hl 2 rfl) ?_
          refine lv_if_lt (tgt := 48) C.1.1 C.1.2.1 dX12_send_22 (by decide) (fun c29 => ?_) (fun c29 => ?_)
          · replace hD := g_pos c29 hD
            exact hb48 M L _ _ ls hD hw (lv_sub hl [0, 1, 2, 3, 4] rfl)
          · replace hD := g_neg c29 hD
            refine lv_iload_n C.1.1 C.1.2.1 dX12_send_25 rfl (lv_at hl 2 rfl) ?_
            refine lv_iload_n C.1.1 C.1.2.1 dX12_send_26 rfl (lv_at hl 3 rfl) ?_
            refine lv_iconst (v := 2) C.1.1 C.1.2.1 dX12_send_27 (by decide) ?_
            refine lv_irem C.1.1 C.1.2.1 dX12_send_28 (by decide) ?_
            refine lv_iconst (v := 1) C.1.1 C.1.2.1 dX12_send_29 (by decide) ?_
            refine lv_icmp_ne (tgt := 38) C.1.1 C.1.2.1 dX12_send_30 (by decide) (fun c31 => ?_) (fun c31 => ?_)
            · replace hD := g_neg c31 hD
              refine lv_sipush (v := 2048) C.1.1 C.1.2.1 dX12_send_38 (by decide) ?_
              exact hb41 2048 M L _ _ ls hD hw (lv_sub hl [0, 1, 2, 3, 4] rfl)
            · replace hD := g_pos c31 hD
              refine lv_ldc (v := 536870912) C.1.1 C.1.2.1 C.1.2.2.2.1 (C.1.2.2.2.2 _ wd_3622) dX12_send_33 ?_
              refine lv_goto (tgt := 41) C.1.1 C.1.2.1 dX12_send_35 (by decide) ?_
              exact hb41 536870912 M L _ _ ls hD hw (lv_sub hl [0, 1, 2, 3, 4] rfl)

theorem dX12_noFrame_0 : decode cX12_noFrame 0 = .ok (.iload_n 1, 1) := by decide +kernel
theorem dX12_noFrame_1 : decode cX12_noFrame 1 = .ok (.ifCond .lt 11, 3) := by decide +kernel
theorem dX12_noFrame_4 : decode cX12_noFrame 4 = .ok (.iload_n 1, 1) := by decide +kernel
theorem dX12_noFrame_5 : decode cX12_noFrame 5 = .ok (.aload_n 0, 1) := by decide +kernel
theorem dX12_noFrame_6 : decode cX12_noFrame 6 = .ok (.getfield 126, 3) := by decide +kernel
theorem dX12_noFrame_9 : decode cX12_noFrame 9 = .ok (.if_icmp .lt 7, 3) := by decide +kernel
theorem dX12_noFrame_12 : decode cX12_noFrame 12 = .ok (.iconst 1, 1) := by decide +kernel
theorem dX12_noFrame_13 : decode cX12_noFrame 13 = .ok (.goto 4, 3) := by decide +kernel
theorem dX12_noFrame_16 : decode cX12_noFrame 16 = .ok (.iconst 0, 1) := by decide +kernel
theorem dX12_noFrame_17 : decode cX12_noFrame 17 = .ok (.ireturn, 1) := by decide +kernel
theorem cwX12_noFrame : mw_cwV yX12_noFrame cX12_noFrame 2 ((some .boolean)) 1 := ⟨⟨wd_15, wd_3638, by decide +kernel⟩, wd_3637, sl_229⟩
set_option maxHeartbeats 4000000 in
set_option maxRecDepth 100000 in
theorem tX12_noFrame (l : Launch) (G : mwG) (ad : Nat → Nat) (fu : Nat) (a1 : Int32) (M : mwM) (L : mwL) {r0 : Int32} {M0 : mwM} {L0 : mwL} (hD : DX12_noFrame fu a1 M L = some (r0, M0, L0)) : Met l yX12_noFrame (Cond.code yX12_noFrame cX12_noFrame 2 ((some .boolean)) :: GT) ({ frames := 0, cells := 0, slots := 0, locals := 0 }) (mw_Pre G ad NF TF FF M L [.ref (ad 821), .int a1]) (mw_Qi G ad NF TF FF (mw_eqI r0 M0 L0)) 0 0 (mw_fr G) := by
  refine mw_enter (by decide) (Nat.le_of_ble_eq_true rfl) ?_
  intro p e s m below meth c ls C hr hlocks hnm hw hl
  have hl : lv_has ls 2 [(0, .ref (ad 821)), (1, .int a1)] := hl
  have hb17 : ∀ (s0 : Int32) (M : mwM) (L : mwL) (H : Heap) (locs : List Loc) (ls : Array Slot), fX12_noFrame_b17 fu a1 s0 M L = some (r0, M0, L0) → mw_W G ad NF TF FF M L H locs → lv_has ls 2 [] → W p l e ({ frames := 0, cells := 0, slots := 0, locals := 0 }) s m [.ref (ad 821), .int a1].toArray below meth c H locs 0 0 (MQ below (mw_Qi G ad NF TF FF (mw_eqI r0 M0 L0)) [.ref (ad 821), .int a1].toArray s 0 0 (mw_fr G)) (F0 m 17 ls [.int s0]) := by
    intro s0 M L H locs ls hD hw hl
    unfold fX12_noFrame_b17 at hD
    obtain ⟨z1, hD⟩ := g_zz hD
    exact mr_iret C hr hlocks hw (nz_zz z1) (Option.some.inj hD) dX12_noFrame_17
  have hb12 : ∀ (M : mwM) (L : mwL) (H : Heap) (locs : List Loc) (ls : Array Slot), fX12_noFrame_b12 fu a1 M L = some (r0, M0, L0) → mw_W G ad NF TF FF M L H locs → lv_has ls 2 [] → W p l e ({ frames := 0, cells := 0, slots := 0, locals := 0 }) s m [.ref (ad 821), .int a1].toArray below meth c H locs 0 0 (MQ below (mw_Qi G ad NF TF FF (mw_eqI r0 M0 L0)) [.ref (ad 821), .int a1].toArray s 0 0 (mw_fr G)) (F0 m 12 ls []) := by
    intro M L H locs ls hD hw hl
    unfold fX12_noFrame_b12 at hD
    refine lv_iconst (v := 1) C.1.1 C.1.2.1 dX12_noFrame_12 (by decide) ?_
    refine lv_goto (tgt := 17) C.1.1 C.1.2.1 dX12_noFrame_13 (by decide) ?_
    exact hb17 1 M L _ _ ls hD hw (lv_sub hl [] rfl)
  unfold DX12_noFrame at hD
  refine lv_iload_n C.1.1 C.1.2.1 dX12_noFrame_0 rfl (lv_at hl 1 rfl) ?_
  refine lv_if_lt (tgt := 12) C.1.1 C.1.2.1 dX12_noFrame_1 (by decide) (fun c2 => ?_) (fun c2 => ?_)
  · replace hD := g_pos c2 hD
    exact hb12 M L _ _ ls hD hw (lv_sub hl [] rfl)
  · replace hD := g_neg c2 hD
    refine lv_iload_n C.1.1 C.1.2.1 dX12_noFrame_4 rfl (lv_at hl 1 rfl) ?_
    refine lv_aload_n C.1.1 C.1.2.1 dX12_noFrame_5 rfl (lv_at hl 0 rfl) ?_
    refine mr_getI C hw kc_12 4 (by decide) tf_821 wd_2104 dX12_noFrame_6 (by decide) rfl ?_
    refine lv_icmp_lt (tgt := 16) C.1.1 C.1.2.1 dX12_noFrame_9 (by decide) (fun c3 => ?_) (fun c3 => ?_)
    · replace hD := g_pos c3 hD
      refine lv_iconst (v := 0) C.1.1 C.1.2.1 dX12_noFrame_16 (by decide) ?_
      exact hb17 0 M L _ _ ls hD hw (lv_sub hl [] rfl)
    · replace hD := g_neg c3 hD
      exact hb12 M L _ _ ls hD hw (lv_sub hl [] rfl)

theorem dX12_octet_0 : decode cX12_octet 0 = .ok (.aload_n 0, 1) := by decide +kernel
theorem dX12_octet_1 : decode cX12_octet 1 = .ok (.iconst (-1), 1) := by decide +kernel
theorem dX12_octet_2 : decode cX12_octet 2 = .ok (.putfield 117, 3) := by decide +kernel
theorem dX12_octet_5 : decode cX12_octet 5 = .ok (.aload_n 0, 1) := by decide +kernel
theorem dX12_octet_6 : decode cX12_octet 6 = .ok (.aload_n 0, 1) := by decide +kernel
theorem dX12_octet_7 : decode cX12_octet 7 = .ok (.iload_n 1, 1) := by decide +kernel
theorem dX12_octet_8 : decode cX12_octet 8 = .ok (.invokevirtual 143, 3) := by decide +kernel
theorem dX12_octet_11 : decode cX12_octet 11 = .ok (.ifCond .ne 7, 3) := by decide +kernel
theorem dX12_octet_14 : decode cX12_octet 14 = .ok (.iload_n 2, 1) := by decide +kernel
theorem dX12_octet_15 : decode cX12_octet 15 = .ok (.ifCond .ge 7, 3) := by decide +kernel
theorem dX12_octet_18 : decode cX12_octet 18 = .ok (.iconst 1, 1) := by decide +kernel
theorem dX12_octet_19 : decode cX12_octet 19 = .ok (.goto 85, 3) := by decide +kernel
theorem dX12_octet_22 : decode cX12_octet 22 = .ok (.iload_n 2, 1) := by decide +kernel
theorem dX12_octet_23 : decode cX12_octet 23 = .ok (.aload_n 0, 1) := by decide +kernel
theorem dX12_octet_24 : decode cX12_octet 24 = .ok (.getfield 24, 3) := by decide +kernel
theorem dX12_octet_27 : decode cX12_octet 27 = .ok (.iload_n 1, 1) := by decide +kernel
theorem dX12_octet_28 : decode cX12_octet 28 = .ok (.iaload, 1) := by decide +kernel
theorem dX12_octet_29 : decode cX12_octet 29 = .ok (.aload_n 0, 1) := by decide +kernel
theorem dX12_octet_30 : decode cX12_octet 30 = .ok (.getfield 27, 3) := by decide +kernel
theorem dX12_octet_33 : decode cX12_octet 33 = .ok (.iload_n 1, 1) := by decide +kernel
theorem dX12_octet_34 : decode cX12_octet 34 = .ok (.iaload, 1) := by decide +kernel
theorem dX12_octet_35 : decode cX12_octet 35 = .ok (.invokestatic 146, 3) := by decide +kernel
theorem dX12_octet_38 : decode cX12_octet 38 = .ok (.if_icmp .lt 7, 3) := by decide +kernel
theorem dX12_octet_41 : decode cX12_octet 41 = .ok (.iconst 1, 1) := by decide +kernel
theorem dX12_octet_42 : decode cX12_octet 42 = .ok (.goto 62, 3) := by decide +kernel
theorem dX12_octet_45 : decode cX12_octet 45 = .ok (.iload_n 3, 1) := by decide +kernel
theorem dX12_octet_46 : decode cX12_octet 46 = .ok (.ifCond .lt 10, 3) := by decide +kernel
theorem dX12_octet_49 : decode cX12_octet 49 = .ok (.iload_n 3, 1) := by decide +kernel
theorem dX12_octet_50 : decode cX12_octet 50 = .ok (.sipush 255, 3) := by decide +kernel
theorem dX12_octet_53 : decode cX12_octet 53 = .ok (.if_icmp .le 7, 3) := by decide +kernel
theorem dX12_octet_56 : decode cX12_octet 56 = .ok (.iconst 2, 1) := by decide +kernel
theorem dX12_octet_57 : decode cX12_octet 57 = .ok (.goto 47, 3) := by decide +kernel
theorem dX12_octet_60 : decode cX12_octet 60 = .ok (.aload_n 0, 1) := by decide +kernel
theorem dX12_octet_61 : decode cX12_octet 61 = .ok (.getfield 33, 3) := by decide +kernel
theorem dX12_octet_64 : decode cX12_octet 64 = .ok (.iload_n 1, 1) := by decide +kernel
theorem dX12_octet_65 : decode cX12_octet 65 = .ok (.baload, 1) := by decide +kernel
theorem dX12_octet_66 : decode cX12_octet 66 = .ok (.ifCond .ne 33, 3) := by decide +kernel
theorem dX12_octet_69 : decode cX12_octet 69 = .ok (.aload_n 0, 1) := by decide +kernel
theorem dX12_octet_70 : decode cX12_octet 70 = .ok (.getfield 43, 3) := by decide +kernel
theorem dX12_octet_73 : decode cX12_octet 73 = .ok (.aload_n 0, 1) := by decide +kernel
theorem dX12_octet_74 : decode cX12_octet 74 = .ok (.getfield 17, 3) := by decide +kernel
theorem dX12_octet_77 : decode cX12_octet 77 = .ok (.iload_n 1, 1) := by decide +kernel
theorem dX12_octet_78 : decode cX12_octet 78 = .ok (.iaload, 1) := by decide +kernel
theorem dX12_octet_79 : decode cX12_octet 79 = .ok (.iaload, 1) := by decide +kernel
theorem dX12_octet_80 : decode cX12_octet 80 = .ok (.iconst 1, 1) := by decide +kernel
theorem dX12_octet_81 : decode cX12_octet 81 = .ok (.if_icmp .ne 22, 3) := by decide +kernel
theorem dX12_octet_84 : decode cX12_octet 84 = .ok (.aload_n 0, 1) := by decide +kernel
theorem dX12_octet_85 : decode cX12_octet 85 = .ok (.getfield 49, 3) := by decide +kernel
theorem dX12_octet_88 : decode cX12_octet 88 = .ok (.aload_n 0, 1) := by decide +kernel
theorem dX12_octet_89 : decode cX12_octet 89 = .ok (.getfield 17, 3) := by decide +kernel
theorem dX12_octet_92 : decode cX12_octet 92 = .ok (.iload_n 1, 1) := by decide +kernel
theorem dX12_octet_93 : decode cX12_octet 93 = .ok (.iaload, 1) := by decide +kernel
theorem dX12_octet_94 : decode cX12_octet 94 = .ok (.iaload, 1) := by decide +kernel
theorem dX12_octet_95 : decode cX12_octet 95 = .ok (.iload_n 1, 1) := by decide +kernel
theorem dX12_octet_96 : decode cX12_octet 96 = .ok (.if_icmp .ne 7, 3) := by decide +kernel
theorem dX12_octet_99 : decode cX12_octet 99 = .ok (.iconst 3, 1) := by decide +kernel
theorem dX12_octet_100 : decode cX12_octet 100 = .ok (.goto 4, 3) := by decide +kernel
theorem dX12_octet_103 : decode cX12_octet 103 = .ok (.iconst 0, 1) := by decide +kernel
theorem dX12_octet_104 : decode cX12_octet 104 = .ok (.putfield 120, 3) := by decide +kernel
theorem dX12_octet_107 : decode cX12_octet 107 = .ok (.aload_n 0, 1) := by decide +kernel
theorem dX12_octet_108 : decode cX12_octet 108 = .ok (.getfield 120, 3) := by decide +kernel
theorem dX12_octet_111 : decode cX12_octet 111 = .ok (.ifCond .ne 15, 3) := by decide +kernel
theorem dX12_octet_114 : decode cX12_octet 114 = .ok (.aload_n 0, 1) := by decide +kernel
theorem dX12_octet_115 : decode cX12_octet 115 = .ok (.getfield 30, 3) := by decide +kernel
theorem dX12_octet_118 : decode cX12_octet 118 = .ok (.bipush 64, 2) := by decide +kernel
theorem dX12_octet_120 : decode cX12_octet 120 = .ok (.iload_n 1, 1) := by decide +kernel
theorem dX12_octet_121 : decode cX12_octet 121 = .ok (.imul, 1) := by decide +kernel
theorem dX12_octet_122 : decode cX12_octet 122 = .ok (.iload_n 2, 1) := by decide +kernel
theorem dX12_octet_123 : decode cX12_octet 123 = .ok (.iadd, 1) := by decide +kernel
theorem dX12_octet_124 : decode cX12_octet 124 = .ok (.iload_n 3, 1) := by decide +kernel
theorem dX12_octet_125 : decode cX12_octet 125 = .ok (.iastore, 1) := by decide +kernel
theorem dX12_octet_126 : decode cX12_octet 126 = .ok (.return_, 1) := by decide +kernel
theorem cwX12_octet : mw_cwV yX12_octet cX12_octet 4 (none) 3 := ⟨⟨wd_15, wd_3634, by decide +kernel⟩, wd_3632, wd_3633⟩
set_option maxHeartbeats 4000000 in
set_option maxRecDepth 100000 in
theorem tX12_octet (l : Launch) (G : mwG) (ad : Nat → Nat) (fu : Nat) (a1 : Int32) (a2 : Int32) (a3 : Int32) (M : mwM) (L : mwL) {M0 : mwM} {L0 : mwL} (hD : DX12_octet fu a1 a2 a3 M L = some (M0, L0)) : Met l yX12_octet (Cond.code yX12_octet cX12_octet 4 (none) :: GT) ({ frames := 1, cells := 0, slots := 0, locals := 21 }) (mw_Pre G ad NF TF FF M L [.ref (ad 821), .int a1, .int a2, .int a3]) (mw_Qv G ad NF TF FF (mw_eqV M0 L0)) 0 0 (mw_fr G) := by
  refine mw_enter (by decide) (Nat.le_of_ble_eq_true rfl) ?_
  intro p e s m below meth c ls C hr hlocks hnm hw hl
  have hl : lv_has ls 4 [(0, .ref (ad 821)), (1, .int a1), (2, .int a2), (3, .int a3)] := hl
  have hb126 : ∀ (M : mwM) (L : mwL) (H : Heap) (locs : List Loc) (ls : Array Slot), fX12_octet_b126 fu a1 a2 a3 M L = some (M0, L0) → mw_W G ad NF TF FF M L H locs → lv_has ls 4 [] → W p l e ({ frames := 1, cells := 0, slots := 0, locals := 21 }) s m [.ref (ad 821), .int a1, .int a2, .int a3].toArray below meth c H locs 0 0 (MQ below (mw_Qv G ad NF TF FF (mw_eqV M0 L0)) [.ref (ad 821), .int a1, .int a2, .int a3].toArray s 0 0 (mw_fr G)) (F0 m 126 ls []) := by
    intro M L H locs ls hD hw hl
    unfold fX12_octet_b126 at hD
    exact mr_vret C hr hlocks hw (Option.some.inj hD) dX12_octet_126
  have hb104 : ∀ (s1 : Int32) (M : mwM) (L : mwL) (H : Heap) (locs : List Loc) (ls : Array Slot), fX12_octet_b104 fu a1 a2 a3 s1 M L = some (M0, L0) → mw_W G ad NF TF FF M L H locs → lv_has ls 4 [(0, .ref (ad 821)), (1, .int a1), (2, .int a2), (3, .int a3)] → W p l e ({ frames := 1, cells := 0, slots := 0, locals := 21 }) s m [.ref (ad 821), .int a1, .int a2, .int a3].toArray below meth c H locs 0 0 (MQ below (mw_Qv G ad NF TF FF (mw_eqV M0 L0)) [.ref (ad 821), .int a1, .int a2, .int a3].toArray s 0 0 (mw_fr G)) (F0 m 104 ls [.int s1, .ref (ad 821)]) := by
    intro s1 M L H locs ls hD hw hl
    unfold fX12_octet_b104 at hD
    obtain ⟨M1, eM1, hD⟩ := g_let hD
    refine mr_putI C hw kc_12 0 (by decide) tf_821 wd_2100 dX12_octet_104 (by decide) rfl rfl rfl rfl (fun H locs hw => ?_)
    replace hw : mw_W G ad NF TF FF M1 L H locs := by rw [eM1]; exact hw
    refine lv_aload_n C.1.1 C.1.2.1 dX12_octet_107 rfl (lv_at hl 0 rfl) ?_
    refine mr_getI C hw kc_12 0 (by decide) tf_821 wd_2100 dX12_octet_108 (by decide) rfl ?_
    refine lv_if_ne (tgt := 126) C.1.1 C.1.2.1 dX12_octet_111 (by decide) (fun c2 => ?_) (fun c2 => ?_)
    · replace hD := g_neg c2 hD
      exact hb126 M1 L _ _ ls hD hw (lv_sub hl [] rfl)
    · replace hD := g_pos c2 hD
      refine lv_aload_n C.1.1 C.1.2.1 dX12_octet_114 rfl (lv_at hl 0 rfl) ?_
      refine mr_getR C hw kc_12 9 (by decide) tf_821 ff_821_9 wd_2109 dX12_octet_115 (by decide) rfl ?_
      refine lv_bipush (v := 64) C.1.1 C.1.2.1 dX12_octet_118 (by decide) ?_
      refine lv_iload_n C.1.1 C.1.2.1 dX12_octet_120 rfl (lv_at hl 1 rfl) ?_
      refine lv_imul C.1.1 C.1.2.1 dX12_octet_121 ?_
      refine lv_iload_n C.1.1 C.1.2.1 dX12_octet_122 rfl (lv_at hl 2 rfl) ?_
      refine lv_iadd C.1.1 C.1.2.1 dX12_octet_123 ?_
      refine lv_iload_n C.1.1 C.1.2.1 dX12_octet_124 rfl (lv_at hl 3 rfl) ?_
      obtain ⟨q3, hD⟩ := g_ck hD
      obtain ⟨M4, eM4, hD⟩ := g_let hD
      refine mr_iast C hw (by decide) tf_827 q3 dX12_octet_125 (fun H locs hw => ?_)
      replace hw : mw_W G ad NF TF FF M4 L H locs := by rw [eM4]; exact hw
      exact hb126 M4 L _ _ ls hD hw (lv_sub hl [] rfl)
  have hb18 : ∀ (M : mwM) (L : mwL) (H : Heap) (locs : List Loc) (ls : Array Slot), fX12_octet_b18 fu a1 a2 a3 M L = some (M0, L0) → mw_W G ad NF TF FF M L H locs → lv_has ls 4 [(0, .ref (ad 821)), (1, .int a1), (2, .int a2), (3, .int a3)] → W p l e ({ frames := 1, cells := 0, slots := 0, locals := 21 }) s m [.ref (ad 821), .int a1, .int a2, .int a3].toArray below meth c H locs 0 0 (MQ below (mw_Qv G ad NF TF FF (mw_eqV M0 L0)) [.ref (ad 821), .int a1, .int a2, .int a3].toArray s 0 0 (mw_fr G)) (F0 m 18 ls [.ref (ad 821)]) := by
    intro M L H locs ls hD hw hl
    unfold fX12_octet_b18 at hD
    refine lv_iconst (v := 1) C.1.1 C.1.2.1 dX12_octet_18 (by decide) ?_
    refine lv_goto (tgt := 104) C.1.1 C.1.2.1 dX12_octet_19 (by decide) ?_
    exact hb104 1 M L _ _ ls hD hw (lv_sub hl [0, 1, 2, 3] rfl)
  have hb56 : ∀ (M : mwM) (L : mwL) (H : Heap) (locs : List Loc) (ls : Array Slot), fX12_octet_b56 fu a1 a2 a3 M L = some (M0, L0) → mw_W G ad NF TF FF M L H locs → lv_has ls 4 [(0, .ref (ad 821)), (1, .int a1), (2, .int a2), (3, .int a3)] → W p l e ({ frames := 1, cells := 0, slots := 0, locals := 21 }) s m [.ref (ad 821), .int a1, .int a2, .int a3].toArray below meth c H locs 0 0 (MQ below (mw_Qv G ad NF TF FF (mw_eqV M0 L0)) [.ref (ad 821), .int a1, .int a2, .int a3].toArray s 0 0 (mw_fr G)) (F0 m 56 ls [.ref (ad 821)]) := by
    intro M L H locs ls hD hw hl
    unfold fX12_octet_b56 at hD
    refine lv_iconst (v := 2) C.1.1 C.1.2.1 dX12_octet_56 (by decide) ?_
    refine lv_goto (tgt := 104) C.1.1 C.1.2.1 dX12_octet_57 (by decide) ?_
    exact hb104 2 M L _ _ ls hD hw (lv_sub hl [0, 1, 2, 3] rfl)
  have hb99 : ∀ (M : mwM) (L : mwL) (H : Heap) (locs : List Loc) (ls : Array Slot), fX12_octet_b99 fu a1 a2 a3 M L = some (M0, L0) → mw_W G ad NF TF FF M L H locs → lv_has ls 4 [(0, .ref (ad 821)), (1, .int a1), (2, .int a2), (3, .int a3)] → W p l e ({ frames := 1, cells := 0, slots := 0, locals := 21 }) s m [.ref (ad 821), .int a1, .int a2, .int a3].toArray below meth c H locs 0 0 (MQ below (mw_Qv G ad NF TF FF (mw_eqV M0 L0)) [.ref (ad 821), .int a1, .int a2, .int a3].toArray s 0 0 (mw_fr G)) (F0 m 99 ls [.ref (ad 821)]) := by
    intro M L H locs ls hD hw hl
    unfold fX12_octet_b99 at hD
    refine lv_iconst (v := 3) C.1.1 C.1.2.1 dX12_octet_99 (by decide) ?_
    refine lv_goto (tgt := 104) C.1.1 C.1.2.1 dX12_octet_100 (by decide) ?_
    exact hb104 3 M L _ _ ls hD hw (lv_sub hl [0, 1, 2, 3] rfl)
  have hb103 : ∀ (M : mwM) (L : mwL) (H : Heap) (locs : List Loc) (ls : Array Slot), fX12_octet_b103 fu a1 a2 a3 M L = some (M0, L0) → mw_W G ad NF TF FF M L H locs → lv_has ls 4 [(0, .ref (ad 821)), (1, .int a1), (2, .int a2), (3, .int a3)] → W p l e ({ frames := 1, cells := 0, slots := 0, locals := 21 }) s m [.ref (ad 821), .int a1, .int a2, .int a3].toArray below meth c H locs 0 0 (MQ below (mw_Qv G ad NF TF FF (mw_eqV M0 L0)) [.ref (ad 821), .int a1, .int a2, .int a3].toArray s 0 0 (mw_fr G)) (F0 m 103 ls [.ref (ad 821)]) := by
    intro M L H locs ls hD hw hl
    unfold fX12_octet_b103 at hD
    refine lv_iconst (v := 0) C.1.1 C.1.2.1 dX12_octet_103 (by decide) ?_
    exact hb104 0 M L _ _ ls hD hw (lv_sub hl [0, 1, 2, 3] rfl)
  unfold DX12_octet at hD
  refine lv_aload_n C.1.1 C.1.2.1 dX12_octet_0 rfl (lv_at hl 0 rfl) ?_
  refine lv_iconst (v := (-1)) C.1.1 C.1.2.1 dX12_octet_1 (by decide) ?_
  obtain ⟨M5, eM5, hD⟩ := g_let hD
  refine mr_putI C hw kc_12 50 (by decide) tf_821 wd_2150 dX12_octet_2 (by decide) rfl rfl rfl rfl (fun H locs hw => ?_)
  replace hw : mw_W G ad NF TF FF M5 L H locs := by rw [eM5]; exact hw
  refine lv_aload_n C.1.1 C.1.2.1 dX12_octet_5 rfl (lv_at hl 0 rfl) ?_
  refine lv_aload_n C.1.1 C.1.2.1 dX12_octet_6 rfl (lv_at hl 0 rfl) ?_
  refine lv_iload_n C.1.1 C.1.2.1 dX12_octet_7 rfl (lv_at hl 1 rfl) ?_
  obtain ⟨r8, M6, L7, h1, hD⟩ := g_b3 hD
  refine md_cvI (As := [.int a1]) (rest := [.ref (ad 821)]) C hw (tX12_noFrame l G ad fu a1 M5 L h1) kc_12 (by decide) tf_821 wd_3635 cwX12_noFrame ⟨Nat.le_of_ble_eq_true rfl, Nat.le_of_ble_eq_true rfl⟩ rfl hl.1 (Nat.le_of_ble_eq_true rfl) dX12_octet_8 rfl rfl ⟨Nat.zero_le _, Nat.zero_le _⟩ rfl (fun H locs hw => ?_)
  refine lv_if_ne (tgt := 18) C.1.1 C.1.2.1 dX12_octet_11 (by decide) (fun c9 => ?_) (fun c9 => ?_)
  · replace hD := g_neg c9 hD
    exact hb18 M6 L7 _ _ ls hD hw (lv_sub hl [0, 1, 2, 3] rfl)
  · replace hD := g_pos c9 hD
    refine lv_iload_n C.1.1 C.1.2.1 dX12_octet_14 rfl (lv_at hl 2 rfl) ?_
    refine lv_if_ge (tgt := 22) C.1.1 C.1.2.1 dX12_octet_15 (by decide) (fun c10 => ?_) (fun c10 => ?_)
    · replace hD := g_pos c10 hD
      refine lv_iload_n C.1.1 C.1.2.1 dX12_octet_22 rfl (lv_at hl 2 rfl) ?_
      refine lv_aload_n C.1.1 C.1.2.1 dX12_octet_23 rfl (lv_at hl 0 rfl) ?_
      refine mr_getR C hw kc_12 7 (by decide) tf_821 ff_821_7 wd_2107 dX12_octet_24 (by decide) rfl ?_
      refine lv_iload_n C.1.1 C.1.2.1 dX12_octet_27 rfl (lv_at hl 1 rfl) ?_
      obtain ⟨q11, hD⟩ := g_ck hD
      refine mr_iald C hw (by decide) tf_825 q11 dX12_octet_28 ?_
      refine lv_aload_n C.1.1 C.1.2.1 dX12_octet_29 rfl (lv_at hl 0 rfl) ?_
      refine mr_getR C hw kc_12 8 (by decide) tf_821 ff_821_8 wd_2108 dX12_octet_30 (by decide) rfl ?_
      refine lv_iload_n C.1.1 C.1.2.1 dX12_octet_33 rfl (lv_at hl 1 rfl) ?_
      obtain ⟨q12, hD⟩ := g_ck hD
      refine mr_iald C hw (by decide) tf_826 q12 dX12_octet_34 ?_
      obtain ⟨r15, M13, L14, h1, hD⟩ := g_b3 hD
      refine md_csI (As := [.int (M6 825 a1.toNatClampNeg), .int (M6 826 a1.toNatClampNeg)]) (rest := [.int a2, .ref (ad 821)]) C hw (tX12_octetsOf l G ad fu (M6 825 a1.toNatClampNeg) (M6 826 a1.toNatClampNeg) M6 L7 h1) wd_3639 cwX12_octetsOf ⟨Nat.le_of_ble_eq_true rfl, Nat.le_of_ble_eq_true rfl⟩ rfl hl.1 (Nat.le_of_ble_eq_true rfl) dX12_octet_35 rfl rfl ⟨Nat.zero_le _, Nat.zero_le _⟩ rfl (fun H locs hw => ?_)
      refine lv_icmp_lt (tgt := 45) C.1.1 C.1.2.1 dX12_octet_38 (by decide) (fun c16 => ?_) (fun c16 => ?_)
      · replace hD := g_pos c16 hD
        refine lv_iload_n C.1.1 C.1.2.1 dX12_octet_45 rfl (lv_at hl 3 rfl) ?_
        refine lv_if_lt (tgt := 56) C.1.1 C.1.2.1 dX12_octet_46 (by decide) (fun c17 => ?_) (fun c17 => ?_)
        · replace hD := g_pos c17 hD
          exact hb56 M13 L14 _ _ ls hD hw (lv_sub hl [0, 1, 2, 3] rfl)
        · replace hD := g_neg c17 hD
          refine lv_iload_n C.1.1 C.1.2.1 dX12_octet_49 rfl (lv_at hl 3 rfl) ?_
          refine lv_sipush (v := 255) C.1.1 C.1.2.1 dX12_octet_50 (by decide) ?_
          refine lv_icmp_le (tgt := 60) C.1.1 C.1.2.1 dX12_octet_53 (by decide) (fun c18 => ?_) (fun c18 => ?_)
          · replace hD := g_pos c18 hD
            refine lv_aload_n C.1.1 C.1.2.1 dX12_octet_60 rfl (lv_at hl 0 rfl) ?_
            refine mr_getR C hw kc_12 10 (by decide) tf_821 ff_821_10 wd_2110 dX12_octet_61 (by decide) rfl ?_
            refine lv_iload_n C.1.1 C.1.2.1 dX12_octet_64 rfl (lv_at hl 1 rfl) ?_
            obtain ⟨q19, hD⟩ := g_ck hD
            refine mr_zald C hw (by decide) tf_828 q19 dX12_octet_65 ?_
            refine lv_if_ne (tgt := 99) C.1.1 C.1.2.1 dX12_octet_66 (by decide) (fun c20 => ?_) (fun c20 => ?_)
            · replace hD := g_neg c20 hD
              exact hb99 M13 L14 _ _ ls hD hw (lv_sub hl [0, 1, 2, 3] rfl)
            · replace hD := g_pos c20 hD
              refine lv_aload_n C.1.1 C.1.2.1 dX12_octet_69 rfl (lv_at hl 0 rfl) ?_
              refine mr_getR C hw kc_12 14 (by decide) tf_821 ff_821_14 wd_2114 dX12_octet_70 (by decide) rfl ?_
              refine lv_aload_n C.1.1 C.1.2.1 dX12_octet_73 rfl (lv_at hl 0 rfl) ?_
              refine mr_getR C hw kc_12 5 (by decide) tf_821 ff_821_5 wd_2105 dX12_octet_74 (by decide) rfl ?_
              refine lv_iload_n C.1.1 C.1.2.1 dX12_octet_77 rfl (lv_at hl 1 rfl) ?_
              obtain ⟨q21, hD⟩ := g_ck hD
              refine mr_iald C hw (by decide) tf_823 q21 dX12_octet_78 ?_
              obtain ⟨q22, hD⟩ := g_ck hD
              refine mr_iald C hw (by decide) tf_831 q22 dX12_octet_79 ?_
              refine lv_iconst (v := 1) C.1.1 C.1.2.1 dX12_octet_80 (by decide) ?_
              refine lv_icmp_ne (tgt := 103) C.1.1 C.1.2.1 dX12_octet_81 (by decide) (fun c23 => ?_) (fun c23 => ?_)
              · replace hD := g_neg c23 hD
                exact hb103 M13 L14 _ _ ls hD hw (lv_sub hl [0, 1, 2, 3] rfl)
              · replace hD := g_pos c23 hD
                refine lv_aload_n C.1.1 C.1.2.1 dX12_octet_84 rfl (lv_at hl 0 rfl) ?_
                refine mr_getR C hw kc_12 16 (by decide) tf_821 ff_821_16 wd_2116 dX12_octet_85 (by decide) rfl ?_
                refine lv_aload_n C.1.1 C.1.2.1 dX12_octet_88 rfl (lv_at hl 0 rfl) ?_
                refine mr_getR C hw kc_12 5 (by decide) tf_821 ff_821_5 wd_2105 dX12_octet_89 (by decide) rfl ?_
                refine lv_iload_n C.1.1 C.1.2.1 dX12_octet_92 rfl (lv_at hl 1 rfl) ?_
                obtain ⟨q24, hD⟩ := g_ck hD
                refine mr_iald C hw (by decide) tf_823 q24 dX12_octet_93 ?_
                obtain ⟨q25, hD⟩ := g_ck hD
                refine mr_iald C hw (by decide) tf_833 q25 dX12_octet_94 ?_
                refine lv_iload_n C.1.1 C.1.2.1 dX12_octet_95 rfl (lv_at hl 1 rfl) ?_
                refine lv_icmp_ne (tgt := 103) C.1.1 C.1.2.1 dX12_octet_96 (by decide) (fun c26 => ?_) (fun c26 => ?_)
                · replace hD := g_neg c26 hD
                  exact hb103 M13 L14 _ _ ls hD hw (lv_sub hl [0, 1, 2, 3] rfl)
                · replace hD := g_pos c26 hD
                  exact hb99 M13 L14 _ _ ls hD hw (lv_sub hl [0, 1, 2, 3] rfl)
          · replace hD := g_neg c18 hD
            exact hb56 M13 L14 _ _ ls hD hw (lv_sub hl [0, 1, 2, 3] rfl)
      · replace hD := g_neg c16 hD
        refine lv_iconst (v := 1) C.1.1 C.1.2.1 dX12_octet_41 (by decide) ?_
        refine lv_goto (tgt := 104) C.1.1 C.1.2.1 dX12_octet_42 (by decide) ?_
        exact hb104 1 M13 L14 _ _ ls hD hw (lv_sub hl [0, 1, 2, 3] rfl)
    · replace hD := g_neg c10 hD
      exact hb18 M6 L7 _ _ ls hD hw (lv_sub hl [0, 1, 2, 3] rfl)

theorem dX12_bits_0 : decode cX12_bits 0 = .ok (.iload_n 2, 1) := by decide +kernel
theorem dX12_bits_1 : decode cX12_bits 1 = .ok (.iconst 1, 1) := by decide +kernel
theorem dX12_bits_2 : decode cX12_bits 2 = .ok (.isub, 1) := by decide +kernel
theorem dX12_bits_3 : decode cX12_bits 3 = .ok (.istore_n 3, 1) := by decide +kernel
theorem dX12_bits_4 : decode cX12_bits 4 = .ok (.iload_n 3, 1) := by decide +kernel
theorem dX12_bits_5 : decode cX12_bits 5 = .ok (.ifCond .lt 34, 3) := by decide +kernel
theorem dX12_bits_8 : decode cX12_bits 8 = .ok (.aload_n 0, 1) := by decide +kernel
theorem dX12_bits_9 : decode cX12_bits 9 = .ok (.getfield 96, 3) := by decide +kernel
theorem dX12_bits_12 : decode cX12_bits 12 = .ok (.aload_n 0, 1) := by decide +kernel
theorem dX12_bits_13 : decode cX12_bits 13 = .ok (.getfield 150, 3) := by decide +kernel
theorem dX12_bits_16 : decode cX12_bits 16 = .ok (.iload_n 1, 1) := by decide +kernel
theorem dX12_bits_17 : decode cX12_bits 17 = .ok (.iload_n 3, 1) := by decide +kernel
theorem dX12_bits_18 : decode cX12_bits 18 = .ok (.ishr, 1) := by decide +kernel
theorem dX12_bits_19 : decode cX12_bits 19 = .ok (.iconst 1, 1) := by decide +kernel
theorem dX12_bits_20 : decode cX12_bits 20 = .ok (.iand, 1) := by decide +kernel
theorem dX12_bits_21 : decode cX12_bits 21 = .ok (.i2b, 1) := by decide +kernel
theorem dX12_bits_22 : decode cX12_bits 22 = .ok (.bastore, 1) := by decide +kernel
theorem dX12_bits_23 : decode cX12_bits 23 = .ok (.aload_n 0, 1) := by decide +kernel
theorem dX12_bits_24 : decode cX12_bits 24 = .ok (.dup, 1) := by decide +kernel
theorem dX12_bits_25 : decode cX12_bits 25 = .ok (.getfield 150, 3) := by decide +kernel
theorem dX12_bits_28 : decode cX12_bits 28 = .ok (.iconst 1, 1) := by decide +kernel
theorem dX12_bits_29 : decode cX12_bits 29 = .ok (.iadd, 1) := by decide +kernel
theorem dX12_bits_30 : decode cX12_bits 30 = .ok (.putfield 150, 3) := by decide +kernel
theorem dX12_bits_33 : decode cX12_bits 33 = .ok (.iinc 3 (-1), 3) := by decide +kernel
theorem dX12_bits_36 : decode cX12_bits 36 = .ok (.goto (-32), 3) := by decide +kernel
theorem dX12_bits_39 : decode cX12_bits 39 = .ok (.return_, 1) := by decide +kernel
theorem cwX12_bits : mw_cwV yX12_bits cX12_bits 4 (none) 2 := ⟨⟨wd_15, wd_3661, by decide +kernel⟩, wd_3660, sl_233⟩
set_option maxHeartbeats 4000000 in
set_option maxRecDepth 100000 in
theorem tX12_bits (l : Launch) (G : mwG) (ad : Nat → Nat) (fu : Nat) (a1 : Int32) (a2 : Int32) (M : mwM) (L : mwL) {M0 : mwM} {L0 : mwL} (hD : DX12_bits fu a1 a2 M L = some (M0, L0)) : Met l yX12_bits (Cond.code yX12_bits cX12_bits 4 (none) :: GT) ({ frames := 0, cells := 0, slots := 0, locals := 0 }) (mw_Pre G ad NF TF FF M L [.ref (ad 821), .int a1, .int a2]) (mw_Qv G ad NF TF FF (mw_eqV M0 L0)) 0 0 (mw_fr G) := by
  refine mw_enter (by decide) (Nat.le_of_ble_eq_true rfl) ?_
  intro p e s m below meth c ls C hr hlocks hnm hw hl
  have hl : lv_has ls 4 [(0, .ref (ad 821)), (1, .int a1), (2, .int a2)] := hl
  have hh4 : ∀ (f : Nat) (v3 : Int32) (M : mwM) (L : mwL) (H : Heap) (locs : List Loc) (ls : Array Slot), fX12_bits_h4 fu a1 a2 f (v3, M, L) = some (M0, L0) → mw_W G ad NF TF FF M L H locs → lv_has ls 4 [(0, .ref (ad 821)), (1, .int a1), (3, .int v3)] → W p l e ({ frames := 0, cells := 0, slots := 0, locals := 0 }) s m [.ref (ad 821), .int a1, .int a2].toArray below meth c H locs 0 0 (MQ below (mw_Qv G ad NF TF FF (mw_eqV M0 L0)) [.ref (ad 821), .int a1, .int a2].toArray s 0 0 (mw_fr G)) (F0 m 4 ls []) := by
    intro f
    induction f with
    | zero => intro v3 M L H locs ls hD; cases hD
    | succ f4 ih4 =>
      intro v3 M L H locs ls hD hw hl
      replace hD : fX12_bits_i4 fu a1 a2 (fX12_bits_h4 fu a1 a2 f4) v3 M L = some (M0, L0) := hD
      unfold fX12_bits_i4 at hD
      refine lv_iload_n C.1.1 C.1.2.1 dX12_bits_4 rfl (lv_at hl 2 rfl) ?_
      refine lv_if_lt (tgt := 39) C.1.1 C.1.2.1 dX12_bits_5 (by decide) (fun c1 => ?_) (fun c1 => ?_)
      · replace hD := g_pos c1 hD
        exact mr_vret C hr hlocks hw (Option.some.inj hD) dX12_bits_39
      · replace hD := g_neg c1 hD
        refine lv_aload_n C.1.1 C.1.2.1 dX12_bits_8 rfl (lv_at hl 0 rfl) ?_
        refine mr_getR C hw kc_12 33 (by decide) tf_821 ff_821_33 wd_2133 dX12_bits_9 (by decide) rfl ?_
        refine lv_aload_n C.1.1 C.1.2.1 dX12_bits_12 rfl (lv_at hl 0 rfl) ?_
        refine mr_getI C hw kc_12 34 (by decide) tf_821 wd_2134 dX12_bits_13 (by decide) rfl ?_
        refine lv_iload_n C.1.1 C.1.2.1 dX12_bits_16 rfl (lv_at hl 1 rfl) ?_
        refine lv_iload_n C.1.1 C.1.2.1 dX12_bits_17 rfl (lv_at hl 2 rfl) ?_
        refine lv_ishr C.1.1 C.1.2.1 dX12_bits_18 ?_
        refine lv_iconst (v := 1) C.1.1 C.1.2.1 dX12_bits_19 (by decide) ?_
        refine lv_iand C.1.1 C.1.2.1 dX12_bits_20 ?_
        refine lv_i2b C.1.1 C.1.2.1 dX12_bits_21 rfl ?_
        obtain ⟨q2, hD⟩ := g_ck hD
        obtain ⟨M3, eM3, hD⟩ := g_let hD
        refine mr_bast C hw (by decide) tf_848 q2 dX12_bits_22 (fun H locs hw => ?_)
        replace hw : mw_W G ad NF TF FF M3 L H locs := by rw [eM3]; exact hw
        refine lv_aload_n C.1.1 C.1.2.1 dX12_bits_23 rfl (lv_at hl 0 rfl) ?_
        refine lv_dup C.1.1 C.1.2.1 dX12_bits_24 rfl ?_
        refine mr_getI C hw kc_12 34 (by decide) tf_821 wd_2134 dX12_bits_25 (by decide) rfl ?_
        refine lv_iconst (v := 1) C.1.1 C.1.2.1 dX12_bits_28 (by decide) ?_
        refine lv_iadd C.1.1 C.1.2.1 dX12_bits_29 ?_
        obtain ⟨M4, eM4, hD⟩ := g_let hD
        refine mr_putI C hw kc_12 34 (by decide) tf_821 wd_2134 dX12_bits_30 (by decide) rfl rfl rfl rfl (fun H locs hw => ?_)
        replace hw : mw_W G ad NF TF FF M4 L H locs := by rw [eM4]; exact hw
        obtain ⟨x5, ex5, hD⟩ := g_let hD
        refine lv_iinc (v := x5) (lv' := [(3, .int x5), (0, .ref (ad 821)), (1, .int a1)]) C.1.1 C.1.2.1 dX12_bits_33 hl (k := 2) rfl (by rw [ex5]; rfl) (by decide) rfl (fun ls hl => ?_)
        refine lv_goto (tgt := 4) C.1.1 C.1.2.1 dX12_bits_36 (by decide) ?_
        exact ih4 x5 M4 L _ _ ls hD hw (lv_sub hl [1, 2, 0] rfl)
  unfold DX12_bits at hD
  refine lv_iload_n C.1.1 C.1.2.1 dX12_bits_0 rfl (lv_at hl 2 rfl) ?_
  refine lv_iconst (v := 1) C.1.1 C.1.2.1 dX12_bits_1 (by decide) ?_
  refine lv_isub C.1.1 C.1.2.1 dX12_bits_2 ?_
  obtain ⟨x6, ex6, hD⟩ := g_let hD
  refine W.eq (g2 := F0 m 3 ls (.int x6 :: [])) (by rw [ex6]) ?_
  refine lv_istore_n (lv' := [(3, .int x6), (0, .ref (ad 821)), (1, .int a1), (2, .int a2)]) C.1.1 C.1.2.1 dX12_bits_3 rfl hl (by decide) rfl (fun ls hl => ?_)
  exact hh4 fu x6 M L _ _ ls hD hw (lv_sub hl [1, 2, 0] rfl)

theorem dX12_writePlain_0 : decode cX12_writePlain 0 = .ok (.aload_n 0, 1) := by decide +kernel
theorem dX12_writePlain_1 : decode cX12_writePlain 1 = .ok (.iconst (-1), 1) := by decide +kernel
theorem dX12_writePlain_2 : decode cX12_writePlain 2 = .ok (.putfield 114, 3) := by decide +kernel
theorem dX12_writePlain_5 : decode cX12_writePlain 5 = .ok (.aload_n 0, 1) := by decide +kernel
theorem dX12_writePlain_6 : decode cX12_writePlain 6 = .ok (.getfield 24, 3) := by decide +kernel
theorem dX12_writePlain_9 : decode cX12_writePlain 9 = .ok (.iload_n 1, 1) := by decide +kernel
theorem dX12_writePlain_10 : decode cX12_writePlain 10 = .ok (.iaload, 1) := by decide +kernel
theorem dX12_writePlain_11 : decode cX12_writePlain 11 = .ok (.iconst 2, 1) := by decide +kernel
theorem dX12_writePlain_12 : decode cX12_writePlain 12 = .ok (.irem, 1) := by decide +kernel
theorem dX12_writePlain_13 : decode cX12_writePlain 13 = .ok (.iconst 1, 1) := by decide +kernel
theorem dX12_writePlain_14 : decode cX12_writePlain 14 = .ok (.if_icmp .ne 7, 3) := by decide +kernel
theorem dX12_writePlain_17 : decode cX12_writePlain 17 = .ok (.iconst 1, 1) := by decide +kernel
theorem dX12_writePlain_18 : decode cX12_writePlain 18 = .ok (.goto 4, 3) := by decide +kernel
theorem dX12_writePlain_21 : decode cX12_writePlain 21 = .ok (.iconst 0, 1) := by decide +kernel
theorem dX12_writePlain_22 : decode cX12_writePlain 22 = .ok (.istore_n 2, 1) := by decide +kernel
theorem dX12_writePlain_23 : decode cX12_writePlain 23 = .ok (.aload_n 0, 1) := by decide +kernel
theorem dX12_writePlain_24 : decode cX12_writePlain 24 = .ok (.getfield 24, 3) := by decide +kernel
theorem dX12_writePlain_27 : decode cX12_writePlain 27 = .ok (.iload_n 1, 1) := by decide +kernel
theorem dX12_writePlain_28 : decode cX12_writePlain 28 = .ok (.iaload, 1) := by decide +kernel
theorem dX12_writePlain_29 : decode cX12_writePlain 29 = .ok (.iconst 2, 1) := by decide +kernel
theorem dX12_writePlain_30 : decode cX12_writePlain 30 = .ok (.if_icmp .eq 13, 3) := by decide +kernel
theorem dX12_writePlain_33 : decode cX12_writePlain 33 = .ok (.aload_n 0, 1) := by decide +kernel
theorem dX12_writePlain_34 : decode cX12_writePlain 34 = .ok (.getfield 24, 3) := by decide +kernel
theorem dX12_writePlain_37 : decode cX12_writePlain 37 = .ok (.iload_n 1, 1) := by decide +kernel
theorem dX12_writePlain_38 : decode cX12_writePlain 38 = .ok (.iaload, 1) := by decide +kernel
theorem dX12_writePlain_39 : decode cX12_writePlain 39 = .ok (.iconst 3, 1) := by decide +kernel
theorem dX12_writePlain_40 : decode cX12_writePlain 40 = .ok (.if_icmp .ne 7, 3) := by decide +kernel
theorem dX12_writePlain_43 : decode cX12_writePlain 43 = .ok (.iconst 1, 1) := by decide +kernel
theorem dX12_writePlain_44 : decode cX12_writePlain 44 = .ok (.goto 4, 3) := by decide +kernel
theorem dX12_writePlain_47 : decode cX12_writePlain 47 = .ok (.iconst 0, 1) := by decide +kernel
theorem dX12_writePlain_48 : decode cX12_writePlain 48 = .ok (.istore_n 3, 1) := by decide +kernel
theorem dX12_writePlain_49 : decode cX12_writePlain 49 = .ok (.aload_n 0, 1) := by decide +kernel
theorem dX12_writePlain_50 : decode cX12_writePlain 50 = .ok (.getfield 24, 3) := by decide +kernel
theorem dX12_writePlain_53 : decode cX12_writePlain 53 = .ok (.iload_n 1, 1) := by decide +kernel
theorem dX12_writePlain_54 : decode cX12_writePlain 54 = .ok (.iaload, 1) := by decide +kernel
theorem dX12_writePlain_55 : decode cX12_writePlain 55 = .ok (.iconst 3, 1) := by decide +kernel
theorem dX12_writePlain_56 : decode cX12_writePlain 56 = .ok (.if_icmp .le 7, 3) := by decide +kernel
theorem dX12_writePlain_59 : decode cX12_writePlain 59 = .ok (.iconst 1, 1) := by decide +kernel
theorem dX12_writePlain_60 : decode cX12_writePlain 60 = .ok (.goto 4, 3) := by decide +kernel
theorem dX12_writePlain_63 : decode cX12_writePlain 63 = .ok (.iconst 0, 1) := by decide +kernel
theorem dX12_writePlain_64 : decode cX12_writePlain 64 = .ok (.istore 4, 2) := by decide +kernel
theorem dX12_writePlain_66 : decode cX12_writePlain 66 = .ok (.aload_n 0, 1) := by decide +kernel
theorem dX12_writePlain_67 : decode cX12_writePlain 67 = .ok (.iconst 0, 1) := by decide +kernel
theorem dX12_writePlain_68 : decode cX12_writePlain 68 = .ok (.putfield 150, 3) := by decide +kernel
theorem dX12_writePlain_71 : decode cX12_writePlain 71 = .ok (.aload_n 0, 1) := by decide +kernel
theorem dX12_writePlain_72 : decode cX12_writePlain 72 = .ok (.iconst 0, 1) := by decide +kernel
theorem dX12_writePlain_73 : decode cX12_writePlain 73 = .ok (.iconst 1, 1) := by decide +kernel
theorem dX12_writePlain_74 : decode cX12_writePlain 74 = .ok (.invokevirtual 153, 3) := by decide +kernel
theorem dX12_writePlain_77 : decode cX12_writePlain 77 = .ok (.aload_n 0, 1) := by decide +kernel
theorem dX12_writePlain_78 : decode cX12_writePlain 78 = .ok (.iload_n 2, 1) := by decide +kernel
theorem dX12_writePlain_79 : decode cX12_writePlain 79 = .ok (.ifCond .eq 15, 3) := by decide +kernel
theorem dX12_writePlain_82 : decode cX12_writePlain 82 = .ok (.aload_n 0, 1) := by decide +kernel
theorem dX12_writePlain_83 : decode cX12_writePlain 83 = .ok (.getfield 21, 3) := by decide +kernel
theorem dX12_writePlain_86 : decode cX12_writePlain 86 = .ok (.iload_n 1, 1) := by decide +kernel
theorem dX12_writePlain_87 : decode cX12_writePlain 87 = .ok (.iaload, 1) := by decide +kernel
theorem dX12_writePlain_88 : decode cX12_writePlain 88 = .ok (.bipush 18, 2) := by decide +kernel
theorem dX12_writePlain_90 : decode cX12_writePlain 90 = .ok (.ishr, 1) := by decide +kernel
theorem dX12_writePlain_91 : decode cX12_writePlain 91 = .ok (.goto 9, 3) := by decide +kernel
theorem dX12_writePlain_94 : decode cX12_writePlain 94 = .ok (.aload_n 0, 1) := by decide +kernel
theorem dX12_writePlain_95 : decode cX12_writePlain 95 = .ok (.getfield 21, 3) := by decide +kernel
theorem dX12_writePlain_98 : decode cX12_writePlain 98 = .ok (.iload_n 1, 1) := by decide +kernel
theorem dX12_writePlain_99 : decode cX12_writePlain 99 = .ok (.iaload, 1) := by decide +kernel
theorem dX12_writePlain_100 : decode cX12_writePlain 100 = .ok (.bipush 11, 2) := by decide +kernel
theorem dX12_writePlain_102 : decode cX12_writePlain 102 = .ok (.invokevirtual 153, 3) := by decide +kernel
theorem dX12_writePlain_105 : decode cX12_writePlain 105 = .ok (.iload_n 2, 1) := by decide +kernel
theorem dX12_writePlain_106 : decode cX12_writePlain 106 = .ok (.ifCond .eq 40, 3) := by decide +kernel
theorem dX12_writePlain_109 : decode cX12_writePlain 109 = .ok (.aload_n 0, 1) := by decide +kernel
theorem dX12_writePlain_110 : decode cX12_writePlain 110 = .ok (.iconst 1, 1) := by decide +kernel
theorem dX12_writePlain_111 : decode cX12_writePlain 111 = .ok (.iconst 1, 1) := by decide +kernel
theorem dX12_writePlain_112 : decode cX12_writePlain 112 = .ok (.invokevirtual 153, 3) := by decide +kernel
theorem dX12_writePlain_115 : decode cX12_writePlain 115 = .ok (.aload_n 0, 1) := by decide +kernel
theorem dX12_writePlain_116 : decode cX12_writePlain 116 = .ok (.iconst 1, 1) := by decide +kernel
theorem dX12_writePlain_117 : decode cX12_writePlain 117 = .ok (.iconst 1, 1) := by decide +kernel
theorem dX12_writePlain_118 : decode cX12_writePlain 118 = .ok (.invokevirtual 153, 3) := by decide +kernel
theorem dX12_writePlain_121 : decode cX12_writePlain 121 = .ok (.aload_n 0, 1) := by decide +kernel
theorem dX12_writePlain_122 : decode cX12_writePlain 122 = .ok (.aload_n 0, 1) := by decide +kernel
theorem dX12_writePlain_123 : decode cX12_writePlain 123 = .ok (.getfield 21, 3) := by decide +kernel
theorem dX12_writePlain_126 : decode cX12_writePlain 126 = .ok (.iload_n 1, 1) := by decide +kernel
theorem dX12_writePlain_127 : decode cX12_writePlain 127 = .ok (.iaload, 1) := by decide +kernel
theorem dX12_writePlain_128 : decode cX12_writePlain 128 = .ok (.ldc 157, 2) := by decide +kernel
theorem dX12_writePlain_130 : decode cX12_writePlain 130 = .ok (.iand, 1) := by decide +kernel
theorem dX12_writePlain_131 : decode cX12_writePlain 131 = .ok (.bipush 18, 2) := by decide +kernel
theorem dX12_writePlain_133 : decode cX12_writePlain 133 = .ok (.invokevirtual 153, 3) := by decide +kernel
theorem dX12_writePlain_136 : decode cX12_writePlain 136 = .ok (.aload_n 0, 1) := by decide +kernel
theorem dX12_writePlain_137 : decode cX12_writePlain 137 = .ok (.iload 4, 2) := by decide +kernel
theorem dX12_writePlain_139 : decode cX12_writePlain 139 = .ok (.iconst 1, 1) := by decide +kernel
theorem dX12_writePlain_140 : decode cX12_writePlain 140 = .ok (.invokevirtual 153, 3) := by decide +kernel
theorem dX12_writePlain_143 : decode cX12_writePlain 143 = .ok (.goto 16, 3) := by decide +kernel
theorem dX12_writePlain_146 : decode cX12_writePlain 146 = .ok (.aload_n 0, 1) := by decide +kernel
theorem dX12_writePlain_147 : decode cX12_writePlain 147 = .ok (.iload 4, 2) := by decide +kernel
theorem dX12_writePlain_149 : decode cX12_writePlain 149 = .ok (.iconst 1, 1) := by decide +kernel
theorem dX12_writePlain_150 : decode cX12_writePlain 150 = .ok (.invokevirtual 153, 3) := by decide +kernel
theorem dX12_writePlain_153 : decode cX12_writePlain 153 = .ok (.aload_n 0, 1) := by decide +kernel
theorem dX12_writePlain_154 : decode cX12_writePlain 154 = .ok (.iconst 0, 1) := by decide +kernel
theorem dX12_writePlain_155 : decode cX12_writePlain 155 = .ok (.iconst 1, 1) := by decide +kernel
theorem dX12_writePlain_156 : decode cX12_writePlain 156 = .ok (.invokevirtual 153, 3) := by decide +kernel
theorem dX12_writePlain_159 : decode cX12_writePlain 159 = .ok (.iload_n 3, 1) := by decide +kernel
theorem dX12_writePlain_160 : decode cX12_writePlain 160 = .ok (.ifCond .eq 13, 3) := by decide +kernel
theorem dX12_writePlain_163 : decode cX12_writePlain 163 = .ok (.aload_n 0, 1) := by decide +kernel
theorem dX12_writePlain_164 : decode cX12_writePlain 164 = .ok (.bipush 8, 2) := by decide +kernel
theorem dX12_writePlain_166 : decode cX12_writePlain 166 = .ok (.iconst 4, 1) := by decide +kernel
theorem dX12_writePlain_167 : decode cX12_writePlain 167 = .ok (.invokevirtual 153, 3) := by decide +kernel
theorem dX12_writePlain_170 : decode cX12_writePlain 170 = .ok (.goto 17, 3) := by decide +kernel
theorem dX12_writePlain_173 : decode cX12_writePlain 173 = .ok (.aload_n 0, 1) := by decide +kernel
theorem dX12_writePlain_174 : decode cX12_writePlain 174 = .ok (.iconst 0, 1) := by decide +kernel
theorem dX12_writePlain_175 : decode cX12_writePlain 175 = .ok (.iload_n 2, 1) := by decide +kernel
theorem dX12_writePlain_176 : decode cX12_writePlain 176 = .ok (.ifCond .eq 7, 3) := by decide +kernel
theorem dX12_writePlain_179 : decode cX12_writePlain 179 = .ok (.iconst 2, 1) := by decide +kernel
theorem dX12_writePlain_180 : decode cX12_writePlain 180 = .ok (.goto 4, 3) := by decide +kernel
theorem dX12_writePlain_183 : decode cX12_writePlain 183 = .ok (.iconst 1, 1) := by decide +kernel
theorem dX12_writePlain_184 : decode cX12_writePlain 184 = .ok (.invokevirtual 153, 3) := by decide +kernel
theorem dX12_writePlain_187 : decode cX12_writePlain 187 = .ok (.aload_n 0, 1) := by decide +kernel
theorem dX12_writePlain_188 : decode cX12_writePlain 188 = .ok (.aload_n 0, 1) := by decide +kernel
theorem dX12_writePlain_189 : decode cX12_writePlain 189 = .ok (.getfield 27, 3) := by decide +kernel
theorem dX12_writePlain_192 : decode cX12_writePlain 192 = .ok (.iload_n 1, 1) := by decide +kernel
theorem dX12_writePlain_193 : decode cX12_writePlain 193 = .ok (.iaload, 1) := by decide +kernel
theorem dX12_writePlain_194 : decode cX12_writePlain 194 = .ok (.iconst 4, 1) := by decide +kernel
theorem dX12_writePlain_195 : decode cX12_writePlain 195 = .ok (.invokevirtual 153, 3) := by decide +kernel
theorem dX12_writePlain_198 : decode cX12_writePlain 198 = .ok (.iconst 0, 1) := by decide +kernel
theorem dX12_writePlain_199 : decode cX12_writePlain 199 = .ok (.istore 5, 2) := by decide +kernel
theorem dX12_writePlain_201 : decode cX12_writePlain 201 = .ok (.iload 5, 2) := by decide +kernel
theorem dX12_writePlain_203 : decode cX12_writePlain 203 = .ok (.aload_n 0, 1) := by decide +kernel
theorem dX12_writePlain_204 : decode cX12_writePlain 204 = .ok (.getfield 24, 3) := by decide +kernel
theorem dX12_writePlain_207 : decode cX12_writePlain 207 = .ok (.iload_n 1, 1) := by decide +kernel
theorem dX12_writePlain_208 : decode cX12_writePlain 208 = .ok (.iaload, 1) := by decide +kernel
theorem dX12_writePlain_209 : decode cX12_writePlain 209 = .ok (.aload_n 0, 1) := by decide +kernel
theorem dX12_writePlain_210 : decode cX12_writePlain 210 = .ok (.getfield 27, 3) := by decide +kernel
theorem dX12_writePlain_213 : decode cX12_writePlain 213 = .ok (.iload_n 1, 1) := by decide +kernel
theorem dX12_writePlain_214 : decode cX12_writePlain 214 = .ok (.iaload, 1) := by decide +kernel
theorem dX12_writePlain_215 : decode cX12_writePlain 215 = .ok (.invokestatic 146, 3) := by decide +kernel
theorem dX12_writePlain_218 : decode cX12_writePlain 218 = .ok (.if_icmp .ge 27, 3) := by decide +kernel
theorem dX12_writePlain_221 : decode cX12_writePlain 221 = .ok (.aload_n 0, 1) := by decide +kernel
theorem dX12_writePlain_222 : decode cX12_writePlain 222 = .ok (.aload_n 0, 1) := by decide +kernel
theorem dX12_writePlain_223 : decode cX12_writePlain 223 = .ok (.getfield 30, 3) := by decide +kernel
theorem dX12_writePlain_226 : decode cX12_writePlain 226 = .ok (.bipush 64, 2) := by decide +kernel
theorem dX12_writePlain_228 : decode cX12_writePlain 228 = .ok (.iload_n 1, 1) := by decide +kernel
theorem dX12_writePlain_229 : decode cX12_writePlain 229 = .ok (.imul, 1) := by decide +kernel
theorem dX12_writePlain_230 : decode cX12_writePlain 230 = .ok (.iload 5, 2) := by decide +kernel
theorem dX12_writePlain_232 : decode cX12_writePlain 232 = .ok (.iadd, 1) := by decide +kernel
theorem dX12_writePlain_233 : decode cX12_writePlain 233 = .ok (.iaload, 1) := by decide +kernel
theorem dX12_writePlain_234 : decode cX12_writePlain 234 = .ok (.bipush 8, 2) := by decide +kernel
theorem dX12_writePlain_236 : decode cX12_writePlain 236 = .ok (.invokevirtual 153, 3) := by decide +kernel
theorem dX12_writePlain_239 : decode cX12_writePlain 239 = .ok (.iinc 5 1, 3) := by decide +kernel
theorem dX12_writePlain_242 : decode cX12_writePlain 242 = .ok (.goto (-41), 3) := by decide +kernel
theorem dX12_writePlain_245 : decode cX12_writePlain 245 = .ok (.return_, 1) := by decide +kernel
theorem cwX12_writePlain : mw_cwV yX12_writePlain cX12_writePlain 6 (none) 1 := ⟨⟨wd_15, wd_3657, by decide +kernel⟩, wd_3656, sl_232⟩
set_option maxHeartbeats 4000000 in
set_option maxRecDepth 100000 in
theorem tX12_writePlain (l : Launch) (G : mwG) (ad : Nat → Nat) (fu : Nat) (a1 : Int32) (M : mwM) (L : mwL) {M0 : mwM} {L0 : mwL} (hD : DX12_writePlain fu a1 M L = some (M0, L0)) : Met l yX12_writePlain (Cond.code yX12_writePlain cX12_writePlain 6 (none) :: GT) ({ frames := 1, cells := 0, slots := 0, locals := 23 }) (mw_Pre G ad NF TF FF M L [.ref (ad 821), .int a1]) (mw_Qv G ad NF TF FF (mw_eqV M0 L0)) 0 0 (mw_fr G) := by
  refine mw_enter (by decide) (Nat.le_of_ble_eq_true rfl) ?_
  intro p e s m below meth c ls C hr hlocks hnm hw hl
  have hl : lv_has ls 6 [(0, .ref (ad 821)), (1, .int a1)] := hl
  have hh201 : ∀ (f : Nat) (v5 : Int32) (M : mwM) (L : mwL) (H : Heap) (locs : List Loc) (ls : Array Slot), fX12_writePlain_h201 fu a1 f (v5, M, L) = some (M0, L0) → mw_W G ad NF TF FF M L H locs → lv_has ls 6 [(0, .ref (ad 821)), (1, .int a1), (5, .int v5)] → W p l e ({ frames := 1, cells := 0, slots := 0, locals := 23 }) s m [.ref (ad 821), .int a1].toArray below meth c H locs 0 0 (MQ below (mw_Qv G ad NF TF FF (mw_eqV M0 L0)) [.ref (ad 821), .int a1].toArray s 0 0 (mw_fr G)) (F0 m 201 ls []) := by
    intro f
    induction f with
    | zero => intro v5 M L H locs ls hD; cases hD
    | succ f201 ih201 =>
      intro v5 M L H locs ls hD hw hl
      replace hD : fX12_writePlain_i201 fu a1 (fX12_writePlain_h201 fu a1 f201) v5 M L = some (M0, L0) := hD
      unfold fX12_writePlain_i201 at hD
      refine lv_iload C.1.1 C.1.2.1 dX12_writePlain_201 (lv_at hl 2 rfl) ?_
      refine lv_aload_n C.1.1 C.1.2.1 dX12_writePlain_203 rfl (lv_at hl 0 rfl) ?_
      refine mr_getR C hw kc_12 7 (by decide) tf_821 ff_821_7 wd_2107 dX12_writePlain_204 (by decide) rfl ?_
      refine lv_iload_n C.1.1 C.1.2.1 dX12_writePlain_207 rfl (lv_at hl 1 rfl) ?_
      obtain ⟨q38, hD⟩ := g_ck hD
      refine mr_iald C hw (by decide) tf_825 q38 dX12_writePlain_208 ?_
      refine lv_aload_n C.1.1 C.1.2.1 dX12_writePlain_209 rfl (lv_at hl 0 rfl) ?_
      refine mr_getR C hw kc_12 8 (by decide) tf_821 ff_821_8 wd_2108 dX12_writePlain_210 (by decide) rfl ?_
      refine lv_iload_n C.1.1 C.1.2.1 dX12_writePlain_213 rfl (lv_at hl 1 rfl) ?_
      obtain ⟨q39, hD⟩ := g_ck hD
      refine mr_iald C hw (by decide) tf_826 q39 dX12_writePlain_214 ?_
      obtain ⟨r42, M40, L41, h1, hD⟩ := g_b3 hD
      refine md_csI (As := [.int (M 825 a1.toNatClampNeg), .int (M 826 a1.toNatClampNeg)]) (rest := [.int v5]) C hw (tX12_octetsOf l G ad fu (M 825 a1.toNatClampNeg) (M 826 a1.toNatClampNeg) M L h1) wd_3639 cwX12_octetsOf ⟨Nat.le_of_ble_eq_true rfl, Nat.le_of_ble_eq_true rfl⟩ rfl hl.1 (Nat.le_of_ble_eq_true rfl) dX12_writePlain_215 rfl rfl ⟨Nat.zero_le _, Nat.zero_le _⟩ rfl (fun H locs hw => ?_)
      refine lv_icmp_ge (tgt := 245) C.1.1 C.1.2.1 dX12_writePlain_218 (by decide) (fun c43 => ?_) (fun c43 => ?_)
      · replace hD := g_pos c43 hD
        exact mr_vret C hr hlocks hw (Option.some.inj hD) dX12_writePlain_245
      · replace hD := g_neg c43 hD
        refine lv_aload_n C.1.1 C.1.2.1 dX12_writePlain_221 rfl (lv_at hl 0 rfl) ?_
        refine lv_aload_n C.1.1 C.1.2.1 dX12_writePlain_222 rfl (lv_at hl 0 rfl) ?_
        refine mr_getR C hw kc_12 9 (by decide) tf_821 ff_821_9 wd_2109 dX12_writePlain_223 (by decide) rfl ?_
        refine lv_bipush (v := 64) C.1.1 C.1.2.1 dX12_writePlain_226 (by decide) ?_
        refine lv_iload_n C.1.1 C.1.2.1 dX12_writePlain_228 rfl (lv_at hl 1 rfl) ?_
        refine lv_imul C.1.1 C.1.2.1 dX12_writePlain_229 ?_
        refine lv_iload C.1.1 C.1.2.1 dX12_writePlain_230 (lv_at hl 2 rfl) ?_
        refine lv_iadd C.1.1 C.1.2.1 dX12_writePlain_232 ?_
        obtain ⟨q44, hD⟩ := g_ck hD
        refine mr_iald C hw (by decide) tf_827 q44 dX12_writePlain_233 ?_
        refine lv_bipush (v := 8) C.1.1 C.1.2.1 dX12_writePlain_234 (by decide) ?_
        obtain ⟨M45, L46, h1, hD⟩ := g_b2 hD
        refine md_cvV (As := [.int (M40 827 ((64 * a1) + v5).toNatClampNeg), .int 8]) (rest := []) C hw (tX12_bits l G ad fu (M40 827 ((64 * a1) + v5).toNatClampNeg) 8 M40 L41 h1) kc_12 (by decide) tf_821 wd_3658 cwX12_bits ⟨Nat.le_of_ble_eq_true rfl, Nat.le_of_ble_eq_true rfl⟩ rfl hl.1 (Nat.le_of_ble_eq_true rfl) dX12_writePlain_236 rfl rfl ⟨Nat.zero_le _, Nat.zero_le _⟩ rfl (fun H locs hw => ?_)
        obtain ⟨x47, ex47, hD⟩ := g_let hD
        refine lv_iinc (v := x47) (lv' := [(5, .int x47), (0, .ref (ad 821)), (1, .int a1)]) C.1.1 C.1.2.1 dX12_writePlain_239 hl (k := 2) rfl (by rw [ex47]; rfl) (by decide) rfl (fun ls hl => ?_)
        refine lv_goto (tgt := 201) C.1.1 C.1.2.1 dX12_writePlain_242 (by decide) ?_
        exact ih201 x47 M45 L46 _ _ ls hD hw (lv_sub hl [1, 2, 0] rfl)
  have hb187 : ∀ (M : mwM) (L : mwL) (H : Heap) (locs : List Loc) (ls : Array Slot), fX12_writePlain_b187 fu a1 M L = some (M0, L0) → mw_W G ad NF TF FF M L H locs → lv_has ls 6 [(0, .ref (ad 821)), (1, .int a1)] → W p l e ({ frames := 1, cells := 0, slots := 0, locals := 23 }) s m [.ref (ad 821), .int a1].toArray below meth c H locs 0 0 (MQ below (mw_Qv G ad NF TF FF (mw_eqV M0 L0)) [.ref (ad 821), .int a1].toArray s 0 0 (mw_fr G)) (F0 m 187 ls []) := by
    intro M L H locs ls hD hw hl
    unfold fX12_writePlain_b187 at hD
    refine lv_aload_n C.1.1 C.1.2.1 dX12_writePlain_187 rfl (lv_at hl 0 rfl) ?_
    refine lv_aload_n C.1.1 C.1.2.1 dX12_writePlain_188 rfl (lv_at hl 0 rfl) ?_
    refine mr_getR C hw kc_12 8 (by decide) tf_821 ff_821_8 wd_2108 dX12_writePlain_189 (by decide) rfl ?_
    refine lv_iload_n C.1.1 C.1.2.1 dX12_writePlain_192 rfl (lv_at hl 1 rfl) ?_
    obtain ⟨q35, hD⟩ := g_ck hD
    refine mr_iald C hw (by decide) tf_826 q35 dX12_writePlain_193 ?_
    refine lv_iconst (v := 4) C.1.1 C.1.2.1 dX12_writePlain_194 (by decide) ?_
    obtain ⟨M36, L37, h1, hD⟩ := g_b2 hD
    refine md_cvV (As := [.int (M 826 a1.toNatClampNeg), .int 4]) (rest := []) C hw (tX12_bits l G ad fu (M 826 a1.toNatClampNeg) 4 M L h1) kc_12 (by decide) tf_821 wd_3658 cwX12_bits ⟨Nat.le_of_ble_eq_true rfl, Nat.le_of_ble_eq_true rfl⟩ rfl hl.1 (Nat.le_of_ble_eq_true rfl) dX12_writePlain_195 rfl rfl ⟨Nat.zero_le _, Nat.zero_le _⟩ rfl (fun H locs hw => ?_)
    refine lv_iconst (v := 0) C.1.1 C.1.2.1 dX12_writePlain_198 (by decide) ?_
    refine lv_istore (lv' := [(5, .int 0), (0, .ref (ad 821)), (1, .int a1)]) C.1.1 C.1.2.1 dX12_writePlain_199 hl (by decide) rfl (fun ls hl => ?_)
    exact hh201 fu 0 M36 L37 _ _ ls hD hw (lv_sub hl [1, 2, 0] rfl)
  have hb184 : ∀ (s1 : Int32) (s2 : Int32) (M : mwM) (L : mwL) (H : Heap) (locs : List Loc) (ls : Array Slot), fX12_writePlain_b184 fu a1 s1 s2 M L = some (M0, L0) → mw_W G ad NF TF FF M L H locs → lv_has ls 6 [(0, .ref (ad 821)), (1, .int a1)] → W p l e ({ frames := 1, cells := 0, slots := 0, locals := 23 }) s m [.ref (ad 821), .int a1].toArray below meth c H locs 0 0 (MQ below (mw_Qv G ad NF TF FF (mw_eqV M0 L0)) [.ref (ad 821), .int a1].toArray s 0 0 (mw_fr G)) (F0 m 184 ls [.int s2, .int s1, .ref (ad 821)]) := by
    intro s1 s2 M L H locs ls hD hw hl
    unfold fX12_writePlain_b184 at hD
    obtain ⟨M33, L34, h1, hD⟩ := g_b2 hD
    refine md_cvV (As := [.int s1, .int s2]) (rest := []) C hw (tX12_bits l G ad fu s1 s2 M L h1) kc_12 (by decide) tf_821 wd_3658 cwX12_bits ⟨Nat.le_of_ble_eq_true rfl, Nat.le_of_ble_eq_true rfl⟩ rfl hl.1 (Nat.le_of_ble_eq_true rfl) dX12_writePlain_184 rfl rfl ⟨Nat.zero_le _, Nat.zero_le _⟩ rfl (fun H locs hw => ?_)
    exact hb187 M33 L34 _ _ ls hD hw (lv_sub hl [0, 1] rfl)
  have hb159 : ∀ (v2 : Int32) (v3 : Int32) (M : mwM) (L : mwL) (H : Heap) (locs : List Loc) (ls : Array Slot), fX12_writePlain_b159 fu a1 v2 v3 M L = some (M0, L0) → mw_W G ad NF TF FF M L H locs → lv_has ls 6 [(0, .ref (ad 821)), (1, .int a1), (2, .int v2), (3, .int v3)] → W p l e ({ frames := 1, cells := 0, slots := 0, locals := 23 }) s m [.ref (ad 821), .int a1].toArray below meth c H locs 0 0 (MQ below (mw_Qv G ad NF TF FF (mw_eqV M0 L0)) [.ref (ad 821), .int a1].toArray s 0 0 (mw_fr G)) (F0 m 159 ls []) := by
    intro v2 v3 M L H locs ls hD hw hl
    unfold fX12_writePlain_b159 at hD
    refine lv_iload_n C.1.1 C.1.2.1 dX12_writePlain_159 rfl (lv_at hl 3 rfl) ?_
    refine lv_if_eq (tgt := 173) C.1.1 C.1.2.1 dX12_writePlain_160 (by decide) (fun c29 => ?_) (fun c29 => ?_)
    · replace hD := g_pos c29 hD
      refine lv_aload_n C.1.1 C.1.2.1 dX12_writePlain_173 rfl (lv_at hl 0 rfl) ?_
      refine lv_iconst (v := 0) C.1.1 C.1.2.1 dX12_writePlain_174 (by decide) ?_
      refine lv_iload_n C.1.1 C.1.2.1 dX12_writePlain_175 rfl (lv_at hl 2 rfl) ?_
      refine lv_if_eq (tgt := 183) C.1.1 C.1.2.1 dX12_writePlain_176 (by decide) (fun c30 => ?_) (fun c30 => ?_)
      · replace hD := g_pos c30 hD
        refine lv_iconst (v := 1) C.1.1 C.1.2.1 dX12_writePlain_183 (by decide) ?_
        exact hb184 0 1 M L _ _ ls hD hw (lv_sub hl [0, 1] rfl)
      · replace hD := g_neg c30 hD
        refine lv_iconst (v := 2) C.1.1 C.1.2.1 dX12_writePlain_179 (by decide) ?_
        refine lv_goto (tgt := 184) C.1.1 C.1.2.1 dX12_writePlain_180 (by decide) ?_
        exact hb184 0 2 M L _ _ ls hD hw (lv_sub hl [0, 1] rfl)
    · replace hD := g_neg c29 hD
      refine lv_aload_n C.1.1 C.1.2.1 dX12_writePlain_163 rfl (lv_at hl 0 rfl) ?_
      refine lv_bipush (v := 8) C.1.1 C.1.2.1 dX12_writePlain_164 (by decide) ?_
      refine lv_iconst (v := 4) C.1.1 C.1.2.1 dX12_writePlain_166 (by decide) ?_
      obtain ⟨M31, L32, h1, hD⟩ := g_b2 hD
      refine md_cvV (As := [.int 8, .int 4]) (rest := []) C hw (tX12_bits l G ad fu 8 4 M L h1) kc_12 (by decide) tf_821 wd_3658 cwX12_bits ⟨Nat.le_of_ble_eq_true rfl, Nat.le_of_ble_eq_true rfl⟩ rfl hl.1 (Nat.le_of_ble_eq_true rfl) dX12_writePlain_167 rfl rfl ⟨Nat.zero_le _, Nat.zero_le _⟩ rfl (fun H locs hw => ?_)
      refine lv_goto (tgt := 187) C.1.1 C.1.2.1 dX12_writePlain_170 (by decide) ?_
      exact hb187 M31 L32 _ _ ls hD hw (lv_sub hl [0, 1] rfl)
  have hb100 : ∀ (v2 : Int32) (v3 : Int32) (v4 : Int32) (s1 : Int32) (M : mwM) (L : mwL) (H : Heap) (locs : List Loc) (ls : Array Slot), fX12_writePlain_b100 fu a1 v2 v3 v4 s1 M L = some (M0, L0) → mw_W G ad NF TF FF M L H locs → lv_has ls 6 [(0, .ref (ad 821)), (1, .int a1), (2, .int v2), (3, .int v3), (4, .int v4)] → W p l e ({ frames := 1, cells := 0, slots := 0, locals := 23 }) s m [.ref (ad 821), .int a1].toArray below meth c H locs 0 0 (MQ below (mw_Qv G ad NF TF FF (mw_eqV M0 L0)) [.ref (ad 821), .int a1].toArray s 0 0 (mw_fr G)) (F0 m 100 ls [.int s1, .ref (ad 821)]) := by
    intro v2 v3 v4 s1 M L H locs ls hD hw hl
    unfold fX12_writePlain_b100 at hD
    refine lv_bipush (v := 11) C.1.1 C.1.2.1 dX12_writePlain_100 (by decide) ?_
    obtain ⟨M13, L14, h1, hD⟩ := g_b2 hD
    refine md_cvV (As := [.int s1, .int 11]) (rest := []) C hw (tX12_bits l G ad fu s1 11 M L h1) kc_12 (by decide) tf_821 wd_3658 cwX12_bits ⟨Nat.le_of_ble_eq_true rfl, Nat.le_of_ble_eq_true rfl⟩ rfl hl.1 (Nat.le_of_ble_eq_true rfl) dX12_writePlain_102 rfl rfl ⟨Nat.zero_le _, Nat.zero_le _⟩ rfl (fun H locs hw => ?_)
    refine lv_iload_n C.1.1 C.1.2.1 dX12_writePlain_105 rfl (lv_at hl 2 rfl) ?_
    refine lv_if_eq (tgt := 146) C.1.1 C.1.2.1 dX12_writePlain_106 (by decide) (fun c15 => ?_) (fun c15 => ?_)
    · replace hD := g_pos c15 hD
      refine lv_aload_n C.1.1 C.1.2.1 dX12_writePlain_146 rfl (lv_at hl 0 rfl) ?_
      refine lv_iload C.1.1 C.1.2.1 dX12_writePlain_147 (lv_at hl 4 rfl) ?_
      refine lv_iconst (v := 1) C.1.1 C.1.2.1 dX12_writePlain_149 (by decide) ?_
      obtain ⟨M16, L17, h1, hD⟩ := g_b2 hD
      refine md_cvV (As := [.int v4, .int 1]) (rest := []) C hw (tX12_bits l G ad fu v4 1 M13 L14 h1) kc_12 (by decide) tf_821 wd_3658 cwX12_bits ⟨Nat.le_of_ble_eq_true rfl, Nat.le_of_ble_eq_true rfl⟩ rfl hl.1 (Nat.le_of_ble_eq_true rfl) dX12_writePlain_150 rfl rfl ⟨Nat.zero_le _, Nat.zero_le _⟩ rfl (fun H locs hw => ?_)
      refine lv_aload_n C.1.1 C.1.2.1 dX12_writePlain_153 rfl (lv_at hl 0 rfl) ?_
      refine lv_iconst (v := 0) C.1.1 C.1.2.1 dX12_writePlain_154 (by decide) ?_
      refine lv_iconst (v := 1) C.1.1 C.1.2.1 dX12_writePlain_155 (by decide) ?_
      obtain ⟨M18, L19, h1, hD⟩ := g_b2 hD
      refine md_cvV (As := [.int 0, .int 1]) (rest := []) C hw (tX12_bits l G ad fu 0 1 M16 L17 h1) kc_12 (by decide) tf_821 wd_3658 cwX12_bits ⟨Nat.le_of_ble_eq_true rfl, Nat.le_of_ble_eq_true rfl⟩ rfl hl.1 (Nat.le_of_ble_eq_true rfl) dX12_writePlain_156 rfl rfl ⟨Nat.zero_le _, Nat.zero_le _⟩ rfl (fun H locs hw => ?_)
      exact hb159 v2 v3 M18 L19 _ _ ls hD hw (lv_sub hl [0, 1, 2, 3] rfl)
    · replace hD := g_neg c15 hD
      refine lv_aload_n C.1.1 C.1.2.1 dX12_writePlain_109 rfl (lv_at hl 0 rfl) ?_
      refine lv_iconst (v := 1) C.1.1 C.1.2.1 dX12_writePlain_110 (by decide) ?_
      refine lv_iconst (v := 1) C.1.1 C.1.2.1 dX12_writePlain_111 (by decide) ?_
      obtain ⟨M20, L21, h1, hD⟩ := g_b2 hD
      refine md_cvV (As := [.int 1, .int 1]) (rest := []) C hw (tX12_bits l G ad fu 1 1 M13 L14 h1) kc_12 (by decide) tf_821 wd_3658 cwX12_bits ⟨Nat.le_of_ble_eq_true rfl, Nat.le_of_ble_eq_true rfl⟩ rfl hl.1 (Nat.le_of_ble_eq_true rfl) dX12_writePlain_112 rfl rfl ⟨Nat.zero_le _, Nat.zero_le _⟩ rfl (fun H locs hw => ?_)
      refine lv_aload_n C.1.1 C.1.2.1 dX12_writePlain_115 rfl (lv_at hl 0 rfl) ?_
      refine lv_iconst (v := 1) C.1.1 C.1.2.1 dX12_writePlain_116 (by decide) ?_
      refine lv_iconst (v := 1) C.1.1 C.1.2.1 dX12_writePlain_117 (by decide) ?_
      obtain ⟨M22, L23, h1, hD⟩ := g_b2 hD
      refine md_cvV (As := [.int 1, .int 1]) (rest := []) C hw (tX12_bits l G ad fu 1 1 M20 L21 h1) kc_12 (by decide) tf_821 wd_3658 cwX12_bits ⟨Nat.le_of_ble_eq_true rfl, Nat.le_of_ble_eq_true rfl⟩ rfl hl.1 (Nat.le_of_ble_eq_true rfl) dX12_writePlain_118 rfl rfl ⟨Nat.zero_le _, Nat.zero_le _⟩ rfl (fun H locs hw => ?_)
      refine lv_aload_n C.1.1 C.1.2.1 dX12_writePlain_121 rfl (lv_at hl 0 rfl) ?_
      refine lv_aload_n C.1.1 C.1.2.1 dX12_writePlain_122 rfl (lv_at hl 0 rfl) ?_
      refine mr_getR C hw kc_12 6 (by decide) tf_821 ff_821_6 wd_2106 dX12_writePlain_123 (by decide) rfl ?_
      refine lv_iload_n C.1.1 C.1.2.1 dX12_writePlain_126 rfl (lv_at hl 1 rfl) ?_
      obtain ⟨q24, hD⟩ := g_ck hD
      refine mr_iald C hw (by decide) tf_824 q24 dX12_writePlain_127 ?_
      refine lv_ldc (v := 262143) C.1.1 C.1.2.1 C.1.2.2.2.1 (C.1.2.2.2.2 _ wd_3662) dX12_writePlain_128 ?_
      refine lv_iand C.1.1 C.1.2.1 dX12_writePlain_130 ?_
      refine lv_bipush (v := 18) C.1.1 C.1.2.1 dX12_writePlain_131 (by decide) ?_
      obtain ⟨M25, L26, h1, hD⟩ := g_b2 hD
      refine md_cvV (As := [.int ((M22 824 a1.toNatClampNeg) &&& 262143), .int 18]) (rest := []) C hw (tX12_bits l G ad fu ((M22 824 a1.toNatClampNeg) &&& 262143) 18 M22 L23 h1) kc_12 (by decide) tf_821 wd_3658 cwX12_bits ⟨Nat.le_of_ble_eq_true rfl, Nat.le_of_ble_eq_true rfl⟩ rfl hl.1 (Nat.le_of_ble_eq_true rfl) dX12_writePlain_133 rfl rfl ⟨Nat.zero_le _, Nat.zero_le _⟩ rfl (fun H locs hw => ?_)
      refine lv_aload_n C.1.1 C.1.2.1 dX12_writePlain_136 rfl (lv_at hl 0 rfl) ?_
      refine lv_iload C.1.1 C.1.2.1 dX12_writePlain_137 (lv_at hl 4 rfl) ?_
      refine lv_iconst (v := 1) C.1.1 C.1.2.1 dX12_writePlain_139 (by decide) ?_
      obtain ⟨M27, L28, h1, hD⟩ := g_b2 hD
      refine md_cvV (As := [.int v4, .int 1]) (rest := []) C hw (tX12_bits l G ad fu v4 1 M25 L26 h1) kc_12 (by decide) tf_821 wd_3658 cwX12_bits ⟨Nat.le_of_ble_eq_true rfl, Nat.le_of_ble_eq_true rfl⟩ rfl hl.1 (Nat.le_of_ble_eq_true rfl) dX12_writePlain_140 rfl rfl ⟨Nat.zero_le _, Nat.zero_le _⟩ rfl (fun H locs hw => ?_)
      refine lv_goto (tgt := 159) C.1.1 C.1.2.1 dX12_writePlain_143 (by decide) ?_
      exact hb159 v2 v3 M27 L28 _ _ ls hD hw (lv_sub hl [0, 1, 2, 3] rfl)
  have hb64 : ∀ (v2 : Int32) (v3 : Int32) (s0 : Int32) (M : mwM) (L : mwL) (H : Heap) (locs : List Loc) (ls : Array Slot), fX12_writePlain_b64 fu a1 v2 v3 s0 M L = some (M0, L0) → mw_W G ad NF TF FF M L H locs → lv_has ls 6 [(0, .ref (ad 821)), (1, .int a1), (2, .int v2), (3, .int v3)] → W p l e ({ frames := 1, cells := 0, slots := 0, locals := 23 }) s m [.ref (ad 821), .int a1].toArray below meth c H locs 0 0 (MQ below (mw_Qv G ad NF TF FF (mw_eqV M0 L0)) [.ref (ad 821), .int a1].toArray s 0 0 (mw_fr G)) (F0 m 64 ls [.int s0]) := by
    intro v2 v3 s0 M L H locs ls hD hw hl
    unfold fX12_writePlain_b64 at hD
    refine lv_istore (lv' := [(4, .int s0), (0, .ref (ad 821)), (1, .int a1), (2, .int v2), (3, .int v3)]) C.1.1 C.1.2.1 dX12_writePlain_64 hl (by decide) rfl (fun ls hl => ?_)
    refine lv_aload_n C.1.1 C.1.2.1 dX12_writePlain_66 rfl (lv_at hl 1 rfl) ?_
    refine lv_iconst (v := 0) C.1.1 C.1.2.1 dX12_writePlain_67 (by decide) ?_
    obtain ⟨M7, eM7, hD⟩ := g_let hD
    refine mr_putI C hw kc_12 34 (by decide) tf_821 wd_2134 dX12_writePlain_68 (by decide) rfl rfl rfl rfl (fun H locs hw => ?_)
    replace hw : mw_W G ad NF TF FF M7 L H locs := by rw [eM7]; exact hw
    refine lv_aload_n C.1.1 C.1.2.1 dX12_writePlain_71 rfl (lv_at hl 1 rfl) ?_
    refine lv_iconst (v := 0) C.1.1 C.1.2.1 dX12_writePlain_72 (by decide) ?_
    refine lv_iconst (v := 1) C.1.1 C.1.2.1 dX12_writePlain_73 (by decide) ?_
    obtain ⟨M8, L9, h1, hD⟩ := g_b2 hD
    refine md_cvV (As := [.int 0, .int 1]) (rest := []) C hw (tX12_bits l G ad fu 0 1 M7 L h1) kc_12 (by decide) tf_821 wd_3658 cwX12_bits ⟨Nat.le_of_ble_eq_true rfl, Nat.le_of_ble_eq_true rfl⟩ rfl hl.1 (Nat.le_of_ble_eq_true rfl) dX12_writePlain_74 rfl rfl ⟨Nat.zero_le _, Nat.zero_le _⟩ rfl (fun H locs hw => ?_)
    refine lv_aload_n C.1.1 C.1.2.1 dX12_writePlain_77 rfl (lv_at hl 1 rfl) ?_
    refine lv_iload_n C.1.1 C.1.2.1 dX12_writePlain_78 rfl (lv_at hl 3 rfl) ?_
    refine lv_if_eq (tgt := 94) C.1.1 C.1.2.1 dX12_writePlain_79 (by decide) (fun c10 => ?_) (fun c10 => ?_)
    · replace hD := g_pos c10 hD
      refine lv_aload_n C.1.1 C.1.2.1 dX12_writePlain_94 rfl (lv_at hl 1 rfl) ?_
      refine mr_getR C hw kc_12 6 (by decide) tf_821 ff_821_6 wd_2106 dX12_writePlain_95 (by decide) rfl ?_
      refine lv_iload_n C.1.1 C.1.2.1 dX12_writePlain_98 rfl (lv_at hl 2 rfl) ?_
      obtain ⟨q11, hD⟩ := g_ck hD
      refine mr_iald C hw (by decide) tf_824 q11 dX12_writePlain_99 ?_
      exact hb100 v2 v3 s0 (M8 824 a1.toNatClampNeg) M8 L9 _ _ ls hD hw (lv_sub hl [1, 2, 3, 4, 0] rfl)
    · replace hD := g_neg c10 hD
      refine lv_aload_n C.1.1 C.1.2.1 dX12_writePlain_82 rfl (lv_at hl 1 rfl) ?_
      refine mr_getR C hw kc_12 6 (by decide) tf_821 ff_821_6 wd_2106 dX12_writePlain_83 (by decide) rfl ?_
      refine lv_iload_n C.1.1 C.1.2.1 dX12_writePlain_86 rfl (lv_at hl 2 rfl) ?_
      obtain ⟨q12, hD⟩ := g_ck hD
      refine mr_iald C hw (by decide) tf_824 q12 dX12_writePlain_87 ?_
      refine lv_bipush (v := 18) C.1.1 C.1.2.1 dX12_writePlain_88 (by decide) ?_
      refine lv_ishr C.1.1 C.1.2.1 dX12_writePlain_90 ?_
      refine lv_goto (tgt := 100) C.1.1 C.1.2.1 dX12_writePlain_91 (by decide) ?_
      exact hb100 v2 v3 s0 ((M8 824 a1.toNatClampNeg) >>> (18 &&& 31)) M8 L9 _ _ ls hD hw (lv_sub hl [1, 2, 3, 4, 0] rfl)
  have hb48 : ∀ (v2 : Int32) (s0 : Int32) (M : mwM) (L : mwL) (H : Heap) (locs : List Loc) (ls : Array Slot), fX12_writePlain_b48 fu a1 v2 s0 M L = some (M0, L0) → mw_W G ad NF TF FF M L H locs → lv_has ls 6 [(0, .ref (ad 821)), (1, .int a1), (2, .int v2)] → W p l e ({ frames := 1, cells := 0, slots := 0, locals := 23 }) s m [.ref (ad 821), .int a1].toArray below meth c H locs 0 0 (MQ below (mw_Qv G ad NF TF FF (mw_eqV M0 L0)) [.ref (ad 821), .int a1].toArray s 0 0 (mw_fr G)) (F0 m 48 ls [.int s0]) := by
    intro v2 s0 M L H locs ls hD hw hl
    unfold fX12_writePlain_b48 at hD
    refine lv_istore_n (lv' := [(3, .int s0), (0, .ref (ad 821)), (1, .int a1), (2, .int v2)]) C.1.1 C.1.2.1 dX12_writePlain_48 rfl hl (by decide) rfl (fun ls hl => ?_)
    refine lv_aload_n C.1.1 C.1.2.1 dX12_writePlain_49 rfl (lv_at hl 1 rfl) ?_
    refine mr_getR C hw kc_12 7 (by decide) tf_821 ff_821_7 wd_2107 dX12_writePlain_50 (by decide) rfl ?_
    refine lv_iload_n C.1.1 C.1.2.1 dX12_writePlain_53 rfl (lv_at hl 2 rfl) ?_
    obtain ⟨q5, hD⟩ := g_ck hD
    refine mr_iald C hw (by decide) tf_825 q5 dX12_writePlain_54 ?_
    refine lv_iconst (v := 3) C.1.1 C.1.2.1 dX12_writePlain_55 (by decide) ?_
    refine lv_icmp_le (tgt := 63) C.1.1 C.1.2.1 dX12_writePlain_56 (by decide) (fun c6 => ?_) (fun c6 => ?_)
    · replace hD := g_pos c6 hD
      refine lv_iconst (v := 0) C.1.1 C.1.2.1 dX12_writePlain_63 (by decide) ?_
      exact hb64 v2 s0 0 M L _ _ ls hD hw (lv_sub hl [1, 2, 3, 0] rfl)
    · replace hD := g_neg c6 hD
      refine lv_iconst (v := 1) C.1.1 C.1.2.1 dX12_writePlain_59 (by decide) ?_
      refine lv_goto (tgt := 64) C.1.1 C.1.2.1 dX12_writePlain_60 (by decide) ?_
      exact hb64 v2 s0 1 M L _ _ ls hD hw (lv_sub hl [1, 2, 3, 0] rfl)
  have hb43 : ∀ (v2 : Int32) (M : mwM) (L : mwL) (H : Heap) (locs : List Loc) (ls : Array Slot), fX12_writePlain_b43 fu a1 v2 M L = some (M0, L0) → mw_W G ad NF TF FF M L H locs → lv_has ls 6 [(0, .ref (ad 821)), (1, .int a1), (2, .int v2)] → W p l e ({ frames := 1, cells := 0, slots := 0, locals := 23 }) s m [.ref (ad 821), .int a1].toArray below meth c H locs 0 0 (MQ below (mw_Qv G ad NF TF FF (mw_eqV M0 L0)) [.ref (ad 821), .int a1].toArray s 0 0 (mw_fr G)) (F0 m 43 ls []) := by
    intro v2 M L H locs ls hD hw hl
    unfold fX12_writePlain_b43 at hD
    refine lv_iconst (v := 1) C.1.1 C.1.2.1 dX12_writePlain_43 (by decide) ?_
    refine lv_goto (tgt := 48) C.1.1 C.1.2.1 dX12_writePlain_44 (by decide) ?_
    exact hb48 v2 1 M L _ _ ls hD hw (lv_sub hl [0, 1, 2] rfl)
  have hb22 : ∀ (s0 : Int32) (M : mwM) (L : mwL) (H : Heap) (locs : List Loc) (ls : Array Slot), fX12_writePlain_b22 fu a1 s0 M L = some (M0, L0) → mw_W G ad NF TF FF M L H locs → lv_has ls 6 [(0, .ref (ad 821)), (1, .int a1)] → W p l e ({ frames := 1, cells := 0, slots := 0, locals := 23 }) s m [.ref (ad 821), .int a1].toArray below meth c H locs 0 0 (MQ below (mw_Qv G ad NF TF FF (mw_eqV M0 L0)) [.ref (ad 821), .int a1].toArray s 0 0 (mw_fr G)) (F0 m 22 ls [.int s0]) := by
    intro s0 M L H locs ls hD hw hl
    unfold fX12_writePlain_b22 at hD
    refine lv_istore_n (lv' := [(2, .int s0), (0, .ref (ad 821)), (1, .int a1)]) C.1.1 C.1.2.1 dX12_writePlain_22 rfl hl (by decide) rfl (fun ls hl => ?_)
    refine lv_aload_n C.1.1 C.1.2.1 dX12_writePlain_23 rfl (lv_at hl 1 rfl) ?_
    refine mr_getR C hw kc_12 7 (by decide) tf_821 ff_821_7 wd_2107 dX12_writePlain_24 (by decide) rfl ?_
    refine lv_iload_n C.1.1 C.1.2.1 dX12_writePlain_27 rfl (lv_at hl 2 rfl) ?_
    obtain ⟨q1, hD⟩ := g_ck hD
    refine mr_iald C hw (by decide) tf_825 q1 dX12_writePlain_28 ?_
    refine lv_iconst (v := 2) C.1.1 C.1.2.1 dX12_writePlain_29 (by decide) ?_
    refine lv_icmp_eq (tgt := 43) C.1.1 C.1.2.1 dX12_writePlain_30 (by decide) (fun c2 => ?_) (fun c2 => ?_)
    · replace hD := g_pos c2 hD
      exact hb43 s0 M L _ _ ls hD hw (lv_sub hl [1, 2, 0] rfl)
    · replace hD := g_neg c2 hD
      refine lv_aload_n C.1.1 C.1.2.1 dX12_writePlain_33 rfl (lv_at hl 1 rfl) ?_
      refine mr_getR C hw kc_12 7 (by decide) tf_821 ff_821_7 wd_2107 dX12_writePlain_34 (by decide) rfl ?_
      refine lv_iload_n C.1.1 C.1.2.1 dX12_writePlain_37 rfl (lv_at hl 2 rfl) ?_
      obtain ⟨q3, hD⟩ := g_ck hD
      refine mr_iald C hw (by decide) tf_825 q3 dX12_writePlain_38 ?_
      refine lv_iconst (v := 3) C.1.1 C.1.2.1 dX12_writePlain_39 (by decide) ?_
      refine lv_icmp_ne (tgt := 47) C.1.1 C.1.2.1 dX12_writePlain_40 (by decide) (fun c4 => ?_) (fun c4 => ?_)
      · replace hD := g_neg c4 hD
        refine lv_iconst (v := 0) C.1.1 C.1.2.1 dX12_writePlain_47 (by decide) ?_
        exact hb48 s0 0 M L _ _ ls hD hw (lv_sub hl [1, 2, 0] rfl)
      · replace hD := g_pos c4 hD
        exact hb43 s0 M L _ _ ls hD hw (lv_sub hl [1, 2, 0] rfl)
  unfold DX12_writePlain at hD
  refine lv_aload_n C.1.1 C.1.2.1 dX12_writePlain_0 rfl (lv_at hl 0 rfl) ?_
  refine lv_iconst (v := (-1)) C.1.1 C.1.2.1 dX12_writePlain_1 (by decide) ?_
  obtain ⟨M48, eM48, hD⟩ := g_let hD
  refine mr_putI C hw kc_12 48 (by decide) tf_821 wd_2148 dX12_writePlain_2 (by decide) rfl rfl rfl rfl (fun H locs hw => ?_)
  replace hw : mw_W G ad NF TF FF M48 L H locs := by rw [eM48]; exact hw
  refine lv_aload_n C.1.1 C.1.2.1 dX12_writePlain_5 rfl (lv_at hl 0 rfl) ?_
  refine mr_getR C hw kc_12 7 (by decide) tf_821 ff_821_7 wd_2107 dX12_writePlain_6 (by decide) rfl ?_
  refine lv_iload_n C.1.1 C.1.2.1 dX12_writePlain_9 rfl (lv_at hl 1 rfl) ?_
  obtain ⟨q49, hD⟩ := g_ck hD
  refine mr_iald C hw (by decide) tf_825 q49 dX12_writePlain_10 ?_
  refine lv_iconst (v := 2) C.1.1 C.1.2.1 dX12_writePlain_11 (by decide) ?_
  refine lv_irem C.1.1 C.1.2.1 dX12_writePlain_12 (by decide) ?_
  refine lv_iconst (v := 1) C.1.1 C.1.2.1 dX12_writePlain_13 (by decide) ?_
  refine lv_icmp_ne (tgt := 21) C.1.1 C.1.2.1 dX12_writePlain_14 (by decide) (fun c51 => ?_) (fun c51 => ?_)
  · replace hD := g_neg c51 hD
    refine lv_iconst (v := 0) C.1.1 C.1.2.1 dX12_writePlain_21 (by decide) ?_
    exact hb22 0 M48 L _ _ ls hD hw (lv_sub hl [0, 1] rfl)
  · replace hD := g_pos c51 hD
    refine lv_iconst (v := 1) C.1.1 C.1.2.1 dX12_writePlain_17 (by decide) ?_
    refine lv_goto (tgt := 22) C.1.1 C.1.2.1 dX12_writePlain_18 (by decide) ?_
    exact hb22 1 M48 L _ _ ls hD hw (lv_sub hl [0, 1] rfl)

theorem dX12_checkOf_0 : decode cX12_checkOf 0 = .ok (.iload_n 1, 1) := by decide +kernel
theorem dX12_checkOf_1 : decode cX12_checkOf 1 = .ok (.bipush 15, 2) := by decide +kernel
theorem dX12_checkOf_3 : decode cX12_checkOf 3 = .ok (.if_icmp .ne 9, 3) := by decide +kernel
theorem dX12_checkOf_6 : decode cX12_checkOf 6 = .ok (.sipush 17817, 3) := by decide +kernel
theorem dX12_checkOf_9 : decode cX12_checkOf 9 = .ok (.goto 16, 3) := by decide +kernel
theorem dX12_checkOf_12 : decode cX12_checkOf 12 = .ok (.iload_n 1, 1) := by decide +kernel
theorem dX12_checkOf_13 : decode cX12_checkOf 13 = .ok (.bipush 17, 2) := by decide +kernel
theorem dX12_checkOf_15 : decode cX12_checkOf 15 = .ok (.if_icmp .ne 8, 3) := by decide +kernel
theorem dX12_checkOf_18 : decode cX12_checkOf 18 = .ok (.ldc 158, 2) := by decide +kernel
theorem dX12_checkOf_20 : decode cX12_checkOf 20 = .ok (.goto 5, 3) := by decide +kernel
theorem dX12_checkOf_23 : decode cX12_checkOf 23 = .ok (.ldc 159, 2) := by decide +kernel
theorem dX12_checkOf_25 : decode cX12_checkOf 25 = .ok (.istore_n 2, 1) := by decide +kernel
theorem dX12_checkOf_26 : decode cX12_checkOf 26 = .ok (.iconst 1, 1) := by decide +kernel
theorem dX12_checkOf_27 : decode cX12_checkOf 27 = .ok (.iload_n 1, 1) := by decide +kernel
theorem dX12_checkOf_28 : decode cX12_checkOf 28 = .ok (.iconst 1, 1) := by decide +kernel
theorem dX12_checkOf_29 : decode cX12_checkOf 29 = .ok (.isub, 1) := by decide +kernel
theorem dX12_checkOf_30 : decode cX12_checkOf 30 = .ok (.ishl, 1) := by decide +kernel
theorem dX12_checkOf_31 : decode cX12_checkOf 31 = .ok (.istore_n 3, 1) := by decide +kernel
theorem dX12_checkOf_32 : decode cX12_checkOf 32 = .ok (.iload_n 1, 1) := by decide +kernel
theorem dX12_checkOf_33 : decode cX12_checkOf 33 = .ok (.bipush 15, 2) := by decide +kernel
theorem dX12_checkOf_35 : decode cX12_checkOf 35 = .ok (.if_icmp .ne 7, 3) := by decide +kernel
theorem dX12_checkOf_38 : decode cX12_checkOf 38 = .ok (.iconst 0, 1) := by decide +kernel
theorem dX12_checkOf_39 : decode cX12_checkOf 39 = .ok (.goto 4, 3) := by decide +kernel
theorem dX12_checkOf_42 : decode cX12_checkOf 42 = .ok (.iload_n 3, 1) := by decide +kernel
theorem dX12_checkOf_43 : decode cX12_checkOf 43 = .ok (.istore 4, 2) := by decide +kernel
theorem dX12_checkOf_45 : decode cX12_checkOf 45 = .ok (.iconst 0, 1) := by decide +kernel
theorem dX12_checkOf_46 : decode cX12_checkOf 46 = .ok (.istore 5, 2) := by decide +kernel
theorem dX12_checkOf_48 : decode cX12_checkOf 48 = .ok (.iload 5, 2) := by decide +kernel
theorem dX12_checkOf_50 : decode cX12_checkOf 50 = .ok (.aload_n 0, 1) := by decide +kernel
theorem dX12_checkOf_51 : decode cX12_checkOf 51 = .ok (.getfield 160, 3) := by decide +kernel
theorem dX12_checkOf_54 : decode cX12_checkOf 54 = .ok (.if_icmp .ge 41, 3) := by decide +kernel
theorem dX12_checkOf_57 : decode cX12_checkOf 57 = .ok (.iload 4, 2) := by decide +kernel
theorem dX12_checkOf_59 : decode cX12_checkOf 59 = .ok (.iload_n 3, 1) := by decide +kernel
theorem dX12_checkOf_60 : decode cX12_checkOf 60 = .ok (.idiv, 1) := by decide +kernel
theorem dX12_checkOf_61 : decode cX12_checkOf 61 = .ok (.istore 6, 2) := by decide +kernel
theorem dX12_checkOf_63 : decode cX12_checkOf 63 = .ok (.iconst 2, 1) := by decide +kernel
theorem dX12_checkOf_64 : decode cX12_checkOf 64 = .ok (.iload 4, 2) := by decide +kernel
theorem dX12_checkOf_66 : decode cX12_checkOf 66 = .ok (.iload_n 3, 1) := by decide +kernel
theorem dX12_checkOf_67 : decode cX12_checkOf 67 = .ok (.irem, 1) := by decide +kernel
theorem dX12_checkOf_68 : decode cX12_checkOf 68 = .ok (.imul, 1) := by decide +kernel
theorem dX12_checkOf_69 : decode cX12_checkOf 69 = .ok (.istore 4, 2) := by decide +kernel
theorem dX12_checkOf_71 : decode cX12_checkOf 71 = .ok (.iload 6, 2) := by decide +kernel
theorem dX12_checkOf_73 : decode cX12_checkOf 73 = .ok (.aload_n 0, 1) := by decide +kernel
theorem dX12_checkOf_74 : decode cX12_checkOf 74 = .ok (.getfield 108, 3) := by decide +kernel
theorem dX12_checkOf_77 : decode cX12_checkOf 77 = .ok (.iload 5, 2) := by decide +kernel
theorem dX12_checkOf_79 : decode cX12_checkOf 79 = .ok (.baload, 1) := by decide +kernel
theorem dX12_checkOf_80 : decode cX12_checkOf 80 = .ok (.if_icmp .eq 9, 3) := by decide +kernel
theorem dX12_checkOf_83 : decode cX12_checkOf 83 = .ok (.iload 4, 2) := by decide +kernel
theorem dX12_checkOf_85 : decode cX12_checkOf 85 = .ok (.iload_n 2, 1) := by decide +kernel
theorem dX12_checkOf_86 : decode cX12_checkOf 86 = .ok (.ixor, 1) := by decide +kernel
theorem dX12_checkOf_87 : decode cX12_checkOf 87 = .ok (.istore 4, 2) := by decide +kernel
theorem dX12_checkOf_89 : decode cX12_checkOf 89 = .ok (.iinc 5 1, 3) := by decide +kernel
theorem dX12_checkOf_92 : decode cX12_checkOf 92 = .ok (.goto (-44), 3) := by decide +kernel
theorem dX12_checkOf_95 : decode cX12_checkOf 95 = .ok (.iload 4, 2) := by decide +kernel
theorem dX12_checkOf_97 : decode cX12_checkOf 97 = .ok (.ireturn, 1) := by decide +kernel
theorem cwX12_checkOf : mw_cwV yX12_checkOf cX12_checkOf 7 ((some .int)) 1 := ⟨⟨wd_15, wd_3678, by decide +kernel⟩, wd_3677, sl_237⟩
set_option maxHeartbeats 4000000 in
set_option maxRecDepth 100000 in
theorem tX12_checkOf (l : Launch) (G : mwG) (ad : Nat → Nat) (fu : Nat) (a1 : Int32) (M : mwM) (L : mwL) {r0 : Int32} {M0 : mwM} {L0 : mwL} (hD : DX12_checkOf fu a1 M L = some (r0, M0, L0)) : Met l yX12_checkOf (Cond.code yX12_checkOf cX12_checkOf 7 ((some .int)) :: GT) ({ frames := 0, cells := 0, slots := 0, locals := 0 }) (mw_Pre G ad NF TF FF M L [.ref (ad 821), .int a1]) (mw_Qi G ad NF TF FF (mw_eqI r0 M0 L0)) 0 0 (mw_fr G) := by
  refine mw_enter (by decide) (Nat.le_of_ble_eq_true rfl) ?_
  intro p e s m below meth c ls C hr hlocks hnm hw hl
  have hl : lv_has ls 7 [(0, .ref (ad 821)), (1, .int a1)] := hl
  have hh48 : ∀ (f : Nat) (v2 : Int32) (v3 : Int32) (v4 : Int32) (v5 : Int32) (M : mwM) (L : mwL) (H : Heap) (locs : List Loc) (ls : Array Slot), fX12_checkOf_h48 fu a1 f (v2, v3, v4, v5, M, L) = some (r0, M0, L0) → mw_W G ad NF TF FF M L H locs → lv_has ls 7 [(0, .ref (ad 821)), (2, .int v2), (3, .int v3), (4, .int v4), (5, .int v5)] → W p l e ({ frames := 0, cells := 0, slots := 0, locals := 0 }) s m [.ref (ad 821), .int a1].toArray below meth c H locs 0 0 (MQ below (mw_Qi G ad NF TF FF (mw_eqI r0 M0 L0)) [.ref (ad 821), .int a1].toArray s 0 0 (mw_fr G)) (F0 m 48 ls []) := by
    intro f
    induction f with
    | zero => intro v2 v3 v4 v5 M L H locs ls hD; cases hD
    | succ f48 ih48 =>
      intro v2 v3 v4 v5 M L H locs ls hD hw hl
      replace hD : fX12_checkOf_i48 fu a1 (fX12_checkOf_h48 fu a1 f48) v2 v3 v4 v5 M L = some (r0, M0, L0) := hD
      have hb89 : ∀ (v2 : Int32) (v3 : Int32) (v4 : Int32) (v5 : Int32) (M : mwM) (L : mwL) (H : Heap) (locs : List Loc) (ls : Array Slot), fX12_checkOf_b89 fu a1 (fX12_checkOf_h48 fu a1 f48) v2 v3 v4 v5 M L = some (r0, M0, L0) → mw_W G ad NF TF FF M L H locs → lv_has ls 7 [(0, .ref (ad 821)), (2, .int v2), (3, .int v3), (4, .int v4), (5, .int v5)] → W p l e ({ frames := 0, cells := 0, slots := 0, locals := 0 }) s m [.ref (ad 821), .int a1].toArray below meth c H locs 0 0 (MQ below (mw_Qi G ad NF TF FF (mw_eqI r0 M0 L0)) [.ref (ad 821), .int a1].toArray s 0 0 (mw_fr G)) (F0 m 89 ls []) := by
        intro v2 v3 v4 v5 M L H locs ls hD hw hl
        unfold fX12_checkOf_b89 at hD
        obtain ⟨x11, ex11, hD⟩ := g_let hD
        refine lv_iinc (v := x11) (lv' := [(5, .int x11), (0, .ref (ad 821)), (2, .int v2), (3, .int v3), (4, .int v4)]) C.1.1 C.1.2.1 dX12_checkOf_89 hl (k := 4) rfl (by rw [ex11]; rfl) (by decide) rfl (fun ls hl => ?_)
        refine lv_goto (tgt := 48) C.1.1 C.1.2.1 dX12_checkOf_92 (by decide) ?_
        exact ih48 v2 v3 v4 x11 M L _ _ ls hD hw (lv_sub hl [1, 2, 3, 4, 0] rfl)
      unfold fX12_checkOf_i48 at hD
      refine lv_iload C.1.1 C.1.2.1 dX12_checkOf_48 (lv_at hl 4 rfl) ?_
      refine lv_aload_n C.1.1 C.1.2.1 dX12_checkOf_50 rfl (lv_at hl 0 rfl) ?_
      refine mr_getI C hw kc_12 41 (by decide) tf_821 wd_2141 dX12_checkOf_51 (by decide) rfl ?_
      refine lv_icmp_ge (tgt := 95) C.1.1 C.1.2.1 dX12_checkOf_54 (by decide) (fun c3 => ?_) (fun c3 => ?_)
      · replace hD := g_pos c3 hD
        refine lv_iload C.1.1 C.1.2.1 dX12_checkOf_95 (lv_at hl 3 rfl) ?_
        exact mr_iret C hr hlocks hw rfl (Option.some.inj hD) dX12_checkOf_97
      · replace hD := g_neg c3 hD
        refine lv_iload C.1.1 C.1.2.1 dX12_checkOf_57 (lv_at hl 3 rfl) ?_
        refine lv_iload_n C.1.1 C.1.2.1 dX12_checkOf_59 rfl (lv_at hl 2 rfl) ?_
        obtain ⟨q4, hD⟩ := g_nz hD
        refine lv_idiv C.1.1 C.1.2.1 dX12_checkOf_60 q4 ?_
        obtain ⟨x5, ex5, hD⟩ := g_let hD
        refine W.eq (g2 := F0 m 61 ls (.int x5 :: [])) (by rw [ex5]) ?_
        refine lv_istore (lv' := [(6, .int x5), (0, .ref (ad 821)), (2, .int v2), (3, .int v3), (4, .int v4), (5, .int v5)]) C.1.1 C.1.2.1 dX12_checkOf_61 hl (by decide) rfl (fun ls hl => ?_)
        refine lv_iconst (v := 2) C.1.1 C.1.2.1 dX12_checkOf_63 (by decide) ?_
        refine lv_iload C.1.1 C.1.2.1 dX12_checkOf_64 (lv_at hl 4 rfl) ?_
        refine lv_iload_n C.1.1 C.1.2.1 dX12_checkOf_66 rfl (lv_at hl 3 rfl) ?_
        obtain ⟨q6, hD⟩ := g_nz hD
        refine lv_irem C.1.1 C.1.2.1 dX12_checkOf_67 q6 ?_
        refine lv_imul C.1.1 C.1.2.1 dX12_checkOf_68 ?_
        obtain ⟨x7, ex7, hD⟩ := g_let hD
        refine W.eq (g2 := F0 m 69 ls (.int x7 :: [])) (by rw [ex7]) ?_
        refine lv_istore (lv' := [(4, .int x7), (6, .int x5), (0, .ref (ad 821)), (2, .int v2), (3, .int v3), (5, .int v5)]) C.1.1 C.1.2.1 dX12_checkOf_69 hl (by decide) rfl (fun ls hl => ?_)
        refine lv_iload C.1.1 C.1.2.1 dX12_checkOf_71 (lv_at hl 1 rfl) ?_
        refine lv_aload_n C.1.1 C.1.2.1 dX12_checkOf_73 rfl (lv_at hl 2 rfl) ?_
        refine mr_getR C hw kc_12 40 (by decide) tf_821 ff_821_40 wd_2140 dX12_checkOf_74 (by decide) rfl ?_
        refine lv_iload C.1.1 C.1.2.1 dX12_checkOf_77 (lv_at hl 5 rfl) ?_
        obtain ⟨q8, hD⟩ := g_ck hD
        refine mr_bald C hw (by decide) tf_852 q8 dX12_checkOf_79 ?_
        refine lv_icmp_eq (tgt := 89) C.1.1 C.1.2.1 dX12_checkOf_80 (by decide) (fun c9 => ?_) (fun c9 => ?_)
        · replace hD := g_pos c9 hD
          exact hb89 v2 v3 x7 v5 M L _ _ ls hD hw (lv_sub hl [2, 3, 4, 0, 5] rfl)
        · replace hD := g_neg c9 hD
          refine lv_iload C.1.1 C.1.2.1 dX12_checkOf_83 (lv_at hl 0 rfl) ?_
          refine lv_iload_n C.1.1 C.1.2.1 dX12_checkOf_85 rfl (lv_at hl 3 rfl) ?_
          refine lv_ixor C.1.1 C.1.2.1 dX12_checkOf_86 ?_
          obtain ⟨x10, ex10, hD⟩ := g_let hD
          refine W.eq (g2 := F0 m 87 ls (.int x10 :: [])) (by rw [ex10]) ?_
          refine lv_istore (lv' := [(4, .int x10), (6, .int x5), (0, .ref (ad 821)), (2, .int v2), (3, .int v3), (5, .int v5)]) C.1.1 C.1.2.1 dX12_checkOf_87 hl (by decide) rfl (fun ls hl => ?_)
          exact hb89 v2 v3 x10 v5 M L _ _ ls hD hw (lv_sub hl [2, 3, 4, 0, 5] rfl)
  have hb43 : ∀ (v2 : Int32) (v3 : Int32) (s0 : Int32) (M : mwM) (L : mwL) (H : Heap) (locs : List Loc) (ls : Array Slot), fX12_checkOf_b43 fu a1 v2 v3 s0 M L = some (r0, M0, L0) → mw_W G ad NF TF FF M L H locs → lv_has ls 7 [(0, .ref (ad 821)), (2, .int v2), (3, .int v3)] → W p l e ({ frames := 0, cells := 0, slots := 0, locals := 0 }) s m [.ref (ad 821), .int a1].toArray below meth c H locs 0 0 (MQ below (mw_Qi G ad NF TF FF (mw_eqI r0 M0 L0)) [.ref (ad 821), .int a1].toArray s 0 0 (mw_fr G)) (F0 m 43 ls [.int s0]) := by
    intro v2 v3 s0 M L H locs ls hD hw hl
    unfold fX12_checkOf_b43 at hD
    refine lv_istore (lv' := [(4, .int s0), (0, .ref (ad 821)), (2, .int v2), (3, .int v3)]) C.1.1 C.1.2.1 dX12_checkOf_43 hl (by decide) rfl (fun ls hl => ?_)
    refine lv_iconst (v := 0) C.1.1 C.1.2.1 dX12_checkOf_45 (by decide) ?_
    refine lv_istore (lv' := [(5, .int 0), (4, .int s0), (0, .ref (ad 821)), (2, .int v2), (3, .int v3)]) C.1.1 C.1.2.1 dX12_checkOf_46 hl (by decide) rfl (fun ls hl => ?_)
    exact hh48 fu v2 v3 s0 0 M L _ _ ls hD hw (lv_sub hl [2, 3, 4, 1, 0] rfl)
  have hb25 : ∀ (s0 : Int32) (M : mwM) (L : mwL) (H : Heap) (locs : List Loc) (ls : Array Slot), fX12_checkOf_b25 fu a1 s0 M L = some (r0, M0, L0) → mw_W G ad NF TF FF M L H locs → lv_has ls 7 [(0, .ref (ad 821)), (1, .int a1)] → W p l e ({ frames := 0, cells := 0, slots := 0, locals := 0 }) s m [.ref (ad 821), .int a1].toArray below meth c H locs 0 0 (MQ below (mw_Qi G ad NF TF FF (mw_eqI r0 M0 L0)) [.ref (ad 821), .int a1].toArray s 0 0 (mw_fr G)) (F0 m 25 ls [.int s0]) := by
    intro s0 M L H locs ls hD hw hl
    unfold fX12_checkOf_b25 at hD
    refine lv_istore_n (lv' := [(2, .int s0), (0, .ref (ad 821)), (1, .int a1)]) C.1.1 C.1.2.1 dX12_checkOf_25 rfl hl (by decide) rfl (fun ls hl => ?_)
    refine lv_iconst (v := 1) C.1.1 C.1.2.1 dX12_checkOf_26 (by decide) ?_
    refine lv_iload_n C.1.1 C.1.2.1 dX12_checkOf_27 rfl (lv_at hl 2 rfl) ?_
    refine lv_iconst (v := 1) C.1.1 C.1.2.1 dX12_checkOf_28 (by decide) ?_
    refine lv_isub C.1.1 C.1.2.1 dX12_checkOf_29 ?_
    refine lv_ishl C.1.1 C.1.2.1 dX12_checkOf_30 ?_
    obtain ⟨x1, ex1, hD⟩ := g_let hD
    refine W.eq (g2 := F0 m 31 ls (.int x1 :: [])) (by rw [ex1]) ?_
    refine lv_istore_n (lv' := [(3, .int x1), (2, .int s0), (0, .ref (ad 821)), (1, .int a1)]) C.1.1 C.1.2.1 dX12_checkOf_31 rfl hl (by decide) rfl (fun ls hl => ?_)
    refine lv_iload_n C.1.1 C.1.2.1 dX12_checkOf_32 rfl (lv_at hl 3 rfl) ?_
    refine lv_bipush (v := 15) C.1.1 C.1.2.1 dX12_checkOf_33 (by decide) ?_
    refine lv_icmp_ne (tgt := 42) C.1.1 C.1.2.1 dX12_checkOf_35 (by decide) (fun c2 => ?_) (fun c2 => ?_)
    · replace hD := g_neg c2 hD
      refine lv_iload_n C.1.1 C.1.2.1 dX12_checkOf_42 rfl (lv_at hl 0 rfl) ?_
      exact hb43 s0 x1 x1 M L _ _ ls hD hw (lv_sub hl [2, 1, 0] rfl)
    · replace hD := g_pos c2 hD
      refine lv_iconst (v := 0) C.1.1 C.1.2.1 dX12_checkOf_38 (by decide) ?_
      refine lv_goto (tgt := 43) C.1.1 C.1.2.1 dX12_checkOf_39 (by decide) ?_
      exact hb43 s0 x1 0 M L _ _ ls hD hw (lv_sub hl [2, 1, 0] rfl)
  unfold DX12_checkOf at hD
  refine lv_iload_n C.1.1 C.1.2.1 dX12_checkOf_0 rfl (lv_at hl 1 rfl) ?_
  refine lv_bipush (v := 15) C.1.1 C.1.2.1 dX12_checkOf_1 (by decide) ?_
  refine lv_icmp_ne (tgt := 12) C.1.1 C.1.2.1 dX12_checkOf_3 (by decide) (fun c12 => ?_) (fun c12 => ?_)
  · replace hD := g_neg c12 hD
    refine lv_iload_n C.1.1 C.1.2.1 dX12_checkOf_12 rfl (lv_at hl 1 rfl) ?_
    refine lv_bipush (v := 17) C.1.1 C.1.2.1 dX12_checkOf_13 (by decide) ?_
    refine lv_icmp_ne (tgt := 23) C.1.1 C.1.2.1 dX12_checkOf_15 (by decide) (fun c13 => ?_) (fun c13 => ?_)
    · replace hD := g_neg c13 hD
      refine lv_ldc (v := 1058969) C.1.1 C.1.2.1 C.1.2.2.2.1 (C.1.2.2.2.2 _ wd_3680) dX12_checkOf_23 ?_
      exact hb25 1058969 M L _ _ ls hD hw (lv_sub hl [0, 1] rfl)
    · replace hD := g_pos c13 hD
      refine lv_ldc (v := 92251) C.1.1 C.1.2.1 C.1.2.2.2.1 (C.1.2.2.2.2 _ wd_3679) dX12_checkOf_18 ?_
      refine lv_goto (tgt := 25) C.1.1 C.1.2.1 dX12_checkOf_20 (by decide) ?_
      exact hb25 92251 M L _ _ ls hD hw (lv_sub hl [0, 1] rfl)
  · replace hD := g_pos c12 hD
    refine lv_sipush (v := 17817) C.1.1 C.1.2.1 dX12_checkOf_6 (by decide) ?_
    refine lv_goto (tgt := 25) C.1.1 C.1.2.1 dX12_checkOf_9 (by decide) ?_
    exact hb25 17817 M L _ _ ls hD hw (lv_sub hl [0, 1] rfl)

theorem dX12_check_0 : decode cX12_check 0 = .ok (.aload_n 0, 1) := by decide +kernel
theorem dX12_check_1 : decode cX12_check 1 = .ok (.getfield 108, 3) := by decide +kernel
theorem dX12_check_4 : decode cX12_check 4 = .ok (.aload_n 0, 1) := by decide +kernel
theorem dX12_check_5 : decode cX12_check 5 = .ok (.getfield 160, 3) := by decide +kernel
theorem dX12_check_8 : decode cX12_check 8 = .ok (.iload_n 1, 1) := by decide +kernel
theorem dX12_check_9 : decode cX12_check 9 = .ok (.i2b, 1) := by decide +kernel
theorem dX12_check_10 : decode cX12_check 10 = .ok (.bastore, 1) := by decide +kernel
theorem dX12_check_11 : decode cX12_check 11 = .ok (.aload_n 0, 1) := by decide +kernel
theorem dX12_check_12 : decode cX12_check 12 = .ok (.dup, 1) := by decide +kernel
theorem dX12_check_13 : decode cX12_check 13 = .ok (.getfield 160, 3) := by decide +kernel
theorem dX12_check_16 : decode cX12_check 16 = .ok (.iconst 1, 1) := by decide +kernel
theorem dX12_check_17 : decode cX12_check 17 = .ok (.iadd, 1) := by decide +kernel
theorem dX12_check_18 : decode cX12_check 18 = .ok (.putfield 160, 3) := by decide +kernel
theorem dX12_check_21 : decode cX12_check 21 = .ok (.return_, 1) := by decide +kernel
theorem cwX12_check : mw_cwV yX12_check cX12_check 2 (none) 1 := ⟨⟨wd_15, wd_3674, by decide +kernel⟩, wd_3673, sl_236⟩
set_option maxHeartbeats 4000000 in
set_option maxRecDepth 100000 in
theorem tX12_check (l : Launch) (G : mwG) (ad : Nat → Nat) (fu : Nat) (a1 : Int32) (M : mwM) (L : mwL) {M0 : mwM} {L0 : mwL} (hD : DX12_check fu a1 M L = some (M0, L0)) : Met l yX12_check (Cond.code yX12_check cX12_check 2 (none) :: GT) ({ frames := 0, cells := 0, slots := 0, locals := 0 }) (mw_Pre G ad NF TF FF M L [.ref (ad 821), .int a1]) (mw_Qv G ad NF TF FF (mw_eqV M0 L0)) 0 0 (mw_fr G) := by
  refine mw_enter (by decide) (Nat.le_of_ble_eq_true rfl) ?_
  intro p e s m below meth c ls C hr hlocks hnm hw hl
  have hl : lv_has ls 2 [(0, .ref (ad 821)), (1, .int a1)] := hl
  unfold DX12_check at hD
  refine lv_aload_n C.1.1 C.1.2.1 dX12_check_0 rfl (lv_at hl 0 rfl) ?_
  refine mr_getR C hw kc_12 40 (by decide) tf_821 ff_821_40 wd_2140 dX12_check_1 (by decide) rfl ?_
  refine lv_aload_n C.1.1 C.1.2.1 dX12_check_4 rfl (lv_at hl 0 rfl) ?_
  refine mr_getI C hw kc_12 41 (by decide) tf_821 wd_2141 dX12_check_5 (by decide) rfl ?_
  refine lv_iload_n C.1.1 C.1.2.1 dX12_check_8 rfl (lv_at hl 1 rfl) ?_
  refine lv_i2b C.1.1 C.1.2.1 dX12_check_9 rfl ?_
  obtain ⟨q1, hD⟩ := g_ck hD
  obtain ⟨M2, eM2, hD⟩ := g_let hD
  refine mr_bast C hw (by decide) tf_852 q1 dX12_check_10 (fun H locs hw => ?_)
  replace hw : mw_W G ad NF TF FF M2 L H locs := by rw [eM2]; exact hw
  refine lv_aload_n C.1.1 C.1.2.1 dX12_check_11 rfl (lv_at hl 0 rfl) ?_
  refine lv_dup C.1.1 C.1.2.1 dX12_check_12 rfl ?_
  refine mr_getI C hw kc_12 41 (by decide) tf_821 wd_2141 dX12_check_13 (by decide) rfl ?_
  refine lv_iconst (v := 1) C.1.1 C.1.2.1 dX12_check_16 (by decide) ?_
  refine lv_iadd C.1.1 C.1.2.1 dX12_check_17 ?_
  obtain ⟨M3, eM3, hD⟩ := g_let hD
  refine mr_putI C hw kc_12 41 (by decide) tf_821 wd_2141 dX12_check_18 (by decide) rfl rfl rfl rfl (fun H locs hw => ?_)
  replace hw : mw_W G ad NF TF FF M3 L H locs := by rw [eM3]; exact hw
  exact mr_vret C hr hlocks hw (Option.some.inj hD) dX12_check_21

theorem dX12_put_0 : decode cX12_put 0 = .ok (.aload_n 0, 1) := by decide +kernel
theorem dX12_put_1 : decode cX12_put 1 = .ok (.getfield 99, 3) := by decide +kernel
theorem dX12_put_4 : decode cX12_put 4 = .ok (.aload_n 0, 1) := by decide +kernel
theorem dX12_put_5 : decode cX12_put 5 = .ok (.getfield 163, 3) := by decide +kernel
theorem dX12_put_8 : decode cX12_put 8 = .ok (.iload_n 1, 1) := by decide +kernel
theorem dX12_put_9 : decode cX12_put 9 = .ok (.i2b, 1) := by decide +kernel
theorem dX12_put_10 : decode cX12_put 10 = .ok (.bastore, 1) := by decide +kernel
theorem dX12_put_11 : decode cX12_put 11 = .ok (.aload_n 0, 1) := by decide +kernel
theorem dX12_put_12 : decode cX12_put 12 = .ok (.getfield 102, 3) := by decide +kernel
theorem dX12_put_15 : decode cX12_put 15 = .ok (.aload_n 0, 1) := by decide +kernel
theorem dX12_put_16 : decode cX12_put 16 = .ok (.getfield 163, 3) := by decide +kernel
theorem dX12_put_19 : decode cX12_put 19 = .ok (.iload_n 2, 1) := by decide +kernel
theorem dX12_put_20 : decode cX12_put 20 = .ok (.bastore, 1) := by decide +kernel
theorem dX12_put_21 : decode cX12_put 21 = .ok (.aload_n 0, 1) := by decide +kernel
theorem dX12_put_22 : decode cX12_put 22 = .ok (.dup, 1) := by decide +kernel
theorem dX12_put_23 : decode cX12_put 23 = .ok (.getfield 163, 3) := by decide +kernel
theorem dX12_put_26 : decode cX12_put 26 = .ok (.iconst 1, 1) := by decide +kernel
theorem dX12_put_27 : decode cX12_put 27 = .ok (.iadd, 1) := by decide +kernel
theorem dX12_put_28 : decode cX12_put 28 = .ok (.putfield 163, 3) := by decide +kernel
theorem dX12_put_31 : decode cX12_put 31 = .ok (.return_, 1) := by decide +kernel
theorem cwX12_put : mw_cwV yX12_put cX12_put 3 (none) 2 := ⟨⟨wd_15, wd_3684, by decide +kernel⟩, wd_3683, sl_238⟩
set_option maxHeartbeats 4000000 in
set_option maxRecDepth 100000 in
theorem tX12_put (l : Launch) (G : mwG) (ad : Nat → Nat) (fu : Nat) (a1 : Int32) (a2 : Int32) (M : mwM) (L : mwL) {M0 : mwM} {L0 : mwL} (hD : DX12_put fu a1 a2 M L = some (M0, L0)) : Met l yX12_put (Cond.code yX12_put cX12_put 3 (none) :: GT) ({ frames := 0, cells := 0, slots := 0, locals := 0 }) (mw_Pre G ad NF TF FF M L [.ref (ad 821), .int a1, .int a2]) (mw_Qv G ad NF TF FF (mw_eqV M0 L0)) 0 0 (mw_fr G) := by
  refine mw_enter (by decide) (Nat.le_of_ble_eq_true rfl) ?_
  intro p e s m below meth c ls C hr hlocks hnm hw hl
  have hl : lv_has ls 3 [(0, .ref (ad 821)), (1, .int a1), (2, .int a2)] := hl
  unfold DX12_put at hD
  refine lv_aload_n C.1.1 C.1.2.1 dX12_put_0 rfl (lv_at hl 0 rfl) ?_
  refine mr_getR C hw kc_12 35 (by decide) tf_821 ff_821_35 wd_2135 dX12_put_1 (by decide) rfl ?_
  refine lv_aload_n C.1.1 C.1.2.1 dX12_put_4 rfl (lv_at hl 0 rfl) ?_
  refine mr_getI C hw kc_12 37 (by decide) tf_821 wd_2137 dX12_put_5 (by decide) rfl ?_
  refine lv_iload_n C.1.1 C.1.2.1 dX12_put_8 rfl (lv_at hl 1 rfl) ?_
  refine lv_i2b C.1.1 C.1.2.1 dX12_put_9 rfl ?_
  obtain ⟨q1, hD⟩ := g_ck hD
  obtain ⟨M2, eM2, hD⟩ := g_let hD
  refine mr_bast C hw (by decide) tf_849 q1 dX12_put_10 (fun H locs hw => ?_)
  replace hw : mw_W G ad NF TF FF M2 L H locs := by rw [eM2]; exact hw
  refine lv_aload_n C.1.1 C.1.2.1 dX12_put_11 rfl (lv_at hl 0 rfl) ?_
  refine mr_getR C hw kc_12 36 (by decide) tf_821 ff_821_36 wd_2136 dX12_put_12 (by decide) rfl ?_
  refine lv_aload_n C.1.1 C.1.2.1 dX12_put_15 rfl (lv_at hl 0 rfl) ?_
  refine mr_getI C hw kc_12 37 (by decide) tf_821 wd_2137 dX12_put_16 (by decide) rfl ?_
  refine lv_iload_n C.1.1 C.1.2.1 dX12_put_19 rfl (lv_at hl 2 rfl) ?_
  obtain ⟨q3, hD⟩ := g_ck hD
  obtain ⟨M4, eM4, hD⟩ := g_let hD
  refine mr_zast C hw (by decide) tf_850 q3 dX12_put_20 (fun H locs hw => ?_)
  replace hw : mw_W G ad NF TF FF M4 L H locs := by rw [eM4]; exact hw
  refine lv_aload_n C.1.1 C.1.2.1 dX12_put_21 rfl (lv_at hl 0 rfl) ?_
  refine lv_dup C.1.1 C.1.2.1 dX12_put_22 rfl ?_
  refine mr_getI C hw kc_12 37 (by decide) tf_821 wd_2137 dX12_put_23 (by decide) rfl ?_
  refine lv_iconst (v := 1) C.1.1 C.1.2.1 dX12_put_26 (by decide) ?_
  refine lv_iadd C.1.1 C.1.2.1 dX12_put_27 ?_
  obtain ⟨M5, eM5, hD⟩ := g_let hD
  refine mr_putI C hw kc_12 37 (by decide) tf_821 wd_2137 dX12_put_28 (by decide) rfl rfl rfl rfl (fun H locs hw => ?_)
  replace hw : mw_W G ad NF TF FF M5 L H locs := by rw [eM5]; exact hw
  exact mr_vret C hr hlocks hw (Option.some.inj hD) dX12_put_31

theorem dX12_five_0 : decode cX12_five 0 = .ok (.iconst 1, 1) := by decide +kernel
theorem dX12_five_1 : decode cX12_five 1 = .ok (.istore_n 1, 1) := by decide +kernel
theorem dX12_five_2 : decode cX12_five 2 = .ok (.aload_n 0, 1) := by decide +kernel
theorem dX12_five_3 : decode cX12_five 3 = .ok (.getfield 163, 3) := by decide +kernel
theorem dX12_five_6 : decode cX12_five 6 = .ok (.iconst 1, 1) := by decide +kernel
theorem dX12_five_7 : decode cX12_five 7 = .ok (.isub, 1) := by decide +kernel
theorem dX12_five_8 : decode cX12_five 8 = .ok (.istore_n 2, 1) := by decide +kernel
theorem dX12_five_9 : decode cX12_five 9 = .ok (.iload_n 2, 1) := by decide +kernel
theorem dX12_five_10 : decode cX12_five 10 = .ok (.ifCond .le 43, 3) := by decide +kernel
theorem dX12_five_13 : decode cX12_five 13 = .ok (.aload_n 0, 1) := by decide +kernel
theorem dX12_five_14 : decode cX12_five 14 = .ok (.getfield 99, 3) := by decide +kernel
theorem dX12_five_17 : decode cX12_five 17 = .ok (.iload_n 2, 1) := by decide +kernel
theorem dX12_five_18 : decode cX12_five 18 = .ok (.baload, 1) := by decide +kernel
theorem dX12_five_19 : decode cX12_five 19 = .ok (.aload_n 0, 1) := by decide +kernel
theorem dX12_five_20 : decode cX12_five 20 = .ok (.getfield 99, 3) := by decide +kernel
theorem dX12_five_23 : decode cX12_five 23 = .ok (.iload_n 2, 1) := by decide +kernel
theorem dX12_five_24 : decode cX12_five 24 = .ok (.iconst 1, 1) := by decide +kernel
theorem dX12_five_25 : decode cX12_five 25 = .ok (.isub, 1) := by decide +kernel
theorem dX12_five_26 : decode cX12_five 26 = .ok (.baload, 1) := by decide +kernel
theorem dX12_five_27 : decode cX12_five 27 = .ok (.if_icmp .ne 26, 3) := by decide +kernel
theorem dX12_five_30 : decode cX12_five 30 = .ok (.aload_n 0, 1) := by decide +kernel
theorem dX12_five_31 : decode cX12_five 31 = .ok (.getfield 102, 3) := by decide +kernel
theorem dX12_five_34 : decode cX12_five 34 = .ok (.iload_n 2, 1) := by decide +kernel
theorem dX12_five_35 : decode cX12_five 35 = .ok (.baload, 1) := by decide +kernel
theorem dX12_five_36 : decode cX12_five 36 = .ok (.ifCond .ne 17, 3) := by decide +kernel
theorem dX12_five_39 : decode cX12_five 39 = .ok (.iload_n 1, 1) := by decide +kernel
theorem dX12_five_40 : decode cX12_five 40 = .ok (.iconst 5, 1) := by decide +kernel
theorem dX12_five_41 : decode cX12_five 41 = .ok (.if_icmp .ge 12, 3) := by decide +kernel
theorem dX12_five_44 : decode cX12_five 44 = .ok (.iinc 1 1, 3) := by decide +kernel
theorem dX12_five_47 : decode cX12_five 47 = .ok (.iinc 2 (-1), 3) := by decide +kernel
theorem dX12_five_50 : decode cX12_five 50 = .ok (.goto (-41), 3) := by decide +kernel
theorem dX12_five_53 : decode cX12_five 53 = .ok (.iload_n 1, 1) := by decide +kernel
theorem dX12_five_54 : decode cX12_five 54 = .ok (.iconst 5, 1) := by decide +kernel
theorem dX12_five_55 : decode cX12_five 55 = .ok (.if_icmp .ne 7, 3) := by decide +kernel
theorem dX12_five_58 : decode cX12_five 58 = .ok (.iconst 1, 1) := by decide +kernel
theorem dX12_five_59 : decode cX12_five 59 = .ok (.goto 4, 3) := by decide +kernel
theorem dX12_five_62 : decode cX12_five 62 = .ok (.iconst 0, 1) := by decide +kernel
theorem dX12_five_63 : decode cX12_five 63 = .ok (.ireturn, 1) := by decide +kernel
theorem cwX12_five : mw_cwV yX12_five cX12_five 3 ((some .boolean)) 0 := ⟨⟨wd_15, wd_3688, by decide +kernel⟩, wd_3687, sl_239⟩
set_option maxHeartbeats 4000000 in
set_option maxRecDepth 100000 in
theorem tX12_five (l : Launch) (G : mwG) (ad : Nat → Nat) (fu : Nat) (M : mwM) (L : mwL) {r0 : Int32} {M0 : mwM} {L0 : mwL} (hD : DX12_five fu M L = some (r0, M0, L0)) : Met l yX12_five (Cond.code yX12_five cX12_five 3 ((some .boolean)) :: GT) ({ frames := 0, cells := 0, slots := 0, locals := 0 }) (mw_Pre G ad NF TF FF M L [.ref (ad 821)]) (mw_Qi G ad NF TF FF (mw_eqI r0 M0 L0)) 0 0 (mw_fr G) := by
  refine mw_enter (by decide) (Nat.le_of_ble_eq_true rfl) ?_
  intro p e s m below meth c ls C hr hlocks hnm hw hl
  have hl : lv_has ls 3 [(0, .ref (ad 821))] := hl
  have hb63 : ∀ (s0 : Int32) (M : mwM) (L : mwL) (H : Heap) (locs : List Loc) (ls : Array Slot), fX12_five_b63 fu s0 M L = some (r0, M0, L0) → mw_W G ad NF TF FF M L H locs → lv_has ls 3 [] → W p l e ({ frames := 0, cells := 0, slots := 0, locals := 0 }) s m [.ref (ad 821)].toArray below meth c H locs 0 0 (MQ below (mw_Qi G ad NF TF FF (mw_eqI r0 M0 L0)) [.ref (ad 821)].toArray s 0 0 (mw_fr G)) (F0 m 63 ls [.int s0]) := by
    intro s0 M L H locs ls hD hw hl
    unfold fX12_five_b63 at hD
    obtain ⟨z11, hD⟩ := g_zz hD
    exact mr_iret C hr hlocks hw (nz_zz z11) (Option.some.inj hD) dX12_five_63
  have hb53 : ∀ (v1 : Int32) (M : mwM) (L : mwL) (H : Heap) (locs : List Loc) (ls : Array Slot), fX12_five_b53 fu v1 M L = some (r0, M0, L0) → mw_W G ad NF TF FF M L H locs → lv_has ls 3 [(1, .int v1)] → W p l e ({ frames := 0, cells := 0, slots := 0, locals := 0 }) s m [.ref (ad 821)].toArray below meth c H locs 0 0 (MQ below (mw_Qi G ad NF TF FF (mw_eqI r0 M0 L0)) [.ref (ad 821)].toArray s 0 0 (mw_fr G)) (F0 m 53 ls []) := by
    intro v1 M L H locs ls hD hw hl
    unfold fX12_five_b53 at hD
    refine lv_iload_n C.1.1 C.1.2.1 dX12_five_53 rfl (lv_at hl 0 rfl) ?_
    refine lv_iconst (v := 5) C.1.1 C.1.2.1 dX12_five_54 (by decide) ?_
    refine lv_icmp_ne (tgt := 62) C.1.1 C.1.2.1 dX12_five_55 (by decide) (fun c10 => ?_) (fun c10 => ?_)
    · replace hD := g_neg c10 hD
      refine lv_iconst (v := 0) C.1.1 C.1.2.1 dX12_five_62 (by decide) ?_
      exact hb63 0 M L _ _ ls hD hw (lv_sub hl [] rfl)
    · replace hD := g_pos c10 hD
      refine lv_iconst (v := 1) C.1.1 C.1.2.1 dX12_five_58 (by decide) ?_
      refine lv_goto (tgt := 63) C.1.1 C.1.2.1 dX12_five_59 (by decide) ?_
      exact hb63 1 M L _ _ ls hD hw (lv_sub hl [] rfl)
  have hh9 : ∀ (f : Nat) (v1 : Int32) (v2 : Int32) (M : mwM) (L : mwL) (H : Heap) (locs : List Loc) (ls : Array Slot), fX12_five_h9 fu f (v1, v2, M, L) = some (r0, M0, L0) → mw_W G ad NF TF FF M L H locs → lv_has ls 3 [(0, .ref (ad 821)), (1, .int v1), (2, .int v2)] → W p l e ({ frames := 0, cells := 0, slots := 0, locals := 0 }) s m [.ref (ad 821)].toArray below meth c H locs 0 0 (MQ below (mw_Qi G ad NF TF FF (mw_eqI r0 M0 L0)) [.ref (ad 821)].toArray s 0 0 (mw_fr G)) (F0 m 9 ls []) := by
    intro f
    induction f with
    | zero => intro v1 v2 M L H locs ls hD; cases hD
    | succ f9 ih9 =>
      intro v1 v2 M L H locs ls hD hw hl
      replace hD : fX12_five_i9 fu (fX12_five_h9 fu f9) v1 v2 M L = some (r0, M0, L0) := hD
      unfold fX12_five_i9 at hD
      refine lv_iload_n C.1.1 C.1.2.1 dX12_five_9 rfl (lv_at hl 2 rfl) ?_
      refine lv_if_le (tgt := 53) C.1.1 C.1.2.1 dX12_five_10 (by decide) (fun c1 => ?_) (fun c1 => ?_)
      · replace hD := g_pos c1 hD
        exact hb53 v1 M L _ _ ls hD hw (lv_sub hl [1] rfl)
      · replace hD := g_neg c1 hD
        refine lv_aload_n C.1.1 C.1.2.1 dX12_five_13 rfl (lv_at hl 0 rfl) ?_
        refine mr_getR C hw kc_12 35 (by decide) tf_821 ff_821_35 wd_2135 dX12_five_14 (by decide) rfl ?_
        refine lv_iload_n C.1.1 C.1.2.1 dX12_five_17 rfl (lv_at hl 2 rfl) ?_
        obtain ⟨q2, hD⟩ := g_ck hD
        refine mr_bald C hw (by decide) tf_849 q2 dX12_five_18 ?_
        refine lv_aload_n C.1.1 C.1.2.1 dX12_five_19 rfl (lv_at hl 0 rfl) ?_
        refine mr_getR C hw kc_12 35 (by decide) tf_821 ff_821_35 wd_2135 dX12_five_20 (by decide) rfl ?_
        refine lv_iload_n C.1.1 C.1.2.1 dX12_five_23 rfl (lv_at hl 2 rfl) ?_
        refine lv_iconst (v := 1) C.1.1 C.1.2.1 dX12_five_24 (by decide) ?_
        refine lv_isub C.1.1 C.1.2.1 dX12_five_25 ?_
        obtain ⟨q3, hD⟩ := g_ck hD
        refine mr_bald C hw (by decide) tf_849 q3 dX12_five_26 ?_
        refine lv_icmp_ne (tgt := 53) C.1.1 C.1.2.1 dX12_five_27 (by decide) (fun c4 => ?_) (fun c4 => ?_)
        · replace hD := g_neg c4 hD
          exact hb53 v1 M L _ _ ls hD hw (lv_sub hl [1] rfl)
        · replace hD := g_pos c4 hD
          refine lv_aload_n C.1.1 C.1.2.1 dX12_five_30 rfl (lv_at hl 0 rfl) ?_
          refine mr_getR C hw kc_12 36 (by decide) tf_821 ff_821_36 wd_2136 dX12_five_31 (by decide) rfl ?_
          refine lv_iload_n C.1.1 C.1.2.1 dX12_five_34 rfl (lv_at hl 2 rfl) ?_
          obtain ⟨q5, hD⟩ := g_ck hD
          refine mr_zald C hw (by decide) tf_850 q5 dX12_five_35 ?_
          refine lv_if_ne (tgt := 53) C.1.1 C.1.2.1 dX12_five_36 (by decide) (fun c6 => ?_) (fun c6 => ?_)
          · replace hD := g_neg c6 hD
            exact hb53 v1 M L _ _ ls hD hw (lv_sub hl [1] rfl)
          · replace hD := g_pos c6 hD
            refine lv_iload_n C.1.1 C.1.2.1 dX12_five_39 rfl (lv_at hl 1 rfl) ?_
            refine lv_iconst (v := 5) C.1.1 C.1.2.1 dX12_five_40 (by decide) ?_
            refine lv_icmp_ge (tgt := 53) C.1.1 C.1.2.1 dX12_five_41 (by decide) (fun c7 => ?_) (fun c7 => ?_)
            · replace hD := g_pos c7 hD
              exact hb53 v1 M L _ _ ls hD hw (lv_sub hl [1] rfl)
            · replace hD := g_neg c7 hD
              obtain ⟨x8, ex8, hD⟩ := g_let hD
              refine lv_iinc (v := x8) (lv' := [(1, .int x8), (0, .ref (ad 821)), (2, .int v2)]) C.1.1 C.1.2.1 dX12_five_44 hl (k := 1) rfl (by rw [ex8]; rfl) (by decide) rfl (fun ls hl => ?_)
              obtain ⟨x9, ex9, hD⟩ := g_let hD
              refine lv_iinc (v := x9) (lv' := [(2, .int x9), (1, .int x8), (0, .ref (ad 821))]) C.1.1 C.1.2.1 dX12_five_47 hl (k := 2) rfl (by rw [ex9]; rfl) (by decide) rfl (fun ls hl => ?_)
              refine lv_goto (tgt := 9) C.1.1 C.1.2.1 dX12_five_50 (by decide) ?_
              exact ih9 x8 x9 M L _ _ ls hD hw (lv_sub hl [2, 1, 0] rfl)
  unfold DX12_five at hD
  refine lv_iconst (v := 1) C.1.1 C.1.2.1 dX12_five_0 (by decide) ?_
  refine lv_istore_n (lv' := [(1, .int 1), (0, .ref (ad 821))]) C.1.1 C.1.2.1 dX12_five_1 rfl hl (by decide) rfl (fun ls hl => ?_)
  refine lv_aload_n C.1.1 C.1.2.1 dX12_five_2 rfl (lv_at hl 1 rfl) ?_
  refine mr_getI C hw kc_12 37 (by decide) tf_821 wd_2137 dX12_five_3 (by decide) rfl ?_
  refine lv_iconst (v := 1) C.1.1 C.1.2.1 dX12_five_6 (by decide) ?_
  refine lv_isub C.1.1 C.1.2.1 dX12_five_7 ?_
  obtain ⟨x12, ex12, hD⟩ := g_let hD
  refine W.eq (g2 := F0 m 8 ls (.int x12 :: [])) (by rw [ex12]) ?_
  refine lv_istore_n (lv' := [(2, .int x12), (1, .int 1), (0, .ref (ad 821))]) C.1.1 C.1.2.1 dX12_five_8 rfl hl (by decide) rfl (fun ls hl => ?_)
  exact hh9 fu 1 x12 M L _ _ ls hD hw (lv_sub hl [2, 1, 0] rfl)

theorem dX12_parity_0 : decode cX12_parity 0 = .ok (.iload_n 0, 1) := by decide +kernel
theorem dX12_parity_1 : decode cX12_parity 1 = .ok (.iconst 2, 1) := by decide +kernel
theorem dX12_parity_2 : decode cX12_parity 2 = .ok (.ishr, 1) := by decide +kernel
theorem dX12_parity_3 : decode cX12_parity 3 = .ok (.iload_n 0, 1) := by decide +kernel
theorem dX12_parity_4 : decode cX12_parity 4 = .ok (.iconst 1, 1) := by decide +kernel
theorem dX12_parity_5 : decode cX12_parity 5 = .ok (.ishr, 1) := by decide +kernel
theorem dX12_parity_6 : decode cX12_parity 6 = .ok (.ixor, 1) := by decide +kernel
theorem dX12_parity_7 : decode cX12_parity 7 = .ok (.iload_n 0, 1) := by decide +kernel
theorem dX12_parity_8 : decode cX12_parity 8 = .ok (.ixor, 1) := by decide +kernel
theorem dX12_parity_9 : decode cX12_parity 9 = .ok (.iconst 1, 1) := by decide +kernel
theorem dX12_parity_10 : decode cX12_parity 10 = .ok (.iand, 1) := by decide +kernel
theorem dX12_parity_11 : decode cX12_parity 11 = .ok (.ireturn, 1) := by decide +kernel
theorem cwX12_parity : mw_cwS yX12_parity cX12_parity 1 ((some .int)) 1 := ⟨⟨wd_15, wd_3694, by decide +kernel⟩, wd_3693⟩
set_option maxHeartbeats 4000000 in
set_option maxRecDepth 100000 in
theorem tX12_parity (l : Launch) (G : mwG) (ad : Nat → Nat) (fu : Nat) (a1 : Int32) (M : mwM) (L : mwL) {r0 : Int32} {M0 : mwM} {L0 : mwL} (hD : DX12_parity fu a1 M L = some (r0, M0, L0)) : Met l yX12_parity (Cond.code yX12_parity cX12_parity 1 ((some .int)) :: GT) ({ frames := 0, cells := 0, slots := 0, locals := 0 }) (mw_Pre G ad NF TF FF M L [.int a1]) (mw_Qi G ad NF TF FF (mw_eqI r0 M0 L0)) 0 0 (mw_fr G) := by
  refine mw_enter (by decide) (Nat.le_of_ble_eq_true rfl) ?_
  intro p e s m below meth c ls C hr hlocks hnm hw hl
  have hl : lv_has ls 1 [(0, .int a1)] := hl
  unfold DX12_parity at hD
  refine lv_iload_n C.1.1 C.1.2.1 dX12_parity_0 rfl (lv_at hl 0 rfl) ?_
  refine lv_iconst (v := 2) C.1.1 C.1.2.1 dX12_parity_1 (by decide) ?_
  refine lv_ishr C.1.1 C.1.2.1 dX12_parity_2 ?_
  refine lv_iload_n C.1.1 C.1.2.1 dX12_parity_3 rfl (lv_at hl 0 rfl) ?_
  refine lv_iconst (v := 1) C.1.1 C.1.2.1 dX12_parity_4 (by decide) ?_
  refine lv_ishr C.1.1 C.1.2.1 dX12_parity_5 ?_
  refine lv_ixor C.1.1 C.1.2.1 dX12_parity_6 ?_
  refine lv_iload_n C.1.1 C.1.2.1 dX12_parity_7 rfl (lv_at hl 0 rfl) ?_
  refine lv_ixor C.1.1 C.1.2.1 dX12_parity_8 ?_
  refine lv_iconst (v := 1) C.1.1 C.1.2.1 dX12_parity_9 (by decide) ?_
  refine lv_iand C.1.1 C.1.2.1 dX12_parity_10 ?_
  exact mr_iret C hr hlocks hw rfl (Option.some.inj hD) dX12_parity_11

theorem dX12_countOf_0 : decode cX12_countOf 0 = .ok (.iload_n 0, 1) := by decide +kernel
theorem dX12_countOf_1 : decode cX12_countOf 1 = .ok (.bipush 8, 2) := by decide +kernel
theorem dX12_countOf_3 : decode cX12_countOf 3 = .ok (.irem, 1) := by decide +kernel
theorem dX12_countOf_4 : decode cX12_countOf 4 = .ok (.istore_n 1, 1) := by decide +kernel
theorem dX12_countOf_5 : decode cX12_countOf 5 = .ok (.iload_n 1, 1) := by decide +kernel
theorem dX12_countOf_6 : decode cX12_countOf 6 = .ok (.iload_n 1, 1) := by decide +kernel
theorem dX12_countOf_7 : decode cX12_countOf 7 = .ok (.iconst 2, 1) := by decide +kernel
theorem dX12_countOf_8 : decode cX12_countOf 8 = .ok (.idiv, 1) := by decide +kernel
theorem dX12_countOf_9 : decode cX12_countOf 9 = .ok (.ixor, 1) := by decide +kernel
theorem dX12_countOf_10 : decode cX12_countOf 10 = .ok (.istore_n 2, 1) := by decide +kernel
theorem dX12_countOf_11 : decode cX12_countOf 11 = .ok (.iconst 2, 1) := by decide +kernel
theorem dX12_countOf_12 : decode cX12_countOf 12 = .ok (.iload_n 2, 1) := by decide +kernel
theorem dX12_countOf_13 : decode cX12_countOf 13 = .ok (.imul, 1) := by decide +kernel
theorem dX12_countOf_14 : decode cX12_countOf 14 = .ok (.iload_n 2, 1) := by decide +kernel
theorem dX12_countOf_15 : decode cX12_countOf 15 = .ok (.invokestatic 166, 3) := by decide +kernel
theorem dX12_countOf_18 : decode cX12_countOf 18 = .ok (.iadd, 1) := by decide +kernel
theorem dX12_countOf_19 : decode cX12_countOf 19 = .ok (.ireturn, 1) := by decide +kernel
theorem cwX12_countOf : mw_cwS yX12_countOf cX12_countOf 3 ((some .int)) 1 := ⟨⟨wd_15, wd_3691, by decide +kernel⟩, wd_3690⟩
set_option maxHeartbeats 4000000 in
set_option maxRecDepth 100000 in
theorem tX12_countOf (l : Launch) (G : mwG) (ad : Nat → Nat) (fu : Nat) (a1 : Int32) (M : mwM) (L : mwL) {r0 : Int32} {M0 : mwM} {L0 : mwL} (hD : DX12_countOf fu a1 M L = some (r0, M0, L0)) : Met l yX12_countOf (Cond.code yX12_countOf cX12_countOf 3 ((some .int)) :: GT) ({ frames := 1, cells := 0, slots := 0, locals := 20 }) (mw_Pre G ad NF TF FF M L [.int a1]) (mw_Qi G ad NF TF FF (mw_eqI r0 M0 L0)) 0 0 (mw_fr G) := by
  refine mw_enter (by decide) (Nat.le_of_ble_eq_true rfl) ?_
  intro p e s m below meth c ls C hr hlocks hnm hw hl
  have hl : lv_has ls 3 [(0, .int a1)] := hl
  unfold DX12_countOf at hD
  refine lv_iload_n C.1.1 C.1.2.1 dX12_countOf_0 rfl (lv_at hl 0 rfl) ?_
  refine lv_bipush (v := 8) C.1.1 C.1.2.1 dX12_countOf_1 (by decide) ?_
  refine lv_irem C.1.1 C.1.2.1 dX12_countOf_3 (by decide) ?_
  obtain ⟨x2, ex2, hD⟩ := g_let hD
  refine W.eq (g2 := F0 m 4 ls (.int x2 :: [])) (by rw [ex2]) ?_
  refine lv_istore_n (lv' := [(1, .int x2), (0, .int a1)]) C.1.1 C.1.2.1 dX12_countOf_4 rfl hl (by decide) rfl (fun ls hl => ?_)
  refine lv_iload_n C.1.1 C.1.2.1 dX12_countOf_5 rfl (lv_at hl 0 rfl) ?_
  refine lv_iload_n C.1.1 C.1.2.1 dX12_countOf_6 rfl (lv_at hl 0 rfl) ?_
  refine lv_iconst (v := 2) C.1.1 C.1.2.1 dX12_countOf_7 (by decide) ?_
  refine lv_idiv C.1.1 C.1.2.1 dX12_countOf_8 (by decide) ?_
  refine lv_ixor C.1.1 C.1.2.1 dX12_countOf_9 ?_
  obtain ⟨x4, ex4, hD⟩ := g_let hD
  refine W.eq (g2 := F0 m 10 ls (.int x4 :: [])) (by rw [ex4]) ?_
  refine lv_istore_n (lv' := [(2, .int x4), (1, .int x2), (0, .int a1)]) C.1.1 C.1.2.1 dX12_countOf_10 rfl hl (by decide) rfl (fun ls hl => ?_)
  refine lv_iconst (v := 2) C.1.1 C.1.2.1 dX12_countOf_11 (by decide) ?_
  refine lv_iload_n C.1.1 C.1.2.1 dX12_countOf_12 rfl (lv_at hl 0 rfl) ?_
  refine lv_imul C.1.1 C.1.2.1 dX12_countOf_13 ?_
  refine lv_iload_n C.1.1 C.1.2.1 dX12_countOf_14 rfl (lv_at hl 0 rfl) ?_
  obtain ⟨r7, M5, L6, h1, hD⟩ := g_b3 hD
  refine md_csI (As := [.int x4]) (rest := [.int (2 * x4)]) C hw (tX12_parity l G ad fu x4 M L h1) wd_3692 cwX12_parity ⟨Nat.le_of_ble_eq_true rfl, Nat.le_of_ble_eq_true rfl⟩ rfl hl.1 (Nat.le_of_ble_eq_true rfl) dX12_countOf_15 rfl rfl ⟨Nat.zero_le _, Nat.zero_le _⟩ rfl (fun H locs hw => ?_)
  refine lv_iadd C.1.1 C.1.2.1 dX12_countOf_18 ?_
  exact mr_iret C hr hlocks hw rfl (Option.some.inj hD) dX12_countOf_19

theorem dX12_writeTail_0 : decode cX12_writeTail 0 = .ok (.iconst 3, 1) := by decide +kernel
theorem dX12_writeTail_1 : decode cX12_writeTail 1 = .ok (.istore_n 3, 1) := by decide +kernel
theorem dX12_writeTail_2 : decode cX12_writeTail 2 = .ok (.iload_n 3, 1) := by decide +kernel
theorem dX12_writeTail_3 : decode cX12_writeTail 3 = .ok (.ifCond .lt 18, 3) := by decide +kernel
theorem dX12_writeTail_6 : decode cX12_writeTail 6 = .ok (.aload_n 0, 1) := by decide +kernel
theorem dX12_writeTail_7 : decode cX12_writeTail 7 = .ok (.iload_n 1, 1) := by decide +kernel
theorem dX12_writeTail_8 : decode cX12_writeTail 8 = .ok (.iload_n 3, 1) := by decide +kernel
theorem dX12_writeTail_9 : decode cX12_writeTail 9 = .ok (.ishr, 1) := by decide +kernel
theorem dX12_writeTail_10 : decode cX12_writeTail 10 = .ok (.iconst 1, 1) := by decide +kernel
theorem dX12_writeTail_11 : decode cX12_writeTail 11 = .ok (.iand, 1) := by decide +kernel
theorem dX12_writeTail_12 : decode cX12_writeTail 12 = .ok (.invokevirtual 177, 3) := by decide +kernel
theorem dX12_writeTail_15 : decode cX12_writeTail 15 = .ok (.iinc 3 (-1), 3) := by decide +kernel
theorem dX12_writeTail_18 : decode cX12_writeTail 18 = .ok (.goto (-16), 3) := by decide +kernel
theorem dX12_writeTail_21 : decode cX12_writeTail 21 = .ok (.aload_n 0, 1) := by decide +kernel
theorem dX12_writeTail_22 : decode cX12_writeTail 22 = .ok (.iload_n 2, 1) := by decide +kernel
theorem dX12_writeTail_23 : decode cX12_writeTail 23 = .ok (.invokevirtual 180, 3) := by decide +kernel
theorem dX12_writeTail_26 : decode cX12_writeTail 26 = .ok (.istore_n 3, 1) := by decide +kernel
theorem dX12_writeTail_27 : decode cX12_writeTail 27 = .ok (.iconst 0, 1) := by decide +kernel
theorem dX12_writeTail_28 : decode cX12_writeTail 28 = .ok (.istore 4, 2) := by decide +kernel
theorem dX12_writeTail_30 : decode cX12_writeTail 30 = .ok (.iload 4, 2) := by decide +kernel
theorem dX12_writeTail_32 : decode cX12_writeTail 32 = .ok (.iconst 4, 1) := by decide +kernel
theorem dX12_writeTail_33 : decode cX12_writeTail 33 = .ok (.iload_n 2, 1) := by decide +kernel
theorem dX12_writeTail_34 : decode cX12_writeTail 34 = .ok (.iadd, 1) := by decide +kernel
theorem dX12_writeTail_35 : decode cX12_writeTail 35 = .ok (.if_icmp .ge 66, 3) := by decide +kernel
theorem dX12_writeTail_38 : decode cX12_writeTail 38 = .ok (.iload 4, 2) := by decide +kernel
theorem dX12_writeTail_40 : decode cX12_writeTail 40 = .ok (.iconst 4, 1) := by decide +kernel
theorem dX12_writeTail_41 : decode cX12_writeTail 41 = .ok (.irem, 1) := by decide +kernel
theorem dX12_writeTail_42 : decode cX12_writeTail 42 = .ok (.ifCond .ne 21, 3) := by decide +kernel
theorem dX12_writeTail_45 : decode cX12_writeTail 45 = .ok (.aload_n 0, 1) := by decide +kernel
theorem dX12_writeTail_46 : decode cX12_writeTail 46 = .ok (.iconst 1, 1) := by decide +kernel
theorem dX12_writeTail_47 : decode cX12_writeTail 47 = .ok (.aload_n 0, 1) := by decide +kernel
theorem dX12_writeTail_48 : decode cX12_writeTail 48 = .ok (.getfield 99, 3) := by decide +kernel
theorem dX12_writeTail_51 : decode cX12_writeTail 51 = .ok (.aload_n 0, 1) := by decide +kernel
theorem dX12_writeTail_52 : decode cX12_writeTail 52 = .ok (.getfield 163, 3) := by decide +kernel
theorem dX12_writeTail_55 : decode cX12_writeTail 55 = .ok (.iconst 1, 1) := by decide +kernel
theorem dX12_writeTail_56 : decode cX12_writeTail 56 = .ok (.isub, 1) := by decide +kernel
theorem dX12_writeTail_57 : decode cX12_writeTail 57 = .ok (.baload, 1) := by decide +kernel
theorem dX12_writeTail_58 : decode cX12_writeTail 58 = .ok (.isub, 1) := by decide +kernel
theorem dX12_writeTail_59 : decode cX12_writeTail 59 = .ok (.iconst 0, 1) := by decide +kernel
theorem dX12_writeTail_60 : decode cX12_writeTail 60 = .ok (.invokevirtual 183, 3) := by decide +kernel
theorem dX12_writeTail_63 : decode cX12_writeTail 63 = .ok (.aload_n 0, 1) := by decide +kernel
theorem dX12_writeTail_64 : decode cX12_writeTail 64 = .ok (.iload 4, 2) := by decide +kernel
theorem dX12_writeTail_66 : decode cX12_writeTail 66 = .ok (.iconst 4, 1) := by decide +kernel
theorem dX12_writeTail_67 : decode cX12_writeTail 67 = .ok (.if_icmp .ge 14, 3) := by decide +kernel
theorem dX12_writeTail_70 : decode cX12_writeTail 70 = .ok (.iload_n 1, 1) := by decide +kernel
theorem dX12_writeTail_71 : decode cX12_writeTail 71 = .ok (.iconst 3, 1) := by decide +kernel
theorem dX12_writeTail_72 : decode cX12_writeTail 72 = .ok (.iload 4, 2) := by decide +kernel
theorem dX12_writeTail_74 : decode cX12_writeTail 74 = .ok (.isub, 1) := by decide +kernel
theorem dX12_writeTail_75 : decode cX12_writeTail 75 = .ok (.ishr, 1) := by decide +kernel
theorem dX12_writeTail_76 : decode cX12_writeTail 76 = .ok (.iconst 1, 1) := by decide +kernel
theorem dX12_writeTail_77 : decode cX12_writeTail 77 = .ok (.iand, 1) := by decide +kernel
theorem dX12_writeTail_78 : decode cX12_writeTail 78 = .ok (.goto 13, 3) := by decide +kernel
theorem dX12_writeTail_81 : decode cX12_writeTail 81 = .ok (.iload_n 3, 1) := by decide +kernel
theorem dX12_writeTail_82 : decode cX12_writeTail 82 = .ok (.iload_n 2, 1) := by decide +kernel
theorem dX12_writeTail_83 : decode cX12_writeTail 83 = .ok (.iconst 3, 1) := by decide +kernel
theorem dX12_writeTail_84 : decode cX12_writeTail 84 = .ok (.iadd, 1) := by decide +kernel
theorem dX12_writeTail_85 : decode cX12_writeTail 85 = .ok (.iload 4, 2) := by decide +kernel
theorem dX12_writeTail_87 : decode cX12_writeTail 87 = .ok (.isub, 1) := by decide +kernel
theorem dX12_writeTail_88 : decode cX12_writeTail 88 = .ok (.ishr, 1) := by decide +kernel
theorem dX12_writeTail_89 : decode cX12_writeTail 89 = .ok (.iconst 1, 1) := by decide +kernel
theorem dX12_writeTail_90 : decode cX12_writeTail 90 = .ok (.iand, 1) := by decide +kernel
theorem dX12_writeTail_91 : decode cX12_writeTail 91 = .ok (.iconst 0, 1) := by decide +kernel
theorem dX12_writeTail_92 : decode cX12_writeTail 92 = .ok (.invokevirtual 183, 3) := by decide +kernel
theorem dX12_writeTail_95 : decode cX12_writeTail 95 = .ok (.iinc 4 1, 3) := by decide +kernel
theorem dX12_writeTail_98 : decode cX12_writeTail 98 = .ok (.goto (-68), 3) := by decide +kernel
theorem dX12_writeTail_101 : decode cX12_writeTail 101 = .ok (.return_, 1) := by decide +kernel
theorem cwX12_writeTail : mw_cwV yX12_writeTail cX12_writeTail 5 (none) 2 := ⟨⟨wd_15, wd_3698, by decide +kernel⟩, wd_3697, sl_240⟩
set_option maxHeartbeats 4000000 in
set_option maxRecDepth 100000 in
theorem tX12_writeTail (l : Launch) (G : mwG) (ad : Nat → Nat) (fu : Nat) (a1 : Int32) (a2 : Int32) (M : mwM) (L : mwL) {M0 : mwM} {L0 : mwL} (hD : DX12_writeTail fu a1 a2 M L = some (M0, L0)) : Met l yX12_writeTail (Cond.code yX12_writeTail cX12_writeTail 5 (none) :: GT) ({ frames := 1, cells := 0, slots := 0, locals := 26 }) (mw_Pre G ad NF TF FF M L [.ref (ad 821), .int a1, .int a2]) (mw_Qv G ad NF TF FF (mw_eqV M0 L0)) 0 0 (mw_fr G) := by
  refine mw_enter (by decide) (Nat.le_of_ble_eq_true rfl) ?_
  intro p e s m below meth c ls C hr hlocks hnm hw hl
  have hl : lv_has ls 5 [(0, .ref (ad 821)), (1, .int a1), (2, .int a2)] := hl
  have hh30 : ∀ (f : Nat) (v3 : Int32) (v4 : Int32) (M : mwM) (L : mwL) (H : Heap) (locs : List Loc) (ls : Array Slot), fX12_writeTail_h30 fu a1 a2 f (v3, v4, M, L) = some (M0, L0) → mw_W G ad NF TF FF M L H locs → lv_has ls 5 [(0, .ref (ad 821)), (1, .int a1), (2, .int a2), (3, .int v3), (4, .int v4)] → W p l e ({ frames := 1, cells := 0, slots := 0, locals := 26 }) s m [.ref (ad 821), .int a1, .int a2].toArray below meth c H locs 0 0 (MQ below (mw_Qv G ad NF TF FF (mw_eqV M0 L0)) [.ref (ad 821), .int a1, .int a2].toArray s 0 0 (mw_fr G)) (F0 m 30 ls []) := by
    intro f
    induction f with
    | zero => intro v3 v4 M L H locs ls hD; cases hD
    | succ f30 ih30 =>
      intro v3 v4 M L H locs ls hD hw hl
      replace hD : fX12_writeTail_i30 fu a1 a2 (fX12_writeTail_h30 fu a1 a2 f30) v3 v4 M L = some (M0, L0) := hD
      have hb91 : ∀ (v3 : Int32) (v4 : Int32) (s1 : Int32) (M : mwM) (L : mwL) (H : Heap) (locs : List Loc) (ls : Array Slot), fX12_writeTail_b91 fu a1 a2 (fX12_writeTail_h30 fu a1 a2 f30) v3 v4 s1 M L = some (M0, L0) → mw_W G ad NF TF FF M L H locs → lv_has ls 5 [(0, .ref (ad 821)), (1, .int a1), (2, .int a2), (3, .int v3), (4, .int v4)] → W p l e ({ frames := 1, cells := 0, slots := 0, locals := 26 }) s m [.ref (ad 821), .int a1, .int a2].toArray below meth c H locs 0 0 (MQ below (mw_Qv G ad NF TF FF (mw_eqV M0 L0)) [.ref (ad 821), .int a1, .int a2].toArray s 0 0 (mw_fr G)) (F0 m 91 ls [.int s1, .ref (ad 821)]) := by
        intro v3 v4 s1 M L H locs ls hD hw hl
        unfold fX12_writeTail_b91 at hD
        refine lv_iconst (v := 0) C.1.1 C.1.2.1 dX12_writeTail_91 (by decide) ?_
        obtain ⟨M15, L16, h1, hD⟩ := g_b2 hD
        refine md_cvV (As := [.int s1, .int 0]) (rest := []) C hw (tX12_put l G ad fu s1 0 M L h1) kc_12 (by decide) tf_821 wd_3681 cwX12_put ⟨Nat.le_of_ble_eq_true rfl, Nat.le_of_ble_eq_true rfl⟩ rfl hl.1 (Nat.le_of_ble_eq_true rfl) dX12_writeTail_92 rfl rfl ⟨Nat.zero_le _, Nat.zero_le _⟩ rfl (fun H locs hw => ?_)
        obtain ⟨x17, ex17, hD⟩ := g_let hD
        refine lv_iinc (v := x17) (lv' := [(4, .int x17), (0, .ref (ad 821)), (1, .int a1), (2, .int a2), (3, .int v3)]) C.1.1 C.1.2.1 dX12_writeTail_95 hl (k := 4) rfl (by rw [ex17]; rfl) (by decide) rfl (fun ls hl => ?_)
        refine lv_goto (tgt := 30) C.1.1 C.1.2.1 dX12_writeTail_98 (by decide) ?_
        exact ih30 v3 x17 M15 L16 _ _ ls hD hw (lv_sub hl [1, 2, 3, 4, 0] rfl)
      have hb63 : ∀ (v3 : Int32) (v4 : Int32) (M : mwM) (L : mwL) (H : Heap) (locs : List Loc) (ls : Array Slot), fX12_writeTail_b63 fu a1 a2 (fX12_writeTail_h30 fu a1 a2 f30) v3 v4 M L = some (M0, L0) → mw_W G ad NF TF FF M L H locs → lv_has ls 5 [(0, .ref (ad 821)), (1, .int a1), (2, .int a2), (3, .int v3), (4, .int v4)] → W p l e ({ frames := 1, cells := 0, slots := 0, locals := 26 }) s m [.ref (ad 821), .int a1, .int a2].toArray below meth c H locs 0 0 (MQ below (mw_Qv G ad NF TF FF (mw_eqV M0 L0)) [.ref (ad 821), .int a1, .int a2].toArray s 0 0 (mw_fr G)) (F0 m 63 ls []) := by
        intro v3 v4 M L H locs ls hD hw hl
        unfold fX12_writeTail_b63 at hD
        refine lv_aload_n C.1.1 C.1.2.1 dX12_writeTail_63 rfl (lv_at hl 0 rfl) ?_
        refine lv_iload C.1.1 C.1.2.1 dX12_writeTail_64 (lv_at hl 4 rfl) ?_
        refine lv_iconst (v := 4) C.1.1 C.1.2.1 dX12_writeTail_66 (by decide) ?_
        refine lv_icmp_ge (tgt := 81) C.1.1 C.1.2.1 dX12_writeTail_67 (by decide) (fun c14 => ?_) (fun c14 => ?_)
        · replace hD := g_pos c14 hD
          refine lv_iload_n C.1.1 C.1.2.1 dX12_writeTail_81 rfl (lv_at hl 3 rfl) ?_
          refine lv_iload_n C.1.1 C.1.2.1 dX12_writeTail_82 rfl (lv_at hl 2 rfl) ?_
          refine lv_iconst (v := 3) C.1.1 C.1.2.1 dX12_writeTail_83 (by decide) ?_
          refine lv_iadd C.1.1 C.1.2.1 dX12_writeTail_84 ?_
          refine lv_iload C.1.1 C.1.2.1 dX12_writeTail_85 (lv_at hl 4 rfl) ?_
          refine lv_isub C.1.1 C.1.2.1 dX12_writeTail_87 ?_
          refine lv_ishr C.1.1 C.1.2.1 dX12_writeTail_88 ?_
          refine lv_iconst (v := 1) C.1.1 C.1.2.1 dX12_writeTail_89 (by decide) ?_
          refine lv_iand C.1.1 C.1.2.1 dX12_writeTail_90 ?_
          exact hb91 v3 v4 ((v3 >>> (((a2 + 3) - v4) &&& 31)) &&& 1) M L _ _ ls hD hw (lv_sub hl [0, 1, 2, 3, 4] rfl)
        · replace hD := g_neg c14 hD
          refine lv_iload_n C.1.1 C.1.2.1 dX12_writeTail_70 rfl (lv_at hl 1 rfl) ?_
          refine lv_iconst (v := 3) C.1.1 C.1.2.1 dX12_writeTail_71 (by decide) ?_
          refine lv_iload C.1.1 C.1.2.1 dX12_writeTail_72 (lv_at hl 4 rfl) ?_
          refine lv_isub C.1.1 C.1.2.1 dX12_writeTail_74 ?_
          refine lv_ishr C.1.1 C.1.2.1 dX12_writeTail_75 ?_
          refine lv_iconst (v := 1) C.1.1 C.1.2.1 dX12_writeTail_76 (by decide) ?_
          refine lv_iand C.1.1 C.1.2.1 dX12_writeTail_77 ?_
          refine lv_goto (tgt := 91) C.1.1 C.1.2.1 dX12_writeTail_78 (by decide) ?_
          exact hb91 v3 v4 ((a1 >>> ((3 - v4) &&& 31)) &&& 1) M L _ _ ls hD hw (lv_sub hl [0, 1, 2, 3, 4] rfl)
      unfold fX12_writeTail_i30 at hD
      refine lv_iload C.1.1 C.1.2.1 dX12_writeTail_30 (lv_at hl 4 rfl) ?_
      refine lv_iconst (v := 4) C.1.1 C.1.2.1 dX12_writeTail_32 (by decide) ?_
      refine lv_iload_n C.1.1 C.1.2.1 dX12_writeTail_33 rfl (lv_at hl 2 rfl) ?_
      refine lv_iadd C.1.1 C.1.2.1 dX12_writeTail_34 ?_
      refine lv_icmp_ge (tgt := 101) C.1.1 C.1.2.1 dX12_writeTail_35 (by decide) (fun c8 => ?_) (fun c8 => ?_)
      · replace hD := g_pos c8 hD
        exact mr_vret C hr hlocks hw (Option.some.inj hD) dX12_writeTail_101
      · replace hD := g_neg c8 hD
        refine lv_iload C.1.1 C.1.2.1 dX12_writeTail_38 (lv_at hl 4 rfl) ?_
        refine lv_iconst (v := 4) C.1.1 C.1.2.1 dX12_writeTail_40 (by decide) ?_
        refine lv_irem C.1.1 C.1.2.1 dX12_writeTail_41 (by decide) ?_
        refine lv_if_ne (tgt := 63) C.1.1 C.1.2.1 dX12_writeTail_42 (by decide) (fun c10 => ?_) (fun c10 => ?_)
        · replace hD := g_neg c10 hD
          exact hb63 v3 v4 M L _ _ ls hD hw (lv_sub hl [0, 1, 2, 3, 4] rfl)
        · replace hD := g_pos c10 hD
          refine lv_aload_n C.1.1 C.1.2.1 dX12_writeTail_45 rfl (lv_at hl 0 rfl) ?_
          refine lv_iconst (v := 1) C.1.1 C.1.2.1 dX12_writeTail_46 (by decide) ?_
          refine lv_aload_n C.1.1 C.1.2.1 dX12_writeTail_47 rfl (lv_at hl 0 rfl) ?_
          refine mr_getR C hw kc_12 35 (by decide) tf_821 ff_821_35 wd_2135 dX12_writeTail_48 (by decide) rfl ?_
          refine lv_aload_n C.1.1 C.1.2.1 dX12_writeTail_51 rfl (lv_at hl 0 rfl) ?_
          refine mr_getI C hw kc_12 37 (by decide) tf_821 wd_2137 dX12_writeTail_52 (by decide) rfl ?_
          refine lv_iconst (v := 1) C.1.1 C.1.2.1 dX12_writeTail_55 (by decide) ?_
          refine lv_isub C.1.1 C.1.2.1 dX12_writeTail_56 ?_
          obtain ⟨q11, hD⟩ := g_ck hD
          refine mr_bald C hw (by decide) tf_849 q11 dX12_writeTail_57 ?_
          refine lv_isub C.1.1 C.1.2.1 dX12_writeTail_58 ?_
          refine lv_iconst (v := 0) C.1.1 C.1.2.1 dX12_writeTail_59 (by decide) ?_
          obtain ⟨M12, L13, h1, hD⟩ := g_b2 hD
          refine md_cvV (As := [.int (1 - (M 849 ((M 821 37) - 1).toNatClampNeg)), .int 0]) (rest := []) C hw (tX12_put l G ad fu (1 - (M 849 ((M 821 37) - 1).toNatClampNeg)) 0 M L h1) kc_12 (by decide) tf_821 wd_3681 cwX12_put ⟨Nat.le_of_ble_eq_true rfl, Nat.le_of_ble_eq_true rfl⟩ rfl hl.1 (Nat.le_of_ble_eq_true rfl) dX12_writeTail_60 rfl rfl ⟨Nat.zero_le _, Nat.zero_le _⟩ rfl (fun H locs hw => ?_)
          exact hb63 v3 v4 M12 L13 _ _ ls hD hw (lv_sub hl [0, 1, 2, 3, 4] rfl)
  have hh2 : ∀ (f : Nat) (v3 : Int32) (M : mwM) (L : mwL) (H : Heap) (locs : List Loc) (ls : Array Slot), fX12_writeTail_h2 fu a1 a2 f (v3, M, L) = some (M0, L0) → mw_W G ad NF TF FF M L H locs → lv_has ls 5 [(0, .ref (ad 821)), (1, .int a1), (2, .int a2), (3, .int v3)] → W p l e ({ frames := 1, cells := 0, slots := 0, locals := 26 }) s m [.ref (ad 821), .int a1, .int a2].toArray below meth c H locs 0 0 (MQ below (mw_Qv G ad NF TF FF (mw_eqV M0 L0)) [.ref (ad 821), .int a1, .int a2].toArray s 0 0 (mw_fr G)) (F0 m 2 ls []) := by
    intro f
    induction f with
    | zero => intro v3 M L H locs ls hD; cases hD
    | succ f2 ih2 =>
      intro v3 M L H locs ls hD hw hl
      replace hD : fX12_writeTail_i2 fu a1 a2 (fX12_writeTail_h2 fu a1 a2 f2) v3 M L = some (M0, L0) := hD
      unfold fX12_writeTail_i2 at hD
      refine lv_iload_n C.1.1 C.1.2.1 dX12_writeTail_2 rfl (lv_at hl 3 rfl) ?_
      refine lv_if_lt (tgt := 21) C.1.1 C.1.2.1 dX12_writeTail_3 (by decide) (fun c1 => ?_) (fun c1 => ?_)
      · replace hD := g_pos c1 hD
        refine lv_aload_n C.1.1 C.1.2.1 dX12_writeTail_21 rfl (lv_at hl 0 rfl) ?_
        refine lv_iload_n C.1.1 C.1.2.1 dX12_writeTail_22 rfl (lv_at hl 2 rfl) ?_
        obtain ⟨r4, M2, L3, h1, hD⟩ := g_b3 hD
        refine md_cvI (As := [.int a2]) (rest := []) C hw (tX12_checkOf l G ad fu a2 M L h1) kc_12 (by decide) tf_821 wd_3675 cwX12_checkOf ⟨Nat.le_of_ble_eq_true rfl, Nat.le_of_ble_eq_true rfl⟩ rfl hl.1 (Nat.le_of_ble_eq_true rfl) dX12_writeTail_23 rfl rfl ⟨Nat.zero_le _, Nat.zero_le _⟩ rfl (fun H locs hw => ?_)
        refine lv_istore_n (lv' := [(3, .int r4), (0, .ref (ad 821)), (1, .int a1), (2, .int a2)]) C.1.1 C.1.2.1 dX12_writeTail_26 rfl hl (by decide) rfl (fun ls hl => ?_)
        refine lv_iconst (v := 0) C.1.1 C.1.2.1 dX12_writeTail_27 (by decide) ?_
        refine lv_istore (lv' := [(4, .int 0), (3, .int r4), (0, .ref (ad 821)), (1, .int a1), (2, .int a2)]) C.1.1 C.1.2.1 dX12_writeTail_28 hl (by decide) rfl (fun ls hl => ?_)
        exact hh30 fu r4 0 M2 L3 _ _ ls hD hw (lv_sub hl [2, 3, 4, 1, 0] rfl)
      · replace hD := g_neg c1 hD
        refine lv_aload_n C.1.1 C.1.2.1 dX12_writeTail_6 rfl (lv_at hl 0 rfl) ?_
        refine lv_iload_n C.1.1 C.1.2.1 dX12_writeTail_7 rfl (lv_at hl 1 rfl) ?_
        refine lv_iload_n C.1.1 C.1.2.1 dX12_writeTail_8 rfl (lv_at hl 3 rfl) ?_
        refine lv_ishr C.1.1 C.1.2.1 dX12_writeTail_9 ?_
        refine lv_iconst (v := 1) C.1.1 C.1.2.1 dX12_writeTail_10 (by decide) ?_
        refine lv_iand C.1.1 C.1.2.1 dX12_writeTail_11 ?_
        obtain ⟨M5, L6, h1, hD⟩ := g_b2 hD
        refine md_cvV (As := [.int ((a1 >>> (v3 &&& 31)) &&& 1)]) (rest := []) C hw (tX12_check l G ad fu ((a1 >>> (v3 &&& 31)) &&& 1) M L h1) kc_12 (by decide) tf_821 wd_3671 cwX12_check ⟨Nat.le_of_ble_eq_true rfl, Nat.le_of_ble_eq_true rfl⟩ rfl hl.1 (Nat.le_of_ble_eq_true rfl) dX12_writeTail_12 rfl rfl ⟨Nat.zero_le _, Nat.zero_le _⟩ rfl (fun H locs hw => ?_)
        obtain ⟨x7, ex7, hD⟩ := g_let hD
        refine lv_iinc (v := x7) (lv' := [(3, .int x7), (0, .ref (ad 821)), (1, .int a1), (2, .int a2)]) C.1.1 C.1.2.1 dX12_writeTail_15 hl (k := 3) rfl (by rw [ex7]; rfl) (by decide) rfl (fun ls hl => ?_)
        refine lv_goto (tgt := 2) C.1.1 C.1.2.1 dX12_writeTail_18 (by decide) ?_
        exact ih2 x7 M5 L6 _ _ ls hD hw (lv_sub hl [1, 2, 3, 0] rfl)
  unfold DX12_writeTail at hD
  refine lv_iconst (v := 3) C.1.1 C.1.2.1 dX12_writeTail_0 (by decide) ?_
  refine lv_istore_n (lv' := [(3, .int 3), (0, .ref (ad 821)), (1, .int a1), (2, .int a2)]) C.1.1 C.1.2.1 dX12_writeTail_1 rfl hl (by decide) rfl (fun ls hl => ?_)
  exact hh2 fu 3 M L _ _ ls hD hw (lv_sub hl [1, 2, 3, 0] rfl)
