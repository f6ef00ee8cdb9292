theorem dX19_thrown_0 : decode cX19_thrown 0 = .ok (.aload_n 0, 1) := by decide +kernel
theorem dX19_thrown_1 : decode cX19_thrown 1 = .ok (.getfield 289, 3) := by decide +kernel
theorem dX19_thrown_4 : decode cX19_thrown 4 = .ok (.ireturn, 1) := by decide +kernel
theorem cwX19_thrown : mw_cwV yX19_thrown cX19_thrown 1 ((some .int)) 0 := ⟨⟨wd_13, wd_3121, by decide +kernel⟩, wd_3119, wd_3120⟩
set_option maxHeartbeats 4000000 in
set_option maxRecDepth 100000 in
theorem tX19_thrown (l : Launch) (G : mwG) (ad : Nat → Nat) (fu : Nat) (M : mwM) (L : mwL) {r0 : Int32} {M0 : mwM} {L0 : mwL} (hD : DX19_thrown fu M L = some (r0, M0, L0)) : Met l yX19_thrown (Cond.code yX19_thrown cX19_thrown 1 ((some .int)) :: GT) ({ frames := 0, cells := 0, slots := 0, locals := 0 }) (mw_Pre G ad NF TF FF M L [.ref (ad 732)]) (mw_Qi G ad NF TF FF (mw_eqI r0 M0 L0)) 0 0 (mw_fr G) := by
  refine mw_enter (by decide) (Nat.le_of_ble_eq_true rfl) ?_
  intro p e s m below meth c ls C hr hlocks hnm hw hl
  have hl : lv_has ls 1 [(0, .ref (ad 732))] := hl
  unfold DX19_thrown at hD
  refine lv_aload_n C.1.1 C.1.2.1 dX19_thrown_0 rfl (lv_at hl 0 rfl) ?_
  refine mr_getI C hw kc_19 0 (by decide) tf_732 wd_2781 dX19_thrown_1 (by decide) rfl ?_
  exact mr_iret C hr hlocks hw rfl (Option.some.inj hD) dX19_thrown_4

theorem dX19_character_0 : decode cX19_character 0 = .ok (.iload 4, 2) := by decide +kernel
theorem dX19_character_2 : decode cX19_character 2 = .ok (.iconst 4, 1) := by decide +kernel
theorem dX19_character_3 : decode cX19_character 3 = .ok (.if_icmp .ge 7, 3) := by decide +kernel
theorem dX19_character_6 : decode cX19_character 6 = .ok (.iload_n 0, 1) := by decide +kernel
theorem dX19_character_7 : decode cX19_character 7 = .ok (.goto 26, 3) := by decide +kernel
theorem dX19_character_10 : decode cX19_character 10 = .ok (.iload 4, 2) := by decide +kernel
theorem dX19_character_12 : decode cX19_character 12 = .ok (.bipush 8, 2) := by decide +kernel
theorem dX19_character_14 : decode cX19_character 14 = .ok (.if_icmp .ge 7, 3) := by decide +kernel
theorem dX19_character_17 : decode cX19_character 17 = .ok (.iload_n 1, 1) := by decide +kernel
theorem dX19_character_18 : decode cX19_character 18 = .ok (.goto 15, 3) := by decide +kernel
theorem dX19_character_21 : decode cX19_character 21 = .ok (.iload 4, 2) := by decide +kernel
theorem dX19_character_23 : decode cX19_character 23 = .ok (.bipush 12, 2) := by decide +kernel
theorem dX19_character_25 : decode cX19_character 25 = .ok (.if_icmp .ge 7, 3) := by decide +kernel
theorem dX19_character_28 : decode cX19_character 28 = .ok (.iload_n 2, 1) := by decide +kernel
theorem dX19_character_29 : decode cX19_character 29 = .ok (.goto 4, 3) := by decide +kernel
theorem dX19_character_32 : decode cX19_character 32 = .ok (.iload_n 3, 1) := by decide +kernel
theorem dX19_character_33 : decode cX19_character 33 = .ok (.istore 5, 2) := by decide +kernel
theorem dX19_character_35 : decode cX19_character 35 = .ok (.iload 5, 2) := by decide +kernel
theorem dX19_character_37 : decode cX19_character 37 = .ok (.bipush 24, 2) := by decide +kernel
theorem dX19_character_39 : decode cX19_character 39 = .ok (.bipush 8, 2) := by decide +kernel
theorem dX19_character_41 : decode cX19_character 41 = .ok (.iload 4, 2) := by decide +kernel
theorem dX19_character_43 : decode cX19_character 43 = .ok (.iconst 4, 1) := by decide +kernel
theorem dX19_character_44 : decode cX19_character 44 = .ok (.irem, 1) := by decide +kernel
theorem dX19_character_45 : decode cX19_character 45 = .ok (.imul, 1) := by decide +kernel
theorem dX19_character_46 : decode cX19_character 46 = .ok (.isub, 1) := by decide +kernel
theorem dX19_character_47 : decode cX19_character 47 = .ok (.ishr, 1) := by decide +kernel
theorem dX19_character_48 : decode cX19_character 48 = .ok (.sipush 255, 3) := by decide +kernel
theorem dX19_character_51 : decode cX19_character 51 = .ok (.iand, 1) := by decide +kernel
theorem dX19_character_52 : decode cX19_character 52 = .ok (.ireturn, 1) := by decide +kernel
theorem cwX19_character : mw_cwS yX19_character cX19_character 6 ((some .int)) 5 := ⟨⟨wd_13, wd_3128, by decide +kernel⟩, wd_3127⟩
set_option maxHeartbeats 4000000 in
set_option maxRecDepth 100000 in
theorem tX19_character (l : Launch) (G : mwG) (ad : Nat → Nat) (fu : Nat) (a1 : Int32) (a2 : Int32) (a3 : Int32) (a4 : Int32) (a5 : Int32) (M : mwM) (L : mwL) {r0 : Int32} {M0 : mwM} {L0 : mwL} (hD : DX19_character fu a1 a2 a3 a4 a5 M L = some (r0, M0, L0)) : Met l yX19_character (Cond.code yX19_character cX19_character 6 ((some .int)) :: GT) ({ frames := 0, cells := 0, slots := 0, locals := 0 }) (mw_Pre G ad NF TF FF M L [.int a1, .int a2, .int a3, .int a4, .int a5]) (mw_Qi G ad NF TF FF (mw_eqI r0 M0 L0)) 0 0 (mw_fr G) := by
  refine mw_enter (by decide) (Nat.le_of_ble_eq_true rfl) ?_
  intro p e s m below meth c ls C hr hlocks hnm hw hl
  have hl : lv_has ls 6 [(0, .int a1), (1, .int a2), (2, .int a3), (3, .int a4), (4, .int a5)] := hl
  have hb33 : ∀ (s0 : Int32) (M : mwM) (L : mwL) (H : Heap) (locs : List Loc) (ls : Array Slot), fX19_character_b33 fu a1 a2 a3 a4 a5 s0 M L = some (r0, M0, L0) → mw_W G ad NF TF FF M L H locs → lv_has ls 6 [(4, .int a5)] → W p l e ({ frames := 0, cells := 0, slots := 0, locals := 0 }) s m [.int a1, .int a2, .int a3, .int a4, .int a5].toArray below meth c H locs 0 0 (MQ below (mw_Qi G ad NF TF FF (mw_eqI r0 M0 L0)) [.int a1, .int a2, .int a3, .int a4, .int a5].toArray s 0 0 (mw_fr G)) (F0 m 33 ls [.int s0]) := by
    intro s0 M L H locs ls hD hw hl
    unfold fX19_character_b33 at hD
    refine lv_istore (lv' := [(5, .int s0), (4, .int a5)]) C.1.1 C.1.2.1 dX19_character_33 hl (by decide) rfl (fun ls hl => ?_)
    refine lv_iload C.1.1 C.1.2.1 dX19_character_35 (lv_at hl 0 rfl) ?_
    refine lv_bipush (v := 24) C.1.1 C.1.2.1 dX19_character_37 (by decide) ?_
    refine lv_bipush (v := 8) C.1.1 C.1.2.1 dX19_character_39 (by decide) ?_
    refine lv_iload C.1.1 C.1.2.1 dX19_character_41 (lv_at hl 1 rfl) ?_
    refine lv_iconst (v := 4) C.1.1 C.1.2.1 dX19_character_43 (by decide) ?_
    refine lv_irem C.1.1 C.1.2.1 dX19_character_44 (by decide) ?_
    refine lv_imul C.1.1 C.1.2.1 dX19_character_45 ?_
    refine lv_isub C.1.1 C.1.2.1 dX19_character_46 ?_
    refine lv_ishr C.1.1 C.1.2.1 dX19_character_47 ?_
    refine lv_sipush (v := 255) C.1.1 C.1.2.1 dX19_character_48 (by decide) ?_
    refine lv_iand C.1.1 C.1.2.1 dX19_character_51 ?_
    exact mr_iret C hr hlocks hw rfl (Option.some.inj hD) dX19_character_52
  unfold DX19_character at hD
  refine lv_iload C.1.1 C.1.2.1 dX19_character_0 (lv_at hl 4 rfl) ?_
  refine lv_iconst (v := 4) C.1.1 C.1.2.1 dX19_character_2 (by decide) ?_
  refine lv_icmp_ge (tgt := 10) C.1.1 C.1.2.1 dX19_character_3 (by decide) (fun c2 => ?_) (fun c2 => ?_)
  · replace hD := g_pos c2 hD
    refine lv_iload C.1.1 C.1.2.1 dX19_character_10 (lv_at hl 4 rfl) ?_
    refine lv_bipush (v := 8) C.1.1 C.1.2.1 dX19_character_12 (by decide) ?_
    refine lv_icmp_ge (tgt := 21) C.1.1 C.1.2.1 dX19_character_14 (by decide) (fun c3 => ?_) (fun c3 => ?_)
    · replace hD := g_pos c3 hD
      refine lv_iload C.1.1 C.1.2.1 dX19_character_21 (lv_at hl 4 rfl) ?_
      refine lv_bipush (v := 12) C.1.1 C.1.2.1 dX19_character_23 (by decide) ?_
      refine lv_icmp_ge (tgt := 32) C.1.1 C.1.2.1 dX19_character_25 (by decide) (fun c4 => ?_) (fun c4 => ?_)
      · replace hD := g_pos c4 hD
        refine lv_iload_n C.1.1 C.1.2.1 dX19_character_32 rfl (lv_at hl 3 rfl) ?_
        exact hb33 a4 M L _ _ ls hD hw (lv_sub hl [4] rfl)
      · replace hD := g_neg c4 hD
        refine lv_iload_n C.1.1 C.1.2.1 dX19_character_28 rfl (lv_at hl 2 rfl) ?_
        refine lv_goto (tgt := 33) C.1.1 C.1.2.1 dX19_character_29 (by decide) ?_
        exact hb33 a3 M L _ _ ls hD hw (lv_sub hl [4] rfl)
    · replace hD := g_neg c3 hD
      refine lv_iload_n C.1.1 C.1.2.1 dX19_character_17 rfl (lv_at hl 1 rfl) ?_
      refine lv_goto (tgt := 33) C.1.1 C.1.2.1 dX19_character_18 (by decide) ?_
      exact hb33 a2 M L _ _ ls hD hw (lv_sub hl [4] rfl)
  · replace hD := g_neg c2 hD
    refine lv_iload_n C.1.1 C.1.2.1 dX19_character_6 rfl (lv_at hl 0 rfl) ?_
    refine lv_goto (tgt := 33) C.1.1 C.1.2.1 dX19_character_7 (by decide) ?_
    exact hb33 a1 M L _ _ ls hD hw (lv_sub hl [4] rfl)

theorem dX19_text_0 : decode cX19_text 0 = .ok (.iconst 0, 1) := by decide +kernel
theorem dX19_text_1 : decode cX19_text 1 = .ok (.istore 5, 2) := by decide +kernel
theorem dX19_text_3 : decode cX19_text 3 = .ok (.iconst 0, 1) := by decide +kernel
theorem dX19_text_4 : decode cX19_text 4 = .ok (.istore 6, 2) := by decide +kernel
theorem dX19_text_6 : decode cX19_text 6 = .ok (.iload 6, 2) := by decide +kernel
theorem dX19_text_8 : decode cX19_text 8 = .ok (.bipush 16, 2) := by decide +kernel
theorem dX19_text_10 : decode cX19_text 10 = .ok (.if_icmp .ge 33, 3) := by decide +kernel
theorem dX19_text_13 : decode cX19_text 13 = .ok (.iload_n 1, 1) := by decide +kernel
theorem dX19_text_14 : decode cX19_text 14 = .ok (.iload_n 2, 1) := by decide +kernel
theorem dX19_text_15 : decode cX19_text 15 = .ok (.iload_n 3, 1) := by decide +kernel
theorem dX19_text_16 : decode cX19_text 16 = .ok (.iload 4, 2) := by decide +kernel
theorem dX19_text_18 : decode cX19_text 18 = .ok (.iload 6, 2) := by decide +kernel
theorem dX19_text_20 : decode cX19_text 20 = .ok (.invokestatic 292, 3) := by decide +kernel
theorem dX19_text_23 : decode cX19_text 23 = .ok (.ifCond .le 10, 3) := by decide +kernel
theorem dX19_text_26 : decode cX19_text 26 = .ok (.iload 5, 2) := by decide +kernel
theorem dX19_text_28 : decode cX19_text 28 = .ok (.iconst 1, 1) := by decide +kernel
theorem dX19_text_29 : decode cX19_text 29 = .ok (.iadd, 1) := by decide +kernel
theorem dX19_text_30 : decode cX19_text 30 = .ok (.goto 5, 3) := by decide +kernel
theorem dX19_text_33 : decode cX19_text 33 = .ok (.iload 5, 2) := by decide +kernel
theorem dX19_text_35 : decode cX19_text 35 = .ok (.istore 5, 2) := by decide +kernel
theorem dX19_text_37 : decode cX19_text 37 = .ok (.iinc 6 1, 3) := by decide +kernel
theorem dX19_text_40 : decode cX19_text 40 = .ok (.goto (-34), 3) := by decide +kernel
theorem dX19_text_43 : decode cX19_text 43 = .ok (.aload_n 0, 1) := by decide +kernel
theorem dX19_text_44 : decode cX19_text 44 = .ok (.aload_n 0, 1) := by decide +kernel
theorem dX19_text_45 : decode cX19_text 45 = .ok (.getfield 296, 3) := by decide +kernel
theorem dX19_text_48 : decode cX19_text 48 = .ok (.iload 5, 2) := by decide +kernel
theorem dX19_text_50 : decode cX19_text 50 = .ok (.iadd, 1) := by decide +kernel
theorem dX19_text_51 : decode cX19_text 51 = .ok (.sipush 6000, 3) := by decide +kernel
theorem dX19_text_54 : decode cX19_text 54 = .ok (.if_icmp .le 7, 3) := by decide +kernel
theorem dX19_text_57 : decode cX19_text 57 = .ok (.iconst 1, 1) := by decide +kernel
theorem dX19_text_58 : decode cX19_text 58 = .ok (.goto 4, 3) := by decide +kernel
theorem dX19_text_61 : decode cX19_text 61 = .ok (.iconst 0, 1) := by decide +kernel
theorem dX19_text_62 : decode cX19_text 62 = .ok (.putfield 289, 3) := by decide +kernel
theorem dX19_text_65 : decode cX19_text 65 = .ok (.iconst 0, 1) := by decide +kernel
theorem dX19_text_66 : decode cX19_text 66 = .ok (.istore 6, 2) := by decide +kernel
theorem dX19_text_68 : decode cX19_text 68 = .ok (.iload 6, 2) := by decide +kernel
theorem dX19_text_70 : decode cX19_text 70 = .ok (.bipush 16, 2) := by decide +kernel
theorem dX19_text_72 : decode cX19_text 72 = .ok (.if_icmp .ge 57, 3) := by decide +kernel
theorem dX19_text_75 : decode cX19_text 75 = .ok (.aload_n 0, 1) := by decide +kernel
theorem dX19_text_76 : decode cX19_text 76 = .ok (.getfield 289, 3) := by decide +kernel
theorem dX19_text_79 : decode cX19_text 79 = .ok (.ifCond .ne 50, 3) := by decide +kernel
theorem dX19_text_82 : decode cX19_text 82 = .ok (.iload_n 1, 1) := by decide +kernel
theorem dX19_text_83 : decode cX19_text 83 = .ok (.iload_n 2, 1) := by decide +kernel
theorem dX19_text_84 : decode cX19_text 84 = .ok (.iload_n 3, 1) := by decide +kernel
theorem dX19_text_85 : decode cX19_text 85 = .ok (.iload 4, 2) := by decide +kernel
theorem dX19_text_87 : decode cX19_text 87 = .ok (.iload 6, 2) := by decide +kernel
theorem dX19_text_89 : decode cX19_text 89 = .ok (.invokestatic 292, 3) := by decide +kernel
theorem dX19_text_92 : decode cX19_text 92 = .ok (.istore 7, 2) := by decide +kernel
theorem dX19_text_94 : decode cX19_text 94 = .ok (.iload 7, 2) := by decide +kernel
theorem dX19_text_96 : decode cX19_text 96 = .ok (.ifCond .ne 6, 3) := by decide +kernel
theorem dX19_text_99 : decode cX19_text 99 = .ok (.goto 24, 3) := by decide +kernel
theorem dX19_text_102 : decode cX19_text 102 = .ok (.aload_n 0, 1) := by decide +kernel
theorem dX19_text_103 : decode cX19_text 103 = .ok (.getfield 7, 3) := by decide +kernel
theorem dX19_text_106 : decode cX19_text 106 = .ok (.aload_n 0, 1) := by decide +kernel
theorem dX19_text_107 : decode cX19_text 107 = .ok (.getfield 296, 3) := by decide +kernel
theorem dX19_text_110 : decode cX19_text 110 = .ok (.iload 7, 2) := by decide +kernel
theorem dX19_text_112 : decode cX19_text 112 = .ok (.iastore, 1) := by decide +kernel
theorem dX19_text_113 : decode cX19_text 113 = .ok (.aload_n 0, 1) := by decide +kernel
theorem dX19_text_114 : decode cX19_text 114 = .ok (.dup, 1) := by decide +kernel
theorem dX19_text_115 : decode cX19_text 115 = .ok (.getfield 296, 3) := by decide +kernel
theorem dX19_text_118 : decode cX19_text 118 = .ok (.iconst 1, 1) := by decide +kernel
theorem dX19_text_119 : decode cX19_text 119 = .ok (.iadd, 1) := by decide +kernel
theorem dX19_text_120 : decode cX19_text 120 = .ok (.putfield 296, 3) := by decide +kernel
theorem dX19_text_123 : decode cX19_text 123 = .ok (.iinc 6 1, 3) := by decide +kernel
theorem dX19_text_126 : decode cX19_text 126 = .ok (.goto (-58), 3) := by decide +kernel
theorem dX19_text_129 : decode cX19_text 129 = .ok (.return_, 1) := by decide +kernel
theorem cwX19_text : mw_cwV yX19_text cX19_text 8 (none) 4 := ⟨⟨wd_13, wd_3125, by decide +kernel⟩, wd_3123, wd_3124⟩
set_option maxHeartbeats 4000000 in
set_option maxRecDepth 100000 in
theorem tX19_text (l : Launch) (G : mwG) (ad : Nat → Nat) (fu : Nat) (a1 : Int32) (a2 : Int32) (a3 : Int32) (a4 : Int32) (M : mwM) (L : mwL) {M0 : mwM} {L0 : mwL} (hD : DX19_text fu a1 a2 a3 a4 M L = some (M0, L0)) : Met l yX19_text (Cond.code yX19_text cX19_text 8 (none) :: GT) ({ frames := 1, cells := 0, slots := 0, locals := 25 }) (mw_Pre G ad NF TF FF M L [.ref (ad 732), .int a1, .int a2, .int a3, .int a4]) (mw_Qv G ad NF TF FF (mw_eqV M0 L0)) 0 0 (mw_fr G) := by
  refine mw_enter (by decide) (Nat.le_of_ble_eq_true rfl) ?_
  intro p e s m below meth c ls C hr hlocks hnm hw hl
  have hl : lv_has ls 8 [(0, .ref (ad 732)), (1, .int a1), (2, .int a2), (3, .int a3), (4, .int a4)] := hl
  have hb129 : ∀ (M : mwM) (L : mwL) (H : Heap) (locs : List Loc) (ls : Array Slot), fX19_text_b129 fu a1 a2 a3 a4 M L = some (M0, L0) → mw_W G ad NF TF FF M L H locs → lv_has ls 8 [] → W p l e ({ frames := 1, cells := 0, slots := 0, locals := 25 }) s m [.ref (ad 732), .int a1, .int a2, .int a3, .int a4].toArray below meth c H locs 0 0 (MQ below (mw_Qv G ad NF TF FF (mw_eqV M0 L0)) [.ref (ad 732), .int a1, .int a2, .int a3, .int a4].toArray s 0 0 (mw_fr G)) (F0 m 129 ls []) := by
    intro M L H locs ls hD hw hl
    unfold fX19_text_b129 at hD
    exact mr_vret C hr hlocks hw (Option.some.inj hD) dX19_text_129
  have hh68 : ∀ (f : Nat) (v6 : Int32) (M : mwM) (L : mwL) (H : Heap) (locs : List Loc) (ls : Array Slot), fX19_text_h68 fu a1 a2 a3 a4 f (v6, M, L) = some (M0, L0) → mw_W G ad NF TF FF M L H locs → lv_has ls 8 [(0, .ref (ad 732)), (1, .int a1), (2, .int a2), (3, .int a3), (4, .int a4), (6, .int v6)] → W p l e ({ frames := 1, cells := 0, slots := 0, locals := 25 }) s m [.ref (ad 732), .int a1, .int a2, .int a3, .int a4].toArray below meth c H locs 0 0 (MQ below (mw_Qv G ad NF TF FF (mw_eqV M0 L0)) [.ref (ad 732), .int a1, .int a2, .int a3, .int a4].toArray s 0 0 (mw_fr G)) (F0 m 68 ls []) := by
    intro f
    induction f with
    | zero => intro v6 M L H locs ls hD; cases hD
    | succ f68 ih68 =>
      intro v6 M L H locs ls hD hw hl
      replace hD : fX19_text_i68 fu a1 a2 a3 a4 (fX19_text_h68 fu a1 a2 a3 a4 f68) v6 M L = some (M0, L0) := hD
      have hb123 : ∀ (v6 : Int32) (M : mwM) (L : mwL) (H : Heap) (locs : List Loc) (ls : Array Slot), fX19_text_b123 fu a1 a2 a3 a4 (fX19_text_h68 fu a1 a2 a3 a4 f68) v6 M L = some (M0, L0) → mw_W G ad NF TF FF M L H locs → lv_has ls 8 [(0, .ref (ad 732)), (1, .int a1), (2, .int a2), (3, .int a3), (4, .int a4), (6, .int v6)] → W p l e ({ frames := 1, cells := 0, slots := 0, locals := 25 }) s m [.ref (ad 732), .int a1, .int a2, .int a3, .int a4].toArray below meth c H locs 0 0 (MQ below (mw_Qv G ad NF TF FF (mw_eqV M0 L0)) [.ref (ad 732), .int a1, .int a2, .int a3, .int a4].toArray s 0 0 (mw_fr G)) (F0 m 123 ls []) := by
        intro v6 M L H locs ls hD hw hl
        unfold fX19_text_b123 at hD
        obtain ⟨x18, ex18, hD⟩ := g_let hD
        refine lv_iinc (v := x18) (lv' := [(6, .int x18), (0, .ref (ad 732)), (1, .int a1), (2, .int a2), (3, .int a3), (4, .int a4)]) C.1.1 C.1.2.1 dX19_text_123 hl (k := 5) rfl (by rw [ex18]; rfl) (by decide) rfl (fun ls hl => ?_)
        refine lv_goto (tgt := 68) C.1.1 C.1.2.1 dX19_text_126 (by decide) ?_
        exact ih68 x18 M L _ _ ls hD hw (lv_sub hl [1, 2, 3, 4, 5, 0] rfl)
      unfold fX19_text_i68 at hD
      refine lv_iload C.1.1 C.1.2.1 dX19_text_68 (lv_at hl 5 rfl) ?_
      refine lv_bipush (v := 16) C.1.1 C.1.2.1 dX19_text_70 (by decide) ?_
      refine lv_icmp_ge (tgt := 129) C.1.1 C.1.2.1 dX19_text_72 (by decide) (fun c9 => ?_) (fun c9 => ?_)
      · replace hD := g_pos c9 hD
        exact hb129 M L _ _ ls hD hw (lv_sub hl [] rfl)
      · replace hD := g_neg c9 hD
        refine lv_aload_n C.1.1 C.1.2.1 dX19_text_75 rfl (lv_at hl 0 rfl) ?_
        refine mr_getI C hw kc_19 0 (by decide) tf_732 wd_2781 dX19_text_76 (by decide) rfl ?_
        refine lv_if_ne (tgt := 129) C.1.1 C.1.2.1 dX19_text_79 (by decide) (fun c10 => ?_) (fun c10 => ?_)
        · replace hD := g_neg c10 hD
          exact hb129 M L _ _ ls hD hw (lv_sub hl [] rfl)
        · replace hD := g_pos c10 hD
          refine lv_iload_n C.1.1 C.1.2.1 dX19_text_82 rfl (lv_at hl 1 rfl) ?_
          refine lv_iload_n C.1.1 C.1.2.1 dX19_text_83 rfl (lv_at hl 2 rfl) ?_
          refine lv_iload_n C.1.1 C.1.2.1 dX19_text_84 rfl (lv_at hl 3 rfl) ?_
          refine lv_iload C.1.1 C.1.2.1 dX19_text_85 (lv_at hl 4 rfl) ?_
          refine lv_iload C.1.1 C.1.2.1 dX19_text_87 (lv_at hl 5 rfl) ?_
          obtain ⟨r13, M11, L12, h1, hD⟩ := g_b3 hD
          refine md_csI (As := [.int a1, .int a2, .int a3, .int a4, .int v6]) (rest := []) C hw (tX19_character l G ad fu a1 a2 a3 a4 v6 M L h1) wd_3126 cwX19_character ⟨Nat.le_of_ble_eq_true rfl, Nat.le_of_ble_eq_true rfl⟩ rfl hl.1 (Nat.le_of_ble_eq_true rfl) dX19_text_89 rfl rfl ⟨Nat.zero_le _, Nat.zero_le _⟩ rfl (fun H locs hw => ?_)
          refine lv_istore (lv' := [(7, .int r13), (0, .ref (ad 732)), (1, .int a1), (2, .int a2), (3, .int a3), (4, .int a4), (6, .int v6)]) C.1.1 C.1.2.1 dX19_text_92 hl (by decide) rfl (fun ls hl => ?_)
          refine lv_iload C.1.1 C.1.2.1 dX19_text_94 (lv_at hl 0 rfl) ?_
          refine lv_if_ne (tgt := 102) C.1.1 C.1.2.1 dX19_text_96 (by decide) (fun c14 => ?_) (fun c14 => ?_)
          · replace hD := g_neg c14 hD
            refine lv_aload_n C.1.1 C.1.2.1 dX19_text_102 rfl (lv_at hl 1 rfl) ?_
            refine mr_getR C hw kc_19 1 (by decide) tf_732 ff_732_1 wd_2782 dX19_text_103 (by decide) rfl ?_
            refine lv_aload_n C.1.1 C.1.2.1 dX19_text_106 rfl (lv_at hl 1 rfl) ?_
            refine mr_getI C hw kc_19 2 (by decide) tf_732 wd_2783 dX19_text_107 (by decide) rfl ?_
            refine lv_iload C.1.1 C.1.2.1 dX19_text_110 (lv_at hl 0 rfl) ?_
            obtain ⟨q15, hD⟩ := g_ck hD
            obtain ⟨M16, eM16, hD⟩ := g_let hD
            refine mr_iast C hw (by decide) tf_733 q15 dX19_text_112 (fun H locs hw => ?_)
            replace hw : mw_W G ad NF TF FF M16 L12 H locs := by rw [eM16]; exact hw
            refine lv_aload_n C.1.1 C.1.2.1 dX19_text_113 rfl (lv_at hl 1 rfl) ?_
            refine lv_dup C.1.1 C.1.2.1 dX19_text_114 rfl ?_
            refine mr_getI C hw kc_19 2 (by decide) tf_732 wd_2783 dX19_text_115 (by decide) rfl ?_
            refine lv_iconst (v := 1) C.1.1 C.1.2.1 dX19_text_118 (by decide) ?_
            refine lv_iadd C.1.1 C.1.2.1 dX19_text_119 ?_
            obtain ⟨M17, eM17, hD⟩ := g_let hD
            refine mr_putI C hw kc_19 2 (by decide) tf_732 wd_2783 dX19_text_120 (by decide) rfl rfl rfl rfl (fun H locs hw => ?_)
            replace hw : mw_W G ad NF TF FF M17 L12 H locs := by rw [eM17]; exact hw
            exact hb123 v6 M17 L12 _ _ ls hD hw (lv_sub hl [1, 2, 3, 4, 5, 6] rfl)
          · replace hD := g_pos c14 hD
            refine lv_goto (tgt := 123) C.1.1 C.1.2.1 dX19_text_99 (by decide) ?_
            exact hb123 v6 M11 L12 _ _ ls hD hw (lv_sub hl [1, 2, 3, 4, 5, 6] rfl)
  have hb62 : ∀ (s1 : Int32) (M : mwM) (L : mwL) (H : Heap) (locs : List Loc) (ls : Array Slot), fX19_text_b62 fu a1 a2 a3 a4 s1 M L = some (M0, L0) → mw_W G ad NF TF FF M L H locs → lv_has ls 8 [(0, .ref (ad 732)), (1, .int a1), (2, .int a2), (3, .int a3), (4, .int a4)] → W p l e ({ frames := 1, cells := 0, slots := 0, locals := 25 }) s m [.ref (ad 732), .int a1, .int a2, .int a3, .int a4].toArray below meth c H locs 0 0 (MQ below (mw_Qv G ad NF TF FF (mw_eqV M0 L0)) [.ref (ad 732), .int a1, .int a2, .int a3, .int a4].toArray s 0 0 (mw_fr G)) (F0 m 62 ls [.int s1, .ref (ad 732)]) := by
    intro s1 M L H locs ls hD hw hl
    unfold fX19_text_b62 at hD
    obtain ⟨M8, eM8, hD⟩ := g_let hD
    refine mr_putI C hw kc_19 0 (by decide) tf_732 wd_2781 dX19_text_62 (by decide) rfl rfl rfl rfl (fun H locs hw => ?_)
    replace hw : mw_W G ad NF TF FF M8 L H locs := by rw [eM8]; exact hw
    refine lv_iconst (v := 0) C.1.1 C.1.2.1 dX19_text_65 (by decide) ?_
    refine lv_istore (lv' := [(6, .int 0), (0, .ref (ad 732)), (1, .int a1), (2, .int a2), (3, .int a3), (4, .int a4)]) C.1.1 C.1.2.1 dX19_text_66 hl (by decide) rfl (fun ls hl => ?_)
    exact hh68 fu 0 M8 L _ _ ls hD hw (lv_sub hl [1, 2, 3, 4, 5, 0] rfl)
  have hh6 : ∀ (f : Nat) (v5 : Int32) (v6 : Int32) (M : mwM) (L : mwL) (H : Heap) (locs : List Loc) (ls : Array Slot), fX19_text_h6 fu a1 a2 a3 a4 f (v5, v6, M, L) = some (M0, L0) → mw_W G ad NF TF FF M L H locs → lv_has ls 8 [(0, .ref (ad 732)), (1, .int a1), (2, .int a2), (3, .int a3), (4, .int a4), (5, .int v5), (6, .int v6)] → W p l e ({ frames := 1, cells := 0, slots := 0, locals := 25 }) s m [.ref (ad 732), .int a1, .int a2, .int a3, .int a4].toArray below meth c H locs 0 0 (MQ below (mw_Qv G ad NF TF FF (mw_eqV M0 L0)) [.ref (ad 732), .int a1, .int a2, .int a3, .int a4].toArray s 0 0 (mw_fr G)) (F0 m 6 ls []) := by
    intro f
    induction f with
    | zero => intro v5 v6 M L H locs ls hD; cases hD
    | succ f6 ih6 =>
      intro v5 v6 M L H locs ls hD hw hl
      replace hD : fX19_text_i6 fu a1 a2 a3 a4 (fX19_text_h6 fu a1 a2 a3 a4 f6) v5 v6 M L = some (M0, L0) := hD
      have hb35 : ∀ (v6 : Int32) (s0 : Int32) (M : mwM) (L : mwL) (H : Heap) (locs : List Loc) (ls : Array Slot), fX19_text_b35 fu a1 a2 a3 a4 (fX19_text_h6 fu a1 a2 a3 a4 f6) v6 s0 M L = some (M0, L0) → mw_W G ad NF TF FF M L H locs → lv_has ls 8 [(0, .ref (ad 732)), (1, .int a1), (2, .int a2), (3, .int a3), (4, .int a4), (6, .int v6)] → W p l e ({ frames := 1, cells := 0, slots := 0, locals := 25 }) s m [.ref (ad 732), .int a1, .int a2, .int a3, .int a4].toArray below meth c H locs 0 0 (MQ below (mw_Qv G ad NF TF FF (mw_eqV M0 L0)) [.ref (ad 732), .int a1, .int a2, .int a3, .int a4].toArray s 0 0 (mw_fr G)) (F0 m 35 ls [.int s0]) := by
        intro v6 s0 M L H locs ls hD hw hl
        unfold fX19_text_b35 at hD
        refine lv_istore (lv' := [(5, .int s0), (0, .ref (ad 732)), (1, .int a1), (2, .int a2), (3, .int a3), (4, .int a4), (6, .int v6)]) C.1.1 C.1.2.1 dX19_text_35 hl (by decide) rfl (fun ls hl => ?_)
        obtain ⟨x7, ex7, hD⟩ := g_let hD
        refine lv_iinc (v := x7) (lv' := [(6, .int x7), (5, .int s0), (0, .ref (ad 732)), (1, .int a1), (2, .int a2), (3, .int a3), (4, .int a4)]) C.1.1 C.1.2.1 dX19_text_37 hl (k := 6) rfl (by rw [ex7]; rfl) (by decide) rfl (fun ls hl => ?_)
        refine lv_goto (tgt := 6) C.1.1 C.1.2.1 dX19_text_40 (by decide) ?_
        exact ih6 s0 x7 M L _ _ ls hD hw (lv_sub hl [2, 3, 4, 5, 6, 1, 0] rfl)
      unfold fX19_text_i6 at hD
      refine lv_iload C.1.1 C.1.2.1 dX19_text_6 (lv_at hl 6 rfl) ?_
      refine lv_bipush (v := 16) C.1.1 C.1.2.1 dX19_text_8 (by decide) ?_
      refine lv_icmp_ge (tgt := 43) C.1.1 C.1.2.1 dX19_text_10 (by decide) (fun c1 => ?_) (fun c1 => ?_)
      · replace hD := g_pos c1 hD
        refine lv_aload_n C.1.1 C.1.2.1 dX19_text_43 rfl (lv_at hl 0 rfl) ?_
        refine lv_aload_n C.1.1 C.1.2.1 dX19_text_44 rfl (lv_at hl 0 rfl) ?_
        refine mr_getI C hw kc_19 2 (by decide) tf_732 wd_2783 dX19_text_45 (by decide) rfl ?_
        refine lv_iload C.1.1 C.1.2.1 dX19_text_48 (lv_at hl 5 rfl) ?_
        refine lv_iadd C.1.1 C.1.2.1 dX19_text_50 ?_
        refine lv_sipush (v := 6000) C.1.1 C.1.2.1 dX19_text_51 (by decide) ?_
        refine lv_icmp_le (tgt := 61) C.1.1 C.1.2.1 dX19_text_54 (by decide) (fun c2 => ?_) (fun c2 => ?_)
        · replace hD := g_pos c2 hD
          refine lv_iconst (v := 0) C.1.1 C.1.2.1 dX19_text_61 (by decide) ?_
          exact hb62 0 M L _ _ ls hD hw (lv_sub hl [0, 1, 2, 3, 4] rfl)
        · replace hD := g_neg c2 hD
          refine lv_iconst (v := 1) C.1.1 C.1.2.1 dX19_text_57 (by decide) ?_
          refine lv_goto (tgt := 62) C.1.1 C.1.2.1 dX19_text_58 (by decide) ?_
          exact hb62 1 M L _ _ ls hD hw (lv_sub hl [0, 1, 2, 3, 4] rfl)
      · replace hD := g_neg c1 hD
        refine lv_iload_n C.1.1 C.1.2.1 dX19_text_13 rfl (lv_at hl 1 rfl) ?_
        refine lv_iload_n C.1.1 C.1.2.1 dX19_text_14 rfl (lv_at hl 2 rfl) ?_
        refine lv_iload_n C.1.1 C.1.2.1 dX19_text_15 rfl (lv_at hl 3 rfl) ?_
        refine lv_iload C.1.1 C.1.2.1 dX19_text_16 (lv_at hl 4 rfl) ?_
        refine lv_iload C.1.1 C.1.2.1 dX19_text_18 (lv_at hl 6 rfl) ?_
        obtain ⟨r5, M3, L4, h1, hD⟩ := g_b3 hD
        refine md_csI (As := [.int a1, .int a2, .int a3, .int a4, .int v6]) (rest := []) C hw (tX19_character l G ad fu a1 a2 a3 a4 v6 M L h1) wd_3126 cwX19_character ⟨Nat.le_of_ble_eq_true rfl, Nat.le_of_ble_eq_true rfl⟩ rfl hl.1 (Nat.le_of_ble_eq_true rfl) dX19_text_20 rfl rfl ⟨Nat.zero_le _, Nat.zero_le _⟩ rfl (fun H locs hw => ?_)
        refine lv_if_le (tgt := 33) C.1.1 C.1.2.1 dX19_text_23 (by decide) (fun c6 => ?_) (fun c6 => ?_)
        · replace hD := g_pos c6 hD
          refine lv_iload C.1.1 C.1.2.1 dX19_text_33 (lv_at hl 5 rfl) ?_
          exact hb35 v6 v5 M3 L4 _ _ ls hD hw (lv_sub hl [0, 1, 2, 3, 4, 6] rfl)
        · replace hD := g_neg c6 hD
          refine lv_iload C.1.1 C.1.2.1 dX19_text_26 (lv_at hl 5 rfl) ?_
          refine lv_iconst (v := 1) C.1.1 C.1.2.1 dX19_text_28 (by decide) ?_
          refine lv_iadd C.1.1 C.1.2.1 dX19_text_29 ?_
          refine lv_goto (tgt := 35) C.1.1 C.1.2.1 dX19_text_30 (by decide) ?_
          exact hb35 v6 (v5 + 1) M3 L4 _ _ ls hD hw (lv_sub hl [0, 1, 2, 3, 4, 6] rfl)
  unfold DX19_text at hD
  refine lv_iconst (v := 0) C.1.1 C.1.2.1 dX19_text_0 (by decide) ?_
  refine lv_istore (lv' := [(5, .int 0), (0, .ref (ad 732)), (1, .int a1), (2, .int a2), (3, .int a3), (4, .int a4)]) C.1.1 C.1.2.1 dX19_text_1 hl (by decide) rfl (fun ls hl => ?_)
  refine lv_iconst (v := 0) C.1.1 C.1.2.1 dX19_text_3 (by decide) ?_
  refine lv_istore (lv' := [(6, .int 0), (5, .int 0), (0, .ref (ad 732)), (1, .int a1), (2, .int a2), (3, .int a3), (4, .int a4)]) C.1.1 C.1.2.1 dX19_text_4 hl (by decide) rfl (fun ls hl => ?_)
  exact hh6 fu 0 0 M L _ _ ls hD hw (lv_sub hl [2, 3, 4, 5, 6, 1, 0] rfl)

theorem dX19_cut_0 : decode cX19_cut 0 = .ok (.aload_n 0, 1) := by decide +kernel
theorem dX19_cut_1 : decode cX19_cut 1 = .ok (.iload_n 1, 1) := by decide +kernel
theorem dX19_cut_2 : decode cX19_cut 2 = .ok (.ifCond .lt 11, 3) := by decide +kernel
theorem dX19_cut_5 : decode cX19_cut 5 = .ok (.iload_n 1, 1) := by decide +kernel
theorem dX19_cut_6 : decode cX19_cut 6 = .ok (.aload_n 0, 1) := by decide +kernel
theorem dX19_cut_7 : decode cX19_cut 7 = .ok (.getfield 296, 3) := by decide +kernel
theorem dX19_cut_10 : decode cX19_cut 10 = .ok (.if_icmp .le 7, 3) := by decide +kernel
theorem dX19_cut_13 : decode cX19_cut 13 = .ok (.iconst 1, 1) := by decide +kernel
theorem dX19_cut_14 : decode cX19_cut 14 = .ok (.goto 4, 3) := by decide +kernel
theorem dX19_cut_17 : decode cX19_cut 17 = .ok (.iconst 0, 1) := by decide +kernel
theorem dX19_cut_18 : decode cX19_cut 18 = .ok (.putfield 289, 3) := by decide +kernel
theorem dX19_cut_21 : decode cX19_cut 21 = .ok (.aload_n 0, 1) := by decide +kernel
theorem dX19_cut_22 : decode cX19_cut 22 = .ok (.getfield 289, 3) := by decide +kernel
theorem dX19_cut_25 : decode cX19_cut 25 = .ok (.ifCond .le 5, 3) := by decide +kernel
theorem dX19_cut_28 : decode cX19_cut 28 = .ok (.iconst 0, 1) := by decide +kernel
theorem dX19_cut_29 : decode cX19_cut 29 = .ok (.ireturn, 1) := by decide +kernel
theorem dX19_cut_30 : decode cX19_cut 30 = .ok (.aload_n 0, 1) := by decide +kernel
theorem dX19_cut_31 : decode cX19_cut 31 = .ok (.iload_n 1, 1) := by decide +kernel
theorem dX19_cut_32 : decode cX19_cut 32 = .ok (.putfield 296, 3) := by decide +kernel
theorem dX19_cut_35 : decode cX19_cut 35 = .ok (.iload_n 1, 1) := by decide +kernel
theorem dX19_cut_36 : decode cX19_cut 36 = .ok (.ireturn, 1) := by decide +kernel
theorem cwX19_cut : mw_cwV yX19_cut cX19_cut 2 ((some .int)) 1 := ⟨⟨wd_13, wd_3132, by decide +kernel⟩, wd_3130, wd_3131⟩
set_option maxHeartbeats 4000000 in
set_option maxRecDepth 100000 in
theorem tX19_cut (l : Launch) (G : mwG) (ad : Nat → Nat) (fu : Nat) (a1 : Int32) (M : mwM) (L : mwL) {r0 : Int32} {M0 : mwM} {L0 : mwL} (hD : DX19_cut fu a1 M L = some (r0, M0, L0)) : Met l yX19_cut (Cond.code yX19_cut cX19_cut 2 ((some .int)) :: GT) ({ frames := 0, cells := 0, slots := 0, locals := 0 }) (mw_Pre G ad NF TF FF M L [.ref (ad 732), .int a1]) (mw_Qi G ad NF TF FF (mw_eqI r0 M0 L0)) 0 0 (mw_fr G) := by
  refine mw_enter (by decide) (Nat.le_of_ble_eq_true rfl) ?_
  intro p e s m below meth c ls C hr hlocks hnm hw hl
  have hl : lv_has ls 2 [(0, .ref (ad 732)), (1, .int a1)] := hl
  have hb18 : ∀ (s1 : Int32) (M : mwM) (L : mwL) (H : Heap) (locs : List Loc) (ls : Array Slot), fX19_cut_b18 fu a1 s1 M L = some (r0, M0, L0) → mw_W G ad NF TF FF M L H locs → lv_has ls 2 [(0, .ref (ad 732)), (1, .int a1)] → W p l e ({ frames := 0, cells := 0, slots := 0, locals := 0 }) s m [.ref (ad 732), .int a1].toArray below meth c H locs 0 0 (MQ below (mw_Qi G ad NF TF FF (mw_eqI r0 M0 L0)) [.ref (ad 732), .int a1].toArray s 0 0 (mw_fr G)) (F0 m 18 ls [.int s1, .ref (ad 732)]) := by
    intro s1 M L H locs ls hD hw hl
    unfold fX19_cut_b18 at hD
    obtain ⟨M1, eM1, hD⟩ := g_let hD
    refine mr_putI C hw kc_19 0 (by decide) tf_732 wd_2781 dX19_cut_18 (by decide) rfl rfl rfl rfl (fun H locs hw => ?_)
    replace hw : mw_W G ad NF TF FF M1 L H locs := by rw [eM1]; exact hw
    refine lv_aload_n C.1.1 C.1.2.1 dX19_cut_21 rfl (lv_at hl 0 rfl) ?_
    refine mr_getI C hw kc_19 0 (by decide) tf_732 wd_2781 dX19_cut_22 (by decide) rfl ?_
    refine lv_if_le (tgt := 30) C.1.1 C.1.2.1 dX19_cut_25 (by decide) (fun c2 => ?_) (fun c2 => ?_)
    · replace hD := g_pos c2 hD
      refine lv_aload_n C.1.1 C.1.2.1 dX19_cut_30 rfl (lv_at hl 0 rfl) ?_
      refine lv_iload_n C.1.1 C.1.2.1 dX19_cut_31 rfl (lv_at hl 1 rfl) ?_
      obtain ⟨M3, eM3, hD⟩ := g_let hD
      refine mr_putI C hw kc_19 2 (by decide) tf_732 wd_2783 dX19_cut_32 (by decide) rfl rfl rfl rfl (fun H locs hw => ?_)
      replace hw : mw_W G ad NF TF FF M3 L H locs := by rw [eM3]; exact hw
      refine lv_iload_n C.1.1 C.1.2.1 dX19_cut_35 rfl (lv_at hl 1 rfl) ?_
      exact mr_iret C hr hlocks hw rfl (Option.some.inj hD) dX19_cut_36
    · replace hD := g_neg c2 hD
      refine lv_iconst (v := 0) C.1.1 C.1.2.1 dX19_cut_28 (by decide) ?_
      exact mr_iret C hr hlocks hw rfl (Option.some.inj hD) dX19_cut_29
  have hb13 : ∀ (M : mwM) (L : mwL) (H : Heap) (locs : List Loc) (ls : Array Slot), fX19_cut_b13 fu a1 M L = some (r0, M0, L0) → mw_W G ad NF TF FF M L H locs → lv_has ls 2 [(0, .ref (ad 732)), (1, .int a1)] → W p l e ({ frames := 0, cells := 0, slots := 0, locals := 0 }) s m [.ref (ad 732), .int a1].toArray below meth c H locs 0 0 (MQ below (mw_Qi G ad NF TF FF (mw_eqI r0 M0 L0)) [.ref (ad 732), .int a1].toArray s 0 0 (mw_fr G)) (F0 m 13 ls [.ref (ad 732)]) := by
    intro M L H locs ls hD hw hl
    unfold fX19_cut_b13 at hD
    refine lv_iconst (v := 1) C.1.1 C.1.2.1 dX19_cut_13 (by decide) ?_
    refine lv_goto (tgt := 18) C.1.1 C.1.2.1 dX19_cut_14 (by decide) ?_
    exact hb18 1 M L _ _ ls hD hw (lv_sub hl [0, 1] rfl)
  unfold DX19_cut at hD
  refine lv_aload_n C.1.1 C.1.2.1 dX19_cut_0 rfl (lv_at hl 0 rfl) ?_
  refine lv_iload_n C.1.1 C.1.2.1 dX19_cut_1 rfl (lv_at hl 1 rfl) ?_
  refine lv_if_lt (tgt := 13) C.1.1 C.1.2.1 dX19_cut_2 (by decide) (fun c4 => ?_) (fun c4 => ?_)
  · replace hD := g_pos c4 hD
    exact hb13 M L _ _ ls hD hw (lv_sub hl [0, 1] rfl)
  · replace hD := g_neg c4 hD
    refine lv_iload_n C.1.1 C.1.2.1 dX19_cut_5 rfl (lv_at hl 1 rfl) ?_
    refine lv_aload_n C.1.1 C.1.2.1 dX19_cut_6 rfl (lv_at hl 0 rfl) ?_
    refine mr_getI C hw kc_19 2 (by decide) tf_732 wd_2783 dX19_cut_7 (by decide) rfl ?_
    refine lv_icmp_le (tgt := 17) C.1.1 C.1.2.1 dX19_cut_10 (by decide) (fun c5 => ?_) (fun c5 => ?_)
    · replace hD := g_pos c5 hD
      refine lv_iconst (v := 0) C.1.1 C.1.2.1 dX19_cut_17 (by decide) ?_
      exact hb18 0 M L _ _ ls hD hw (lv_sub hl [0, 1] rfl)
    · replace hD := g_neg c5 hD
      exact hb13 M L _ _ ls hD hw (lv_sub hl [0, 1] rfl)

theorem dX19_fail_0 : decode cX19_fail 0 = .ok (.aload_n 0, 1) := by decide +kernel
theorem dX19_fail_1 : decode cX19_fail 1 = .ok (.iload_n 1, 1) := by decide +kernel
theorem dX19_fail_2 : decode cX19_fail 2 = .ok (.putfield 299, 3) := by decide +kernel
theorem dX19_fail_5 : decode cX19_fail 5 = .ok (.aload_n 0, 1) := by decide +kernel
theorem dX19_fail_6 : decode cX19_fail 6 = .ok (.iload_n 2, 1) := by decide +kernel
theorem dX19_fail_7 : decode cX19_fail 7 = .ok (.putfield 302, 3) := by decide +kernel
theorem dX19_fail_10 : decode cX19_fail 10 = .ok (.iconst 0, 1) := by decide +kernel
theorem dX19_fail_11 : decode cX19_fail 11 = .ok (.ireturn, 1) := by decide +kernel
theorem cwX19_fail : mw_cwV yX19_fail cX19_fail 3 ((some .boolean)) 2 := ⟨⟨wd_13, wd_3175, by decide +kernel⟩, wd_3174, sl_155⟩
set_option maxHeartbeats 4000000 in
set_option maxRecDepth 100000 in
theorem tX19_fail (l : Launch) (G : mwG) (ad : Nat → Nat) (fu : Nat) (a1 : Int32) (a2 : Int32) (M : mwM) (L : mwL) {r0 : Int32} {M0 : mwM} {L0 : mwL} (hD : DX19_fail fu a1 a2 M L = some (r0, M0, L0)) : Met l yX19_fail (Cond.code yX19_fail cX19_fail 3 ((some .boolean)) :: GT) ({ frames := 0, cells := 0, slots := 0, locals := 0 }) (mw_Pre G ad NF TF FF M L [.ref (ad 732), .int a1, .int a2]) (mw_Qi G ad NF TF FF (mw_eqI r0 M0 L0)) 0 0 (mw_fr G) := by
  refine mw_enter (by decide) (Nat.le_of_ble_eq_true rfl) ?_
  intro p e s m below meth c ls C hr hlocks hnm hw hl
  have hl : lv_has ls 3 [(0, .ref (ad 732)), (1, .int a1), (2, .int a2)] := hl
  unfold DX19_fail at hD
  refine lv_aload_n C.1.1 C.1.2.1 dX19_fail_0 rfl (lv_at hl 0 rfl) ?_
  refine lv_iload_n C.1.1 C.1.2.1 dX19_fail_1 rfl (lv_at hl 1 rfl) ?_
  obtain ⟨M1, eM1, hD⟩ := g_let hD
  refine mr_putI C hw kc_19 11 (by decide) tf_732 wd_2792 dX19_fail_2 (by decide) rfl rfl rfl rfl (fun H locs hw => ?_)
  replace hw : mw_W G ad NF TF FF M1 L H locs := by rw [eM1]; exact hw
  refine lv_aload_n C.1.1 C.1.2.1 dX19_fail_5 rfl (lv_at hl 0 rfl) ?_
  refine lv_iload_n C.1.1 C.1.2.1 dX19_fail_6 rfl (lv_at hl 2 rfl) ?_
  obtain ⟨M2, eM2, hD⟩ := g_let hD
  refine mr_putI C hw kc_19 12 (by decide) tf_732 wd_2793 dX19_fail_7 (by decide) rfl rfl rfl rfl (fun H locs hw => ?_)
  replace hw : mw_W G ad NF TF FF M2 L H locs := by rw [eM2]; exact hw
  refine lv_iconst (v := 0) C.1.1 C.1.2.1 dX19_fail_10 (by decide) ?_
  exact mr_iret C hr hlocks hw (by decide +kernel) (Option.some.inj hD) dX19_fail_11

theorem dX19_next_0 : decode cX19_next 0 = .ok (.aload_n 0, 1) := by decide +kernel
theorem dX19_next_1 : decode cX19_next 1 = .ok (.getfield 305, 3) := by decide +kernel
theorem dX19_next_4 : decode cX19_next 4 = .ok (.aload_n 0, 1) := by decide +kernel
theorem dX19_next_5 : decode cX19_next 5 = .ok (.getfield 308, 3) := by decide +kernel
theorem dX19_next_8 : decode cX19_next 8 = .ok (.if_icmp .ge 30, 3) := by decide +kernel
theorem dX19_next_11 : decode cX19_next 11 = .ok (.aload_n 0, 1) := by decide +kernel
theorem dX19_next_12 : decode cX19_next 12 = .ok (.getfield 7, 3) := by decide +kernel
theorem dX19_next_15 : decode cX19_next 15 = .ok (.aload_n 0, 1) := by decide +kernel
theorem dX19_next_16 : decode cX19_next 16 = .ok (.getfield 305, 3) := by decide +kernel
theorem dX19_next_19 : decode cX19_next 19 = .ok (.iaload, 1) := by decide +kernel
theorem dX19_next_20 : decode cX19_next 20 = .ok (.bipush 32, 2) := by decide +kernel
theorem dX19_next_22 : decode cX19_next 22 = .ok (.if_icmp .ne 16, 3) := by decide +kernel
theorem dX19_next_25 : decode cX19_next 25 = .ok (.aload_n 0, 1) := by decide +kernel
theorem dX19_next_26 : decode cX19_next 26 = .ok (.dup, 1) := by decide +kernel
theorem dX19_next_27 : decode cX19_next 27 = .ok (.getfield 305, 3) := by decide +kernel
theorem dX19_next_30 : decode cX19_next 30 = .ok (.iconst 1, 1) := by decide +kernel
theorem dX19_next_31 : decode cX19_next 31 = .ok (.iadd, 1) := by decide +kernel
theorem dX19_next_32 : decode cX19_next 32 = .ok (.putfield 305, 3) := by decide +kernel
theorem dX19_next_35 : decode cX19_next 35 = .ok (.goto (-35), 3) := by decide +kernel
theorem dX19_next_38 : decode cX19_next 38 = .ok (.aload_n 0, 1) := by decide +kernel
theorem dX19_next_39 : decode cX19_next 39 = .ok (.getfield 305, 3) := by decide +kernel
theorem dX19_next_42 : decode cX19_next 42 = .ok (.aload_n 0, 1) := by decide +kernel
theorem dX19_next_43 : decode cX19_next 43 = .ok (.getfield 308, 3) := by decide +kernel
theorem dX19_next_46 : decode cX19_next 46 = .ok (.if_icmp .eq 17, 3) := by decide +kernel
theorem dX19_next_49 : decode cX19_next 49 = .ok (.aload_n 0, 1) := by decide +kernel
theorem dX19_next_50 : decode cX19_next 50 = .ok (.getfield 7, 3) := by decide +kernel
theorem dX19_next_53 : decode cX19_next 53 = .ok (.aload_n 0, 1) := by decide +kernel
theorem dX19_next_54 : decode cX19_next 54 = .ok (.getfield 305, 3) := by decide +kernel
theorem dX19_next_57 : decode cX19_next 57 = .ok (.iaload, 1) := by decide +kernel
theorem dX19_next_58 : decode cX19_next 58 = .ok (.bipush 35, 2) := by decide +kernel
theorem dX19_next_60 : decode cX19_next 60 = .ok (.if_icmp .ne 5, 3) := by decide +kernel
theorem dX19_next_63 : decode cX19_next 63 = .ok (.iconst 0, 1) := by decide +kernel
theorem dX19_next_64 : decode cX19_next 64 = .ok (.ireturn, 1) := by decide +kernel
theorem dX19_next_65 : decode cX19_next 65 = .ok (.aload_n 0, 1) := by decide +kernel
theorem dX19_next_66 : decode cX19_next 66 = .ok (.aload_n 0, 1) := by decide +kernel
theorem dX19_next_67 : decode cX19_next 67 = .ok (.getfield 305, 3) := by decide +kernel
theorem dX19_next_70 : decode cX19_next 70 = .ok (.putfield 311, 3) := by decide +kernel
theorem dX19_next_73 : decode cX19_next 73 = .ok (.aload_n 0, 1) := by decide +kernel
theorem dX19_next_74 : decode cX19_next 74 = .ok (.getfield 305, 3) := by decide +kernel
theorem dX19_next_77 : decode cX19_next 77 = .ok (.aload_n 0, 1) := by decide +kernel
theorem dX19_next_78 : decode cX19_next 78 = .ok (.getfield 308, 3) := by decide +kernel
theorem dX19_next_81 : decode cX19_next 81 = .ok (.if_icmp .ge 30, 3) := by decide +kernel
theorem dX19_next_84 : decode cX19_next 84 = .ok (.aload_n 0, 1) := by decide +kernel
theorem dX19_next_85 : decode cX19_next 85 = .ok (.getfield 7, 3) := by decide +kernel
theorem dX19_next_88 : decode cX19_next 88 = .ok (.aload_n 0, 1) := by decide +kernel
theorem dX19_next_89 : decode cX19_next 89 = .ok (.getfield 305, 3) := by decide +kernel
theorem dX19_next_92 : decode cX19_next 92 = .ok (.iaload, 1) := by decide +kernel
theorem dX19_next_93 : decode cX19_next 93 = .ok (.bipush 32, 2) := by decide +kernel
theorem dX19_next_95 : decode cX19_next 95 = .ok (.if_icmp .eq 16, 3) := by decide +kernel
theorem dX19_next_98 : decode cX19_next 98 = .ok (.aload_n 0, 1) := by decide +kernel
theorem dX19_next_99 : decode cX19_next 99 = .ok (.dup, 1) := by decide +kernel
theorem dX19_next_100 : decode cX19_next 100 = .ok (.getfield 305, 3) := by decide +kernel
theorem dX19_next_103 : decode cX19_next 103 = .ok (.iconst 1, 1) := by decide +kernel
theorem dX19_next_104 : decode cX19_next 104 = .ok (.iadd, 1) := by decide +kernel
theorem dX19_next_105 : decode cX19_next 105 = .ok (.putfield 305, 3) := by decide +kernel
theorem dX19_next_108 : decode cX19_next 108 = .ok (.goto (-35), 3) := by decide +kernel
theorem dX19_next_111 : decode cX19_next 111 = .ok (.aload_n 0, 1) := by decide +kernel
theorem dX19_next_112 : decode cX19_next 112 = .ok (.aload_n 0, 1) := by decide +kernel
theorem dX19_next_113 : decode cX19_next 113 = .ok (.getfield 305, 3) := by decide +kernel
theorem dX19_next_116 : decode cX19_next 116 = .ok (.putfield 314, 3) := by decide +kernel
theorem dX19_next_119 : decode cX19_next 119 = .ok (.iconst 1, 1) := by decide +kernel
theorem dX19_next_120 : decode cX19_next 120 = .ok (.ireturn, 1) := by decide +kernel
theorem cwX19_next : mw_cwV yX19_next cX19_next 1 ((some .boolean)) 0 := ⟨⟨wd_13, wd_3148, by decide +kernel⟩, wd_3147, sl_149⟩
set_option maxHeartbeats 4000000 in
set_option maxRecDepth 100000 in
theorem tX19_next (l : Launch) (G : mwG) (ad : Nat → Nat) (fu : Nat) (M : mwM) (L : mwL) {r0 : Int32} {M0 : mwM} {L0 : mwL} (hD : DX19_next fu M L = some (r0, M0, L0)) : Met l yX19_next (Cond.code yX19_next cX19_next 1 ((some .boolean)) :: GT) ({ frames := 0, cells := 0, slots := 0, locals := 0 }) (mw_Pre G ad NF TF FF M L [.ref (ad 732)]) (mw_Qi G ad NF TF FF (mw_eqI r0 M0 L0)) 0 0 (mw_fr G) := by
  refine mw_enter (by decide) (Nat.le_of_ble_eq_true rfl) ?_
  intro p e s m below meth c ls C hr hlocks hnm hw hl
  have hl : lv_has ls 1 [(0, .ref (ad 732))] := hl
  have hb63 : ∀ (M : mwM) (L : mwL) (H : Heap) (locs : List Loc) (ls : Array Slot), fX19_next_b63 fu M L = some (r0, M0, L0) → mw_W G ad NF TF FF M L H locs → lv_has ls 1 [] → W p l e ({ frames := 0, cells := 0, slots := 0, locals := 0 }) s m [.ref (ad 732)].toArray below meth c H locs 0 0 (MQ below (mw_Qi G ad NF TF FF (mw_eqI r0 M0 L0)) [.ref (ad 732)].toArray s 0 0 (mw_fr G)) (F0 m 63 ls []) := by
    intro M L H locs ls hD hw hl
    unfold fX19_next_b63 at hD
    refine lv_iconst (v := 0) C.1.1 C.1.2.1 dX19_next_63 (by decide) ?_
    exact mr_iret C hr hlocks hw (by decide +kernel) (Option.some.inj hD) dX19_next_64
  have hb111 : ∀ (M : mwM) (L : mwL) (H : Heap) (locs : List Loc) (ls : Array Slot), fX19_next_b111 fu M L = some (r0, M0, L0) → mw_W G ad NF TF FF M L H locs → lv_has ls 1 [(0, .ref (ad 732))] → W p l e ({ frames := 0, cells := 0, slots := 0, locals := 0 }) s m [.ref (ad 732)].toArray below meth c H locs 0 0 (MQ below (mw_Qi G ad NF TF FF (mw_eqI r0 M0 L0)) [.ref (ad 732)].toArray s 0 0 (mw_fr G)) (F0 m 111 ls []) := by
    intro M L H locs ls hD hw hl
    unfold fX19_next_b111 at hD
    refine lv_aload_n C.1.1 C.1.2.1 dX19_next_111 rfl (lv_at hl 0 rfl) ?_
    refine lv_aload_n C.1.1 C.1.2.1 dX19_next_112 rfl (lv_at hl 0 rfl) ?_
    refine mr_getI C hw kc_19 6 (by decide) tf_732 wd_2787 dX19_next_113 (by decide) rfl ?_
    obtain ⟨M13, eM13, hD⟩ := g_let hD
    refine mr_putI C hw kc_19 10 (by decide) tf_732 wd_2791 dX19_next_116 (by decide) rfl rfl rfl rfl (fun H locs hw => ?_)
    replace hw : mw_W G ad NF TF FF M13 L H locs := by rw [eM13]; exact hw
    refine lv_iconst (v := 1) C.1.1 C.1.2.1 dX19_next_119 (by decide) ?_
    exact mr_iret C hr hlocks hw (by decide +kernel) (Option.some.inj hD) dX19_next_120
  have hh73 : ∀ (f : Nat) (M : mwM) (L : mwL) (H : Heap) (locs : List Loc) (ls : Array Slot), fX19_next_h73 fu f (M, L) = some (r0, M0, L0) → mw_W G ad NF TF FF M L H locs → lv_has ls 1 [(0, .ref (ad 732))] → W p l e ({ frames := 0, cells := 0, slots := 0, locals := 0 }) s m [.ref (ad 732)].toArray below meth c H locs 0 0 (MQ below (mw_Qi G ad NF TF FF (mw_eqI r0 M0 L0)) [.ref (ad 732)].toArray s 0 0 (mw_fr G)) (F0 m 73 ls []) := by
    intro f
    induction f with
    | zero => intro M L H locs ls hD; cases hD
    | succ f73 ih73 =>
      intro M L H locs ls hD hw hl
      replace hD : fX19_next_i73 fu (fX19_next_h73 fu f73) M L = some (r0, M0, L0) := hD
      unfold fX19_next_i73 at hD
      refine lv_aload_n C.1.1 C.1.2.1 dX19_next_73 rfl (lv_at hl 0 rfl) ?_
      refine mr_getI C hw kc_19 6 (by decide) tf_732 wd_2787 dX19_next_74 (by decide) rfl ?_
      refine lv_aload_n C.1.1 C.1.2.1 dX19_next_77 rfl (lv_at hl 0 rfl) ?_
      refine mr_getI C hw kc_19 7 (by decide) tf_732 wd_2788 dX19_next_78 (by decide) rfl ?_
      refine lv_icmp_ge (tgt := 111) C.1.1 C.1.2.1 dX19_next_81 (by decide) (fun c9 => ?_) (fun c9 => ?_)
      · replace hD := g_pos c9 hD
        exact hb111 M L _ _ ls hD hw (lv_sub hl [0] rfl)
      · replace hD := g_neg c9 hD
        refine lv_aload_n C.1.1 C.1.2.1 dX19_next_84 rfl (lv_at hl 0 rfl) ?_
        refine mr_getR C hw kc_19 1 (by decide) tf_732 ff_732_1 wd_2782 dX19_next_85 (by decide) rfl ?_
        refine lv_aload_n C.1.1 C.1.2.1 dX19_next_88 rfl (lv_at hl 0 rfl) ?_
        refine mr_getI C hw kc_19 6 (by decide) tf_732 wd_2787 dX19_next_89 (by decide) rfl ?_
        obtain ⟨q10, hD⟩ := g_ck hD
        refine mr_iald C hw (by decide) tf_733 q10 dX19_next_92 ?_
        refine lv_bipush (v := 32) C.1.1 C.1.2.1 dX19_next_93 (by decide) ?_
        refine lv_icmp_eq (tgt := 111) C.1.1 C.1.2.1 dX19_next_95 (by decide) (fun c11 => ?_) (fun c11 => ?_)
        · replace hD := g_pos c11 hD
          exact hb111 M L _ _ ls hD hw (lv_sub hl [0] rfl)
        · replace hD := g_neg c11 hD
          refine lv_aload_n C.1.1 C.1.2.1 dX19_next_98 rfl (lv_at hl 0 rfl) ?_
          refine lv_dup C.1.1 C.1.2.1 dX19_next_99 rfl ?_
          refine mr_getI C hw kc_19 6 (by decide) tf_732 wd_2787 dX19_next_100 (by decide) rfl ?_
          refine lv_iconst (v := 1) C.1.1 C.1.2.1 dX19_next_103 (by decide) ?_
          refine lv_iadd C.1.1 C.1.2.1 dX19_next_104 ?_
          obtain ⟨M12, eM12, hD⟩ := g_let hD
          refine mr_putI C hw kc_19 6 (by decide) tf_732 wd_2787 dX19_next_105 (by decide) rfl rfl rfl rfl (fun H locs hw => ?_)
          replace hw : mw_W G ad NF TF FF M12 L H locs := by rw [eM12]; exact hw
          refine lv_goto (tgt := 73) C.1.1 C.1.2.1 dX19_next_108 (by decide) ?_
          exact ih73 M12 L _ _ ls hD hw (lv_sub hl [0] rfl)
  have hb38 : ∀ (M : mwM) (L : mwL) (H : Heap) (locs : List Loc) (ls : Array Slot), fX19_next_b38 fu M L = some (r0, M0, L0) → mw_W G ad NF TF FF M L H locs → lv_has ls 1 [(0, .ref (ad 732))] → W p l e ({ frames := 0, cells := 0, slots := 0, locals := 0 }) s m [.ref (ad 732)].toArray below meth c H locs 0 0 (MQ below (mw_Qi G ad NF TF FF (mw_eqI r0 M0 L0)) [.ref (ad 732)].toArray s 0 0 (mw_fr G)) (F0 m 38 ls []) := by
    intro M L H locs ls hD hw hl
    unfold fX19_next_b38 at hD
    refine lv_aload_n C.1.1 C.1.2.1 dX19_next_38 rfl (lv_at hl 0 rfl) ?_
    refine mr_getI C hw kc_19 6 (by decide) tf_732 wd_2787 dX19_next_39 (by decide) rfl ?_
    refine lv_aload_n C.1.1 C.1.2.1 dX19_next_42 rfl (lv_at hl 0 rfl) ?_
    refine mr_getI C hw kc_19 7 (by decide) tf_732 wd_2788 dX19_next_43 (by decide) rfl ?_
    refine lv_icmp_eq (tgt := 63) C.1.1 C.1.2.1 dX19_next_46 (by decide) (fun c5 => ?_) (fun c5 => ?_)
    · replace hD := g_pos c5 hD
      exact hb63 M L _ _ ls hD hw (lv_sub hl [] rfl)
    · replace hD := g_neg c5 hD
      refine lv_aload_n C.1.1 C.1.2.1 dX19_next_49 rfl (lv_at hl 0 rfl) ?_
      refine mr_getR C hw kc_19 1 (by decide) tf_732 ff_732_1 wd_2782 dX19_next_50 (by decide) rfl ?_
      refine lv_aload_n C.1.1 C.1.2.1 dX19_next_53 rfl (lv_at hl 0 rfl) ?_
      refine mr_getI C hw kc_19 6 (by decide) tf_732 wd_2787 dX19_next_54 (by decide) rfl ?_
      obtain ⟨q6, hD⟩ := g_ck hD
      refine mr_iald C hw (by decide) tf_733 q6 dX19_next_57 ?_
      refine lv_bipush (v := 35) C.1.1 C.1.2.1 dX19_next_58 (by decide) ?_
      refine lv_icmp_ne (tgt := 65) C.1.1 C.1.2.1 dX19_next_60 (by decide) (fun c7 => ?_) (fun c7 => ?_)
      · replace hD := g_neg c7 hD
        refine lv_aload_n C.1.1 C.1.2.1 dX19_next_65 rfl (lv_at hl 0 rfl) ?_
        refine lv_aload_n C.1.1 C.1.2.1 dX19_next_66 rfl (lv_at hl 0 rfl) ?_
        refine mr_getI C hw kc_19 6 (by decide) tf_732 wd_2787 dX19_next_67 (by decide) rfl ?_
        obtain ⟨M8, eM8, hD⟩ := g_let hD
        refine mr_putI C hw kc_19 9 (by decide) tf_732 wd_2790 dX19_next_70 (by decide) rfl rfl rfl rfl (fun H locs hw => ?_)
        replace hw : mw_W G ad NF TF FF M8 L H locs := by rw [eM8]; exact hw
        exact hh73 fu M8 L _ _ ls hD hw (lv_sub hl [0] rfl)
      · replace hD := g_pos c7 hD
        exact hb63 M L _ _ ls hD hw (lv_sub hl [] rfl)
  have hh0 : ∀ (f : Nat) (M : mwM) (L : mwL) (H : Heap) (locs : List Loc) (ls : Array Slot), fX19_next_h0 fu f (M, L) = some (r0, M0, L0) → mw_W G ad NF TF FF M L H locs → lv_has ls 1 [(0, .ref (ad 732))] → W p l e ({ frames := 0, cells := 0, slots := 0, locals := 0 }) s m [.ref (ad 732)].toArray below meth c H locs 0 0 (MQ below (mw_Qi G ad NF TF FF (mw_eqI r0 M0 L0)) [.ref (ad 732)].toArray s 0 0 (mw_fr G)) (F0 m 0 ls []) := by
    intro f
    induction f with
    | zero => intro M L H locs ls hD; cases hD
    | succ f0 ih0 =>
      intro M L H locs ls hD hw hl
      replace hD : fX19_next_i0 fu (fX19_next_h0 fu f0) M L = some (r0, M0, L0) := hD
      unfold fX19_next_i0 at hD
      refine lv_aload_n C.1.1 C.1.2.1 dX19_next_0 rfl (lv_at hl 0 rfl) ?_
      refine mr_getI C hw kc_19 6 (by decide) tf_732 wd_2787 dX19_next_1 (by decide) rfl ?_
      refine lv_aload_n C.1.1 C.1.2.1 dX19_next_4 rfl (lv_at hl 0 rfl) ?_
      refine mr_getI C hw kc_19 7 (by decide) tf_732 wd_2788 dX19_next_5 (by decide) rfl ?_
      refine lv_icmp_ge (tgt := 38) C.1.1 C.1.2.1 dX19_next_8 (by decide) (fun c1 => ?_) (fun c1 => ?_)
      · replace hD := g_pos c1 hD
        exact hb38 M L _ _ ls hD hw (lv_sub hl [0] rfl)
      · replace hD := g_neg c1 hD
        refine lv_aload_n C.1.1 C.1.2.1 dX19_next_11 rfl (lv_at hl 0 rfl) ?_
        refine mr_getR C hw kc_19 1 (by decide) tf_732 ff_732_1 wd_2782 dX19_next_12 (by decide) rfl ?_
        refine lv_aload_n C.1.1 C.1.2.1 dX19_next_15 rfl (lv_at hl 0 rfl) ?_
        refine mr_getI C hw kc_19 6 (by decide) tf_732 wd_2787 dX19_next_16 (by decide) rfl ?_
        obtain ⟨q2, hD⟩ := g_ck hD
        refine mr_iald C hw (by decide) tf_733 q2 dX19_next_19 ?_
        refine lv_bipush (v := 32) C.1.1 C.1.2.1 dX19_next_20 (by decide) ?_
        refine lv_icmp_ne (tgt := 38) C.1.1 C.1.2.1 dX19_next_22 (by decide) (fun c3 => ?_) (fun c3 => ?_)
        · replace hD := g_neg c3 hD
          exact hb38 M L _ _ ls hD hw (lv_sub hl [0] rfl)
        · replace hD := g_pos c3 hD
          refine lv_aload_n C.1.1 C.1.2.1 dX19_next_25 rfl (lv_at hl 0 rfl) ?_
          refine lv_dup C.1.1 C.1.2.1 dX19_next_26 rfl ?_
          refine mr_getI C hw kc_19 6 (by decide) tf_732 wd_2787 dX19_next_27 (by decide) rfl ?_
          refine lv_iconst (v := 1) C.1.1 C.1.2.1 dX19_next_30 (by decide) ?_
          refine lv_iadd C.1.1 C.1.2.1 dX19_next_31 ?_
          obtain ⟨M4, eM4, hD⟩ := g_let hD
          refine mr_putI C hw kc_19 6 (by decide) tf_732 wd_2787 dX19_next_32 (by decide) rfl rfl rfl rfl (fun H locs hw => ?_)
          replace hw : mw_W G ad NF TF FF M4 L H locs := by rw [eM4]; exact hw
          refine lv_goto (tgt := 0) C.1.1 C.1.2.1 dX19_next_35 (by decide) ?_
          exact ih0 M4 L _ _ ls hD hw (lv_sub hl [0] rfl)
  unfold DX19_next at hD
  exact hh0 fu M L _ _ ls hD hw (lv_sub hl [0] rfl)

theorem dX19_must_0 : decode cX19_must 0 = .ok (.aload_n 0, 1) := by decide +kernel
theorem dX19_must_1 : decode cX19_must 1 = .ok (.invokevirtual 317, 3) := by decide +kernel
theorem dX19_must_4 : decode cX19_must 4 = .ok (.ifCond .ne 15, 3) := by decide +kernel
theorem dX19_must_7 : decode cX19_must 7 = .ok (.aload_n 0, 1) := by decide +kernel
theorem dX19_must_8 : decode cX19_must 8 = .ok (.iconst 2, 1) := by decide +kernel
theorem dX19_must_9 : decode cX19_must 9 = .ok (.aload_n 0, 1) := by decide +kernel
theorem dX19_must_10 : decode cX19_must 10 = .ok (.getfield 308, 3) := by decide +kernel
theorem dX19_must_13 : decode cX19_must 13 = .ok (.invokevirtual 321, 3) := by decide +kernel
theorem dX19_must_16 : decode cX19_must 16 = .ok (.ifCond .eq 7, 3) := by decide +kernel
theorem dX19_must_19 : decode cX19_must 19 = .ok (.iconst 1, 1) := by decide +kernel
theorem dX19_must_20 : decode cX19_must 20 = .ok (.goto 4, 3) := by decide +kernel
theorem dX19_must_23 : decode cX19_must 23 = .ok (.iconst 0, 1) := by decide +kernel
theorem dX19_must_24 : decode cX19_must 24 = .ok (.ireturn, 1) := by decide +kernel
theorem cwX19_must : mw_cwV yX19_must cX19_must 1 ((some .boolean)) 0 := ⟨⟨wd_13, wd_3171, by decide +kernel⟩, wd_3170, sl_154⟩
set_option maxHeartbeats 4000000 in
set_option maxRecDepth 100000 in
theorem tX19_must (l : Launch) (G : mwG) (ad : Nat → Nat) (fu : Nat) (M : mwM) (L : mwL) {r0 : Int32} {M0 : mwM} {L0 : mwL} (hD : DX19_must fu M L = some (r0, M0, L0)) : Met l yX19_must (Cond.code yX19_must cX19_must 1 ((some .boolean)) :: GT) ({ frames := 1, cells := 0, slots := 0, locals := 22 }) (mw_Pre G ad NF TF FF M L [.ref (ad 732)]) (mw_Qi G ad NF TF FF (mw_eqI r0 M0 L0)) 0 0 (mw_fr G) := by
  refine mw_enter (by decide) (Nat.le_of_ble_eq_true rfl) ?_
  intro p e s m below meth c ls C hr hlocks hnm hw hl
  have hl : lv_has ls 1 [(0, .ref (ad 732))] := hl
  have hb24 : ∀ (s0 : Int32) (M : mwM) (L : mwL) (H : Heap) (locs : List Loc) (ls : Array Slot), fX19_must_b24 fu s0 M L = some (r0, M0, L0) → mw_W G ad NF TF FF M L H locs → lv_has ls 1 [] → W p l e ({ frames := 1, cells := 0, slots := 0, locals := 22 }) s m [.ref (ad 732)].toArray below meth c H locs 0 0 (MQ below (mw_Qi G ad NF TF FF (mw_eqI r0 M0 L0)) [.ref (ad 732)].toArray s 0 0 (mw_fr G)) (F0 m 24 ls [.int s0]) := by
    intro s0 M L H locs ls hD hw hl
    unfold fX19_must_b24 at hD
    obtain ⟨z1, hD⟩ := g_zz hD
    exact mr_iret C hr hlocks hw (nz_zz z1) (Option.some.inj hD) dX19_must_24
  have hb19 : ∀ (M : mwM) (L : mwL) (H : Heap) (locs : List Loc) (ls : Array Slot), fX19_must_b19 fu M L = some (r0, M0, L0) → mw_W G ad NF TF FF M L H locs → lv_has ls 1 [] → W p l e ({ frames := 1, cells := 0, slots := 0, locals := 22 }) s m [.ref (ad 732)].toArray below meth c H locs 0 0 (MQ below (mw_Qi G ad NF TF FF (mw_eqI r0 M0 L0)) [.ref (ad 732)].toArray s 0 0 (mw_fr G)) (F0 m 19 ls []) := by
    intro M L H locs ls hD hw hl
    unfold fX19_must_b19 at hD
    refine lv_iconst (v := 1) C.1.1 C.1.2.1 dX19_must_19 (by decide) ?_
    refine lv_goto (tgt := 24) C.1.1 C.1.2.1 dX19_must_20 (by decide) ?_
    exact hb24 1 M L _ _ ls hD hw (lv_sub hl [] rfl)
  unfold DX19_must at hD
  refine lv_aload_n C.1.1 C.1.2.1 dX19_must_0 rfl (lv_at hl 0 rfl) ?_
  obtain ⟨r4, M2, L3, h1, hD⟩ := g_b3 hD
  refine md_cvI (As := []) (rest := []) C hw (tX19_next l G ad fu M L h1) kc_19 (by decide) tf_732 wd_3145 cwX19_next ⟨Nat.le_of_ble_eq_true rfl, Nat.le_of_ble_eq_true rfl⟩ rfl hl.1 (Nat.le_of_ble_eq_true rfl) dX19_must_1 rfl rfl ⟨Nat.zero_le _, Nat.zero_le _⟩ rfl (fun H locs hw => ?_)
  refine lv_if_ne (tgt := 19) C.1.1 C.1.2.1 dX19_must_4 (by decide) (fun c5 => ?_) (fun c5 => ?_)
  · replace hD := g_neg c5 hD
    exact hb19 M2 L3 _ _ ls hD hw (lv_sub hl [] rfl)
  · replace hD := g_pos c5 hD
    refine lv_aload_n C.1.1 C.1.2.1 dX19_must_7 rfl (lv_at hl 0 rfl) ?_
    refine lv_iconst (v := 2) C.1.1 C.1.2.1 dX19_must_8 (by decide) ?_
    refine lv_aload_n C.1.1 C.1.2.1 dX19_must_9 rfl (lv_at hl 0 rfl) ?_
    refine mr_getI C hw kc_19 7 (by decide) tf_732 wd_2788 dX19_must_10 (by decide) rfl ?_
    obtain ⟨r8, M6, L7, h1, hD⟩ := g_b3 hD
    refine md_cvI (As := [.int 2, .int (M2 732 7)]) (rest := []) C hw (tX19_fail l G ad fu 2 (M2 732 7) M2 L3 h1) kc_19 (by decide) tf_732 wd_3172 cwX19_fail ⟨Nat.le_of_ble_eq_true rfl, Nat.le_of_ble_eq_true rfl⟩ rfl hl.1 (Nat.le_of_ble_eq_true rfl) dX19_must_13 rfl rfl ⟨Nat.zero_le _, Nat.zero_le _⟩ rfl (fun H locs hw => ?_)
    refine lv_if_eq (tgt := 23) C.1.1 C.1.2.1 dX19_must_16 (by decide) (fun c9 => ?_) (fun c9 => ?_)
    · replace hD := g_pos c9 hD
      refine lv_iconst (v := 0) C.1.1 C.1.2.1 dX19_must_23 (by decide) ?_
      exact hb24 0 M6 L7 _ _ ls hD hw (lv_sub hl [] rfl)
    · replace hD := g_neg c9 hD
      exact hb19 M6 L7 _ _ ls hD hw (lv_sub hl [] rfl)

theorem dX19_end_0 : decode cX19_end 0 = .ok (.aload_n 0, 1) := by decide +kernel
theorem dX19_end_1 : decode cX19_end 1 = .ok (.invokevirtual 317, 3) := by decide +kernel
theorem dX19_end_4 : decode cX19_end 4 = .ok (.ifCond .eq 15, 3) := by decide +kernel
theorem dX19_end_7 : decode cX19_end 7 = .ok (.aload_n 0, 1) := by decide +kernel
theorem dX19_end_8 : decode cX19_end 8 = .ok (.iconst 2, 1) := by decide +kernel
theorem dX19_end_9 : decode cX19_end 9 = .ok (.aload_n 0, 1) := by decide +kernel
theorem dX19_end_10 : decode cX19_end 10 = .ok (.getfield 311, 3) := by decide +kernel
theorem dX19_end_13 : decode cX19_end 13 = .ok (.invokevirtual 321, 3) := by decide +kernel
theorem dX19_end_16 : decode cX19_end 16 = .ok (.ifCond .eq 7, 3) := by decide +kernel
theorem dX19_end_19 : decode cX19_end 19 = .ok (.iconst 1, 1) := by decide +kernel
theorem dX19_end_20 : decode cX19_end 20 = .ok (.goto 4, 3) := by decide +kernel
theorem dX19_end_23 : decode cX19_end 23 = .ok (.iconst 0, 1) := by decide +kernel
theorem dX19_end_24 : decode cX19_end 24 = .ok (.ireturn, 1) := by decide +kernel
theorem cwX19_end : mw_cwV yX19_end cX19_end 1 ((some .boolean)) 0 := ⟨⟨wd_13, wd_3197, by decide +kernel⟩, wd_3196, sl_159⟩
set_option maxHeartbeats 4000000 in
set_option maxRecDepth 100000 in
theorem tX19_end (l : Launch) (G : mwG) (ad : Nat → Nat) (fu : Nat) (M : mwM) (L : mwL) {r0 : Int32} {M0 : mwM} {L0 : mwL} (hD : DX19_end fu M L = some (r0, M0, L0)) : Met l yX19_end (Cond.code yX19_end cX19_end 1 ((some .boolean)) :: GT) ({ frames := 1, cells := 0, slots := 0, locals := 22 }) (mw_Pre G ad NF TF FF M L [.ref (ad 732)]) (mw_Qi G ad NF TF FF (mw_eqI r0 M0 L0)) 0 0 (mw_fr G) := by
  refine mw_enter (by decide) (Nat.le_of_ble_eq_true rfl) ?_
  intro p e s m below meth c ls C hr hlocks hnm hw hl
  have hl : lv_has ls 1 [(0, .ref (ad 732))] := hl
  have hb24 : ∀ (s0 : Int32) (M : mwM) (L : mwL) (H : Heap) (locs : List Loc) (ls : Array Slot), fX19_end_b24 fu s0 M L = some (r0, M0, L0) → mw_W G ad NF TF FF M L H locs → lv_has ls 1 [] → W p l e ({ frames := 1, cells := 0, slots := 0, locals := 22 }) s m [.ref (ad 732)].toArray below meth c H locs 0 0 (MQ below (mw_Qi G ad NF TF FF (mw_eqI r0 M0 L0)) [.ref (ad 732)].toArray s 0 0 (mw_fr G)) (F0 m 24 ls [.int s0]) := by
    intro s0 M L H locs ls hD hw hl
    unfold fX19_end_b24 at hD
    obtain ⟨z1, hD⟩ := g_zz hD
    exact mr_iret C hr hlocks hw (nz_zz z1) (Option.some.inj hD) dX19_end_24
  have hb19 : ∀ (M : mwM) (L : mwL) (H : Heap) (locs : List Loc) (ls : Array Slot), fX19_end_b19 fu M L = some (r0, M0, L0) → mw_W G ad NF TF FF M L H locs → lv_has ls 1 [] → W p l e ({ frames := 1, cells := 0, slots := 0, locals := 22 }) s m [.ref (ad 732)].toArray below meth c H locs 0 0 (MQ below (mw_Qi G ad NF TF FF (mw_eqI r0 M0 L0)) [.ref (ad 732)].toArray s 0 0 (mw_fr G)) (F0 m 19 ls []) := by
    intro M L H locs ls hD hw hl
    unfold fX19_end_b19 at hD
    refine lv_iconst (v := 1) C.1.1 C.1.2.1 dX19_end_19 (by decide) ?_
    refine lv_goto (tgt := 24) C.1.1 C.1.2.1 dX19_end_20 (by decide) ?_
    exact hb24 1 M L _ _ ls hD hw (lv_sub hl [] rfl)
  unfold DX19_end at hD
  refine lv_aload_n C.1.1 C.1.2.1 dX19_end_0 rfl (lv_at hl 0 rfl) ?_
  obtain ⟨r4, M2, L3, h1, hD⟩ := g_b3 hD
  refine md_cvI (As := []) (rest := []) C hw (tX19_next l G ad fu M L h1) kc_19 (by decide) tf_732 wd_3145 cwX19_next ⟨Nat.le_of_ble_eq_true rfl, Nat.le_of_ble_eq_true rfl⟩ rfl hl.1 (Nat.le_of_ble_eq_true rfl) dX19_end_1 rfl rfl ⟨Nat.zero_le _, Nat.zero_le _⟩ rfl (fun H locs hw => ?_)
  refine lv_if_eq (tgt := 19) C.1.1 C.1.2.1 dX19_end_4 (by decide) (fun c5 => ?_) (fun c5 => ?_)
  · replace hD := g_pos c5 hD
    exact hb19 M2 L3 _ _ ls hD hw (lv_sub hl [] rfl)
  · replace hD := g_neg c5 hD
    refine lv_aload_n C.1.1 C.1.2.1 dX19_end_7 rfl (lv_at hl 0 rfl) ?_
    refine lv_iconst (v := 2) C.1.1 C.1.2.1 dX19_end_8 (by decide) ?_
    refine lv_aload_n C.1.1 C.1.2.1 dX19_end_9 rfl (lv_at hl 0 rfl) ?_
    refine mr_getI C hw kc_19 9 (by decide) tf_732 wd_2790 dX19_end_10 (by decide) rfl ?_
    obtain ⟨r8, M6, L7, h1, hD⟩ := g_b3 hD
    refine md_cvI (As := [.int 2, .int (M2 732 9)]) (rest := []) C hw (tX19_fail l G ad fu 2 (M2 732 9) M2 L3 h1) kc_19 (by decide) tf_732 wd_3172 cwX19_fail ⟨Nat.le_of_ble_eq_true rfl, Nat.le_of_ble_eq_true rfl⟩ rfl hl.1 (Nat.le_of_ble_eq_true rfl) dX19_end_13 rfl rfl ⟨Nat.zero_le _, Nat.zero_le _⟩ rfl (fun H locs hw => ?_)
    refine lv_if_eq (tgt := 23) C.1.1 C.1.2.1 dX19_end_16 (by decide) (fun c9 => ?_) (fun c9 => ?_)
    · replace hD := g_pos c9 hD
      refine lv_iconst (v := 0) C.1.1 C.1.2.1 dX19_end_23 (by decide) ?_
      exact hb24 0 M6 L7 _ _ ls hD hw (lv_sub hl [] rfl)
    · replace hD := g_neg c9 hD
      exact hb19 M6 L7 _ _ ls hD hw (lv_sub hl [] rfl)

theorem dX19_is_0 : decode cX19_is 0 = .ok (.lconst 0, 1) := by decide +kernel
theorem dX19_is_1 : decode cX19_is 1 = .ok (.lstore 5, 2) := by decide +kernel
theorem dX19_is_3 : decode cX19_is 3 = .ok (.lconst 0, 1) := by decide +kernel
theorem dX19_is_4 : decode cX19_is 4 = .ok (.lstore 7, 2) := by decide +kernel
theorem dX19_is_6 : decode cX19_is 6 = .ok (.aload_n 0, 1) := by decide +kernel
theorem dX19_is_7 : decode cX19_is 7 = .ok (.getfield 314, 3) := by decide +kernel
theorem dX19_is_10 : decode cX19_is 10 = .ok (.aload_n 0, 1) := by decide +kernel
theorem dX19_is_11 : decode cX19_is 11 = .ok (.getfield 311, 3) := by decide +kernel
theorem dX19_is_14 : decode cX19_is 14 = .ok (.isub, 1) := by decide +kernel
theorem dX19_is_15 : decode cX19_is 15 = .ok (.bipush 10, 2) := by decide +kernel
theorem dX19_is_17 : decode cX19_is 17 = .ok (.if_icmp .le 5, 3) := by decide +kernel
theorem dX19_is_20 : decode cX19_is 20 = .ok (.iconst 0, 1) := by decide +kernel
theorem dX19_is_21 : decode cX19_is 21 = .ok (.ireturn, 1) := by decide +kernel
theorem dX19_is_22 : decode cX19_is 22 = .ok (.aload_n 0, 1) := by decide +kernel
theorem dX19_is_23 : decode cX19_is 23 = .ok (.getfield 314, 3) := by decide +kernel
theorem dX19_is_26 : decode cX19_is 26 = .ok (.iconst 1, 1) := by decide +kernel
theorem dX19_is_27 : decode cX19_is 27 = .ok (.isub, 1) := by decide +kernel
theorem dX19_is_28 : decode cX19_is 28 = .ok (.istore 9, 2) := by decide +kernel
theorem dX19_is_30 : decode cX19_is 30 = .ok (.iload 9, 2) := by decide +kernel
theorem dX19_is_32 : decode cX19_is 32 = .ok (.aload_n 0, 1) := by decide +kernel
theorem dX19_is_33 : decode cX19_is 33 = .ok (.getfield 311, 3) := by decide +kernel
theorem dX19_is_36 : decode cX19_is 36 = .ok (.if_icmp .lt 58, 3) := by decide +kernel
theorem dX19_is_39 : decode cX19_is 39 = .ok (.iload 9, 2) := by decide +kernel
theorem dX19_is_41 : decode cX19_is 41 = .ok (.aload_n 0, 1) := by decide +kernel
theorem dX19_is_42 : decode cX19_is 42 = .ok (.getfield 311, 3) := by decide +kernel
theorem dX19_is_45 : decode cX19_is 45 = .ok (.isub, 1) := by decide +kernel
theorem dX19_is_46 : decode cX19_is 46 = .ok (.bipush 8, 2) := by decide +kernel
theorem dX19_is_48 : decode cX19_is 48 = .ok (.if_icmp .ge 23, 3) := by decide +kernel
theorem dX19_is_51 : decode cX19_is 51 = .ok (.lload 5, 2) := by decide +kernel
theorem dX19_is_53 : decode cX19_is 53 = .ok (.ldc2_w 325, 3) := by decide +kernel
theorem dX19_is_56 : decode cX19_is 56 = .ok (.lmul, 1) := by decide +kernel
theorem dX19_is_57 : decode cX19_is 57 = .ok (.aload_n 0, 1) := by decide +kernel
theorem dX19_is_58 : decode cX19_is 58 = .ok (.getfield 7, 3) := by decide +kernel
theorem dX19_is_61 : decode cX19_is 61 = .ok (.iload 9, 2) := by decide +kernel
theorem dX19_is_63 : decode cX19_is 63 = .ok (.iaload, 1) := by decide +kernel
theorem dX19_is_64 : decode cX19_is 64 = .ok (.i2l, 1) := by decide +kernel
theorem dX19_is_65 : decode cX19_is 65 = .ok (.ladd, 1) := by decide +kernel
theorem dX19_is_66 : decode cX19_is 66 = .ok (.lstore 5, 2) := by decide +kernel
theorem dX19_is_68 : decode cX19_is 68 = .ok (.goto 20, 3) := by decide +kernel
theorem dX19_is_71 : decode cX19_is 71 = .ok (.lload 7, 2) := by decide +kernel
theorem dX19_is_73 : decode cX19_is 73 = .ok (.ldc2_w 325, 3) := by decide +kernel
theorem dX19_is_76 : decode cX19_is 76 = .ok (.lmul, 1) := by decide +kernel
theorem dX19_is_77 : decode cX19_is 77 = .ok (.aload_n 0, 1) := by decide +kernel
theorem dX19_is_78 : decode cX19_is 78 = .ok (.getfield 7, 3) := by decide +kernel
theorem dX19_is_81 : decode cX19_is 81 = .ok (.iload 9, 2) := by decide +kernel
theorem dX19_is_83 : decode cX19_is 83 = .ok (.iaload, 1) := by decide +kernel
theorem dX19_is_84 : decode cX19_is 84 = .ok (.i2l, 1) := by decide +kernel
theorem dX19_is_85 : decode cX19_is 85 = .ok (.ladd, 1) := by decide +kernel
theorem dX19_is_86 : decode cX19_is 86 = .ok (.lstore 7, 2) := by decide +kernel
theorem dX19_is_88 : decode cX19_is 88 = .ok (.iinc 9 (-1), 3) := by decide +kernel
theorem dX19_is_91 : decode cX19_is 91 = .ok (.goto (-61), 3) := by decide +kernel
theorem dX19_is_94 : decode cX19_is 94 = .ok (.lload 5, 2) := by decide +kernel
theorem dX19_is_96 : decode cX19_is 96 = .ok (.lload_n 1, 1) := by decide +kernel
theorem dX19_is_97 : decode cX19_is 97 = .ok (.lcmp, 1) := by decide +kernel
theorem dX19_is_98 : decode cX19_is 98 = .ok (.ifCond .ne 14, 3) := by decide +kernel
theorem dX19_is_101 : decode cX19_is 101 = .ok (.lload 7, 2) := by decide +kernel
theorem dX19_is_103 : decode cX19_is 103 = .ok (.lload_n 3, 1) := by decide +kernel
theorem dX19_is_104 : decode cX19_is 104 = .ok (.lcmp, 1) := by decide +kernel
theorem dX19_is_105 : decode cX19_is 105 = .ok (.ifCond .ne 7, 3) := by decide +kernel
theorem dX19_is_108 : decode cX19_is 108 = .ok (.iconst 1, 1) := by decide +kernel
theorem dX19_is_109 : decode cX19_is 109 = .ok (.goto 4, 3) := by decide +kernel
theorem dX19_is_112 : decode cX19_is 112 = .ok (.iconst 0, 1) := by decide +kernel
theorem dX19_is_113 : decode cX19_is 113 = .ok (.ireturn, 1) := by decide +kernel
theorem cwX19_is : mw_cwV yX19_is cX19_is 10 ((some .boolean)) 2 := ⟨⟨wd_13, wd_3158, by decide +kernel⟩, wd_3157, sl_151⟩
set_option maxHeartbeats 4000000 in
set_option maxRecDepth 100000 in
theorem tX19_is (l : Launch) (G : mwG) (ad : Nat → Nat) (fu : Nat) (a1 : Int64) (a2 : Int64) (M : mwM) (L : mwL) {r0 : Int32} {M0 : mwM} {L0 : mwL} (hD : DX19_is fu a1 a2 M L = some (r0, M0, L0)) : Met l yX19_is (Cond.code yX19_is cX19_is 10 ((some .boolean)) :: GT) ({ frames := 0, cells := 0, slots := 0, locals := 0 }) (mw_Pre G ad NF TF FF M L [.ref (ad 732), .long a1, .long a2]) (mw_Qi G ad NF TF FF (mw_eqI r0 M0 L0)) 0 0 (mw_fr G) := by
  refine mw_enter (by decide) (Nat.le_of_ble_eq_true rfl) ?_
  intro p e s m below meth c ls C hr hlocks hnm hw hl
  have hl : lv_has ls 10 [(0, .ref (ad 732)), (1, .long a1), (3, .long a2)] := hl
  have hb113 : ∀ (s0 : Int32) (M : mwM) (L : mwL) (H : Heap) (locs : List Loc) (ls : Array Slot), fX19_is_b113 fu a1 a2 s0 M L = some (r0, M0, L0) → mw_W G ad NF TF FF M L H locs → lv_has ls 10 [] → W p l e ({ frames := 0, cells := 0, slots := 0, locals := 0 }) s m [.ref (ad 732), .long a1, .long a2].toArray below meth c H locs 0 0 (MQ below (mw_Qi G ad NF TF FF (mw_eqI r0 M0 L0)) [.ref (ad 732), .long a1, .long a2].toArray s 0 0 (mw_fr G)) (F0 m 113 ls [.int s0]) := by
    intro s0 M L H locs ls hD hw hl
    unfold fX19_is_b113 at hD
    obtain ⟨z10, hD⟩ := g_zz hD
    exact mr_iret C hr hlocks hw (nz_zz z10) (Option.some.inj hD) dX19_is_113
  have hb112 : ∀ (M : mwM) (L : mwL) (H : Heap) (locs : List Loc) (ls : Array Slot), fX19_is_b112 fu a1 a2 M L = some (r0, M0, L0) → mw_W G ad NF TF FF M L H locs → lv_has ls 10 [] → W p l e ({ frames := 0, cells := 0, slots := 0, locals := 0 }) s m [.ref (ad 732), .long a1, .long a2].toArray below meth c H locs 0 0 (MQ below (mw_Qi G ad NF TF FF (mw_eqI r0 M0 L0)) [.ref (ad 732), .long a1, .long a2].toArray s 0 0 (mw_fr G)) (F0 m 112 ls []) := by
    intro M L H locs ls hD hw hl
    unfold fX19_is_b112 at hD
    refine lv_iconst (v := 0) C.1.1 C.1.2.1 dX19_is_112 (by decide) ?_
    exact hb113 0 M L _ _ ls hD hw (lv_sub hl [] rfl)
  have hh30 : ∀ (f : Nat) (v5 : Int64) (v7 : Int64) (v9 : Int32) (M : mwM) (L : mwL) (H : Heap) (locs : List Loc) (ls : Array Slot), fX19_is_h30 fu a1 a2 f (v5, v7, v9, M, L) = some (r0, M0, L0) → mw_W G ad NF TF FF M L H locs → lv_has ls 10 [(0, .ref (ad 732)), (1, .long a1), (3, .long a2), (5, .long v5), (7, .long v7), (9, .int v9)] → W p l e ({ frames := 0, cells := 0, slots := 0, locals := 0 }) s m [.ref (ad 732), .long a1, .long a2].toArray below meth c H locs 0 0 (MQ below (mw_Qi G ad NF TF FF (mw_eqI r0 M0 L0)) [.ref (ad 732), .long a1, .long a2].toArray s 0 0 (mw_fr G)) (F0 m 30 ls []) := by
    intro f
    induction f with
    | zero => intro v5 v7 v9 M L H locs ls hD; cases hD
    | succ f30 ih30 =>
      intro v5 v7 v9 M L H locs ls hD hw hl
      replace hD : fX19_is_i30 fu a1 a2 (fX19_is_h30 fu a1 a2 f30) v5 v7 v9 M L = some (r0, M0, L0) := hD
      have hb88 : ∀ (v5 : Int64) (v7 : Int64) (v9 : Int32) (M : mwM) (L : mwL) (H : Heap) (locs : List Loc) (ls : Array Slot), fX19_is_b88 fu a1 a2 (fX19_is_h30 fu a1 a2 f30) v5 v7 v9 M L = some (r0, M0, L0) → mw_W G ad NF TF FF M L H locs → lv_has ls 10 [(0, .ref (ad 732)), (1, .long a1), (3, .long a2), (5, .long v5), (7, .long v7), (9, .int v9)] → W p l e ({ frames := 0, cells := 0, slots := 0, locals := 0 }) s m [.ref (ad 732), .long a1, .long a2].toArray below meth c H locs 0 0 (MQ below (mw_Qi G ad NF TF FF (mw_eqI r0 M0 L0)) [.ref (ad 732), .long a1, .long a2].toArray s 0 0 (mw_fr G)) (F0 m 88 ls []) := by
        intro v5 v7 v9 M L H locs ls hD hw hl
        unfold fX19_is_b88 at hD
        obtain ⟨x9, ex9, hD⟩ := g_let hD
        refine lv_iinc (v := x9) (lv' := [(9, .int x9), (0, .ref (ad 732)), (1, .long a1), (3, .long a2), (5, .long v5), (7, .long v7)]) C.1.1 C.1.2.1 dX19_is_88 hl (k := 5) rfl (by rw [ex9]; rfl) (by decide) rfl (fun ls hl => ?_)
        refine lv_goto (tgt := 30) C.1.1 C.1.2.1 dX19_is_91 (by decide) ?_
        exact ih30 v5 v7 x9 M L _ _ ls hD hw (lv_sub hl [1, 2, 3, 4, 5, 0] rfl)
      unfold fX19_is_i30 at hD
      refine lv_iload C.1.1 C.1.2.1 dX19_is_30 (lv_at hl 5 rfl) ?_
      refine lv_aload_n C.1.1 C.1.2.1 dX19_is_32 rfl (lv_at hl 0 rfl) ?_
      refine mr_getI C hw kc_19 9 (by decide) tf_732 wd_2790 dX19_is_33 (by decide) rfl ?_
      refine lv_icmp_lt (tgt := 94) C.1.1 C.1.2.1 dX19_is_36 (by decide) (fun c1 => ?_) (fun c1 => ?_)
      · replace hD := g_pos c1 hD
        refine lv_lload C.1.1 C.1.2.1 dX19_is_94 (lv_at hl 3 rfl) ?_
        refine lv_lload_n C.1.1 C.1.2.1 dX19_is_96 rfl (lv_at hl 1 rfl) ?_
        refine W.lcmp C.1.1 C.1.2.1 dX19_is_97 ?_
        refine lv_if_ne (tgt := 112) C.1.1 C.1.2.1 dX19_is_98 (by decide) (fun c2 => ?_) (fun c2 => ?_)
        · replace hD := g_neg c2 hD
          exact hb112 M L _ _ ls hD hw (lv_sub hl [] rfl)
        · replace hD := g_pos c2 hD
          refine lv_lload C.1.1 C.1.2.1 dX19_is_101 (lv_at hl 4 rfl) ?_
          refine lv_lload_n C.1.1 C.1.2.1 dX19_is_103 rfl (lv_at hl 2 rfl) ?_
          refine W.lcmp C.1.1 C.1.2.1 dX19_is_104 ?_
          refine lv_if_ne (tgt := 112) C.1.1 C.1.2.1 dX19_is_105 (by decide) (fun c3 => ?_) (fun c3 => ?_)
          · replace hD := g_neg c3 hD
            exact hb112 M L _ _ ls hD hw (lv_sub hl [] rfl)
          · replace hD := g_pos c3 hD
            refine lv_iconst (v := 1) C.1.1 C.1.2.1 dX19_is_108 (by decide) ?_
            refine lv_goto (tgt := 113) C.1.1 C.1.2.1 dX19_is_109 (by decide) ?_
            exact hb113 1 M L _ _ ls hD hw (lv_sub hl [] rfl)
      · replace hD := g_neg c1 hD
        refine lv_iload C.1.1 C.1.2.1 dX19_is_39 (lv_at hl 5 rfl) ?_
        refine lv_aload_n C.1.1 C.1.2.1 dX19_is_41 rfl (lv_at hl 0 rfl) ?_
        refine mr_getI C hw kc_19 9 (by decide) tf_732 wd_2790 dX19_is_42 (by decide) rfl ?_
        refine lv_isub C.1.1 C.1.2.1 dX19_is_45 ?_
        refine lv_bipush (v := 8) C.1.1 C.1.2.1 dX19_is_46 (by decide) ?_
        refine lv_icmp_ge (tgt := 71) C.1.1 C.1.2.1 dX19_is_48 (by decide) (fun c4 => ?_) (fun c4 => ?_)
        · replace hD := g_pos c4 hD
          refine lv_lload C.1.1 C.1.2.1 dX19_is_71 (lv_at hl 4 rfl) ?_
          refine lv_ldc2 (v := 256) C.1.1 C.1.2.1 C.1.2.2.2.1 (C.1.2.2.2.2 _ wd_3159) dX19_is_73 ?_
          refine lv_lmul C.1.1 C.1.2.1 dX19_is_76 ?_
          refine lv_aload_n C.1.1 C.1.2.1 dX19_is_77 rfl (lv_at hl 0 rfl) ?_
          refine mr_getR C hw kc_19 1 (by decide) tf_732 ff_732_1 wd_2782 dX19_is_78 (by decide) rfl ?_
          refine lv_iload C.1.1 C.1.2.1 dX19_is_81 (lv_at hl 5 rfl) ?_
          obtain ⟨q5, hD⟩ := g_ck hD
          refine mr_iald C hw (by decide) tf_733 q5 dX19_is_83 ?_
          refine lv_i2l C.1.1 C.1.2.1 dX19_is_84 rfl ?_
          refine lv_ladd C.1.1 C.1.2.1 dX19_is_85 ?_
          obtain ⟨x6, ex6, hD⟩ := g_let hD
          refine W.eq (g2 := F0 m 86 ls (.long x6 :: [])) (by rw [ex6]) ?_
          refine lv_lstore (lv' := [(7, .long x6), (0, .ref (ad 732)), (1, .long a1), (3, .long a2), (5, .long v5), (9, .int v9)]) C.1.1 C.1.2.1 dX19_is_86 hl (by decide) rfl (fun ls hl => ?_)
          exact hb88 v5 x6 v9 M L _ _ ls hD hw (lv_sub hl [1, 2, 3, 4, 0, 5] rfl)
        · replace hD := g_neg c4 hD
          refine lv_lload C.1.1 C.1.2.1 dX19_is_51 (lv_at hl 3 rfl) ?_
          refine lv_ldc2 (v := 256) C.1.1 C.1.2.1 C.1.2.2.2.1 (C.1.2.2.2.2 _ wd_3159) dX19_is_53 ?_
          refine lv_lmul C.1.1 C.1.2.1 dX19_is_56 ?_
          refine lv_aload_n C.1.1 C.1.2.1 dX19_is_57 rfl (lv_at hl 0 rfl) ?_
          refine mr_getR C hw kc_19 1 (by decide) tf_732 ff_732_1 wd_2782 dX19_is_58 (by decide) rfl ?_
          refine lv_iload C.1.1 C.1.2.1 dX19_is_61 (lv_at hl 5 rfl) ?_
          obtain ⟨q7, hD⟩ := g_ck hD
          refine mr_iald C hw (by decide) tf_733 q7 dX19_is_63 ?_
          refine lv_i2l C.1.1 C.1.2.1 dX19_is_64 rfl ?_
          refine lv_ladd C.1.1 C.1.2.1 dX19_is_65 ?_
          obtain ⟨x8, ex8, hD⟩ := g_let hD
          refine W.eq (g2 := F0 m 66 ls (.long x8 :: [])) (by rw [ex8]) ?_
          refine lv_lstore (lv' := [(5, .long x8), (0, .ref (ad 732)), (1, .long a1), (3, .long a2), (7, .long v7), (9, .int v9)]) C.1.1 C.1.2.1 dX19_is_66 hl (by decide) rfl (fun ls hl => ?_)
          refine lv_goto (tgt := 88) C.1.1 C.1.2.1 dX19_is_68 (by decide) ?_
          exact hb88 x8 v7 v9 M L _ _ ls hD hw (lv_sub hl [1, 2, 3, 0, 4, 5] rfl)
  unfold DX19_is at hD
  refine lv_lconst (v := 0) C.1.1 C.1.2.1 dX19_is_0 (by decide) ?_
  refine lv_lstore (lv' := [(5, .long 0), (0, .ref (ad 732)), (1, .long a1), (3, .long a2)]) C.1.1 C.1.2.1 dX19_is_1 hl (by decide) rfl (fun ls hl => ?_)
  refine lv_lconst (v := 0) C.1.1 C.1.2.1 dX19_is_3 (by decide) ?_
  refine lv_lstore (lv' := [(7, .long 0), (5, .long 0), (0, .ref (ad 732)), (1, .long a1), (3, .long a2)]) C.1.1 C.1.2.1 dX19_is_4 hl (by decide) rfl (fun ls hl => ?_)
  refine lv_aload_n C.1.1 C.1.2.1 dX19_is_6 rfl (lv_at hl 2 rfl) ?_
  refine mr_getI C hw kc_19 10 (by decide) tf_732 wd_2791 dX19_is_7 (by decide) rfl ?_
  refine lv_aload_n C.1.1 C.1.2.1 dX19_is_10 rfl (lv_at hl 2 rfl) ?_
  refine mr_getI C hw kc_19 9 (by decide) tf_732 wd_2790 dX19_is_11 (by decide) rfl ?_
  refine lv_isub C.1.1 C.1.2.1 dX19_is_14 ?_
  refine lv_bipush (v := 10) C.1.1 C.1.2.1 dX19_is_15 (by decide) ?_
  refine lv_icmp_le (tgt := 22) C.1.1 C.1.2.1 dX19_is_17 (by decide) (fun c11 => ?_) (fun c11 => ?_)
  · replace hD := g_pos c11 hD
    refine lv_aload_n C.1.1 C.1.2.1 dX19_is_22 rfl (lv_at hl 2 rfl) ?_
    refine mr_getI C hw kc_19 10 (by decide) tf_732 wd_2791 dX19_is_23 (by decide) rfl ?_
    refine lv_iconst (v := 1) C.1.1 C.1.2.1 dX19_is_26 (by decide) ?_
    refine lv_isub C.1.1 C.1.2.1 dX19_is_27 ?_
    obtain ⟨x12, ex12, hD⟩ := g_let hD
    refine W.eq (g2 := F0 m 28 ls (.int x12 :: [])) (by rw [ex12]) ?_
    refine lv_istore (lv' := [(9, .int x12), (7, .long 0), (5, .long 0), (0, .ref (ad 732)), (1, .long a1), (3, .long a2)]) C.1.1 C.1.2.1 dX19_is_28 hl (by decide) rfl (fun ls hl => ?_)
    exact hh30 fu 0 0 x12 M L _ _ ls hD hw (lv_sub hl [3, 4, 5, 2, 1, 0] rfl)
  · replace hD := g_neg c11 hD
    refine lv_iconst (v := 0) C.1.1 C.1.2.1 dX19_is_20 (by decide) ?_
    exact mr_iret C hr hlocks hw (by decide +kernel) (Option.some.inj hD) dX19_is_21

theorem dX19_takes_0 : decode cX19_takes 0 = .ok (.aload_n 0, 1) := by decide +kernel
theorem dX19_takes_1 : decode cX19_takes 1 = .ok (.getfield 305, 3) := by decide +kernel
theorem dX19_takes_4 : decode cX19_takes 4 = .ok (.istore_n 3, 1) := by decide +kernel
theorem dX19_takes_5 : decode cX19_takes 5 = .ok (.aload_n 0, 1) := by decide +kernel
theorem dX19_takes_6 : decode cX19_takes 6 = .ok (.invokevirtual 317, 3) := by decide +kernel
theorem dX19_takes_9 : decode cX19_takes 9 = .ok (.ifCond .eq 14, 3) := by decide +kernel
theorem dX19_takes_12 : decode cX19_takes 12 = .ok (.aload_n 0, 1) := by decide +kernel
theorem dX19_takes_13 : decode cX19_takes 13 = .ok (.lload_n 1, 1) := by decide +kernel
theorem dX19_takes_14 : decode cX19_takes 14 = .ok (.lconst 0, 1) := by decide +kernel
theorem dX19_takes_15 : decode cX19_takes 15 = .ok (.invokevirtual 327, 3) := by decide +kernel
theorem dX19_takes_18 : decode cX19_takes 18 = .ok (.ifCond .eq 5, 3) := by decide +kernel
theorem dX19_takes_21 : decode cX19_takes 21 = .ok (.iconst 1, 1) := by decide +kernel
theorem dX19_takes_22 : decode cX19_takes 22 = .ok (.ireturn, 1) := by decide +kernel
theorem dX19_takes_23 : decode cX19_takes 23 = .ok (.aload_n 0, 1) := by decide +kernel
theorem dX19_takes_24 : decode cX19_takes 24 = .ok (.iload_n 3, 1) := by decide +kernel
theorem dX19_takes_25 : decode cX19_takes 25 = .ok (.putfield 305, 3) := by decide +kernel
theorem dX19_takes_28 : decode cX19_takes 28 = .ok (.iconst 0, 1) := by decide +kernel
theorem dX19_takes_29 : decode cX19_takes 29 = .ok (.ireturn, 1) := by decide +kernel
theorem cwX19_takes : mw_cwV yX19_takes cX19_takes 4 ((some .boolean)) 1 := ⟨⟨wd_13, wd_3245, by decide +kernel⟩, wd_3244, sl_169⟩
set_option maxHeartbeats 4000000 in
set_option maxRecDepth 100000 in
theorem tX19_takes (l : Launch) (G : mwG) (ad : Nat → Nat) (fu : Nat) (a1 : Int64) (M : mwM) (L : mwL) {r0 : Int32} {M0 : mwM} {L0 : mwL} (hD : DX19_takes fu a1 M L = some (r0, M0, L0)) : Met l yX19_takes (Cond.code yX19_takes cX19_takes 4 ((some .boolean)) :: GT) ({ frames := 1, cells := 0, slots := 0, locals := 29 }) (mw_Pre G ad NF TF FF M L [.ref (ad 732), .long a1]) (mw_Qi G ad NF TF FF (mw_eqI r0 M0 L0)) 0 0 (mw_fr G) := by
  refine mw_enter (by decide) (Nat.le_of_ble_eq_true rfl) ?_
  intro p e s m below meth c ls C hr hlocks hnm hw hl
  have hl : lv_has ls 4 [(0, .ref (ad 732)), (1, .long a1)] := hl
  have hb23 : ∀ (v3 : Int32) (M : mwM) (L : mwL) (H : Heap) (locs : List Loc) (ls : Array Slot), fX19_takes_b23 fu a1 v3 M L = some (r0, M0, L0) → mw_W G ad NF TF FF M L H locs → lv_has ls 4 [(0, .ref (ad 732)), (3, .int v3)] → W p l e ({ frames := 1, cells := 0, slots := 0, locals := 29 }) s m [.ref (ad 732), .long a1].toArray below meth c H locs 0 0 (MQ below (mw_Qi G ad NF TF FF (mw_eqI r0 M0 L0)) [.ref (ad 732), .long a1].toArray s 0 0 (mw_fr G)) (F0 m 23 ls []) := by
    intro v3 M L H locs ls hD hw hl
    unfold fX19_takes_b23 at hD
    refine lv_aload_n C.1.1 C.1.2.1 dX19_takes_23 rfl (lv_at hl 0 rfl) ?_
    refine lv_iload_n C.1.1 C.1.2.1 dX19_takes_24 rfl (lv_at hl 1 rfl) ?_
    obtain ⟨M1, eM1, hD⟩ := g_let hD
    refine mr_putI C hw kc_19 6 (by decide) tf_732 wd_2787 dX19_takes_25 (by decide) rfl rfl rfl rfl (fun H locs hw => ?_)
    replace hw : mw_W G ad NF TF FF M1 L H locs := by rw [eM1]; exact hw
    refine lv_iconst (v := 0) C.1.1 C.1.2.1 dX19_takes_28 (by decide) ?_
    exact mr_iret C hr hlocks hw (by decide +kernel) (Option.some.inj hD) dX19_takes_29
  unfold DX19_takes at hD
  refine lv_aload_n C.1.1 C.1.2.1 dX19_takes_0 rfl (lv_at hl 0 rfl) ?_
  refine mr_getI C hw kc_19 6 (by decide) tf_732 wd_2787 dX19_takes_1 (by decide) rfl ?_
  obtain ⟨x2, ex2, hD⟩ := g_let hD
  refine W.eq (g2 := F0 m 4 ls (.int x2 :: [])) (by rw [ex2]) ?_
  refine lv_istore_n (lv' := [(3, .int x2), (0, .ref (ad 732)), (1, .long a1)]) C.1.1 C.1.2.1 dX19_takes_4 rfl hl (by decide) rfl (fun ls hl => ?_)
  refine lv_aload_n C.1.1 C.1.2.1 dX19_takes_5 rfl (lv_at hl 1 rfl) ?_
  obtain ⟨r5, M3, L4, h1, hD⟩ := g_b3 hD
  refine md_cvI (As := []) (rest := []) C hw (tX19_next l G ad fu M L h1) kc_19 (by decide) tf_732 wd_3145 cwX19_next ⟨Nat.le_of_ble_eq_true rfl, Nat.le_of_ble_eq_true rfl⟩ rfl hl.1 (Nat.le_of_ble_eq_true rfl) dX19_takes_6 rfl rfl ⟨Nat.zero_le _, Nat.zero_le _⟩ rfl (fun H locs hw => ?_)
  refine lv_if_eq (tgt := 23) C.1.1 C.1.2.1 dX19_takes_9 (by decide) (fun c6 => ?_) (fun c6 => ?_)
  · replace hD := g_pos c6 hD
    exact hb23 x2 M3 L4 _ _ ls hD hw (lv_sub hl [1, 0] rfl)
  · replace hD := g_neg c6 hD
    refine lv_aload_n C.1.1 C.1.2.1 dX19_takes_12 rfl (lv_at hl 1 rfl) ?_
    refine lv_lload_n C.1.1 C.1.2.1 dX19_takes_13 rfl (lv_at hl 2 rfl) ?_
    refine lv_lconst (v := 0) C.1.1 C.1.2.1 dX19_takes_14 (by decide) ?_
    obtain ⟨r9, M7, L8, h1, hD⟩ := g_b3 hD
    refine md_cvI (As := [.long a1, .long 0]) (rest := []) C hw (tX19_is l G ad fu a1 0 M3 L4 h1) kc_19 (by decide) tf_732 wd_3155 cwX19_is ⟨Nat.le_of_ble_eq_true rfl, Nat.le_of_ble_eq_true rfl⟩ rfl hl.1 (Nat.le_of_ble_eq_true rfl) dX19_takes_15 rfl rfl ⟨Nat.zero_le _, Nat.zero_le _⟩ rfl (fun H locs hw => ?_)
    refine lv_if_eq (tgt := 23) C.1.1 C.1.2.1 dX19_takes_18 (by decide) (fun c10 => ?_) (fun c10 => ?_)
    · replace hD := g_pos c10 hD
      exact hb23 x2 M7 L8 _ _ ls hD hw (lv_sub hl [1, 0] rfl)
    · replace hD := g_neg c10 hD
      refine lv_iconst (v := 1) C.1.1 C.1.2.1 dX19_takes_21 (by decide) ?_
      exact mr_iret C hr hlocks hw (by decide +kernel) (Option.some.inj hD) dX19_takes_22

theorem dX19_letter_0 : decode cX19_letter 0 = .ok (.iload_n 0, 1) := by decide +kernel
theorem dX19_letter_1 : decode cX19_letter 1 = .ok (.bipush 97, 2) := by decide +kernel
theorem dX19_letter_3 : decode cX19_letter 3 = .ok (.if_icmp .lt 13, 3) := by decide +kernel
theorem dX19_letter_6 : decode cX19_letter 6 = .ok (.iload_n 0, 1) := by decide +kernel
theorem dX19_letter_7 : decode cX19_letter 7 = .ok (.bipush 122, 2) := by decide +kernel
theorem dX19_letter_9 : decode cX19_letter 9 = .ok (.if_icmp .gt 7, 3) := by decide +kernel
theorem dX19_letter_12 : decode cX19_letter 12 = .ok (.iconst 1, 1) := by decide +kernel
theorem dX19_letter_13 : decode cX19_letter 13 = .ok (.goto 4, 3) := by decide +kernel
theorem dX19_letter_16 : decode cX19_letter 16 = .ok (.iconst 0, 1) := by decide +kernel
theorem dX19_letter_17 : decode cX19_letter 17 = .ok (.ireturn, 1) := by decide +kernel
theorem cwX19_letter : mw_cwS yX19_letter cX19_letter 1 ((some .boolean)) 1 := ⟨⟨wd_13, wd_3182, by decide +kernel⟩, wd_3181⟩
set_option maxHeartbeats 4000000 in
set_option maxRecDepth 100000 in
theorem tX19_letter (l : Launch) (G : mwG) (ad : Nat → Nat) (fu : Nat) (a1 : Int32) (M : mwM) (L : mwL) {r0 : Int32} {M0 : mwM} {L0 : mwL} (hD : DX19_letter fu a1 M L = some (r0, M0, L0)) : Met l yX19_letter (Cond.code yX19_letter cX19_letter 1 ((some .boolean)) :: GT) ({ frames := 0, cells := 0, slots := 0, locals := 0 }) (mw_Pre G ad NF TF FF M L [.int a1]) (mw_Qi G ad NF TF FF (mw_eqI r0 M0 L0)) 0 0 (mw_fr G) := by
  refine mw_enter (by decide) (Nat.le_of_ble_eq_true rfl) ?_
  intro p e s m below meth c ls C hr hlocks hnm hw hl
  have hl : lv_has ls 1 [(0, .int a1)] := hl
  have hb17 : ∀ (s0 : Int32) (M : mwM) (L : mwL) (H : Heap) (locs : List Loc) (ls : Array Slot), fX19_letter_b17 fu a1 s0 M L = some (r0, M0, L0) → mw_W G ad NF TF FF M L H locs → lv_has ls 1 [] → W p l e ({ frames := 0, cells := 0, slots := 0, locals := 0 }) s m [.int a1].toArray below meth c H locs 0 0 (MQ below (mw_Qi G ad NF TF FF (mw_eqI r0 M0 L0)) [.int a1].toArray s 0 0 (mw_fr G)) (F0 m 17 ls [.int s0]) := by
    intro s0 M L H locs ls hD hw hl
    unfold fX19_letter_b17 at hD
    obtain ⟨z1, hD⟩ := g_zz hD
    exact mr_iret C hr hlocks hw (nz_zz z1) (Option.some.inj hD) dX19_letter_17
  have hb16 : ∀ (M : mwM) (L : mwL) (H : Heap) (locs : List Loc) (ls : Array Slot), fX19_letter_b16 fu a1 M L = some (r0, M0, L0) → mw_W G ad NF TF FF M L H locs → lv_has ls 1 [] → W p l e ({ frames := 0, cells := 0, slots := 0, locals := 0 }) s m [.int a1].toArray below meth c H locs 0 0 (MQ below (mw_Qi G ad NF TF FF (mw_eqI r0 M0 L0)) [.int a1].toArray s 0 0 (mw_fr G)) (F0 m 16 ls []) := by
    intro M L H locs ls hD hw hl
    unfold fX19_letter_b16 at hD
    refine lv_iconst (v := 0) C.1.1 C.1.2.1 dX19_letter_16 (by decide) ?_
    exact hb17 0 M L _ _ ls hD hw (lv_sub hl [] rfl)
  unfold DX19_letter at hD
  refine lv_iload_n C.1.1 C.1.2.1 dX19_letter_0 rfl (lv_at hl 0 rfl) ?_
  refine lv_bipush (v := 97) C.1.1 C.1.2.1 dX19_letter_1 (by decide) ?_
  refine lv_icmp_lt (tgt := 16) C.1.1 C.1.2.1 dX19_letter_3 (by decide) (fun c2 => ?_) (fun c2 => ?_)
  · replace hD := g_pos c2 hD
    exact hb16 M L _ _ ls hD hw (lv_sub hl [] rfl)
  · replace hD := g_neg c2 hD
    refine lv_iload_n C.1.1 C.1.2.1 dX19_letter_6 rfl (lv_at hl 0 rfl) ?_
    refine lv_bipush (v := 122) C.1.1 C.1.2.1 dX19_letter_7 (by decide) ?_
    refine lv_icmp_gt (tgt := 16) C.1.1 C.1.2.1 dX19_letter_9 (by decide) (fun c3 => ?_) (fun c3 => ?_)
    · replace hD := g_pos c3 hD
      exact hb16 M L _ _ ls hD hw (lv_sub hl [] rfl)
    · replace hD := g_neg c3 hD
      refine lv_iconst (v := 1) C.1.1 C.1.2.1 dX19_letter_12 (by decide) ?_
      refine lv_goto (tgt := 17) C.1.1 C.1.2.1 dX19_letter_13 (by decide) ?_
      exact hb17 1 M L _ _ ls hD hw (lv_sub hl [] rfl)

theorem dX19_digit_0 : decode cX19_digit 0 = .ok (.iload_n 0, 1) := by decide +kernel
theorem dX19_digit_1 : decode cX19_digit 1 = .ok (.bipush 48, 2) := by decide +kernel
theorem dX19_digit_3 : decode cX19_digit 3 = .ok (.if_icmp .lt 13, 3) := by decide +kernel
theorem dX19_digit_6 : decode cX19_digit 6 = .ok (.iload_n 0, 1) := by decide +kernel
theorem dX19_digit_7 : decode cX19_digit 7 = .ok (.bipush 57, 2) := by decide +kernel
theorem dX19_digit_9 : decode cX19_digit 9 = .ok (.if_icmp .gt 7, 3) := by decide +kernel
theorem dX19_digit_12 : decode cX19_digit 12 = .ok (.iconst 1, 1) := by decide +kernel
theorem dX19_digit_13 : decode cX19_digit 13 = .ok (.goto 4, 3) := by decide +kernel
theorem dX19_digit_16 : decode cX19_digit 16 = .ok (.iconst 0, 1) := by decide +kernel
theorem dX19_digit_17 : decode cX19_digit 17 = .ok (.ireturn, 1) := by decide +kernel
theorem cwX19_digit : mw_cwS yX19_digit cX19_digit 1 ((some .boolean)) 1 := ⟨⟨wd_13, wd_3185, by decide +kernel⟩, wd_3184⟩
set_option maxHeartbeats 4000000 in
set_option maxRecDepth 100000 in
theorem tX19_digit (l : Launch) (G : mwG) (ad : Nat → Nat) (fu : Nat) (a1 : Int32) (M : mwM) (L : mwL) {r0 : Int32} {M0 : mwM} {L0 : mwL} (hD : DX19_digit fu a1 M L = some (r0, M0, L0)) : Met l yX19_digit (Cond.code yX19_digit cX19_digit 1 ((some .boolean)) :: GT) ({ frames := 0, cells := 0, slots := 0, locals := 0 }) (mw_Pre G ad NF TF FF M L [.int a1]) (mw_Qi G ad NF TF FF (mw_eqI r0 M0 L0)) 0 0 (mw_fr G) := by
  refine mw_enter (by decide) (Nat.le_of_ble_eq_true rfl) ?_
  intro p e s m below meth c ls C hr hlocks hnm hw hl
  have hl : lv_has ls 1 [(0, .int a1)] := hl
  have hb17 : ∀ (s0 : Int32) (M : mwM) (L : mwL) (H : Heap) (locs : List Loc) (ls : Array Slot), fX19_digit_b17 fu a1 s0 M L = some (r0, M0, L0) → mw_W G ad NF TF FF M L H locs → lv_has ls 1 [] → W p l e ({ frames := 0, cells := 0, slots := 0, locals := 0 }) s m [.int a1].toArray below meth c H locs 0 0 (MQ below (mw_Qi G ad NF TF FF (mw_eqI r0 M0 L0)) [.int a1].toArray s 0 0 (mw_fr G)) (F0 m 17 ls [.int s0]) := by
    intro s0 M L H locs ls hD hw hl
    unfold fX19_digit_b17 at hD
    obtain ⟨z1, hD⟩ := g_zz hD
    exact mr_iret C hr hlocks hw (nz_zz z1) (Option.some.inj hD) dX19_digit_17
  have hb16 : ∀ (M : mwM) (L : mwL) (H : Heap) (locs : List Loc) (ls : Array Slot), fX19_digit_b16 fu a1 M L = some (r0, M0, L0) → mw_W G ad NF TF FF M L H locs → lv_has ls 1 [] → W p l e ({ frames := 0, cells := 0, slots := 0, locals := 0 }) s m [.int a1].toArray below meth c H locs 0 0 (MQ below (mw_Qi G ad NF TF FF (mw_eqI r0 M0 L0)) [.int a1].toArray s 0 0 (mw_fr G)) (F0 m 16 ls []) := by
    intro M L H locs ls hD hw hl
    unfold fX19_digit_b16 at hD
    refine lv_iconst (v := 0) C.1.1 C.1.2.1 dX19_digit_16 (by decide) ?_
    exact hb17 0 M L _ _ ls hD hw (lv_sub hl [] rfl)
  unfold DX19_digit at hD
  refine lv_iload_n C.1.1 C.1.2.1 dX19_digit_0 rfl (lv_at hl 0 rfl) ?_
  refine lv_bipush (v := 48) C.1.1 C.1.2.1 dX19_digit_1 (by decide) ?_
  refine lv_icmp_lt (tgt := 16) C.1.1 C.1.2.1 dX19_digit_3 (by decide) (fun c2 => ?_) (fun c2 => ?_)
  · replace hD := g_pos c2 hD
    exact hb16 M L _ _ ls hD hw (lv_sub hl [] rfl)
  · replace hD := g_neg c2 hD
    refine lv_iload_n C.1.1 C.1.2.1 dX19_digit_6 rfl (lv_at hl 0 rfl) ?_
    refine lv_bipush (v := 57) C.1.1 C.1.2.1 dX19_digit_7 (by decide) ?_
    refine lv_icmp_gt (tgt := 16) C.1.1 C.1.2.1 dX19_digit_9 (by decide) (fun c3 => ?_) (fun c3 => ?_)
    · replace hD := g_pos c3 hD
      exact hb16 M L _ _ ls hD hw (lv_sub hl [] rfl)
    · replace hD := g_neg c3 hD
      refine lv_iconst (v := 1) C.1.1 C.1.2.1 dX19_digit_12 (by decide) ?_
      refine lv_goto (tgt := 17) C.1.1 C.1.2.1 dX19_digit_13 (by decide) ?_
      exact hb17 1 M L _ _ ls hD hw (lv_sub hl [] rfl)

theorem dX19_isName_0 : decode cX19_isName 0 = .ok (.aload_n 0, 1) := by decide +kernel
theorem dX19_isName_1 : decode cX19_isName 1 = .ok (.getfield 314, 3) := by decide +kernel
theorem dX19_isName_4 : decode cX19_isName 4 = .ok (.aload_n 0, 1) := by decide +kernel
theorem dX19_isName_5 : decode cX19_isName 5 = .ok (.getfield 311, 3) := by decide +kernel
theorem dX19_isName_8 : decode cX19_isName 8 = .ok (.isub, 1) := by decide +kernel
theorem dX19_isName_9 : decode cX19_isName 9 = .ok (.bipush 10, 2) := by decide +kernel
theorem dX19_isName_11 : decode cX19_isName 11 = .ok (.if_icmp .gt 22, 3) := by decide +kernel
theorem dX19_isName_14 : decode cX19_isName 14 = .ok (.aload_n 0, 1) := by decide +kernel
theorem dX19_isName_15 : decode cX19_isName 15 = .ok (.getfield 7, 3) := by decide +kernel
theorem dX19_isName_18 : decode cX19_isName 18 = .ok (.aload_n 0, 1) := by decide +kernel
theorem dX19_isName_19 : decode cX19_isName 19 = .ok (.getfield 311, 3) := by decide +kernel
theorem dX19_isName_22 : decode cX19_isName 22 = .ok (.iaload, 1) := by decide +kernel
theorem dX19_isName_23 : decode cX19_isName 23 = .ok (.invokestatic 331, 3) := by decide +kernel
theorem dX19_isName_26 : decode cX19_isName 26 = .ok (.ifCond .eq 7, 3) := by decide +kernel
theorem dX19_isName_29 : decode cX19_isName 29 = .ok (.iconst 1, 1) := by decide +kernel
theorem dX19_isName_30 : decode cX19_isName 30 = .ok (.goto 4, 3) := by decide +kernel
theorem dX19_isName_33 : decode cX19_isName 33 = .ok (.iconst 0, 1) := by decide +kernel
theorem dX19_isName_34 : decode cX19_isName 34 = .ok (.istore_n 1, 1) := by decide +kernel
theorem dX19_isName_35 : decode cX19_isName 35 = .ok (.aload_n 0, 1) := by decide +kernel
theorem dX19_isName_36 : decode cX19_isName 36 = .ok (.getfield 311, 3) := by decide +kernel
theorem dX19_isName_39 : decode cX19_isName 39 = .ok (.istore_n 2, 1) := by decide +kernel
theorem dX19_isName_40 : decode cX19_isName 40 = .ok (.iload_n 2, 1) := by decide +kernel
theorem dX19_isName_41 : decode cX19_isName 41 = .ok (.aload_n 0, 1) := by decide +kernel
theorem dX19_isName_42 : decode cX19_isName 42 = .ok (.getfield 314, 3) := by decide +kernel
theorem dX19_isName_45 : decode cX19_isName 45 = .ok (.if_icmp .ge 43, 3) := by decide +kernel
theorem dX19_isName_48 : decode cX19_isName 48 = .ok (.iload_n 1, 1) := by decide +kernel
theorem dX19_isName_49 : decode cX19_isName 49 = .ok (.ifCond .eq 31, 3) := by decide +kernel
theorem dX19_isName_52 : decode cX19_isName 52 = .ok (.aload_n 0, 1) := by decide +kernel
theorem dX19_isName_53 : decode cX19_isName 53 = .ok (.getfield 7, 3) := by decide +kernel
theorem dX19_isName_56 : decode cX19_isName 56 = .ok (.iload_n 2, 1) := by decide +kernel
theorem dX19_isName_57 : decode cX19_isName 57 = .ok (.iaload, 1) := by decide +kernel
theorem dX19_isName_58 : decode cX19_isName 58 = .ok (.invokestatic 331, 3) := by decide +kernel
theorem dX19_isName_61 : decode cX19_isName 61 = .ok (.ifCond .ne 15, 3) := by decide +kernel
theorem dX19_isName_64 : decode cX19_isName 64 = .ok (.aload_n 0, 1) := by decide +kernel
theorem dX19_isName_65 : decode cX19_isName 65 = .ok (.getfield 7, 3) := by decide +kernel
theorem dX19_isName_68 : decode cX19_isName 68 = .ok (.iload_n 2, 1) := by decide +kernel
theorem dX19_isName_69 : decode cX19_isName 69 = .ok (.iaload, 1) := by decide +kernel
theorem dX19_isName_70 : decode cX19_isName 70 = .ok (.invokestatic 335, 3) := by decide +kernel
theorem dX19_isName_73 : decode cX19_isName 73 = .ok (.ifCond .eq 7, 3) := by decide +kernel
theorem dX19_isName_76 : decode cX19_isName 76 = .ok (.iconst 1, 1) := by decide +kernel
theorem dX19_isName_77 : decode cX19_isName 77 = .ok (.goto 4, 3) := by decide +kernel
theorem dX19_isName_80 : decode cX19_isName 80 = .ok (.iconst 0, 1) := by decide +kernel
theorem dX19_isName_81 : decode cX19_isName 81 = .ok (.istore_n 1, 1) := by decide +kernel
theorem dX19_isName_82 : decode cX19_isName 82 = .ok (.iinc 2 1, 3) := by decide +kernel
theorem dX19_isName_85 : decode cX19_isName 85 = .ok (.goto (-45), 3) := by decide +kernel
theorem dX19_isName_88 : decode cX19_isName 88 = .ok (.iload_n 1, 1) := by decide +kernel
theorem dX19_isName_89 : decode cX19_isName 89 = .ok (.ireturn, 1) := by decide +kernel
theorem cwX19_isName : mw_cwV yX19_isName cX19_isName 3 ((some .boolean)) 0 := ⟨⟨wd_13, wd_3179, by decide +kernel⟩, wd_3178, sl_156⟩
set_option maxHeartbeats 4000000 in
set_option maxRecDepth 100000 in
theorem tX19_isName (l : Launch) (G : mwG) (ad : Nat → Nat) (fu : Nat) (M : mwM) (L : mwL) {r0 : Int32} {M0 : mwM} {L0 : mwL} (hD : DX19_isName fu M L = some (r0, M0, L0)) : Met l yX19_isName (Cond.code yX19_isName cX19_isName 3 ((some .boolean)) :: GT) ({ frames := 1, cells := 0, slots := 0, locals := 20 }) (mw_Pre G ad NF TF FF M L [.ref (ad 732)]) (mw_Qi G ad NF TF FF (mw_eqI r0 M0 L0)) 0 0 (mw_fr G) := by
  refine mw_enter (by decide) (Nat.le_of_ble_eq_true rfl) ?_
  intro p e s m below meth c ls C hr hlocks hnm hw hl
  have hl : lv_has ls 3 [(0, .ref (ad 732))] := hl
  have hh40 : ∀ (f : Nat) (v1 : Int32) (v2 : Int32) (M : mwM) (L : mwL) (H : Heap) (locs : List Loc) (ls : Array Slot), fX19_isName_h40 fu f (v1, v2, M, L) = some (r0, M0, L0) → mw_W G ad NF TF FF M L H locs → lv_has ls 3 [(0, .ref (ad 732)), (1, .int v1), (2, .int v2)] → W p l e ({ frames := 1, cells := 0, slots := 0, locals := 20 }) s m [.ref (ad 732)].toArray below meth c H locs 0 0 (MQ below (mw_Qi G ad NF TF FF (mw_eqI r0 M0 L0)) [.ref (ad 732)].toArray s 0 0 (mw_fr G)) (F0 m 40 ls []) := by
    intro f
    induction f with
    | zero => intro v1 v2 M L H locs ls hD; cases hD
    | succ f40 ih40 =>
      intro v1 v2 M L H locs ls hD hw hl
      replace hD : fX19_isName_i40 fu (fX19_isName_h40 fu f40) v1 v2 M L = some (r0, M0, L0) := hD
      have hb81 : ∀ (v2 : Int32) (s0 : Int32) (M : mwM) (L : mwL) (H : Heap) (locs : List Loc) (ls : Array Slot), fX19_isName_b81 fu (fX19_isName_h40 fu f40) v2 s0 M L = some (r0, M0, L0) → mw_W G ad NF TF FF M L H locs → lv_has ls 3 [(0, .ref (ad 732)), (2, .int v2)] → W p l e ({ frames := 1, cells := 0, slots := 0, locals := 20 }) s m [.ref (ad 732)].toArray below meth c H locs 0 0 (MQ below (mw_Qi G ad NF TF FF (mw_eqI r0 M0 L0)) [.ref (ad 732)].toArray s 0 0 (mw_fr G)) (F0 m 81 ls [.int s0]) := by
        intro v2 s0 M L H locs ls hD hw hl
        unfold fX19_isName_b81 at hD
        refine lv_istore_n (lv' := [(1, .int s0), (0, .ref (ad 732)), (2, .int v2)]) C.1.1 C.1.2.1 dX19_isName_81 rfl hl (by decide) rfl (fun ls hl => ?_)
        obtain ⟨x15, ex15, hD⟩ := g_let hD
        refine lv_iinc (v := x15) (lv' := [(2, .int x15), (1, .int s0), (0, .ref (ad 732))]) C.1.1 C.1.2.1 dX19_isName_82 hl (k := 2) rfl (by rw [ex15]; rfl) (by decide) rfl (fun ls hl => ?_)
        refine lv_goto (tgt := 40) C.1.1 C.1.2.1 dX19_isName_85 (by decide) ?_
        exact ih40 s0 x15 M L _ _ ls hD hw (lv_sub hl [2, 1, 0] rfl)
      have hb80 : ∀ (v2 : Int32) (M : mwM) (L : mwL) (H : Heap) (locs : List Loc) (ls : Array Slot), fX19_isName_b80 fu (fX19_isName_h40 fu f40) v2 M L = some (r0, M0, L0) → mw_W G ad NF TF FF M L H locs → lv_has ls 3 [(0, .ref (ad 732)), (2, .int v2)] → W p l e ({ frames := 1, cells := 0, slots := 0, locals := 20 }) s m [.ref (ad 732)].toArray below meth c H locs 0 0 (MQ below (mw_Qi G ad NF TF FF (mw_eqI r0 M0 L0)) [.ref (ad 732)].toArray s 0 0 (mw_fr G)) (F0 m 80 ls []) := by
        intro v2 M L H locs ls hD hw hl
        unfold fX19_isName_b80 at hD
        refine lv_iconst (v := 0) C.1.1 C.1.2.1 dX19_isName_80 (by decide) ?_
        exact hb81 v2 0 M L _ _ ls hD hw (lv_sub hl [0, 1] rfl)
      have hb76 : ∀ (v2 : Int32) (M : mwM) (L : mwL) (H : Heap) (locs : List Loc) (ls : Array Slot), fX19_isName_b76 fu (fX19_isName_h40 fu f40) v2 M L = some (r0, M0, L0) → mw_W G ad NF TF FF M L H locs → lv_has ls 3 [(0, .ref (ad 732)), (2, .int v2)] → W p l e ({ frames := 1, cells := 0, slots := 0, locals := 20 }) s m [.ref (ad 732)].toArray below meth c H locs 0 0 (MQ below (mw_Qi G ad NF TF FF (mw_eqI r0 M0 L0)) [.ref (ad 732)].toArray s 0 0 (mw_fr G)) (F0 m 76 ls []) := by
        intro v2 M L H locs ls hD hw hl
        unfold fX19_isName_b76 at hD
        refine lv_iconst (v := 1) C.1.1 C.1.2.1 dX19_isName_76 (by decide) ?_
        refine lv_goto (tgt := 81) C.1.1 C.1.2.1 dX19_isName_77 (by decide) ?_
        exact hb81 v2 1 M L _ _ ls hD hw (lv_sub hl [0, 1] rfl)
      unfold fX19_isName_i40 at hD
      refine lv_iload_n C.1.1 C.1.2.1 dX19_isName_40 rfl (lv_at hl 2 rfl) ?_
      refine lv_aload_n C.1.1 C.1.2.1 dX19_isName_41 rfl (lv_at hl 0 rfl) ?_
      refine mr_getI C hw kc_19 10 (by decide) tf_732 wd_2791 dX19_isName_42 (by decide) rfl ?_
      refine lv_icmp_ge (tgt := 88) C.1.1 C.1.2.1 dX19_isName_45 (by decide) (fun c2 => ?_) (fun c2 => ?_)
      · replace hD := g_pos c2 hD
        refine lv_iload_n C.1.1 C.1.2.1 dX19_isName_88 rfl (lv_at hl 1 rfl) ?_
        obtain ⟨z3, hD⟩ := g_zz hD
        exact mr_iret C hr hlocks hw (nz_zz z3) (Option.some.inj hD) dX19_isName_89
      · replace hD := g_neg c2 hD
        refine lv_iload_n C.1.1 C.1.2.1 dX19_isName_48 rfl (lv_at hl 1 rfl) ?_
        refine lv_if_eq (tgt := 80) C.1.1 C.1.2.1 dX19_isName_49 (by decide) (fun c4 => ?_) (fun c4 => ?_)
        · replace hD := g_pos c4 hD
          exact hb80 v2 M L _ _ ls hD hw (lv_sub hl [0, 2] rfl)
        · replace hD := g_neg c4 hD
          refine lv_aload_n C.1.1 C.1.2.1 dX19_isName_52 rfl (lv_at hl 0 rfl) ?_
          refine mr_getR C hw kc_19 1 (by decide) tf_732 ff_732_1 wd_2782 dX19_isName_53 (by decide) rfl ?_
          refine lv_iload_n C.1.1 C.1.2.1 dX19_isName_56 rfl (lv_at hl 2 rfl) ?_
          obtain ⟨q5, hD⟩ := g_ck hD
          refine mr_iald C hw (by decide) tf_733 q5 dX19_isName_57 ?_
          obtain ⟨r8, M6, L7, h1, hD⟩ := g_b3 hD
          refine md_csI (As := [.int (M 733 v2.toNatClampNeg)]) (rest := []) C hw (tX19_letter l G ad fu (M 733 v2.toNatClampNeg) M L h1) wd_3180 cwX19_letter ⟨Nat.le_of_ble_eq_true rfl, Nat.le_of_ble_eq_true rfl⟩ rfl hl.1 (Nat.le_of_ble_eq_true rfl) dX19_isName_58 rfl rfl ⟨Nat.zero_le _, Nat.zero_le _⟩ rfl (fun H locs hw => ?_)
          refine lv_if_ne (tgt := 76) C.1.1 C.1.2.1 dX19_isName_61 (by decide) (fun c9 => ?_) (fun c9 => ?_)
          · replace hD := g_neg c9 hD
            exact hb76 v2 M6 L7 _ _ ls hD hw (lv_sub hl [0, 2] rfl)
          · replace hD := g_pos c9 hD
            refine lv_aload_n C.1.1 C.1.2.1 dX19_isName_64 rfl (lv_at hl 0 rfl) ?_
            refine mr_getR C hw kc_19 1 (by decide) tf_732 ff_732_1 wd_2782 dX19_isName_65 (by decide) rfl ?_
            refine lv_iload_n C.1.1 C.1.2.1 dX19_isName_68 rfl (lv_at hl 2 rfl) ?_
            obtain ⟨q10, hD⟩ := g_ck hD
            refine mr_iald C hw (by decide) tf_733 q10 dX19_isName_69 ?_
            obtain ⟨r13, M11, L12, h1, hD⟩ := g_b3 hD
            refine md_csI (As := [.int (M6 733 v2.toNatClampNeg)]) (rest := []) C hw (tX19_digit l G ad fu (M6 733 v2.toNatClampNeg) M6 L7 h1) wd_3183 cwX19_digit ⟨Nat.le_of_ble_eq_true rfl, Nat.le_of_ble_eq_true rfl⟩ rfl hl.1 (Nat.le_of_ble_eq_true rfl) dX19_isName_70 rfl rfl ⟨Nat.zero_le _, Nat.zero_le _⟩ rfl (fun H locs hw => ?_)
            refine lv_if_eq (tgt := 80) C.1.1 C.1.2.1 dX19_isName_73 (by decide) (fun c14 => ?_) (fun c14 => ?_)
            · replace hD := g_pos c14 hD
              exact hb80 v2 M11 L12 _ _ ls hD hw (lv_sub hl [0, 2] rfl)
            · replace hD := g_neg c14 hD
              exact hb76 v2 M11 L12 _ _ ls hD hw (lv_sub hl [0, 2] rfl)
  have hb34 : ∀ (s0 : Int32) (M : mwM) (L : mwL) (H : Heap) (locs : List Loc) (ls : Array Slot), fX19_isName_b34 fu s0 M L = some (r0, M0, L0) → mw_W G ad NF TF FF M L H locs → lv_has ls 3 [(0, .ref (ad 732))] → W p l e ({ frames := 1, cells := 0, slots := 0, locals := 20 }) s m [.ref (ad 732)].toArray below meth c H locs 0 0 (MQ below (mw_Qi G ad NF TF FF (mw_eqI r0 M0 L0)) [.ref (ad 732)].toArray s 0 0 (mw_fr G)) (F0 m 34 ls [.int s0]) := by
    intro s0 M L H locs ls hD hw hl
    unfold fX19_isName_b34 at hD
    refine lv_istore_n (lv' := [(1, .int s0), (0, .ref (ad 732))]) C.1.1 C.1.2.1 dX19_isName_34 rfl hl (by decide) rfl (fun ls hl => ?_)
    refine lv_aload_n C.1.1 C.1.2.1 dX19_isName_35 rfl (lv_at hl 1 rfl) ?_
    refine mr_getI C hw kc_19 9 (by decide) tf_732 wd_2790 dX19_isName_36 (by decide) rfl ?_
    obtain ⟨x1, ex1, hD⟩ := g_let hD
    refine W.eq (g2 := F0 m 39 ls (.int x1 :: [])) (by rw [ex1]) ?_
    refine lv_istore_n (lv' := [(2, .int x1), (1, .int s0), (0, .ref (ad 732))]) C.1.1 C.1.2.1 dX19_isName_39 rfl hl (by decide) rfl (fun ls hl => ?_)
    exact hh40 fu s0 x1 M L _ _ ls hD hw (lv_sub hl [2, 1, 0] rfl)
  have hb33 : ∀ (M : mwM) (L : mwL) (H : Heap) (locs : List Loc) (ls : Array Slot), fX19_isName_b33 fu M L = some (r0, M0, L0) → mw_W G ad NF TF FF M L H locs → lv_has ls 3 [(0, .ref (ad 732))] → W p l e ({ frames := 1, cells := 0, slots := 0, locals := 20 }) s m [.ref (ad 732)].toArray below meth c H locs 0 0 (MQ below (mw_Qi G ad NF TF FF (mw_eqI r0 M0 L0)) [.ref (ad 732)].toArray s 0 0 (mw_fr G)) (F0 m 33 ls []) := by
    intro M L H locs ls hD hw hl
    unfold fX19_isName_b33 at hD
    refine lv_iconst (v := 0) C.1.1 C.1.2.1 dX19_isName_33 (by decide) ?_
    exact hb34 0 M L _ _ ls hD hw (lv_sub hl [0] rfl)
  unfold DX19_isName at hD
  refine lv_aload_n C.1.1 C.1.2.1 dX19_isName_0 rfl (lv_at hl 0 rfl) ?_
  refine mr_getI C hw kc_19 10 (by decide) tf_732 wd_2791 dX19_isName_1 (by decide) rfl ?_
  refine lv_aload_n C.1.1 C.1.2.1 dX19_isName_4 rfl (lv_at hl 0 rfl) ?_
  refine mr_getI C hw kc_19 9 (by decide) tf_732 wd_2790 dX19_isName_5 (by decide) rfl ?_
  refine lv_isub C.1.1 C.1.2.1 dX19_isName_8 ?_
  refine lv_bipush (v := 10) C.1.1 C.1.2.1 dX19_isName_9 (by decide) ?_
  refine lv_icmp_gt (tgt := 33) C.1.1 C.1.2.1 dX19_isName_11 (by decide) (fun c16 => ?_) (fun c16 => ?_)
  · replace hD := g_pos c16 hD
    exact hb33 M L _ _ ls hD hw (lv_sub hl [0] rfl)
  · replace hD := g_neg c16 hD
    refine lv_aload_n C.1.1 C.1.2.1 dX19_isName_14 rfl (lv_at hl 0 rfl) ?_
    refine mr_getR C hw kc_19 1 (by decide) tf_732 ff_732_1 wd_2782 dX19_isName_15 (by decide) rfl ?_
    refine lv_aload_n C.1.1 C.1.2.1 dX19_isName_18 rfl (lv_at hl 0 rfl) ?_
    refine mr_getI C hw kc_19 9 (by decide) tf_732 wd_2790 dX19_isName_19 (by decide) rfl ?_
    obtain ⟨q17, hD⟩ := g_ck hD
    refine mr_iald C hw (by decide) tf_733 q17 dX19_isName_22 ?_
    obtain ⟨r20, M18, L19, h1, hD⟩ := g_b3 hD
    refine md_csI (As := [.int (M 733 (M 732 9).toNatClampNeg)]) (rest := []) C hw (tX19_letter l G ad fu (M 733 (M 732 9).toNatClampNeg) M L h1) wd_3180 cwX19_letter ⟨Nat.le_of_ble_eq_true rfl, Nat.le_of_ble_eq_true rfl⟩ rfl hl.1 (Nat.le_of_ble_eq_true rfl) dX19_isName_23 rfl rfl ⟨Nat.zero_le _, Nat.zero_le _⟩ rfl (fun H locs hw => ?_)
    refine lv_if_eq (tgt := 33) C.1.1 C.1.2.1 dX19_isName_26 (by decide) (fun c21 => ?_) (fun c21 => ?_)
    · replace hD := g_pos c21 hD
      exact hb33 M18 L19 _ _ ls hD hw (lv_sub hl [0] rfl)
    · replace hD := g_neg c21 hD
      refine lv_iconst (v := 1) C.1.1 C.1.2.1 dX19_isName_29 (by decide) ?_
      refine lv_goto (tgt := 34) C.1.1 C.1.2.1 dX19_isName_30 (by decide) ?_
      exact hb34 1 M18 L19 _ _ ls hD hw (lv_sub hl [0] rfl)

theorem dX19_isNumber_0 : decode cX19_isNumber 0 = .ok (.aload_n 0, 1) := by decide +kernel
theorem dX19_isNumber_1 : decode cX19_isNumber 1 = .ok (.getfield 7, 3) := by decide +kernel
theorem dX19_isNumber_4 : decode cX19_isNumber 4 = .ok (.aload_n 0, 1) := by decide +kernel
theorem dX19_isNumber_5 : decode cX19_isNumber 5 = .ok (.getfield 311, 3) := by decide +kernel
theorem dX19_isNumber_8 : decode cX19_isNumber 8 = .ok (.iaload, 1) := by decide +kernel
theorem dX19_isNumber_9 : decode cX19_isNumber 9 = .ok (.bipush 45, 2) := by decide +kernel
theorem dX19_isNumber_11 : decode cX19_isNumber 11 = .ok (.if_icmp .ne 12, 3) := by decide +kernel
theorem dX19_isNumber_14 : decode cX19_isNumber 14 = .ok (.aload_n 0, 1) := by decide +kernel
theorem dX19_isNumber_15 : decode cX19_isNumber 15 = .ok (.getfield 311, 3) := by decide +kernel
theorem dX19_isNumber_18 : decode cX19_isNumber 18 = .ok (.iconst 1, 1) := by decide +kernel
theorem dX19_isNumber_19 : decode cX19_isNumber 19 = .ok (.iadd, 1) := by decide +kernel
theorem dX19_isNumber_20 : decode cX19_isNumber 20 = .ok (.goto 7, 3) := by decide +kernel
theorem dX19_isNumber_23 : decode cX19_isNumber 23 = .ok (.aload_n 0, 1) := by decide +kernel
theorem dX19_isNumber_24 : decode cX19_isNumber 24 = .ok (.getfield 311, 3) := by decide +kernel
theorem dX19_isNumber_27 : decode cX19_isNumber 27 = .ok (.istore_n 1, 1) := by decide +kernel
theorem dX19_isNumber_28 : decode cX19_isNumber 28 = .ok (.iload_n 1, 1) := by decide +kernel
theorem dX19_isNumber_29 : decode cX19_isNumber 29 = .ok (.aload_n 0, 1) := by decide +kernel
theorem dX19_isNumber_30 : decode cX19_isNumber 30 = .ok (.getfield 314, 3) := by decide +kernel
theorem dX19_isNumber_33 : decode cX19_isNumber 33 = .ok (.if_icmp .ge 18, 3) := by decide +kernel
theorem dX19_isNumber_36 : decode cX19_isNumber 36 = .ok (.aload_n 0, 1) := by decide +kernel
theorem dX19_isNumber_37 : decode cX19_isNumber 37 = .ok (.getfield 314, 3) := by decide +kernel
theorem dX19_isNumber_40 : decode cX19_isNumber 40 = .ok (.iload_n 1, 1) := by decide +kernel
theorem dX19_isNumber_41 : decode cX19_isNumber 41 = .ok (.isub, 1) := by decide +kernel
theorem dX19_isNumber_42 : decode cX19_isNumber 42 = .ok (.bipush 9, 2) := by decide +kernel
theorem dX19_isNumber_44 : decode cX19_isNumber 44 = .ok (.if_icmp .gt 7, 3) := by decide +kernel
theorem dX19_isNumber_47 : decode cX19_isNumber 47 = .ok (.iconst 1, 1) := by decide +kernel
theorem dX19_isNumber_48 : decode cX19_isNumber 48 = .ok (.goto 4, 3) := by decide +kernel
theorem dX19_isNumber_51 : decode cX19_isNumber 51 = .ok (.iconst 0, 1) := by decide +kernel
theorem dX19_isNumber_52 : decode cX19_isNumber 52 = .ok (.istore_n 2, 1) := by decide +kernel
theorem dX19_isNumber_53 : decode cX19_isNumber 53 = .ok (.iload_n 1, 1) := by decide +kernel
theorem dX19_isNumber_54 : decode cX19_isNumber 54 = .ok (.istore_n 3, 1) := by decide +kernel
theorem dX19_isNumber_55 : decode cX19_isNumber 55 = .ok (.iload_n 3, 1) := by decide +kernel
theorem dX19_isNumber_56 : decode cX19_isNumber 56 = .ok (.aload_n 0, 1) := by decide +kernel
theorem dX19_isNumber_57 : decode cX19_isNumber 57 = .ok (.getfield 314, 3) := by decide +kernel
theorem dX19_isNumber_60 : decode cX19_isNumber 60 = .ok (.if_icmp .ge 31, 3) := by decide +kernel
theorem dX19_isNumber_63 : decode cX19_isNumber 63 = .ok (.iload_n 2, 1) := by decide +kernel
theorem dX19_isNumber_64 : decode cX19_isNumber 64 = .ok (.ifCond .eq 19, 3) := by decide +kernel
theorem dX19_isNumber_67 : decode cX19_isNumber 67 = .ok (.aload_n 0, 1) := by decide +kernel
theorem dX19_isNumber_68 : decode cX19_isNumber 68 = .ok (.getfield 7, 3) := by decide +kernel
theorem dX19_isNumber_71 : decode cX19_isNumber 71 = .ok (.iload_n 3, 1) := by decide +kernel
theorem dX19_isNumber_72 : decode cX19_isNumber 72 = .ok (.iaload, 1) := by decide +kernel
theorem dX19_isNumber_73 : decode cX19_isNumber 73 = .ok (.invokestatic 335, 3) := by decide +kernel
theorem dX19_isNumber_76 : decode cX19_isNumber 76 = .ok (.ifCond .eq 7, 3) := by decide +kernel
theorem dX19_isNumber_79 : decode cX19_isNumber 79 = .ok (.iconst 1, 1) := by decide +kernel
theorem dX19_isNumber_80 : decode cX19_isNumber 80 = .ok (.goto 4, 3) := by decide +kernel
theorem dX19_isNumber_83 : decode cX19_isNumber 83 = .ok (.iconst 0, 1) := by decide +kernel
theorem dX19_isNumber_84 : decode cX19_isNumber 84 = .ok (.istore_n 2, 1) := by decide +kernel
theorem dX19_isNumber_85 : decode cX19_isNumber 85 = .ok (.iinc 3 1, 3) := by decide +kernel
theorem dX19_isNumber_88 : decode cX19_isNumber 88 = .ok (.goto (-33), 3) := by decide +kernel
theorem dX19_isNumber_91 : decode cX19_isNumber 91 = .ok (.aload_n 0, 1) := by decide +kernel
theorem dX19_isNumber_92 : decode cX19_isNumber 92 = .ok (.iconst 0, 1) := by decide +kernel
theorem dX19_isNumber_93 : decode cX19_isNumber 93 = .ok (.putfield 338, 3) := by decide +kernel
theorem dX19_isNumber_96 : decode cX19_isNumber 96 = .ok (.iload_n 1, 1) := by decide +kernel
theorem dX19_isNumber_97 : decode cX19_isNumber 97 = .ok (.istore_n 3, 1) := by decide +kernel
theorem dX19_isNumber_98 : decode cX19_isNumber 98 = .ok (.iload_n 3, 1) := by decide +kernel
theorem dX19_isNumber_99 : decode cX19_isNumber 99 = .ok (.aload_n 0, 1) := by decide +kernel
theorem dX19_isNumber_100 : decode cX19_isNumber 100 = .ok (.getfield 314, 3) := by decide +kernel
theorem dX19_isNumber_103 : decode cX19_isNumber 103 = .ok (.if_icmp .ge 34, 3) := by decide +kernel
theorem dX19_isNumber_106 : decode cX19_isNumber 106 = .ok (.iload_n 2, 1) := by decide +kernel
theorem dX19_isNumber_107 : decode cX19_isNumber 107 = .ok (.ifCond .eq 30, 3) := by decide +kernel
theorem dX19_isNumber_110 : decode cX19_isNumber 110 = .ok (.aload_n 0, 1) := by decide +kernel
theorem dX19_isNumber_111 : decode cX19_isNumber 111 = .ok (.bipush 10, 2) := by decide +kernel
theorem dX19_isNumber_113 : decode cX19_isNumber 113 = .ok (.aload_n 0, 1) := by decide +kernel
theorem dX19_isNumber_114 : decode cX19_isNumber 114 = .ok (.getfield 338, 3) := by decide +kernel
theorem dX19_isNumber_117 : decode cX19_isNumber 117 = .ok (.imul, 1) := by decide +kernel
theorem dX19_isNumber_118 : decode cX19_isNumber 118 = .ok (.aload_n 0, 1) := by decide +kernel
theorem dX19_isNumber_119 : decode cX19_isNumber 119 = .ok (.getfield 7, 3) := by decide +kernel
theorem dX19_isNumber_122 : decode cX19_isNumber 122 = .ok (.iload_n 3, 1) := by decide +kernel
theorem dX19_isNumber_123 : decode cX19_isNumber 123 = .ok (.iaload, 1) := by decide +kernel
theorem dX19_isNumber_124 : decode cX19_isNumber 124 = .ok (.iadd, 1) := by decide +kernel
theorem dX19_isNumber_125 : decode cX19_isNumber 125 = .ok (.bipush 48, 2) := by decide +kernel
theorem dX19_isNumber_127 : decode cX19_isNumber 127 = .ok (.isub, 1) := by decide +kernel
theorem dX19_isNumber_128 : decode cX19_isNumber 128 = .ok (.putfield 338, 3) := by decide +kernel
theorem dX19_isNumber_131 : decode cX19_isNumber 131 = .ok (.iinc 3 1, 3) := by decide +kernel
theorem dX19_isNumber_134 : decode cX19_isNumber 134 = .ok (.goto (-36), 3) := by decide +kernel
theorem dX19_isNumber_137 : decode cX19_isNumber 137 = .ok (.aload_n 0, 1) := by decide +kernel
theorem dX19_isNumber_138 : decode cX19_isNumber 138 = .ok (.iload_n 1, 1) := by decide +kernel
theorem dX19_isNumber_139 : decode cX19_isNumber 139 = .ok (.aload_n 0, 1) := by decide +kernel
theorem dX19_isNumber_140 : decode cX19_isNumber 140 = .ok (.getfield 311, 3) := by decide +kernel
theorem dX19_isNumber_143 : decode cX19_isNumber 143 = .ok (.if_icmp .le 11, 3) := by decide +kernel
theorem dX19_isNumber_146 : decode cX19_isNumber 146 = .ok (.aload_n 0, 1) := by decide +kernel
theorem dX19_isNumber_147 : decode cX19_isNumber 147 = .ok (.getfield 338, 3) := by decide +kernel
theorem dX19_isNumber_150 : decode cX19_isNumber 150 = .ok (.ineg, 1) := by decide +kernel
theorem dX19_isNumber_151 : decode cX19_isNumber 151 = .ok (.goto 7, 3) := by decide +kernel
theorem dX19_isNumber_154 : decode cX19_isNumber 154 = .ok (.aload_n 0, 1) := by decide +kernel
theorem dX19_isNumber_155 : decode cX19_isNumber 155 = .ok (.getfield 338, 3) := by decide +kernel
theorem dX19_isNumber_158 : decode cX19_isNumber 158 = .ok (.putfield 338, 3) := by decide +kernel
theorem dX19_isNumber_161 : decode cX19_isNumber 161 = .ok (.iload_n 2, 1) := by decide +kernel
theorem dX19_isNumber_162 : decode cX19_isNumber 162 = .ok (.ireturn, 1) := by decide +kernel
theorem cwX19_isNumber : mw_cwV yX19_isNumber cX19_isNumber 4 ((some .boolean)) 0 := ⟨⟨wd_13, wd_3218, by decide +kernel⟩, wd_3217, sl_164⟩
set_option maxHeartbeats 4000000 in
set_option maxRecDepth 100000 in
theorem tX19_isNumber (l : Launch) (G : mwG) (ad : Nat → Nat) (fu : Nat) (M : mwM) (L : mwL) {r0 : Int32} {M0 : mwM} {L0 : mwL} (hD : DX19_isNumber fu M L = some (r0, M0, L0)) : Met l yX19_isNumber (Cond.code yX19_isNumber cX19_isNumber 4 ((some .boolean)) :: GT) ({ frames := 1, cells := 0, slots := 0, locals := 20 }) (mw_Pre G ad NF TF FF M L [.ref (ad 732)]) (mw_Qi G ad NF TF FF (mw_eqI r0 M0 L0)) 0 0 (mw_fr G) := by
  refine mw_enter (by decide) (Nat.le_of_ble_eq_true rfl) ?_
  intro p e s m below meth c ls C hr hlocks hnm hw hl
  have hl : lv_has ls 4 [(0, .ref (ad 732))] := hl
  have hb158 : ∀ (v2 : Int32) (s1 : Int32) (M : mwM) (L : mwL) (H : Heap) (locs : List Loc) (ls : Array Slot), fX19_isNumber_b158 fu v2 s1 M L = some (r0, M0, L0) → mw_W G ad NF TF FF M L H locs → lv_has ls 4 [(2, .int v2)] → W p l e ({ frames := 1, cells := 0, slots := 0, locals := 20 }) s m [.ref (ad 732)].toArray below meth c H locs 0 0 (MQ below (mw_Qi G ad NF TF FF (mw_eqI r0 M0 L0)) [.ref (ad 732)].toArray s 0 0 (mw_fr G)) (F0 m 158 ls [.int s1, .ref (ad 732)]) := by
    intro v2 s1 M L H locs ls hD hw hl
    unfold fX19_isNumber_b158 at hD
    obtain ⟨M18, eM18, hD⟩ := g_let hD
    refine mr_putI C hw kc_19 13 (by decide) tf_732 wd_2794 dX19_isNumber_158 (by decide) rfl rfl rfl rfl (fun H locs hw => ?_)
    replace hw : mw_W G ad NF TF FF M18 L H locs := by rw [eM18]; exact hw
    refine lv_iload_n C.1.1 C.1.2.1 dX19_isNumber_161 rfl (lv_at hl 0 rfl) ?_
    obtain ⟨z19, hD⟩ := g_zz hD
    exact mr_iret C hr hlocks hw (nz_zz z19) (Option.some.inj hD) dX19_isNumber_162
  have hb137 : ∀ (v1 : Int32) (v2 : Int32) (M : mwM) (L : mwL) (H : Heap) (locs : List Loc) (ls : Array Slot), fX19_isNumber_b137 fu v1 v2 M L = some (r0, M0, L0) → mw_W G ad NF TF FF M L H locs → lv_has ls 4 [(0, .ref (ad 732)), (1, .int v1), (2, .int v2)] → W p l e ({ frames := 1, cells := 0, slots := 0, locals := 20 }) s m [.ref (ad 732)].toArray below meth c H locs 0 0 (MQ below (mw_Qi G ad NF TF FF (mw_eqI r0 M0 L0)) [.ref (ad 732)].toArray s 0 0 (mw_fr G)) (F0 m 137 ls []) := by
    intro v1 v2 M L H locs ls hD hw hl
    unfold fX19_isNumber_b137 at hD
    refine lv_aload_n C.1.1 C.1.2.1 dX19_isNumber_137 rfl (lv_at hl 0 rfl) ?_
    refine lv_iload_n C.1.1 C.1.2.1 dX19_isNumber_138 rfl (lv_at hl 1 rfl) ?_
    refine lv_aload_n C.1.1 C.1.2.1 dX19_isNumber_139 rfl (lv_at hl 0 rfl) ?_
    refine mr_getI C hw kc_19 9 (by decide) tf_732 wd_2790 dX19_isNumber_140 (by decide) rfl ?_
    refine lv_icmp_le (tgt := 154) C.1.1 C.1.2.1 dX19_isNumber_143 (by decide) (fun c17 => ?_) (fun c17 => ?_)
    · replace hD := g_pos c17 hD
      refine lv_aload_n C.1.1 C.1.2.1 dX19_isNumber_154 rfl (lv_at hl 0 rfl) ?_
      refine mr_getI C hw kc_19 13 (by decide) tf_732 wd_2794 dX19_isNumber_155 (by decide) rfl ?_
      exact hb158 v2 (M 732 13) M L _ _ ls hD hw (lv_sub hl [2] rfl)
    · replace hD := g_neg c17 hD
      refine lv_aload_n C.1.1 C.1.2.1 dX19_isNumber_146 rfl (lv_at hl 0 rfl) ?_
      refine mr_getI C hw kc_19 13 (by decide) tf_732 wd_2794 dX19_isNumber_147 (by decide) rfl ?_
      refine lv_ineg C.1.1 C.1.2.1 dX19_isNumber_150 ?_
      refine lv_goto (tgt := 158) C.1.1 C.1.2.1 dX19_isNumber_151 (by decide) ?_
      exact hb158 v2 (-(M 732 13)) M L _ _ ls hD hw (lv_sub hl [2] rfl)
  have hh98 : ∀ (f : Nat) (v1 : Int32) (v2 : Int32) (v3 : Int32) (M : mwM) (L : mwL) (H : Heap) (locs : List Loc) (ls : Array Slot), fX19_isNumber_h98 fu f (v1, v2, v3, M, L) = some (r0, M0, L0) → mw_W G ad NF TF FF M L H locs → lv_has ls 4 [(0, .ref (ad 732)), (1, .int v1), (2, .int v2), (3, .int v3)] → W p l e ({ frames := 1, cells := 0, slots := 0, locals := 20 }) s m [.ref (ad 732)].toArray below meth c H locs 0 0 (MQ below (mw_Qi G ad NF TF FF (mw_eqI r0 M0 L0)) [.ref (ad 732)].toArray s 0 0 (mw_fr G)) (F0 m 98 ls []) := by
    intro f
    induction f with
    | zero => intro v1 v2 v3 M L H locs ls hD; cases hD
    | succ f98 ih98 =>
      intro v1 v2 v3 M L H locs ls hD hw hl
      replace hD : fX19_isNumber_i98 fu (fX19_isNumber_h98 fu f98) v1 v2 v3 M L = some (r0, M0, L0) := hD
      unfold fX19_isNumber_i98 at hD
      refine lv_iload_n C.1.1 C.1.2.1 dX19_isNumber_98 rfl (lv_at hl 3 rfl) ?_
      refine lv_aload_n C.1.1 C.1.2.1 dX19_isNumber_99 rfl (lv_at hl 0 rfl) ?_
      refine mr_getI C hw kc_19 10 (by decide) tf_732 wd_2791 dX19_isNumber_100 (by decide) rfl ?_
      refine lv_icmp_ge (tgt := 137) C.1.1 C.1.2.1 dX19_isNumber_103 (by decide) (fun c12 => ?_) (fun c12 => ?_)
      · replace hD := g_pos c12 hD
        exact hb137 v1 v2 M L _ _ ls hD hw (lv_sub hl [0, 1, 2] rfl)
      · replace hD := g_neg c12 hD
        refine lv_iload_n C.1.1 C.1.2.1 dX19_isNumber_106 rfl (lv_at hl 2 rfl) ?_
        refine lv_if_eq (tgt := 137) C.1.1 C.1.2.1 dX19_isNumber_107 (by decide) (fun c13 => ?_) (fun c13 => ?_)
        · replace hD := g_pos c13 hD
          exact hb137 v1 v2 M L _ _ ls hD hw (lv_sub hl [0, 1, 2] rfl)
        · replace hD := g_neg c13 hD
          refine lv_aload_n C.1.1 C.1.2.1 dX19_isNumber_110 rfl (lv_at hl 0 rfl) ?_
          refine lv_bipush (v := 10) C.1.1 C.1.2.1 dX19_isNumber_111 (by decide) ?_
          refine lv_aload_n C.1.1 C.1.2.1 dX19_isNumber_113 rfl (lv_at hl 0 rfl) ?_
          refine mr_getI C hw kc_19 13 (by decide) tf_732 wd_2794 dX19_isNumber_114 (by decide) rfl ?_
          refine lv_imul C.1.1 C.1.2.1 dX19_isNumber_117 ?_
          refine lv_aload_n C.1.1 C.1.2.1 dX19_isNumber_118 rfl (lv_at hl 0 rfl) ?_
          refine mr_getR C hw kc_19 1 (by decide) tf_732 ff_732_1 wd_2782 dX19_isNumber_119 (by decide) rfl ?_
          refine lv_iload_n C.1.1 C.1.2.1 dX19_isNumber_122 rfl (lv_at hl 3 rfl) ?_
          obtain ⟨q14, hD⟩ := g_ck hD
          refine mr_iald C hw (by decide) tf_733 q14 dX19_isNumber_123 ?_
          refine lv_iadd C.1.1 C.1.2.1 dX19_isNumber_124 ?_
          refine lv_bipush (v := 48) C.1.1 C.1.2.1 dX19_isNumber_125 (by decide) ?_
          refine lv_isub C.1.1 C.1.2.1 dX19_isNumber_127 ?_
          obtain ⟨M15, eM15, hD⟩ := g_let hD
          refine mr_putI C hw kc_19 13 (by decide) tf_732 wd_2794 dX19_isNumber_128 (by decide) rfl rfl rfl rfl (fun H locs hw => ?_)
          replace hw : mw_W G ad NF TF FF M15 L H locs := by rw [eM15]; exact hw
          obtain ⟨x16, ex16, hD⟩ := g_let hD
          refine lv_iinc (v := x16) (lv' := [(3, .int x16), (0, .ref (ad 732)), (1, .int v1), (2, .int v2)]) C.1.1 C.1.2.1 dX19_isNumber_131 hl (k := 3) rfl (by rw [ex16]; rfl) (by decide) rfl (fun ls hl => ?_)
          refine lv_goto (tgt := 98) C.1.1 C.1.2.1 dX19_isNumber_134 (by decide) ?_
          exact ih98 v1 v2 x16 M15 L _ _ ls hD hw (lv_sub hl [1, 2, 3, 0] rfl)
  have hh55 : ∀ (f : Nat) (v1 : Int32) (v2 : Int32) (v3 : Int32) (M : mwM) (L : mwL) (H : Heap) (locs : List Loc) (ls : Array Slot), fX19_isNumber_h55 fu f (v1, v2, v3, M, L) = some (r0, M0, L0) → mw_W G ad NF TF FF M L H locs → lv_has ls 4 [(0, .ref (ad 732)), (1, .int v1), (2, .int v2), (3, .int v3)] → W p l e ({ frames := 1, cells := 0, slots := 0, locals := 20 }) s m [.ref (ad 732)].toArray below meth c H locs 0 0 (MQ below (mw_Qi G ad NF TF FF (mw_eqI r0 M0 L0)) [.ref (ad 732)].toArray s 0 0 (mw_fr G)) (F0 m 55 ls []) := by
    intro f
    induction f with
    | zero => intro v1 v2 v3 M L H locs ls hD; cases hD
    | succ f55 ih55 =>
      intro v1 v2 v3 M L H locs ls hD hw hl
      replace hD : fX19_isNumber_i55 fu (fX19_isNumber_h55 fu f55) v1 v2 v3 M L = some (r0, M0, L0) := hD
      have hb84 : ∀ (v1 : Int32) (v3 : Int32) (s0 : Int32) (M : mwM) (L : mwL) (H : Heap) (locs : List Loc) (ls : Array Slot), fX19_isNumber_b84 fu (fX19_isNumber_h55 fu f55) v1 v3 s0 M L = some (r0, M0, L0) → mw_W G ad NF TF FF M L H locs → lv_has ls 4 [(0, .ref (ad 732)), (1, .int v1), (3, .int v3)] → W p l e ({ frames := 1, cells := 0, slots := 0, locals := 20 }) s m [.ref (ad 732)].toArray below meth c H locs 0 0 (MQ below (mw_Qi G ad NF TF FF (mw_eqI r0 M0 L0)) [.ref (ad 732)].toArray s 0 0 (mw_fr G)) (F0 m 84 ls [.int s0]) := by
        intro v1 v3 s0 M L H locs ls hD hw hl
        unfold fX19_isNumber_b84 at hD
        refine lv_istore_n (lv' := [(2, .int s0), (0, .ref (ad 732)), (1, .int v1), (3, .int v3)]) C.1.1 C.1.2.1 dX19_isNumber_84 rfl hl (by decide) rfl (fun ls hl => ?_)
        obtain ⟨x11, ex11, hD⟩ := g_let hD
        refine lv_iinc (v := x11) (lv' := [(3, .int x11), (2, .int s0), (0, .ref (ad 732)), (1, .int v1)]) C.1.1 C.1.2.1 dX19_isNumber_85 hl (k := 3) rfl (by rw [ex11]; rfl) (by decide) rfl (fun ls hl => ?_)
        refine lv_goto (tgt := 55) C.1.1 C.1.2.1 dX19_isNumber_88 (by decide) ?_
        exact ih55 v1 s0 x11 M L _ _ ls hD hw (lv_sub hl [2, 3, 1, 0] rfl)
      have hb83 : ∀ (v1 : Int32) (v3 : Int32) (M : mwM) (L : mwL) (H : Heap) (locs : List Loc) (ls : Array Slot), fX19_isNumber_b83 fu (fX19_isNumber_h55 fu f55) v1 v3 M L = some (r0, M0, L0) → mw_W G ad NF TF FF M L H locs → lv_has ls 4 [(0, .ref (ad 732)), (1, .int v1), (3, .int v3)] → W p l e ({ frames := 1, cells := 0, slots := 0, locals := 20 }) s m [.ref (ad 732)].toArray below meth c H locs 0 0 (MQ below (mw_Qi G ad NF TF FF (mw_eqI r0 M0 L0)) [.ref (ad 732)].toArray s 0 0 (mw_fr G)) (F0 m 83 ls []) := by
        intro v1 v3 M L H locs ls hD hw hl
        unfold fX19_isNumber_b83 at hD
        refine lv_iconst (v := 0) C.1.1 C.1.2.1 dX19_isNumber_83 (by decide) ?_
        exact hb84 v1 v3 0 M L _ _ ls hD hw (lv_sub hl [0, 1, 2] rfl)
      unfold fX19_isNumber_i55 at hD
      refine lv_iload_n C.1.1 C.1.2.1 dX19_isNumber_55 rfl (lv_at hl 3 rfl) ?_
      refine lv_aload_n C.1.1 C.1.2.1 dX19_isNumber_56 rfl (lv_at hl 0 rfl) ?_
      refine mr_getI C hw kc_19 10 (by decide) tf_732 wd_2791 dX19_isNumber_57 (by decide) rfl ?_
      refine lv_icmp_ge (tgt := 91) C.1.1 C.1.2.1 dX19_isNumber_60 (by decide) (fun c3 => ?_) (fun c3 => ?_)
      · replace hD := g_pos c3 hD
        refine lv_aload_n C.1.1 C.1.2.1 dX19_isNumber_91 rfl (lv_at hl 0 rfl) ?_
        refine lv_iconst (v := 0) C.1.1 C.1.2.1 dX19_isNumber_92 (by decide) ?_
        obtain ⟨M4, eM4, hD⟩ := g_let hD
        refine mr_putI C hw kc_19 13 (by decide) tf_732 wd_2794 dX19_isNumber_93 (by decide) rfl rfl rfl rfl (fun H locs hw => ?_)
        replace hw : mw_W G ad NF TF FF M4 L H locs := by rw [eM4]; exact hw
        refine lv_iload_n C.1.1 C.1.2.1 dX19_isNumber_96 rfl (lv_at hl 1 rfl) ?_
        refine lv_istore_n (lv' := [(3, .int v1), (0, .ref (ad 732)), (1, .int v1), (2, .int v2)]) C.1.1 C.1.2.1 dX19_isNumber_97 rfl hl (by decide) rfl (fun ls hl => ?_)
        exact hh98 fu v1 v2 v1 M4 L _ _ ls hD hw (lv_sub hl [1, 2, 3, 0] rfl)
      · replace hD := g_neg c3 hD
        refine lv_iload_n C.1.1 C.1.2.1 dX19_isNumber_63 rfl (lv_at hl 2 rfl) ?_
        refine lv_if_eq (tgt := 83) C.1.1 C.1.2.1 dX19_isNumber_64 (by decide) (fun c5 => ?_) (fun c5 => ?_)
        · replace hD := g_pos c5 hD
          exact hb83 v1 v3 M L _ _ ls hD hw (lv_sub hl [0, 1, 3] rfl)
        · replace hD := g_neg c5 hD
          refine lv_aload_n C.1.1 C.1.2.1 dX19_isNumber_67 rfl (lv_at hl 0 rfl) ?_
          refine mr_getR C hw kc_19 1 (by decide) tf_732 ff_732_1 wd_2782 dX19_isNumber_68 (by decide) rfl ?_
          refine lv_iload_n C.1.1 C.1.2.1 dX19_isNumber_71 rfl (lv_at hl 3 rfl) ?_
          obtain ⟨q6, hD⟩ := g_ck hD
          refine mr_iald C hw (by decide) tf_733 q6 dX19_isNumber_72 ?_
          obtain ⟨r9, M7, L8, h1, hD⟩ := g_b3 hD
          refine md_csI (As := [.int (M 733 v3.toNatClampNeg)]) (rest := []) C hw (tX19_digit l G ad fu (M 733 v3.toNatClampNeg) M L h1) wd_3183 cwX19_digit ⟨Nat.le_of_ble_eq_true rfl, Nat.le_of_ble_eq_true rfl⟩ rfl hl.1 (Nat.le_of_ble_eq_true rfl) dX19_isNumber_73 rfl rfl ⟨Nat.zero_le _, Nat.zero_le _⟩ rfl (fun H locs hw => ?_)
          refine lv_if_eq (tgt := 83) C.1.1 C.1.2.1 dX19_isNumber_76 (by decide) (fun c10 => ?_) (fun c10 => ?_)
          · replace hD := g_pos c10 hD
            exact hb83 v1 v3 M7 L8 _ _ ls hD hw (lv_sub hl [0, 1, 3] rfl)
          · replace hD := g_neg c10 hD
            refine lv_iconst (v := 1) C.1.1 C.1.2.1 dX19_isNumber_79 (by decide) ?_
            refine lv_goto (tgt := 84) C.1.1 C.1.2.1 dX19_isNumber_80 (by decide) ?_
            exact hb84 v1 v3 1 M7 L8 _ _ ls hD hw (lv_sub hl [0, 1, 3] rfl)
  have hb52 : ∀ (v1 : Int32) (s0 : Int32) (M : mwM) (L : mwL) (H : Heap) (locs : List Loc) (ls : Array Slot), fX19_isNumber_b52 fu v1 s0 M L = some (r0, M0, L0) → mw_W G ad NF TF FF M L H locs → lv_has ls 4 [(0, .ref (ad 732)), (1, .int v1)] → W p l e ({ frames := 1, cells := 0, slots := 0, locals := 20 }) s m [.ref (ad 732)].toArray below meth c H locs 0 0 (MQ below (mw_Qi G ad NF TF FF (mw_eqI r0 M0 L0)) [.ref (ad 732)].toArray s 0 0 (mw_fr G)) (F0 m 52 ls [.int s0]) := by
    intro v1 s0 M L H locs ls hD hw hl
    unfold fX19_isNumber_b52 at hD
    refine lv_istore_n (lv' := [(2, .int s0), (0, .ref (ad 732)), (1, .int v1)]) C.1.1 C.1.2.1 dX19_isNumber_52 rfl hl (by decide) rfl (fun ls hl => ?_)
    refine lv_iload_n C.1.1 C.1.2.1 dX19_isNumber_53 rfl (lv_at hl 2 rfl) ?_
    refine lv_istore_n (lv' := [(3, .int v1), (2, .int s0), (0, .ref (ad 732)), (1, .int v1)]) C.1.1 C.1.2.1 dX19_isNumber_54 rfl hl (by decide) rfl (fun ls hl => ?_)
    exact hh55 fu v1 s0 v1 M L _ _ ls hD hw (lv_sub hl [2, 3, 1, 0] rfl)
  have hb51 : ∀ (v1 : Int32) (M : mwM) (L : mwL) (H : Heap) (locs : List Loc) (ls : Array Slot), fX19_isNumber_b51 fu v1 M L = some (r0, M0, L0) → mw_W G ad NF TF FF M L H locs → lv_has ls 4 [(0, .ref (ad 732)), (1, .int v1)] → W p l e ({ frames := 1, cells := 0, slots := 0, locals := 20 }) s m [.ref (ad 732)].toArray below meth c H locs 0 0 (MQ below (mw_Qi G ad NF TF FF (mw_eqI r0 M0 L0)) [.ref (ad 732)].toArray s 0 0 (mw_fr G)) (F0 m 51 ls []) := by
    intro v1 M L H locs ls hD hw hl
    unfold fX19_isNumber_b51 at hD
    refine lv_iconst (v := 0) C.1.1 C.1.2.1 dX19_isNumber_51 (by decide) ?_
    exact hb52 v1 0 M L _ _ ls hD hw (lv_sub hl [0, 1] rfl)
  have hb27 : ∀ (s0 : Int32) (M : mwM) (L : mwL) (H : Heap) (locs : List Loc) (ls : Array Slot), fX19_isNumber_b27 fu s0 M L = some (r0, M0, L0) → mw_W G ad NF TF FF M L H locs → lv_has ls 4 [(0, .ref (ad 732))] → W p l e ({ frames := 1, cells := 0, slots := 0, locals := 20 }) s m [.ref (ad 732)].toArray below meth c H locs 0 0 (MQ below (mw_Qi G ad NF TF FF (mw_eqI r0 M0 L0)) [.ref (ad 732)].toArray s 0 0 (mw_fr G)) (F0 m 27 ls [.int s0]) := by
    intro s0 M L H locs ls hD hw hl
    unfold fX19_isNumber_b27 at hD
    refine lv_istore_n (lv' := [(1, .int s0), (0, .ref (ad 732))]) C.1.1 C.1.2.1 dX19_isNumber_27 rfl hl (by decide) rfl (fun ls hl => ?_)
    refine lv_iload_n C.1.1 C.1.2.1 dX19_isNumber_28 rfl (lv_at hl 0 rfl) ?_
    refine lv_aload_n C.1.1 C.1.2.1 dX19_isNumber_29 rfl (lv_at hl 1 rfl) ?_
    refine mr_getI C hw kc_19 10 (by decide) tf_732 wd_2791 dX19_isNumber_30 (by decide) rfl ?_
    refine lv_icmp_ge (tgt := 51) C.1.1 C.1.2.1 dX19_isNumber_33 (by decide) (fun c1 => ?_) (fun c1 => ?_)
    · replace hD := g_pos c1 hD
      exact hb51 s0 M L _ _ ls hD hw (lv_sub hl [1, 0] rfl)
    · replace hD := g_neg c1 hD
      refine lv_aload_n C.1.1 C.1.2.1 dX19_isNumber_36 rfl (lv_at hl 1 rfl) ?_
      refine mr_getI C hw kc_19 10 (by decide) tf_732 wd_2791 dX19_isNumber_37 (by decide) rfl ?_
      refine lv_iload_n C.1.1 C.1.2.1 dX19_isNumber_40 rfl (lv_at hl 0 rfl) ?_
      refine lv_isub C.1.1 C.1.2.1 dX19_isNumber_41 ?_
      refine lv_bipush (v := 9) C.1.1 C.1.2.1 dX19_isNumber_42 (by decide) ?_
      refine lv_icmp_gt (tgt := 51) C.1.1 C.1.2.1 dX19_isNumber_44 (by decide) (fun c2 => ?_) (fun c2 => ?_)
      · replace hD := g_pos c2 hD
        exact hb51 s0 M L _ _ ls hD hw (lv_sub hl [1, 0] rfl)
      · replace hD := g_neg c2 hD
        refine lv_iconst (v := 1) C.1.1 C.1.2.1 dX19_isNumber_47 (by decide) ?_
        refine lv_goto (tgt := 52) C.1.1 C.1.2.1 dX19_isNumber_48 (by decide) ?_
        exact hb52 s0 1 M L _ _ ls hD hw (lv_sub hl [1, 0] rfl)
  unfold DX19_isNumber at hD
  refine lv_aload_n C.1.1 C.1.2.1 dX19_isNumber_0 rfl (lv_at hl 0 rfl) ?_
  refine mr_getR C hw kc_19 1 (by decide) tf_732 ff_732_1 wd_2782 dX19_isNumber_1 (by decide) rfl ?_
  refine lv_aload_n C.1.1 C.1.2.1 dX19_isNumber_4 rfl (lv_at hl 0 rfl) ?_
  refine mr_getI C hw kc_19 9 (by decide) tf_732 wd_2790 dX19_isNumber_5 (by decide) rfl ?_
  obtain ⟨q20, hD⟩ := g_ck hD
  refine mr_iald C hw (by decide) tf_733 q20 dX19_isNumber_8 ?_
  refine lv_bipush (v := 45) C.1.1 C.1.2.1 dX19_isNumber_9 (by decide) ?_
  refine lv_icmp_ne (tgt := 23) C.1.1 C.1.2.1 dX19_isNumber_11 (by decide) (fun c21 => ?_) (fun c21 => ?_)
  · replace hD := g_neg c21 hD
    refine lv_aload_n C.1.1 C.1.2.1 dX19_isNumber_23 rfl (lv_at hl 0 rfl) ?_
    refine mr_getI C hw kc_19 9 (by decide) tf_732 wd_2790 dX19_isNumber_24 (by decide) rfl ?_
    exact hb27 (M 732 9) M L _ _ ls hD hw (lv_sub hl [0] rfl)
  · replace hD := g_pos c21 hD
    refine lv_aload_n C.1.1 C.1.2.1 dX19_isNumber_14 rfl (lv_at hl 0 rfl) ?_
    refine mr_getI C hw kc_19 9 (by decide) tf_732 wd_2790 dX19_isNumber_15 (by decide) rfl ?_
    refine lv_iconst (v := 1) C.1.1 C.1.2.1 dX19_isNumber_18 (by decide) ?_
    refine lv_iadd C.1.1 C.1.2.1 dX19_isNumber_19 ?_
    refine lv_goto (tgt := 27) C.1.1 C.1.2.1 dX19_isNumber_20 (by decide) ?_
    exact hb27 ((M 732 9) + 1) M L _ _ ls hD hw (lv_sub hl [0] rfl)

theorem dX19_number_0 : decode cX19_number 0 = .ok (.aload_n 0, 1) := by decide +kernel
theorem dX19_number_1 : decode cX19_number 1 = .ok (.invokevirtual 341, 3) := by decide +kernel
theorem dX19_number_4 : decode cX19_number 4 = .ok (.ifCond .ne 5, 3) := by decide +kernel
theorem dX19_number_7 : decode cX19_number 7 = .ok (.iconst 0, 1) := by decide +kernel
theorem dX19_number_8 : decode cX19_number 8 = .ok (.ireturn, 1) := by decide +kernel
theorem dX19_number_9 : decode cX19_number 9 = .ok (.aload_n 0, 1) := by decide +kernel
theorem dX19_number_10 : decode cX19_number 10 = .ok (.invokevirtual 344, 3) := by decide +kernel
theorem dX19_number_13 : decode cX19_number 13 = .ok (.ifCond .eq 19, 3) := by decide +kernel
theorem dX19_number_16 : decode cX19_number 16 = .ok (.aload_n 0, 1) := by decide +kernel
theorem dX19_number_17 : decode cX19_number 17 = .ok (.getfield 338, 3) := by decide +kernel
theorem dX19_number_20 : decode cX19_number 20 = .ok (.iload_n 1, 1) := by decide +kernel
theorem dX19_number_21 : decode cX19_number 21 = .ok (.if_icmp .lt 11, 3) := by decide +kernel
theorem dX19_number_24 : decode cX19_number 24 = .ok (.aload_n 0, 1) := by decide +kernel
theorem dX19_number_25 : decode cX19_number 25 = .ok (.getfield 338, 3) := by decide +kernel
theorem dX19_number_28 : decode cX19_number 28 = .ok (.iload_n 2, 1) := by decide +kernel
theorem dX19_number_29 : decode cX19_number 29 = .ok (.if_icmp .le 15, 3) := by decide +kernel
theorem dX19_number_32 : decode cX19_number 32 = .ok (.aload_n 0, 1) := by decide +kernel
theorem dX19_number_33 : decode cX19_number 33 = .ok (.iconst 5, 1) := by decide +kernel
theorem dX19_number_34 : decode cX19_number 34 = .ok (.aload_n 0, 1) := by decide +kernel
theorem dX19_number_35 : decode cX19_number 35 = .ok (.getfield 311, 3) := by decide +kernel
theorem dX19_number_38 : decode cX19_number 38 = .ok (.invokevirtual 321, 3) := by decide +kernel
theorem dX19_number_41 : decode cX19_number 41 = .ok (.ifCond .eq 7, 3) := by decide +kernel
theorem dX19_number_44 : decode cX19_number 44 = .ok (.iconst 1, 1) := by decide +kernel
theorem dX19_number_45 : decode cX19_number 45 = .ok (.goto 4, 3) := by decide +kernel
theorem dX19_number_48 : decode cX19_number 48 = .ok (.iconst 0, 1) := by decide +kernel
theorem dX19_number_49 : decode cX19_number 49 = .ok (.ireturn, 1) := by decide +kernel
theorem cwX19_number : mw_cwV yX19_number cX19_number 3 ((some .boolean)) 2 := ⟨⟨wd_13, wd_3214, by decide +kernel⟩, wd_3213, sl_163⟩
set_option maxHeartbeats 4000000 in
set_option maxRecDepth 100000 in
theorem tX19_number (l : Launch) (G : mwG) (ad : Nat → Nat) (fu : Nat) (a1 : Int32) (a2 : Int32) (M : mwM) (L : mwL) {r0 : Int32} {M0 : mwM} {L0 : mwL} (hD : DX19_number fu a1 a2 M L = some (r0, M0, L0)) : Met l yX19_number (Cond.code yX19_number cX19_number 3 ((some .boolean)) :: GT) ({ frames := 2, cells := 0, slots := 0, locals := 43 }) (mw_Pre G ad NF TF FF M L [.ref (ad 732), .int a1, .int a2]) (mw_Qi G ad NF TF FF (mw_eqI r0 M0 L0)) 0 0 (mw_fr G) := by
  refine mw_enter (by decide) (Nat.le_of_ble_eq_true rfl) ?_
  intro p e s m below meth c ls C hr hlocks hnm hw hl
  have hl : lv_has ls 3 [(0, .ref (ad 732)), (1, .int a1), (2, .int a2)] := hl
  have hb49 : ∀ (s0 : Int32) (M : mwM) (L : mwL) (H : Heap) (locs : List Loc) (ls : Array Slot), fX19_number_b49 fu a1 a2 s0 M L = some (r0, M0, L0) → mw_W G ad NF TF FF M L H locs → lv_has ls 3 [] → W p l e ({ frames := 2, cells := 0, slots := 0, locals := 43 }) s m [.ref (ad 732), .int a1, .int a2].toArray below meth c H locs 0 0 (MQ below (mw_Qi G ad NF TF FF (mw_eqI r0 M0 L0)) [.ref (ad 732), .int a1, .int a2].toArray s 0 0 (mw_fr G)) (F0 m 49 ls [.int s0]) := by
    intro s0 M L H locs ls hD hw hl
    unfold fX19_number_b49 at hD
    obtain ⟨z5, hD⟩ := g_zz hD
    exact mr_iret C hr hlocks hw (nz_zz z5) (Option.some.inj hD) dX19_number_49
  have hb44 : ∀ (M : mwM) (L : mwL) (H : Heap) (locs : List Loc) (ls : Array Slot), fX19_number_b44 fu a1 a2 M L = some (r0, M0, L0) → mw_W G ad NF TF FF M L H locs → lv_has ls 3 [] → W p l e ({ frames := 2, cells := 0, slots := 0, locals := 43 }) s m [.ref (ad 732), .int a1, .int a2].toArray below meth c H locs 0 0 (MQ below (mw_Qi G ad NF TF FF (mw_eqI r0 M0 L0)) [.ref (ad 732), .int a1, .int a2].toArray s 0 0 (mw_fr G)) (F0 m 44 ls []) := by
    intro M L H locs ls hD hw hl
    unfold fX19_number_b44 at hD
    refine lv_iconst (v := 1) C.1.1 C.1.2.1 dX19_number_44 (by decide) ?_
    refine lv_goto (tgt := 49) C.1.1 C.1.2.1 dX19_number_45 (by decide) ?_
    exact hb49 1 M L _ _ ls hD hw (lv_sub hl [] rfl)
  have hb32 : ∀ (M : mwM) (L : mwL) (H : Heap) (locs : List Loc) (ls : Array Slot), fX19_number_b32 fu a1 a2 M L = some (r0, M0, L0) → mw_W G ad NF TF FF M L H locs → lv_has ls 3 [(0, .ref (ad 732))] → W p l e ({ frames := 2, cells := 0, slots := 0, locals := 43 }) s m [.ref (ad 732), .int a1, .int a2].toArray below meth c H locs 0 0 (MQ below (mw_Qi G ad NF TF FF (mw_eqI r0 M0 L0)) [.ref (ad 732), .int a1, .int a2].toArray s 0 0 (mw_fr G)) (F0 m 32 ls []) := by
    intro M L H locs ls hD hw hl
    unfold fX19_number_b32 at hD
    refine lv_aload_n C.1.1 C.1.2.1 dX19_number_32 rfl (lv_at hl 0 rfl) ?_
    refine lv_iconst (v := 5) C.1.1 C.1.2.1 dX19_number_33 (by decide) ?_
    refine lv_aload_n C.1.1 C.1.2.1 dX19_number_34 rfl (lv_at hl 0 rfl) ?_
    refine mr_getI C hw kc_19 9 (by decide) tf_732 wd_2790 dX19_number_35 (by decide) rfl ?_
    obtain ⟨r3, M1, L2, h1, hD⟩ := g_b3 hD
    refine md_cvI (As := [.int 5, .int (M 732 9)]) (rest := []) C hw (tX19_fail l G ad fu 5 (M 732 9) M L h1) kc_19 (by decide) tf_732 wd_3172 cwX19_fail ⟨Nat.le_of_ble_eq_true rfl, Nat.le_of_ble_eq_true rfl⟩ rfl hl.1 (Nat.le_of_ble_eq_true rfl) dX19_number_38 rfl rfl ⟨Nat.zero_le _, Nat.zero_le _⟩ rfl (fun H locs hw => ?_)
    refine lv_if_eq (tgt := 48) C.1.1 C.1.2.1 dX19_number_41 (by decide) (fun c4 => ?_) (fun c4 => ?_)
    · replace hD := g_pos c4 hD
      refine lv_iconst (v := 0) C.1.1 C.1.2.1 dX19_number_48 (by decide) ?_
      exact hb49 0 M1 L2 _ _ ls hD hw (lv_sub hl [] rfl)
    · replace hD := g_neg c4 hD
      exact hb44 M1 L2 _ _ ls hD hw (lv_sub hl [] rfl)
  unfold DX19_number at hD
  refine lv_aload_n C.1.1 C.1.2.1 dX19_number_0 rfl (lv_at hl 0 rfl) ?_
  obtain ⟨r8, M6, L7, h1, hD⟩ := g_b3 hD
  refine md_cvI (As := []) (rest := []) C hw (tX19_must l G ad fu M L h1) kc_19 (by decide) tf_732 wd_3168 cwX19_must ⟨Nat.le_of_ble_eq_true rfl, Nat.le_of_ble_eq_true rfl⟩ rfl hl.1 (Nat.le_of_ble_eq_true rfl) dX19_number_1 rfl rfl ⟨Nat.zero_le _, Nat.zero_le _⟩ rfl (fun H locs hw => ?_)
  refine lv_if_ne (tgt := 9) C.1.1 C.1.2.1 dX19_number_4 (by decide) (fun c9 => ?_) (fun c9 => ?_)
  · replace hD := g_neg c9 hD
    refine lv_aload_n C.1.1 C.1.2.1 dX19_number_9 rfl (lv_at hl 0 rfl) ?_
    obtain ⟨r12, M10, L11, h1, hD⟩ := g_b3 hD
    refine md_cvI (As := []) (rest := []) C hw (tX19_isNumber l G ad fu M6 L7 h1) kc_19 (by decide) tf_732 wd_3215 cwX19_isNumber ⟨Nat.le_of_ble_eq_true rfl, Nat.le_of_ble_eq_true rfl⟩ rfl hl.1 (Nat.le_of_ble_eq_true rfl) dX19_number_10 rfl rfl ⟨Nat.zero_le _, Nat.zero_le _⟩ rfl (fun H locs hw => ?_)
    refine lv_if_eq (tgt := 32) C.1.1 C.1.2.1 dX19_number_13 (by decide) (fun c13 => ?_) (fun c13 => ?_)
    · replace hD := g_pos c13 hD
      exact hb32 M10 L11 _ _ ls hD hw (lv_sub hl [0] rfl)
    · replace hD := g_neg c13 hD
      refine lv_aload_n C.1.1 C.1.2.1 dX19_number_16 rfl (lv_at hl 0 rfl) ?_
      refine mr_getI C hw kc_19 13 (by decide) tf_732 wd_2794 dX19_number_17 (by decide) rfl ?_
      refine lv_iload_n C.1.1 C.1.2.1 dX19_number_20 rfl (lv_at hl 1 rfl) ?_
      refine lv_icmp_lt (tgt := 32) C.1.1 C.1.2.1 dX19_number_21 (by decide) (fun c14 => ?_) (fun c14 => ?_)
      · replace hD := g_pos c14 hD
        exact hb32 M10 L11 _ _ ls hD hw (lv_sub hl [0] rfl)
      · replace hD := g_neg c14 hD
        refine lv_aload_n C.1.1 C.1.2.1 dX19_number_24 rfl (lv_at hl 0 rfl) ?_
        refine mr_getI C hw kc_19 13 (by decide) tf_732 wd_2794 dX19_number_25 (by decide) rfl ?_
        refine lv_iload_n C.1.1 C.1.2.1 dX19_number_28 rfl (lv_at hl 2 rfl) ?_
        refine lv_icmp_le (tgt := 44) C.1.1 C.1.2.1 dX19_number_29 (by decide) (fun c15 => ?_) (fun c15 => ?_)
        · replace hD := g_pos c15 hD
          exact hb44 M10 L11 _ _ ls hD hw (lv_sub hl [] rfl)
        · replace hD := g_neg c15 hD
          exact hb32 M10 L11 _ _ ls hD hw (lv_sub hl [0] rfl)
  · replace hD := g_pos c9 hD
    refine lv_iconst (v := 0) C.1.1 C.1.2.1 dX19_number_7 (by decide) ?_
    exact mr_iret C hr hlocks hw (by decide +kernel) (Option.some.inj hD) dX19_number_8

theorem dX19_same_0 : decode cX19_same 0 = .ok (.aload_n 0, 1) := by decide +kernel
theorem dX19_same_1 : decode cX19_same 1 = .ok (.getfield 314, 3) := by decide +kernel
theorem dX19_same_4 : decode cX19_same 4 = .ok (.aload_n 0, 1) := by decide +kernel
theorem dX19_same_5 : decode cX19_same 5 = .ok (.getfield 311, 3) := by decide +kernel
theorem dX19_same_8 : decode cX19_same 8 = .ok (.isub, 1) := by decide +kernel
theorem dX19_same_9 : decode cX19_same 9 = .ok (.iload_n 2, 1) := by decide +kernel
theorem dX19_same_10 : decode cX19_same 10 = .ok (.if_icmp .ne 7, 3) := by decide +kernel
theorem dX19_same_13 : decode cX19_same 13 = .ok (.iconst 1, 1) := by decide +kernel
theorem dX19_same_14 : decode cX19_same 14 = .ok (.goto 4, 3) := by decide +kernel
theorem dX19_same_17 : decode cX19_same 17 = .ok (.iconst 0, 1) := by decide +kernel
theorem dX19_same_18 : decode cX19_same 18 = .ok (.istore_n 3, 1) := by decide +kernel
theorem dX19_same_19 : decode cX19_same 19 = .ok (.iconst 0, 1) := by decide +kernel
theorem dX19_same_20 : decode cX19_same 20 = .ok (.istore 4, 2) := by decide +kernel
theorem dX19_same_22 : decode cX19_same 22 = .ok (.iload 4, 2) := by decide +kernel
theorem dX19_same_24 : decode cX19_same 24 = .ok (.iload_n 2, 1) := by decide +kernel
theorem dX19_same_25 : decode cX19_same 25 = .ok (.if_icmp .ge 43, 3) := by decide +kernel
theorem dX19_same_28 : decode cX19_same 28 = .ok (.iload_n 3, 1) := by decide +kernel
theorem dX19_same_29 : decode cX19_same 29 = .ok (.ifCond .eq 39, 3) := by decide +kernel
theorem dX19_same_32 : decode cX19_same 32 = .ok (.aload_n 0, 1) := by decide +kernel
theorem dX19_same_33 : decode cX19_same 33 = .ok (.getfield 7, 3) := by decide +kernel
theorem dX19_same_36 : decode cX19_same 36 = .ok (.aload_n 0, 1) := by decide +kernel
theorem dX19_same_37 : decode cX19_same 37 = .ok (.getfield 311, 3) := by decide +kernel
theorem dX19_same_40 : decode cX19_same 40 = .ok (.iload 4, 2) := by decide +kernel
theorem dX19_same_42 : decode cX19_same 42 = .ok (.iadd, 1) := by decide +kernel
theorem dX19_same_43 : decode cX19_same 43 = .ok (.iaload, 1) := by decide +kernel
theorem dX19_same_44 : decode cX19_same 44 = .ok (.aload_n 0, 1) := by decide +kernel
theorem dX19_same_45 : decode cX19_same 45 = .ok (.getfield 7, 3) := by decide +kernel
theorem dX19_same_48 : decode cX19_same 48 = .ok (.iload_n 1, 1) := by decide +kernel
theorem dX19_same_49 : decode cX19_same 49 = .ok (.iload 4, 2) := by decide +kernel
theorem dX19_same_51 : decode cX19_same 51 = .ok (.iadd, 1) := by decide +kernel
theorem dX19_same_52 : decode cX19_same 52 = .ok (.iaload, 1) := by decide +kernel
theorem dX19_same_53 : decode cX19_same 53 = .ok (.if_icmp .ne 7, 3) := by decide +kernel
theorem dX19_same_56 : decode cX19_same 56 = .ok (.iconst 1, 1) := by decide +kernel
theorem dX19_same_57 : decode cX19_same 57 = .ok (.goto 4, 3) := by decide +kernel
theorem dX19_same_60 : decode cX19_same 60 = .ok (.iconst 0, 1) := by decide +kernel
theorem dX19_same_61 : decode cX19_same 61 = .ok (.istore_n 3, 1) := by decide +kernel
theorem dX19_same_62 : decode cX19_same 62 = .ok (.iinc 4 1, 3) := by decide +kernel
theorem dX19_same_65 : decode cX19_same 65 = .ok (.goto (-43), 3) := by decide +kernel
theorem dX19_same_68 : decode cX19_same 68 = .ok (.iload_n 3, 1) := by decide +kernel
theorem dX19_same_69 : decode cX19_same 69 = .ok (.ireturn, 1) := by decide +kernel
theorem cwX19_same : mw_cwV yX19_same cX19_same 5 ((some .boolean)) 2 := ⟨⟨wd_13, wd_3193, by decide +kernel⟩, wd_3192, sl_158⟩
set_option maxHeartbeats 4000000 in
set_option maxRecDepth 100000 in
theorem tX19_same (l : Launch) (G : mwG) (ad : Nat → Nat) (fu : Nat) (a1 : Int32) (a2 : Int32) (M : mwM) (L : mwL) {r0 : Int32} {M0 : mwM} {L0 : mwL} (hD : DX19_same fu a1 a2 M L = some (r0, M0, L0)) : Met l yX19_same (Cond.code yX19_same cX19_same 5 ((some .boolean)) :: GT) ({ frames := 0, cells := 0, slots := 0, locals := 0 }) (mw_Pre G ad NF TF FF M L [.ref (ad 732), .int a1, .int a2]) (mw_Qi G ad NF TF FF (mw_eqI r0 M0 L0)) 0 0 (mw_fr G) := by
  refine mw_enter (by decide) (Nat.le_of_ble_eq_true rfl) ?_
  intro p e s m below meth c ls C hr hlocks hnm hw hl
  have hl : lv_has ls 5 [(0, .ref (ad 732)), (1, .int a1), (2, .int a2)] := hl
  have hb68 : ∀ (v3 : Int32) (M : mwM) (L : mwL) (H : Heap) (locs : List Loc) (ls : Array Slot), fX19_same_b68 fu a1 a2 v3 M L = some (r0, M0, L0) → mw_W G ad NF TF FF M L H locs → lv_has ls 5 [(3, .int v3)] → W p l e ({ frames := 0, cells := 0, slots := 0, locals := 0 }) s m [.ref (ad 732), .int a1, .int a2].toArray below meth c H locs 0 0 (MQ below (mw_Qi G ad NF TF FF (mw_eqI r0 M0 L0)) [.ref (ad 732), .int a1, .int a2].toArray s 0 0 (mw_fr G)) (F0 m 68 ls []) := by
    intro v3 M L H locs ls hD hw hl
    unfold fX19_same_b68 at hD
    refine lv_iload_n C.1.1 C.1.2.1 dX19_same_68 rfl (lv_at hl 0 rfl) ?_
    obtain ⟨z7, hD⟩ := g_zz hD
    exact mr_iret C hr hlocks hw (nz_zz z7) (Option.some.inj hD) dX19_same_69
  have hh22 : ∀ (f : Nat) (v3 : Int32) (v4 : Int32) (M : mwM) (L : mwL) (H : Heap) (locs : List Loc) (ls : Array Slot), fX19_same_h22 fu a1 a2 f (v3, v4, M, L) = some (r0, M0, L0) → mw_W G ad NF TF FF M L H locs → lv_has ls 5 [(0, .ref (ad 732)), (1, .int a1), (2, .int a2), (3, .int v3), (4, .int v4)] → W p l e ({ frames := 0, cells := 0, slots := 0, locals := 0 }) s m [.ref (ad 732), .int a1, .int a2].toArray below meth c H locs 0 0 (MQ below (mw_Qi G ad NF TF FF (mw_eqI r0 M0 L0)) [.ref (ad 732), .int a1, .int a2].toArray s 0 0 (mw_fr G)) (F0 m 22 ls []) := by
    intro f
    induction f with
    | zero => intro v3 v4 M L H locs ls hD; cases hD
    | succ f22 ih22 =>
      intro v3 v4 M L H locs ls hD hw hl
      replace hD : fX19_same_i22 fu a1 a2 (fX19_same_h22 fu a1 a2 f22) v3 v4 M L = some (r0, M0, L0) := hD
      have hb61 : ∀ (v4 : Int32) (s0 : Int32) (M : mwM) (L : mwL) (H : Heap) (locs : List Loc) (ls : Array Slot), fX19_same_b61 fu a1 a2 (fX19_same_h22 fu a1 a2 f22) v4 s0 M L = some (r0, M0, L0) → mw_W G ad NF TF FF M L H locs → lv_has ls 5 [(0, .ref (ad 732)), (1, .int a1), (2, .int a2), (4, .int v4)] → W p l e ({ frames := 0, cells := 0, slots := 0, locals := 0 }) s m [.ref (ad 732), .int a1, .int a2].toArray below meth c H locs 0 0 (MQ below (mw_Qi G ad NF TF FF (mw_eqI r0 M0 L0)) [.ref (ad 732), .int a1, .int a2].toArray s 0 0 (mw_fr G)) (F0 m 61 ls [.int s0]) := by
        intro v4 s0 M L H locs ls hD hw hl
        unfold fX19_same_b61 at hD
        refine lv_istore_n (lv' := [(3, .int s0), (0, .ref (ad 732)), (1, .int a1), (2, .int a2), (4, .int v4)]) C.1.1 C.1.2.1 dX19_same_61 rfl hl (by decide) rfl (fun ls hl => ?_)
        obtain ⟨x6, ex6, hD⟩ := g_let hD
        refine lv_iinc (v := x6) (lv' := [(4, .int x6), (3, .int s0), (0, .ref (ad 732)), (1, .int a1), (2, .int a2)]) C.1.1 C.1.2.1 dX19_same_62 hl (k := 4) rfl (by rw [ex6]; rfl) (by decide) rfl (fun ls hl => ?_)
        refine lv_goto (tgt := 22) C.1.1 C.1.2.1 dX19_same_65 (by decide) ?_
        exact ih22 s0 x6 M L _ _ ls hD hw (lv_sub hl [2, 3, 4, 1, 0] rfl)
      unfold fX19_same_i22 at hD
      refine lv_iload C.1.1 C.1.2.1 dX19_same_22 (lv_at hl 4 rfl) ?_
      refine lv_iload_n C.1.1 C.1.2.1 dX19_same_24 rfl (lv_at hl 2 rfl) ?_
      refine lv_icmp_ge (tgt := 68) C.1.1 C.1.2.1 dX19_same_25 (by decide) (fun c1 => ?_) (fun c1 => ?_)
      · replace hD := g_pos c1 hD
        exact hb68 v3 M L _ _ ls hD hw (lv_sub hl [3] rfl)
      · replace hD := g_neg c1 hD
        refine lv_iload_n C.1.1 C.1.2.1 dX19_same_28 rfl (lv_at hl 3 rfl) ?_
        refine lv_if_eq (tgt := 68) C.1.1 C.1.2.1 dX19_same_29 (by decide) (fun c2 => ?_) (fun c2 => ?_)
        · replace hD := g_pos c2 hD
          exact hb68 v3 M L _ _ ls hD hw (lv_sub hl [3] rfl)
        · replace hD := g_neg c2 hD
          refine lv_aload_n C.1.1 C.1.2.1 dX19_same_32 rfl (lv_at hl 0 rfl) ?_
          refine mr_getR C hw kc_19 1 (by decide) tf_732 ff_732_1 wd_2782 dX19_same_33 (by decide) rfl ?_
          refine lv_aload_n C.1.1 C.1.2.1 dX19_same_36 rfl (lv_at hl 0 rfl) ?_
          refine mr_getI C hw kc_19 9 (by decide) tf_732 wd_2790 dX19_same_37 (by decide) rfl ?_
          refine lv_iload C.1.1 C.1.2.1 dX19_same_40 (lv_at hl 4 rfl) ?_
          refine lv_iadd C.1.1 C.1.2.1 dX19_same_42 ?_
          obtain ⟨q3, hD⟩ := g_ck hD
          refine mr_iald C hw (by decide) tf_733 q3 dX19_same_43 ?_
          refine lv_aload_n C.1.1 C.1.2.1 dX19_same_44 rfl (lv_at hl 0 rfl) ?_
          refine mr_getR C hw kc_19 1 (by decide) tf_732 ff_732_1 wd_2782 dX19_same_45 (by decide) rfl ?_
          refine lv_iload_n C.1.1 C.1.2.1 dX19_same_48 rfl (lv_at hl 1 rfl) ?_
          refine lv_iload C.1.1 C.1.2.1 dX19_same_49 (lv_at hl 4 rfl) ?_
          refine lv_iadd C.1.1 C.1.2.1 dX19_same_51 ?_
          obtain ⟨q4, hD⟩ := g_ck hD
          refine mr_iald C hw (by decide) tf_733 q4 dX19_same_52 ?_
          refine lv_icmp_ne (tgt := 60) C.1.1 C.1.2.1 dX19_same_53 (by decide) (fun c5 => ?_) (fun c5 => ?_)
          · replace hD := g_neg c5 hD
            refine lv_iconst (v := 0) C.1.1 C.1.2.1 dX19_same_60 (by decide) ?_
            exact hb61 v4 0 M L _ _ ls hD hw (lv_sub hl [0, 1, 2, 4] rfl)
          · replace hD := g_pos c5 hD
            refine lv_iconst (v := 1) C.1.1 C.1.2.1 dX19_same_56 (by decide) ?_
            refine lv_goto (tgt := 61) C.1.1 C.1.2.1 dX19_same_57 (by decide) ?_
            exact hb61 v4 1 M L _ _ ls hD hw (lv_sub hl [0, 1, 2, 4] rfl)
  have hb18 : ∀ (s0 : Int32) (M : mwM) (L : mwL) (H : Heap) (locs : List Loc) (ls : Array Slot), fX19_same_b18 fu a1 a2 s0 M L = some (r0, M0, L0) → mw_W G ad NF TF FF M L H locs → lv_has ls 5 [(0, .ref (ad 732)), (1, .int a1), (2, .int a2)] → W p l e ({ frames := 0, cells := 0, slots := 0, locals := 0 }) s m [.ref (ad 732), .int a1, .int a2].toArray below meth c H locs 0 0 (MQ below (mw_Qi G ad NF TF FF (mw_eqI r0 M0 L0)) [.ref (ad 732), .int a1, .int a2].toArray s 0 0 (mw_fr G)) (F0 m 18 ls [.int s0]) := by
    intro s0 M L H locs ls hD hw hl
    unfold fX19_same_b18 at hD
    refine lv_istore_n (lv' := [(3, .int s0), (0, .ref (ad 732)), (1, .int a1), (2, .int a2)]) C.1.1 C.1.2.1 dX19_same_18 rfl hl (by decide) rfl (fun ls hl => ?_)
    refine lv_iconst (v := 0) C.1.1 C.1.2.1 dX19_same_19 (by decide) ?_
    refine lv_istore (lv' := [(4, .int 0), (3, .int s0), (0, .ref (ad 732)), (1, .int a1), (2, .int a2)]) C.1.1 C.1.2.1 dX19_same_20 hl (by decide) rfl (fun ls hl => ?_)
    exact hh22 fu s0 0 M L _ _ ls hD hw (lv_sub hl [2, 3, 4, 1, 0] rfl)
  unfold DX19_same at hD
  refine lv_aload_n C.1.1 C.1.2.1 dX19_same_0 rfl (lv_at hl 0 rfl) ?_
  refine mr_getI C hw kc_19 10 (by decide) tf_732 wd_2791 dX19_same_1 (by decide) rfl ?_
  refine lv_aload_n C.1.1 C.1.2.1 dX19_same_4 rfl (lv_at hl 0 rfl) ?_
  refine mr_getI C hw kc_19 9 (by decide) tf_732 wd_2790 dX19_same_5 (by decide) rfl ?_
  refine lv_isub C.1.1 C.1.2.1 dX19_same_8 ?_
  refine lv_iload_n C.1.1 C.1.2.1 dX19_same_9 rfl (lv_at hl 2 rfl) ?_
  refine lv_icmp_ne (tgt := 17) C.1.1 C.1.2.1 dX19_same_10 (by decide) (fun c8 => ?_) (fun c8 => ?_)
  · replace hD := g_neg c8 hD
    refine lv_iconst (v := 0) C.1.1 C.1.2.1 dX19_same_17 (by decide) ?_
    exact hb18 0 M L _ _ ls hD hw (lv_sub hl [0, 1, 2] rfl)
  · replace hD := g_pos c8 hD
    refine lv_iconst (v := 1) C.1.1 C.1.2.1 dX19_same_13 (by decide) ?_
    refine lv_goto (tgt := 18) C.1.1 C.1.2.1 dX19_same_14 (by decide) ?_
    exact hb18 1 M L _ _ ls hD hw (lv_sub hl [0, 1, 2] rfl)

theorem dX19_findName_0 : decode cX19_findName 0 = .ok (.iconst 0, 1) := by decide +kernel
theorem dX19_findName_1 : decode cX19_findName 1 = .ok (.istore_n 1, 1) := by decide +kernel
theorem dX19_findName_2 : decode cX19_findName 2 = .ok (.iload_n 1, 1) := by decide +kernel
theorem dX19_findName_3 : decode cX19_findName 3 = .ok (.aload_n 0, 1) := by decide +kernel
theorem dX19_findName_4 : decode cX19_findName 4 = .ok (.getfield 347, 3) := by decide +kernel
theorem dX19_findName_7 : decode cX19_findName 7 = .ok (.if_icmp .ge 30, 3) := by decide +kernel
theorem dX19_findName_10 : decode cX19_findName 10 = .ok (.aload_n 0, 1) := by decide +kernel
theorem dX19_findName_11 : decode cX19_findName 11 = .ok (.aload_n 0, 1) := by decide +kernel
theorem dX19_findName_12 : decode cX19_findName 12 = .ok (.getfield 13, 3) := by decide +kernel
theorem dX19_findName_15 : decode cX19_findName 15 = .ok (.iload_n 1, 1) := by decide +kernel
theorem dX19_findName_16 : decode cX19_findName 16 = .ok (.iaload, 1) := by decide +kernel
theorem dX19_findName_17 : decode cX19_findName 17 = .ok (.aload_n 0, 1) := by decide +kernel
theorem dX19_findName_18 : decode cX19_findName 18 = .ok (.getfield 16, 3) := by decide +kernel
theorem dX19_findName_21 : decode cX19_findName 21 = .ok (.iload_n 1, 1) := by decide +kernel
theorem dX19_findName_22 : decode cX19_findName 22 = .ok (.iaload, 1) := by decide +kernel
theorem dX19_findName_23 : decode cX19_findName 23 = .ok (.invokevirtual 350, 3) := by decide +kernel
theorem dX19_findName_26 : decode cX19_findName 26 = .ok (.ifCond .eq 5, 3) := by decide +kernel
theorem dX19_findName_29 : decode cX19_findName 29 = .ok (.iload_n 1, 1) := by decide +kernel
theorem dX19_findName_30 : decode cX19_findName 30 = .ok (.ireturn, 1) := by decide +kernel
theorem dX19_findName_31 : decode cX19_findName 31 = .ok (.iinc 1 1, 3) := by decide +kernel
theorem dX19_findName_34 : decode cX19_findName 34 = .ok (.goto (-32), 3) := by decide +kernel
theorem dX19_findName_37 : decode cX19_findName 37 = .ok (.iconst (-1), 1) := by decide +kernel
theorem dX19_findName_38 : decode cX19_findName 38 = .ok (.ireturn, 1) := by decide +kernel
theorem cwX19_findName : mw_cwV yX19_findName cX19_findName 2 ((some .int)) 0 := ⟨⟨wd_13, wd_3189, by decide +kernel⟩, wd_3188, sl_157⟩
set_option maxHeartbeats 4000000 in
set_option maxRecDepth 100000 in
theorem tX19_findName (l : Launch) (G : mwG) (ad : Nat → Nat) (fu : Nat) (M : mwM) (L : mwL) {r0 : Int32} {M0 : mwM} {L0 : mwL} (hD : DX19_findName fu M L = some (r0, M0, L0)) : Met l yX19_findName (Cond.code yX19_findName cX19_findName 2 ((some .int)) :: GT) ({ frames := 1, cells := 0, slots := 0, locals := 24 }) (mw_Pre G ad NF TF FF M L [.ref (ad 732)]) (mw_Qi G ad NF TF FF (mw_eqI r0 M0 L0)) 0 0 (mw_fr G) := by
  refine mw_enter (by decide) (Nat.le_of_ble_eq_true rfl) ?_
  intro p e s m below meth c ls C hr hlocks hnm hw hl
  have hl : lv_has ls 2 [(0, .ref (ad 732))] := hl
  have hh2 : ∀ (f : Nat) (v1 : Int32) (M : mwM) (L : mwL) (H : Heap) (locs : List Loc) (ls : Array Slot), fX19_findName_h2 fu f (v1, M, L) = some (r0, M0, L0) → mw_W G ad NF TF FF M L H locs → lv_has ls 2 [(0, .ref (ad 732)), (1, .int v1)] → W p l e ({ frames := 1, cells := 0, slots := 0, locals := 24 }) s m [.ref (ad 732)].toArray below meth c H locs 0 0 (MQ below (mw_Qi G ad NF TF FF (mw_eqI r0 M0 L0)) [.ref (ad 732)].toArray s 0 0 (mw_fr G)) (F0 m 2 ls []) := by
    intro f
    induction f with
    | zero => intro v1 M L H locs ls hD; cases hD
    | succ f2 ih2 =>
      intro v1 M L H locs ls hD hw hl
      replace hD : fX19_findName_i2 fu (fX19_findName_h2 fu f2) v1 M L = some (r0, M0, L0) := hD
      unfold fX19_findName_i2 at hD
      refine lv_iload_n C.1.1 C.1.2.1 dX19_findName_2 rfl (lv_at hl 1 rfl) ?_
      refine lv_aload_n C.1.1 C.1.2.1 dX19_findName_3 rfl (lv_at hl 0 rfl) ?_
      refine mr_getI C hw kc_19 14 (by decide) tf_732 wd_2795 dX19_findName_4 (by decide) rfl ?_
      refine lv_icmp_ge (tgt := 37) C.1.1 C.1.2.1 dX19_findName_7 (by decide) (fun c1 => ?_) (fun c1 => ?_)
      · replace hD := g_pos c1 hD
        refine lv_iconst (v := (-1)) C.1.1 C.1.2.1 dX19_findName_37 (by decide) ?_
        exact mr_iret C hr hlocks hw rfl (Option.some.inj hD) dX19_findName_38
      · replace hD := g_neg c1 hD
        refine lv_aload_n C.1.1 C.1.2.1 dX19_findName_10 rfl (lv_at hl 0 rfl) ?_
        refine lv_aload_n C.1.1 C.1.2.1 dX19_findName_11 rfl (lv_at hl 0 rfl) ?_
        refine mr_getR C hw kc_19 15 (by decide) tf_732 ff_732_15 wd_2796 dX19_findName_12 (by decide) rfl ?_
        refine lv_iload_n C.1.1 C.1.2.1 dX19_findName_15 rfl (lv_at hl 1 rfl) ?_
        obtain ⟨q2, hD⟩ := g_ck hD
        refine mr_iald C hw (by decide) tf_734 q2 dX19_findName_16 ?_
        refine lv_aload_n C.1.1 C.1.2.1 dX19_findName_17 rfl (lv_at hl 0 rfl) ?_
        refine mr_getR C hw kc_19 16 (by decide) tf_732 ff_732_16 wd_2797 dX19_findName_18 (by decide) rfl ?_
        refine lv_iload_n C.1.1 C.1.2.1 dX19_findName_21 rfl (lv_at hl 1 rfl) ?_
        obtain ⟨q3, hD⟩ := g_ck hD
        refine mr_iald C hw (by decide) tf_735 q3 dX19_findName_22 ?_
        obtain ⟨r6, M4, L5, h1, hD⟩ := g_b3 hD
        refine md_cvI (As := [.int (M 734 v1.toNatClampNeg), .int (M 735 v1.toNatClampNeg)]) (rest := []) C hw (tX19_same l G ad fu (M 734 v1.toNatClampNeg) (M 735 v1.toNatClampNeg) M L h1) kc_19 (by decide) tf_732 wd_3190 cwX19_same ⟨Nat.le_of_ble_eq_true rfl, Nat.le_of_ble_eq_true rfl⟩ rfl hl.1 (Nat.le_of_ble_eq_true rfl) dX19_findName_23 rfl rfl ⟨Nat.zero_le _, Nat.zero_le _⟩ rfl (fun H locs hw => ?_)
        refine lv_if_eq (tgt := 31) C.1.1 C.1.2.1 dX19_findName_26 (by decide) (fun c7 => ?_) (fun c7 => ?_)
        · replace hD := g_pos c7 hD
          obtain ⟨x8, ex8, hD⟩ := g_let hD
          refine lv_iinc (v := x8) (lv' := [(1, .int x8), (0, .ref (ad 732))]) C.1.1 C.1.2.1 dX19_findName_31 hl (k := 1) rfl (by rw [ex8]; rfl) (by decide) rfl (fun ls hl => ?_)
          refine lv_goto (tgt := 2) C.1.1 C.1.2.1 dX19_findName_34 (by decide) ?_
          exact ih2 x8 M4 L5 _ _ ls hD hw (lv_sub hl [1, 0] rfl)
        · replace hD := g_neg c7 hD
          refine lv_iload_n C.1.1 C.1.2.1 dX19_findName_29 rfl (lv_at hl 1 rfl) ?_
          exact mr_iret C hr hlocks hw rfl (Option.some.inj hD) dX19_findName_30
  unfold DX19_findName at hD
  refine lv_iconst (v := 0) C.1.1 C.1.2.1 dX19_findName_0 (by decide) ?_
  refine lv_istore_n (lv' := [(1, .int 0), (0, .ref (ad 732))]) C.1.1 C.1.2.1 dX19_findName_1 rfl hl (by decide) rfl (fun ls hl => ?_)
  exact hh2 fu 0 M L _ _ ls hD hw (lv_sub hl [1, 0] rfl)

theorem dX19_newName_0 : decode cX19_newName 0 = .ok (.aload_n 0, 1) := by decide +kernel
theorem dX19_newName_1 : decode cX19_newName 1 = .ok (.invokevirtual 341, 3) := by decide +kernel
theorem dX19_newName_4 : decode cX19_newName 4 = .ok (.ifCond .ne 5, 3) := by decide +kernel
theorem dX19_newName_7 : decode cX19_newName 7 = .ok (.iconst 0, 1) := by decide +kernel
theorem dX19_newName_8 : decode cX19_newName 8 = .ok (.ireturn, 1) := by decide +kernel
theorem dX19_newName_9 : decode cX19_newName 9 = .ok (.aload_n 0, 1) := by decide +kernel
theorem dX19_newName_10 : decode cX19_newName 10 = .ok (.invokevirtual 353, 3) := by decide +kernel
theorem dX19_newName_13 : decode cX19_newName 13 = .ok (.ifCond .ne 13, 3) := by decide +kernel
theorem dX19_newName_16 : decode cX19_newName 16 = .ok (.aload_n 0, 1) := by decide +kernel
theorem dX19_newName_17 : decode cX19_newName 17 = .ok (.iconst 2, 1) := by decide +kernel
theorem dX19_newName_18 : decode cX19_newName 18 = .ok (.aload_n 0, 1) := by decide +kernel
theorem dX19_newName_19 : decode cX19_newName 19 = .ok (.getfield 311, 3) := by decide +kernel
theorem dX19_newName_22 : decode cX19_newName 22 = .ok (.invokevirtual 321, 3) := by decide +kernel
theorem dX19_newName_25 : decode cX19_newName 25 = .ok (.ireturn, 1) := by decide +kernel
theorem dX19_newName_26 : decode cX19_newName 26 = .ok (.aload_n 0, 1) := by decide +kernel
theorem dX19_newName_27 : decode cX19_newName 27 = .ok (.invokevirtual 356, 3) := by decide +kernel
theorem dX19_newName_30 : decode cX19_newName 30 = .ok (.ifCond .lt 13, 3) := by decide +kernel
theorem dX19_newName_33 : decode cX19_newName 33 = .ok (.aload_n 0, 1) := by decide +kernel
theorem dX19_newName_34 : decode cX19_newName 34 = .ok (.iconst 3, 1) := by decide +kernel
theorem dX19_newName_35 : decode cX19_newName 35 = .ok (.aload_n 0, 1) := by decide +kernel
theorem dX19_newName_36 : decode cX19_newName 36 = .ok (.getfield 311, 3) := by decide +kernel
theorem dX19_newName_39 : decode cX19_newName 39 = .ok (.invokevirtual 321, 3) := by decide +kernel
theorem dX19_newName_42 : decode cX19_newName 42 = .ok (.ireturn, 1) := by decide +kernel
theorem dX19_newName_43 : decode cX19_newName 43 = .ok (.iload_n 1, 1) := by decide +kernel
theorem dX19_newName_44 : decode cX19_newName 44 = .ok (.iload_n 2, 1) := by decide +kernel
theorem dX19_newName_45 : decode cX19_newName 45 = .ok (.if_icmp .lt 16, 3) := by decide +kernel
theorem dX19_newName_48 : decode cX19_newName 48 = .ok (.aload_n 0, 1) := by decide +kernel
theorem dX19_newName_49 : decode cX19_newName 49 = .ok (.bipush 6, 2) := by decide +kernel
theorem dX19_newName_51 : decode cX19_newName 51 = .ok (.aload_n 0, 1) := by decide +kernel
theorem dX19_newName_52 : decode cX19_newName 52 = .ok (.getfield 311, 3) := by decide +kernel
theorem dX19_newName_55 : decode cX19_newName 55 = .ok (.invokevirtual 321, 3) := by decide +kernel
theorem dX19_newName_58 : decode cX19_newName 58 = .ok (.ifCond .eq 7, 3) := by decide +kernel
theorem dX19_newName_61 : decode cX19_newName 61 = .ok (.iconst 1, 1) := by decide +kernel
theorem dX19_newName_62 : decode cX19_newName 62 = .ok (.goto 4, 3) := by decide +kernel
theorem dX19_newName_65 : decode cX19_newName 65 = .ok (.iconst 0, 1) := by decide +kernel
theorem dX19_newName_66 : decode cX19_newName 66 = .ok (.ireturn, 1) := by decide +kernel
theorem cwX19_newName : mw_cwV yX19_newName cX19_newName 3 ((some .boolean)) 2 := ⟨⟨wd_13, wd_3167, by decide +kernel⟩, wd_3166, sl_153⟩
set_option maxHeartbeats 4000000 in
set_option maxRecDepth 100000 in
theorem tX19_newName (l : Launch) (G : mwG) (ad : Nat → Nat) (fu : Nat) (a1 : Int32) (a2 : Int32) (M : mwM) (L : mwL) {r0 : Int32} {M0 : mwM} {L0 : mwL} (hD : DX19_newName fu a1 a2 M L = some (r0, M0, L0)) : Met l yX19_newName (Cond.code yX19_newName cX19_newName 3 ((some .boolean)) :: GT) ({ frames := 2, cells := 0, slots := 0, locals := 45 }) (mw_Pre G ad NF TF FF M L [.ref (ad 732), .int a1, .int a2]) (mw_Qi G ad NF TF FF (mw_eqI r0 M0 L0)) 0 0 (mw_fr G) := by
  refine mw_enter (by decide) (Nat.le_of_ble_eq_true rfl) ?_
  intro p e s m below meth c ls C hr hlocks hnm hw hl
  have hl : lv_has ls 3 [(0, .ref (ad 732)), (1, .int a1), (2, .int a2)] := hl
  have hb66 : ∀ (s0 : Int32) (M : mwM) (L : mwL) (H : Heap) (locs : List Loc) (ls : Array Slot), fX19_newName_b66 fu a1 a2 s0 M L = some (r0, M0, L0) → mw_W G ad NF TF FF M L H locs → lv_has ls 3 [] → W p l e ({ frames := 2, cells := 0, slots := 0, locals := 45 }) s m [.ref (ad 732), .int a1, .int a2].toArray below meth c H locs 0 0 (MQ below (mw_Qi G ad NF TF FF (mw_eqI r0 M0 L0)) [.ref (ad 732), .int a1, .int a2].toArray s 0 0 (mw_fr G)) (F0 m 66 ls [.int s0]) := by
    intro s0 M L H locs ls hD hw hl
    unfold fX19_newName_b66 at hD
    obtain ⟨z1, hD⟩ := g_zz hD
    exact mr_iret C hr hlocks hw (nz_zz z1) (Option.some.inj hD) dX19_newName_66
  have hb61 : ∀ (M : mwM) (L : mwL) (H : Heap) (locs : List Loc) (ls : Array Slot), fX19_newName_b61 fu a1 a2 M L = some (r0, M0, L0) → mw_W G ad NF TF FF M L H locs → lv_has ls 3 [] → W p l e ({ frames := 2, cells := 0, slots := 0, locals := 45 }) s m [.ref (ad 732), .int a1, .int a2].toArray below meth c H locs 0 0 (MQ below (mw_Qi G ad NF TF FF (mw_eqI r0 M0 L0)) [.ref (ad 732), .int a1, .int a2].toArray s 0 0 (mw_fr G)) (F0 m 61 ls []) := by
    intro M L H locs ls hD hw hl
    unfold fX19_newName_b61 at hD
    refine lv_iconst (v := 1) C.1.1 C.1.2.1 dX19_newName_61 (by decide) ?_
    refine lv_goto (tgt := 66) C.1.1 C.1.2.1 dX19_newName_62 (by decide) ?_
    exact hb66 1 M L _ _ ls hD hw (lv_sub hl [] rfl)
  unfold DX19_newName at hD
  refine lv_aload_n C.1.1 C.1.2.1 dX19_newName_0 rfl (lv_at hl 0 rfl) ?_
  obtain ⟨r4, M2, L3, h1, hD⟩ := g_b3 hD
  refine md_cvI (As := []) (rest := []) C hw (tX19_must l G ad fu M L h1) kc_19 (by decide) tf_732 wd_3168 cwX19_must ⟨Nat.le_of_ble_eq_true rfl, Nat.le_of_ble_eq_true rfl⟩ rfl hl.1 (Nat.le_of_ble_eq_true rfl) dX19_newName_1 rfl rfl ⟨Nat.zero_le _, Nat.zero_le _⟩ rfl (fun H locs hw => ?_)
  refine lv_if_ne (tgt := 9) C.1.1 C.1.2.1 dX19_newName_4 (by decide) (fun c5 => ?_) (fun c5 => ?_)
  · replace hD := g_neg c5 hD
    refine lv_aload_n C.1.1 C.1.2.1 dX19_newName_9 rfl (lv_at hl 0 rfl) ?_
    obtain ⟨r8, M6, L7, h1, hD⟩ := g_b3 hD
    refine md_cvI (As := []) (rest := []) C hw (tX19_isName l G ad fu M2 L3 h1) kc_19 (by decide) tf_732 wd_3176 cwX19_isName ⟨Nat.le_of_ble_eq_true rfl, Nat.le_of_ble_eq_true rfl⟩ rfl hl.1 (Nat.le_of_ble_eq_true rfl) dX19_newName_10 rfl rfl ⟨Nat.zero_le _, Nat.zero_le _⟩ rfl (fun H locs hw => ?_)
    refine lv_if_ne (tgt := 26) C.1.1 C.1.2.1 dX19_newName_13 (by decide) (fun c9 => ?_) (fun c9 => ?_)
    · replace hD := g_neg c9 hD
      refine lv_aload_n C.1.1 C.1.2.1 dX19_newName_26 rfl (lv_at hl 0 rfl) ?_
      obtain ⟨r12, M10, L11, h1, hD⟩ := g_b3 hD
      refine md_cvI (As := []) (rest := []) C hw (tX19_findName l G ad fu M6 L7 h1) kc_19 (by decide) tf_732 wd_3186 cwX19_findName ⟨Nat.le_of_ble_eq_true rfl, Nat.le_of_ble_eq_true rfl⟩ rfl hl.1 (Nat.le_of_ble_eq_true rfl) dX19_newName_27 rfl rfl ⟨Nat.zero_le _, Nat.zero_le _⟩ rfl (fun H locs hw => ?_)
      refine lv_if_lt (tgt := 43) C.1.1 C.1.2.1 dX19_newName_30 (by decide) (fun c13 => ?_) (fun c13 => ?_)
      · replace hD := g_pos c13 hD
        refine lv_iload_n C.1.1 C.1.2.1 dX19_newName_43 rfl (lv_at hl 1 rfl) ?_
        refine lv_iload_n C.1.1 C.1.2.1 dX19_newName_44 rfl (lv_at hl 2 rfl) ?_
        refine lv_icmp_lt (tgt := 61) C.1.1 C.1.2.1 dX19_newName_45 (by decide) (fun c14 => ?_) (fun c14 => ?_)
        · replace hD := g_pos c14 hD
          exact hb61 M10 L11 _ _ ls hD hw (lv_sub hl [] rfl)
        · replace hD := g_neg c14 hD
          refine lv_aload_n C.1.1 C.1.2.1 dX19_newName_48 rfl (lv_at hl 0 rfl) ?_
          refine lv_bipush (v := 6) C.1.1 C.1.2.1 dX19_newName_49 (by decide) ?_
          refine lv_aload_n C.1.1 C.1.2.1 dX19_newName_51 rfl (lv_at hl 0 rfl) ?_
          refine mr_getI C hw kc_19 9 (by decide) tf_732 wd_2790 dX19_newName_52 (by decide) rfl ?_
          obtain ⟨r17, M15, L16, h1, hD⟩ := g_b3 hD
          refine md_cvI (As := [.int 6, .int (M10 732 9)]) (rest := []) C hw (tX19_fail l G ad fu 6 (M10 732 9) M10 L11 h1) kc_19 (by decide) tf_732 wd_3172 cwX19_fail ⟨Nat.le_of_ble_eq_true rfl, Nat.le_of_ble_eq_true rfl⟩ rfl hl.1 (Nat.le_of_ble_eq_true rfl) dX19_newName_55 rfl rfl ⟨Nat.zero_le _, Nat.zero_le _⟩ rfl (fun H locs hw => ?_)
          refine lv_if_eq (tgt := 65) C.1.1 C.1.2.1 dX19_newName_58 (by decide) (fun c18 => ?_) (fun c18 => ?_)
          · replace hD := g_pos c18 hD
            refine lv_iconst (v := 0) C.1.1 C.1.2.1 dX19_newName_65 (by decide) ?_
            exact hb66 0 M15 L16 _ _ ls hD hw (lv_sub hl [] rfl)
          · replace hD := g_neg c18 hD
            exact hb61 M15 L16 _ _ ls hD hw (lv_sub hl [] rfl)
      · replace hD := g_neg c13 hD
        refine lv_aload_n C.1.1 C.1.2.1 dX19_newName_33 rfl (lv_at hl 0 rfl) ?_
        refine lv_iconst (v := 3) C.1.1 C.1.2.1 dX19_newName_34 (by decide) ?_
        refine lv_aload_n C.1.1 C.1.2.1 dX19_newName_35 rfl (lv_at hl 0 rfl) ?_
        refine mr_getI C hw kc_19 9 (by decide) tf_732 wd_2790 dX19_newName_36 (by decide) rfl ?_
        obtain ⟨r21, M19, L20, h1, hD⟩ := g_b3 hD
        refine md_cvI (As := [.int 3, .int (M10 732 9)]) (rest := []) C hw (tX19_fail l G ad fu 3 (M10 732 9) M10 L11 h1) kc_19 (by decide) tf_732 wd_3172 cwX19_fail ⟨Nat.le_of_ble_eq_true rfl, Nat.le_of_ble_eq_true rfl⟩ rfl hl.1 (Nat.le_of_ble_eq_true rfl) dX19_newName_39 rfl rfl ⟨Nat.zero_le _, Nat.zero_le _⟩ rfl (fun H locs hw => ?_)
        obtain ⟨z22, hD⟩ := g_zz hD
        exact mr_iret C hr hlocks hw (nz_zz z22) (Option.some.inj hD) dX19_newName_42
    · replace hD := g_pos c9 hD
      refine lv_aload_n C.1.1 C.1.2.1 dX19_newName_16 rfl (lv_at hl 0 rfl) ?_
      refine lv_iconst (v := 2) C.1.1 C.1.2.1 dX19_newName_17 (by decide) ?_
      refine lv_aload_n C.1.1 C.1.2.1 dX19_newName_18 rfl (lv_at hl 0 rfl) ?_
      refine mr_getI C hw kc_19 9 (by decide) tf_732 wd_2790 dX19_newName_19 (by decide) rfl ?_
      obtain ⟨r25, M23, L24, h1, hD⟩ := g_b3 hD
      refine md_cvI (As := [.int 2, .int (M6 732 9)]) (rest := []) C hw (tX19_fail l G ad fu 2 (M6 732 9) M6 L7 h1) kc_19 (by decide) tf_732 wd_3172 cwX19_fail ⟨Nat.le_of_ble_eq_true rfl, Nat.le_of_ble_eq_true rfl⟩ rfl hl.1 (Nat.le_of_ble_eq_true rfl) dX19_newName_22 rfl rfl ⟨Nat.zero_le _, Nat.zero_le _⟩ rfl (fun H locs hw => ?_)
      obtain ⟨z26, hD⟩ := g_zz hD
      exact mr_iret C hr hlocks hw (nz_zz z26) (Option.some.inj hD) dX19_newName_25
  · replace hD := g_pos c5 hD
    refine lv_iconst (v := 0) C.1.1 C.1.2.1 dX19_newName_7 (by decide) ?_
    exact mr_iret C hr hlocks hw (by decide +kernel) (Option.some.inj hD) dX19_newName_8

theorem dX19_addName_0 : decode cX19_addName 0 = .ok (.aload_n 0, 1) := by decide +kernel
theorem dX19_addName_1 : decode cX19_addName 1 = .ok (.getfield 13, 3) := by decide +kernel
theorem dX19_addName_4 : decode cX19_addName 4 = .ok (.aload_n 0, 1) := by decide +kernel
theorem dX19_addName_5 : decode cX19_addName 5 = .ok (.getfield 347, 3) := by decide +kernel
theorem dX19_addName_8 : decode cX19_addName 8 = .ok (.iload_n 1, 1) := by decide +kernel
theorem dX19_addName_9 : decode cX19_addName 9 = .ok (.iastore, 1) := by decide +kernel
theorem dX19_addName_10 : decode cX19_addName 10 = .ok (.aload_n 0, 1) := by decide +kernel
theorem dX19_addName_11 : decode cX19_addName 11 = .ok (.getfield 16, 3) := by decide +kernel
theorem dX19_addName_14 : decode cX19_addName 14 = .ok (.aload_n 0, 1) := by decide +kernel
theorem dX19_addName_15 : decode cX19_addName 15 = .ok (.getfield 347, 3) := by decide +kernel
theorem dX19_addName_18 : decode cX19_addName 18 = .ok (.iload_n 2, 1) := by decide +kernel
theorem dX19_addName_19 : decode cX19_addName 19 = .ok (.iastore, 1) := by decide +kernel
theorem dX19_addName_20 : decode cX19_addName 20 = .ok (.aload_n 0, 1) := by decide +kernel
theorem dX19_addName_21 : decode cX19_addName 21 = .ok (.getfield 19, 3) := by decide +kernel
theorem dX19_addName_24 : decode cX19_addName 24 = .ok (.aload_n 0, 1) := by decide +kernel
theorem dX19_addName_25 : decode cX19_addName 25 = .ok (.getfield 347, 3) := by decide +kernel
theorem dX19_addName_28 : decode cX19_addName 28 = .ok (.iload_n 3, 1) := by decide +kernel
theorem dX19_addName_29 : decode cX19_addName 29 = .ok (.iastore, 1) := by decide +kernel
theorem dX19_addName_30 : decode cX19_addName 30 = .ok (.aload_n 0, 1) := by decide +kernel
theorem dX19_addName_31 : decode cX19_addName 31 = .ok (.getfield 22, 3) := by decide +kernel
theorem dX19_addName_34 : decode cX19_addName 34 = .ok (.aload_n 0, 1) := by decide +kernel
theorem dX19_addName_35 : decode cX19_addName 35 = .ok (.getfield 347, 3) := by decide +kernel
theorem dX19_addName_38 : decode cX19_addName 38 = .ok (.iload 4, 2) := by decide +kernel
theorem dX19_addName_40 : decode cX19_addName 40 = .ok (.iastore, 1) := by decide +kernel
theorem dX19_addName_41 : decode cX19_addName 41 = .ok (.aload_n 0, 1) := by decide +kernel
theorem dX19_addName_42 : decode cX19_addName 42 = .ok (.dup, 1) := by decide +kernel
theorem dX19_addName_43 : decode cX19_addName 43 = .ok (.getfield 347, 3) := by decide +kernel
theorem dX19_addName_46 : decode cX19_addName 46 = .ok (.iconst 1, 1) := by decide +kernel
theorem dX19_addName_47 : decode cX19_addName 47 = .ok (.iadd, 1) := by decide +kernel
theorem dX19_addName_48 : decode cX19_addName 48 = .ok (.putfield 347, 3) := by decide +kernel
theorem dX19_addName_51 : decode cX19_addName 51 = .ok (.return_, 1) := by decide +kernel
theorem cwX19_addName : mw_cwV yX19_addName cX19_addName 5 (none) 4 := ⟨⟨wd_13, wd_3201, by decide +kernel⟩, wd_3200, sl_160⟩
set_option maxHeartbeats 4000000 in
set_option maxRecDepth 100000 in
theorem tX19_addName (l : Launch) (G : mwG) (ad : Nat → Nat) (fu : Nat) (a1 : Int32) (a2 : Int32) (a3 : Int32) (a4 : Int32) (M : mwM) (L : mwL) {M0 : mwM} {L0 : mwL} (hD : DX19_addName fu a1 a2 a3 a4 M L = some (M0, L0)) : Met l yX19_addName (Cond.code yX19_addName cX19_addName 5 (none) :: GT) ({ frames := 0, cells := 0, slots := 0, locals := 0 }) (mw_Pre G ad NF TF FF M L [.ref (ad 732), .int a1, .int a2, .int a3, .int a4]) (mw_Qv G ad NF TF FF (mw_eqV M0 L0)) 0 0 (mw_fr G) := by
  refine mw_enter (by decide) (Nat.le_of_ble_eq_true rfl) ?_
  intro p e s m below meth c ls C hr hlocks hnm hw hl
  have hl : lv_has ls 5 [(0, .ref (ad 732)), (1, .int a1), (2, .int a2), (3, .int a3), (4, .int a4)] := hl
  unfold DX19_addName at hD
  refine lv_aload_n C.1.1 C.1.2.1 dX19_addName_0 rfl (lv_at hl 0 rfl) ?_
  refine mr_getR C hw kc_19 15 (by decide) tf_732 ff_732_15 wd_2796 dX19_addName_1 (by decide) rfl ?_
  refine lv_aload_n C.1.1 C.1.2.1 dX19_addName_4 rfl (lv_at hl 0 rfl) ?_
  refine mr_getI C hw kc_19 14 (by decide) tf_732 wd_2795 dX19_addName_5 (by decide) rfl ?_
  refine lv_iload_n C.1.1 C.1.2.1 dX19_addName_8 rfl (lv_at hl 1 rfl) ?_
  obtain ⟨q1, hD⟩ := g_ck hD
  obtain ⟨M2, eM2, hD⟩ := g_let hD
  refine mr_iast C hw (by decide) tf_734 q1 dX19_addName_9 (fun H locs hw => ?_)
  replace hw : mw_W G ad NF TF FF M2 L H locs := by rw [eM2]; exact hw
  refine lv_aload_n C.1.1 C.1.2.1 dX19_addName_10 rfl (lv_at hl 0 rfl) ?_
  refine mr_getR C hw kc_19 16 (by decide) tf_732 ff_732_16 wd_2797 dX19_addName_11 (by decide) rfl ?_
  refine lv_aload_n C.1.1 C.1.2.1 dX19_addName_14 rfl (lv_at hl 0 rfl) ?_
  refine mr_getI C hw kc_19 14 (by decide) tf_732 wd_2795 dX19_addName_15 (by decide) rfl ?_
  refine lv_iload_n C.1.1 C.1.2.1 dX19_addName_18 rfl (lv_at hl 2 rfl) ?_
  obtain ⟨q3, hD⟩ := g_ck hD
  obtain ⟨M4, eM4, hD⟩ := g_let hD
  refine mr_iast C hw (by decide) tf_735 q3 dX19_addName_19 (fun H locs hw => ?_)
  replace hw : mw_W G ad NF TF FF M4 L H locs := by rw [eM4]; exact hw
  refine lv_aload_n C.1.1 C.1.2.1 dX19_addName_20 rfl (lv_at hl 0 rfl) ?_
  refine mr_getR C hw kc_19 17 (by decide) tf_732 ff_732_17 wd_2798 dX19_addName_21 (by decide) rfl ?_
  refine lv_aload_n C.1.1 C.1.2.1 dX19_addName_24 rfl (lv_at hl 0 rfl) ?_
  refine mr_getI C hw kc_19 14 (by decide) tf_732 wd_2795 dX19_addName_25 (by decide) rfl ?_
  refine lv_iload_n C.1.1 C.1.2.1 dX19_addName_28 rfl (lv_at hl 3 rfl) ?_
  obtain ⟨q5, hD⟩ := g_ck hD
  obtain ⟨M6, eM6, hD⟩ := g_let hD
  refine mr_iast C hw (by decide) tf_736 q5 dX19_addName_29 (fun H locs hw => ?_)
  replace hw : mw_W G ad NF TF FF M6 L H locs := by rw [eM6]; exact hw
  refine lv_aload_n C.1.1 C.1.2.1 dX19_addName_30 rfl (lv_at hl 0 rfl) ?_
  refine mr_getR C hw kc_19 18 (by decide) tf_732 ff_732_18 wd_2799 dX19_addName_31 (by decide) rfl ?_
  refine lv_aload_n C.1.1 C.1.2.1 dX19_addName_34 rfl (lv_at hl 0 rfl) ?_
  refine mr_getI C hw kc_19 14 (by decide) tf_732 wd_2795 dX19_addName_35 (by decide) rfl ?_
  refine lv_iload C.1.1 C.1.2.1 dX19_addName_38 (lv_at hl 4 rfl) ?_
  obtain ⟨q7, hD⟩ := g_ck hD
  obtain ⟨M8, eM8, hD⟩ := g_let hD
  refine mr_iast C hw (by decide) tf_737 q7 dX19_addName_40 (fun H locs hw => ?_)
  replace hw : mw_W G ad NF TF FF M8 L H locs := by rw [eM8]; exact hw
  refine lv_aload_n C.1.1 C.1.2.1 dX19_addName_41 rfl (lv_at hl 0 rfl) ?_
  refine lv_dup C.1.1 C.1.2.1 dX19_addName_42 rfl ?_
  refine mr_getI C hw kc_19 14 (by decide) tf_732 wd_2795 dX19_addName_43 (by decide) rfl ?_
  refine lv_iconst (v := 1) C.1.1 C.1.2.1 dX19_addName_46 (by decide) ?_
  refine lv_iadd C.1.1 C.1.2.1 dX19_addName_47 ?_
  obtain ⟨M9, eM9, hD⟩ := g_let hD
  refine mr_putI C hw kc_19 14 (by decide) tf_732 wd_2795 dX19_addName_48 (by decide) rfl rfl rfl rfl (fun H locs hw => ?_)
  replace hw : mw_W G ad NF TF FF M9 L H locs := by rw [eM9]; exact hw
  exact mr_vret C hr hlocks hw (Option.some.inj hD) dX19_addName_51

theorem dX19_named_0 : decode cX19_named 0 = .ok (.aload_n 0, 1) := by decide +kernel
theorem dX19_named_1 : decode cX19_named 1 = .ok (.invokevirtual 341, 3) := by decide +kernel
theorem dX19_named_4 : decode cX19_named 4 = .ok (.ifCond .ne 5, 3) := by decide +kernel
theorem dX19_named_7 : decode cX19_named 7 = .ok (.iconst (-1), 1) := by decide +kernel
theorem dX19_named_8 : decode cX19_named 8 = .ok (.ireturn, 1) := by decide +kernel
theorem dX19_named_9 : decode cX19_named 9 = .ok (.aload_n 0, 1) := by decide +kernel
theorem dX19_named_10 : decode cX19_named 10 = .ok (.invokevirtual 356, 3) := by decide +kernel
theorem dX19_named_13 : decode cX19_named 13 = .ok (.istore_n 2, 1) := by decide +kernel
theorem dX19_named_14 : decode cX19_named 14 = .ok (.iload_n 2, 1) := by decide +kernel
theorem dX19_named_15 : decode cX19_named 15 = .ok (.ifCond .lt 20, 3) := by decide +kernel
theorem dX19_named_18 : decode cX19_named 18 = .ok (.aload_n 0, 1) := by decide +kernel
theorem dX19_named_19 : decode cX19_named 19 = .ok (.getfield 19, 3) := by decide +kernel
theorem dX19_named_22 : decode cX19_named 22 = .ok (.iload_n 2, 1) := by decide +kernel
theorem dX19_named_23 : decode cX19_named 23 = .ok (.iaload, 1) := by decide +kernel
theorem dX19_named_24 : decode cX19_named 24 = .ok (.iload_n 1, 1) := by decide +kernel
theorem dX19_named_25 : decode cX19_named 25 = .ok (.if_icmp .ne 10, 3) := by decide +kernel
theorem dX19_named_28 : decode cX19_named 28 = .ok (.aload_n 0, 1) := by decide +kernel
theorem dX19_named_29 : decode cX19_named 29 = .ok (.getfield 22, 3) := by decide +kernel
theorem dX19_named_32 : decode cX19_named 32 = .ok (.iload_n 2, 1) := by decide +kernel
theorem dX19_named_33 : decode cX19_named 33 = .ok (.iaload, 1) := by decide +kernel
theorem dX19_named_34 : decode cX19_named 34 = .ok (.ireturn, 1) := by decide +kernel
theorem dX19_named_35 : decode cX19_named 35 = .ok (.aload_n 0, 1) := by decide +kernel
theorem dX19_named_36 : decode cX19_named 36 = .ok (.iconst 4, 1) := by decide +kernel
theorem dX19_named_37 : decode cX19_named 37 = .ok (.aload_n 0, 1) := by decide +kernel
theorem dX19_named_38 : decode cX19_named 38 = .ok (.getfield 311, 3) := by decide +kernel
theorem dX19_named_41 : decode cX19_named 41 = .ok (.invokevirtual 321, 3) := by decide +kernel
theorem dX19_named_44 : decode cX19_named 44 = .ok (.istore_n 3, 1) := by decide +kernel
theorem dX19_named_45 : decode cX19_named 45 = .ok (.iconst (-1), 1) := by decide +kernel
theorem dX19_named_46 : decode cX19_named 46 = .ok (.ireturn, 1) := by decide +kernel
theorem cwX19_named : mw_cwV yX19_named cX19_named 4 ((some .int)) 1 := ⟨⟨wd_13, wd_3210, by decide +kernel⟩, wd_3209, sl_162⟩
set_option maxHeartbeats 4000000 in
set_option maxRecDepth 100000 in
theorem tX19_named (l : Launch) (G : mwG) (ad : Nat → Nat) (fu : Nat) (a1 : Int32) (M : mwM) (L : mwL) {r0 : Int32} {M0 : mwM} {L0 : mwL} (hD : DX19_named fu a1 M L = some (r0, M0, L0)) : Met l yX19_named (Cond.code yX19_named cX19_named 4 ((some .int)) :: GT) ({ frames := 2, cells := 0, slots := 0, locals := 45 }) (mw_Pre G ad NF TF FF M L [.ref (ad 732), .int a1]) (mw_Qi G ad NF TF FF (mw_eqI r0 M0 L0)) 0 0 (mw_fr G) := by
  refine mw_enter (by decide) (Nat.le_of_ble_eq_true rfl) ?_
  intro p e s m below meth c ls C hr hlocks hnm hw hl
  have hl : lv_has ls 4 [(0, .ref (ad 732)), (1, .int a1)] := hl
  have hb35 : ∀ (M : mwM) (L : mwL) (H : Heap) (locs : List Loc) (ls : Array Slot), fX19_named_b35 fu a1 M L = some (r0, M0, L0) → mw_W G ad NF TF FF M L H locs → lv_has ls 4 [(0, .ref (ad 732))] → W p l e ({ frames := 2, cells := 0, slots := 0, locals := 45 }) s m [.ref (ad 732), .int a1].toArray below meth c H locs 0 0 (MQ below (mw_Qi G ad NF TF FF (mw_eqI r0 M0 L0)) [.ref (ad 732), .int a1].toArray s 0 0 (mw_fr G)) (F0 m 35 ls []) := by
    intro M L H locs ls hD hw hl
    unfold fX19_named_b35 at hD
    refine lv_aload_n C.1.1 C.1.2.1 dX19_named_35 rfl (lv_at hl 0 rfl) ?_
    refine lv_iconst (v := 4) C.1.1 C.1.2.1 dX19_named_36 (by decide) ?_
    refine lv_aload_n C.1.1 C.1.2.1 dX19_named_37 rfl (lv_at hl 0 rfl) ?_
    refine mr_getI C hw kc_19 9 (by decide) tf_732 wd_2790 dX19_named_38 (by decide) rfl ?_
    obtain ⟨r3, M1, L2, h1, hD⟩ := g_b3 hD
    refine md_cvI (As := [.int 4, .int (M 732 9)]) (rest := []) C hw (tX19_fail l G ad fu 4 (M 732 9) M L h1) kc_19 (by decide) tf_732 wd_3172 cwX19_fail ⟨Nat.le_of_ble_eq_true rfl, Nat.le_of_ble_eq_true rfl⟩ rfl hl.1 (Nat.le_of_ble_eq_true rfl) dX19_named_41 rfl rfl ⟨Nat.zero_le _, Nat.zero_le _⟩ rfl (fun H locs hw => ?_)
    refine lv_istore_n (lv' := [(3, .int r3), (0, .ref (ad 732))]) C.1.1 C.1.2.1 dX19_named_44 rfl hl (by decide) rfl (fun ls hl => ?_)
    refine lv_iconst (v := (-1)) C.1.1 C.1.2.1 dX19_named_45 (by decide) ?_
    exact mr_iret C hr hlocks hw rfl (Option.some.inj hD) dX19_named_46
  unfold DX19_named at hD
  refine lv_aload_n C.1.1 C.1.2.1 dX19_named_0 rfl (lv_at hl 0 rfl) ?_
  obtain ⟨r6, M4, L5, h1, hD⟩ := g_b3 hD
  refine md_cvI (As := []) (rest := []) C hw (tX19_must l G ad fu M L h1) kc_19 (by decide) tf_732 wd_3168 cwX19_must ⟨Nat.le_of_ble_eq_true rfl, Nat.le_of_ble_eq_true rfl⟩ rfl hl.1 (Nat.le_of_ble_eq_true rfl) dX19_named_1 rfl rfl ⟨Nat.zero_le _, Nat.zero_le _⟩ rfl (fun H locs hw => ?_)
  refine lv_if_ne (tgt := 9) C.1.1 C.1.2.1 dX19_named_4 (by decide) (fun c7 => ?_) (fun c7 => ?_)
  · replace hD := g_neg c7 hD
    refine lv_aload_n C.1.1 C.1.2.1 dX19_named_9 rfl (lv_at hl 0 rfl) ?_
    obtain ⟨r10, M8, L9, h1, hD⟩ := g_b3 hD
    refine md_cvI (As := []) (rest := []) C hw (tX19_findName l G ad fu M4 L5 h1) kc_19 (by decide) tf_732 wd_3186 cwX19_findName ⟨Nat.le_of_ble_eq_true rfl, Nat.le_of_ble_eq_true rfl⟩ rfl hl.1 (Nat.le_of_ble_eq_true rfl) dX19_named_10 rfl rfl ⟨Nat.zero_le _, Nat.zero_le _⟩ rfl (fun H locs hw => ?_)
    refine lv_istore_n (lv' := [(2, .int r10), (0, .ref (ad 732)), (1, .int a1)]) C.1.1 C.1.2.1 dX19_named_13 rfl hl (by decide) rfl (fun ls hl => ?_)
    refine lv_iload_n C.1.1 C.1.2.1 dX19_named_14 rfl (lv_at hl 0 rfl) ?_
    refine lv_if_lt (tgt := 35) C.1.1 C.1.2.1 dX19_named_15 (by decide) (fun c11 => ?_) (fun c11 => ?_)
    · replace hD := g_pos c11 hD
      exact hb35 M8 L9 _ _ ls hD hw (lv_sub hl [1] rfl)
    · replace hD := g_neg c11 hD
      refine lv_aload_n C.1.1 C.1.2.1 dX19_named_18 rfl (lv_at hl 1 rfl) ?_
      refine mr_getR C hw kc_19 17 (by decide) tf_732 ff_732_17 wd_2798 dX19_named_19 (by decide) rfl ?_
      refine lv_iload_n C.1.1 C.1.2.1 dX19_named_22 rfl (lv_at hl 0 rfl) ?_
      obtain ⟨q12, hD⟩ := g_ck hD
      refine mr_iald C hw (by decide) tf_736 q12 dX19_named_23 ?_
      refine lv_iload_n C.1.1 C.1.2.1 dX19_named_24 rfl (lv_at hl 2 rfl) ?_
      refine lv_icmp_ne (tgt := 35) C.1.1 C.1.2.1 dX19_named_25 (by decide) (fun c13 => ?_) (fun c13 => ?_)
      · replace hD := g_neg c13 hD
        exact hb35 M8 L9 _ _ ls hD hw (lv_sub hl [1] rfl)
      · replace hD := g_pos c13 hD
        refine lv_aload_n C.1.1 C.1.2.1 dX19_named_28 rfl (lv_at hl 1 rfl) ?_
        refine mr_getR C hw kc_19 18 (by decide) tf_732 ff_732_18 wd_2799 dX19_named_29 (by decide) rfl ?_
        refine lv_iload_n C.1.1 C.1.2.1 dX19_named_32 rfl (lv_at hl 0 rfl) ?_
        obtain ⟨q14, hD⟩ := g_ck hD
        refine mr_iald C hw (by decide) tf_737 q14 dX19_named_33 ?_
        exact mr_iret C hr hlocks hw rfl (Option.some.inj hD) dX19_named_34
  · replace hD := g_pos c7 hD
    refine lv_iconst (v := (-1)) C.1.1 C.1.2.1 dX19_named_7 (by decide) ?_
    exact mr_iret C hr hlocks hw rfl (Option.some.inj hD) dX19_named_8

theorem dX19_findState_0 : decode cX19_findState 0 = .ok (.iconst 1, 1) := by decide +kernel
theorem dX19_findState_1 : decode cX19_findState 1 = .ok (.istore_n 2, 1) := by decide +kernel
theorem dX19_findState_2 : decode cX19_findState 2 = .ok (.iload_n 2, 1) := by decide +kernel
theorem dX19_findState_3 : decode cX19_findState 3 = .ok (.aload_n 0, 1) := by decide +kernel
theorem dX19_findState_4 : decode cX19_findState 4 = .ok (.getfield 73, 3) := by decide +kernel
theorem dX19_findState_7 : decode cX19_findState 7 = .ok (.iload_n 1, 1) := by decide +kernel
theorem dX19_findState_8 : decode cX19_findState 8 = .ok (.iaload, 1) := by decide +kernel
theorem dX19_findState_9 : decode cX19_findState 9 = .ok (.if_icmp .gt 42, 3) := by decide +kernel
theorem dX19_findState_12 : decode cX19_findState 12 = .ok (.aload_n 0, 1) := by decide +kernel
theorem dX19_findState_13 : decode cX19_findState 13 = .ok (.aload_n 0, 1) := by decide +kernel
theorem dX19_findState_14 : decode cX19_findState 14 = .ok (.getfield 76, 3) := by decide +kernel
theorem dX19_findState_17 : decode cX19_findState 17 = .ok (.sipush 201, 3) := by decide +kernel
theorem dX19_findState_20 : decode cX19_findState 20 = .ok (.iload_n 1, 1) := by decide +kernel
theorem dX19_findState_21 : decode cX19_findState 21 = .ok (.imul, 1) := by decide +kernel
theorem dX19_findState_22 : decode cX19_findState 22 = .ok (.iload_n 2, 1) := by decide +kernel
theorem dX19_findState_23 : decode cX19_findState 23 = .ok (.iadd, 1) := by decide +kernel
theorem dX19_findState_24 : decode cX19_findState 24 = .ok (.iaload, 1) := by decide +kernel
theorem dX19_findState_25 : decode cX19_findState 25 = .ok (.aload_n 0, 1) := by decide +kernel
theorem dX19_findState_26 : decode cX19_findState 26 = .ok (.getfield 79, 3) := by decide +kernel
theorem dX19_findState_29 : decode cX19_findState 29 = .ok (.sipush 201, 3) := by decide +kernel
theorem dX19_findState_32 : decode cX19_findState 32 = .ok (.iload_n 1, 1) := by decide +kernel
theorem dX19_findState_33 : decode cX19_findState 33 = .ok (.imul, 1) := by decide +kernel
theorem dX19_findState_34 : decode cX19_findState 34 = .ok (.iload_n 2, 1) := by decide +kernel
theorem dX19_findState_35 : decode cX19_findState 35 = .ok (.iadd, 1) := by decide +kernel
theorem dX19_findState_36 : decode cX19_findState 36 = .ok (.iaload, 1) := by decide +kernel
theorem dX19_findState_37 : decode cX19_findState 37 = .ok (.invokevirtual 350, 3) := by decide +kernel
theorem dX19_findState_40 : decode cX19_findState 40 = .ok (.ifCond .eq 5, 3) := by decide +kernel
theorem dX19_findState_43 : decode cX19_findState 43 = .ok (.iload_n 2, 1) := by decide +kernel
theorem dX19_findState_44 : decode cX19_findState 44 = .ok (.ireturn, 1) := by decide +kernel
theorem dX19_findState_45 : decode cX19_findState 45 = .ok (.iinc 2 1, 3) := by decide +kernel
theorem dX19_findState_48 : decode cX19_findState 48 = .ok (.goto (-46), 3) := by decide +kernel
theorem dX19_findState_51 : decode cX19_findState 51 = .ok (.iconst (-1), 1) := by decide +kernel
theorem dX19_findState_52 : decode cX19_findState 52 = .ok (.ireturn, 1) := by decide +kernel
theorem cwX19_findState : mw_cwV yX19_findState cX19_findState 3 ((some .int)) 1 := ⟨⟨wd_13, wd_3236, by decide +kernel⟩, wd_3235, sl_167⟩
set_option maxHeartbeats 4000000 in
set_option maxRecDepth 100000 in
theorem tX19_findState (l : Launch) (G : mwG) (ad : Nat → Nat) (fu : Nat) (a1 : Int32) (M : mwM) (L : mwL) {r0 : Int32} {M0 : mwM} {L0 : mwL} (hD : DX19_findState fu a1 M L = some (r0, M0, L0)) : Met l yX19_findState (Cond.code yX19_findState cX19_findState 3 ((some .int)) :: GT) ({ frames := 1, cells := 0, slots := 0, locals := 24 }) (mw_Pre G ad NF TF FF M L [.ref (ad 732), .int a1]) (mw_Qi G ad NF TF FF (mw_eqI r0 M0 L0)) 0 0 (mw_fr G) := by
  refine mw_enter (by decide) (Nat.le_of_ble_eq_true rfl) ?_
  intro p e s m below meth c ls C hr hlocks hnm hw hl
  have hl : lv_has ls 3 [(0, .ref (ad 732)), (1, .int a1)] := hl
  have hh2 : ∀ (f : Nat) (v2 : Int32) (M : mwM) (L : mwL) (H : Heap) (locs : List Loc) (ls : Array Slot), fX19_findState_h2 fu a1 f (v2, M, L) = some (r0, M0, L0) → mw_W G ad NF TF FF M L H locs → lv_has ls 3 [(0, .ref (ad 732)), (1, .int a1), (2, .int v2)] → W p l e ({ frames := 1, cells := 0, slots := 0, locals := 24 }) s m [.ref (ad 732), .int a1].toArray below meth c H locs 0 0 (MQ below (mw_Qi G ad NF TF FF (mw_eqI r0 M0 L0)) [.ref (ad 732), .int a1].toArray s 0 0 (mw_fr G)) (F0 m 2 ls []) := by
    intro f
    induction f with
    | zero => intro v2 M L H locs ls hD; cases hD
    | succ f2 ih2 =>
      intro v2 M L H locs ls hD hw hl
      replace hD : fX19_findState_i2 fu a1 (fX19_findState_h2 fu a1 f2) v2 M L = some (r0, M0, L0) := hD
      unfold fX19_findState_i2 at hD
      refine lv_iload_n C.1.1 C.1.2.1 dX19_findState_2 rfl (lv_at hl 2 rfl) ?_
      refine lv_aload_n C.1.1 C.1.2.1 dX19_findState_3 rfl (lv_at hl 0 rfl) ?_
      refine mr_getR C hw kc_19 39 (by decide) tf_732 ff_732_39 wd_2820 dX19_findState_4 (by decide) rfl ?_
      refine lv_iload_n C.1.1 C.1.2.1 dX19_findState_7 rfl (lv_at hl 1 rfl) ?_
      obtain ⟨q1, hD⟩ := g_ck hD
      refine mr_iald C hw (by decide) tf_754 q1 dX19_findState_8 ?_
      refine lv_icmp_gt (tgt := 51) C.1.1 C.1.2.1 dX19_findState_9 (by decide) (fun c2 => ?_) (fun c2 => ?_)
      · replace hD := g_pos c2 hD
        refine lv_iconst (v := (-1)) C.1.1 C.1.2.1 dX19_findState_51 (by decide) ?_
        exact mr_iret C hr hlocks hw rfl (Option.some.inj hD) dX19_findState_52
      · replace hD := g_neg c2 hD
        refine lv_aload_n C.1.1 C.1.2.1 dX19_findState_12 rfl (lv_at hl 0 rfl) ?_
        refine lv_aload_n C.1.1 C.1.2.1 dX19_findState_13 rfl (lv_at hl 0 rfl) ?_
        refine mr_getR C hw kc_19 40 (by decide) tf_732 ff_732_40 wd_2821 dX19_findState_14 (by decide) rfl ?_
        refine lv_sipush (v := 201) C.1.1 C.1.2.1 dX19_findState_17 (by decide) ?_
        refine lv_iload_n C.1.1 C.1.2.1 dX19_findState_20 rfl (lv_at hl 1 rfl) ?_
        refine lv_imul C.1.1 C.1.2.1 dX19_findState_21 ?_
        refine lv_iload_n C.1.1 C.1.2.1 dX19_findState_22 rfl (lv_at hl 2 rfl) ?_
        refine lv_iadd C.1.1 C.1.2.1 dX19_findState_23 ?_
        obtain ⟨q3, hD⟩ := g_ck hD
        refine mr_iald C hw (by decide) tf_755 q3 dX19_findState_24 ?_
        refine lv_aload_n C.1.1 C.1.2.1 dX19_findState_25 rfl (lv_at hl 0 rfl) ?_
        refine mr_getR C hw kc_19 41 (by decide) tf_732 ff_732_41 wd_2822 dX19_findState_26 (by decide) rfl ?_
        refine lv_sipush (v := 201) C.1.1 C.1.2.1 dX19_findState_29 (by decide) ?_
        refine lv_iload_n C.1.1 C.1.2.1 dX19_findState_32 rfl (lv_at hl 1 rfl) ?_
        refine lv_imul C.1.1 C.1.2.1 dX19_findState_33 ?_
        refine lv_iload_n C.1.1 C.1.2.1 dX19_findState_34 rfl (lv_at hl 2 rfl) ?_
        refine lv_iadd C.1.1 C.1.2.1 dX19_findState_35 ?_
        obtain ⟨q4, hD⟩ := g_ck hD
        refine mr_iald C hw (by decide) tf_756 q4 dX19_findState_36 ?_
        obtain ⟨r7, M5, L6, h1, hD⟩ := g_b3 hD
        refine md_cvI (As := [.int (M 755 ((201 * a1) + v2).toNatClampNeg), .int (M 756 ((201 * a1) + v2).toNatClampNeg)]) (rest := []) C hw (tX19_same l G ad fu (M 755 ((201 * a1) + v2).toNatClampNeg) (M 756 ((201 * a1) + v2).toNatClampNeg) M L h1) kc_19 (by decide) tf_732 wd_3190 cwX19_same ⟨Nat.le_of_ble_eq_true rfl, Nat.le_of_ble_eq_true rfl⟩ rfl hl.1 (Nat.le_of_ble_eq_true rfl) dX19_findState_37 rfl rfl ⟨Nat.zero_le _, Nat.zero_le _⟩ rfl (fun H locs hw => ?_)
        refine lv_if_eq (tgt := 45) C.1.1 C.1.2.1 dX19_findState_40 (by decide) (fun c8 => ?_) (fun c8 => ?_)
        · replace hD := g_pos c8 hD
          obtain ⟨x9, ex9, hD⟩ := g_let hD
          refine lv_iinc (v := x9) (lv' := [(2, .int x9), (0, .ref (ad 732)), (1, .int a1)]) C.1.1 C.1.2.1 dX19_findState_45 hl (k := 2) rfl (by rw [ex9]; rfl) (by decide) rfl (fun ls hl => ?_)
          refine lv_goto (tgt := 2) C.1.1 C.1.2.1 dX19_findState_48 (by decide) ?_
          exact ih2 x9 M5 L6 _ _ ls hD hw (lv_sub hl [1, 2, 0] rfl)
        · replace hD := g_neg c8 hD
          refine lv_iload_n C.1.1 C.1.2.1 dX19_findState_43 rfl (lv_at hl 2 rfl) ?_
          exact mr_iret C hr hlocks hw rfl (Option.some.inj hD) dX19_findState_44
  unfold DX19_findState at hD
  refine lv_iconst (v := 1) C.1.1 C.1.2.1 dX19_findState_0 (by decide) ?_
  refine lv_istore_n (lv' := [(2, .int 1), (0, .ref (ad 732)), (1, .int a1)]) C.1.1 C.1.2.1 dX19_findState_1 rfl hl (by decide) rfl (fun ls hl => ?_)
  exact hh2 fu 1 M L _ _ ls hD hw (lv_sub hl [1, 2, 0] rfl)
