theorem dX19_counted_0 : decode cX19_counted 0 = .ok (.aload_n 0, 1) := by decide +kernel
theorem dX19_counted_1 : decode cX19_counted 1 = .ok (.iload_n 1, 1) := by decide +kernel
theorem dX19_counted_2 : decode cX19_counted 2 = .ok (.ifCond .lt 8, 3) := by decide +kernel
theorem dX19_counted_5 : decode cX19_counted 5 = .ok (.iload_n 1, 1) := by decide +kernel
theorem dX19_counted_6 : decode cX19_counted 6 = .ok (.iconst 4, 1) := by decide +kernel
theorem dX19_counted_7 : decode cX19_counted 7 = .ok (.if_icmp .le 7, 3) := by decide +kernel
theorem dX19_counted_10 : decode cX19_counted 10 = .ok (.iconst 1, 1) := by decide +kernel
theorem dX19_counted_11 : decode cX19_counted 11 = .ok (.goto 4, 3) := by decide +kernel
theorem dX19_counted_14 : decode cX19_counted 14 = .ok (.iconst 0, 1) := by decide +kernel
theorem dX19_counted_15 : decode cX19_counted 15 = .ok (.putfield 289, 3) := by decide +kernel
theorem dX19_counted_18 : decode cX19_counted 18 = .ok (.aload_n 0, 1) := by decide +kernel
theorem dX19_counted_19 : decode cX19_counted 19 = .ok (.getfield 289, 3) := by decide +kernel
theorem dX19_counted_22 : decode cX19_counted 22 = .ok (.ifCond .gt 10, 3) := by decide +kernel
theorem dX19_counted_25 : decode cX19_counted 25 = .ok (.aload_n 0, 1) := by decide +kernel
theorem dX19_counted_26 : decode cX19_counted 26 = .ok (.getfield 630, 3) := by decide +kernel
theorem dX19_counted_29 : decode cX19_counted 29 = .ok (.ifCond .ne 7, 3) := by decide +kernel
theorem dX19_counted_32 : decode cX19_counted 32 = .ok (.iconst 0, 1) := by decide +kernel
theorem dX19_counted_33 : decode cX19_counted 33 = .ok (.goto 9, 3) := by decide +kernel
theorem dX19_counted_36 : decode cX19_counted 36 = .ok (.aload_n 0, 1) := by decide +kernel
theorem dX19_counted_37 : decode cX19_counted 37 = .ok (.getfield 273, 3) := by decide +kernel
theorem dX19_counted_40 : decode cX19_counted 40 = .ok (.iload_n 1, 1) := by decide +kernel
theorem dX19_counted_41 : decode cX19_counted 41 = .ok (.iaload, 1) := by decide +kernel
theorem dX19_counted_42 : decode cX19_counted 42 = .ok (.ireturn, 1) := by decide +kernel
theorem cwX19_counted : mw_cwV yX19_counted cX19_counted 2 ((some .int)) 1 := ⟨⟨wd_13, wd_4317, by decide +kernel⟩, wd_4315, wd_4316⟩
set_option maxHeartbeats 4000000 in
set_option maxRecDepth 100000 in
theorem tX19_counted (l : Launch) (G : mwG) (ad : Nat → Nat) (fu : Nat) (a1 : Int32) (M : mwM) (L : mwL) {r0 : Int32} {M0 : mwM} {L0 : mwL} (hD : DX19_counted fu a1 M L = some (r0, M0, L0)) : Met l yX19_counted (Cond.code yX19_counted cX19_counted 2 ((some .int)) :: GT) ({ frames := 0, cells := 0, slots := 0, locals := 0 }) (mw_Pre G ad NF TF FF M L [.ref (ad 732), .int a1]) (mw_Qi G ad NF TF FF (mw_eqI r0 M0 L0)) 0 0 (mw_fr G) := by
  refine mw_enter (by decide) (Nat.le_of_ble_eq_true rfl) ?_
  intro p e s m below meth c ls C hr hlocks hnm hw hl
  have hl : lv_has ls 2 [(0, .ref (ad 732)), (1, .int a1)] := hl
  have hb42 : ∀ (s0 : Int32) (M : mwM) (L : mwL) (H : Heap) (locs : List Loc) (ls : Array Slot), fX19_counted_b42 fu a1 s0 M L = some (r0, M0, L0) → mw_W G ad NF TF FF M L H locs → lv_has ls 2 [] → W p l e ({ frames := 0, cells := 0, slots := 0, locals := 0 }) s m [.ref (ad 732), .int a1].toArray below meth c H locs 0 0 (MQ below (mw_Qi G ad NF TF FF (mw_eqI r0 M0 L0)) [.ref (ad 732), .int a1].toArray s 0 0 (mw_fr G)) (F0 m 42 ls [.int s0]) := by
    intro s0 M L H locs ls hD hw hl
    unfold fX19_counted_b42 at hD
    exact mr_iret C hr hlocks hw rfl (Option.some.inj hD) dX19_counted_42
  have hb32 : ∀ (M : mwM) (L : mwL) (H : Heap) (locs : List Loc) (ls : Array Slot), fX19_counted_b32 fu a1 M L = some (r0, M0, L0) → mw_W G ad NF TF FF M L H locs → lv_has ls 2 [] → W p l e ({ frames := 0, cells := 0, slots := 0, locals := 0 }) s m [.ref (ad 732), .int a1].toArray below meth c H locs 0 0 (MQ below (mw_Qi G ad NF TF FF (mw_eqI r0 M0 L0)) [.ref (ad 732), .int a1].toArray s 0 0 (mw_fr G)) (F0 m 32 ls []) := by
    intro M L H locs ls hD hw hl
    unfold fX19_counted_b32 at hD
    refine lv_iconst (v := 0) C.1.1 C.1.2.1 dX19_counted_32 (by decide) ?_
    refine lv_goto (tgt := 42) C.1.1 C.1.2.1 dX19_counted_33 (by decide) ?_
    exact hb42 0 M L _ _ ls hD hw (lv_sub hl [] rfl)
  have hb15 : ∀ (s1 : Int32) (M : mwM) (L : mwL) (H : Heap) (locs : List Loc) (ls : Array Slot), fX19_counted_b15 fu a1 s1 M L = some (r0, M0, L0) → mw_W G ad NF TF FF M L H locs → lv_has ls 2 [(0, .ref (ad 732)), (1, .int a1)] → W p l e ({ frames := 0, cells := 0, slots := 0, locals := 0 }) s m [.ref (ad 732), .int a1].toArray below meth c H locs 0 0 (MQ below (mw_Qi G ad NF TF FF (mw_eqI r0 M0 L0)) [.ref (ad 732), .int a1].toArray s 0 0 (mw_fr G)) (F0 m 15 ls [.int s1, .ref (ad 732)]) := by
    intro s1 M L H locs ls hD hw hl
    unfold fX19_counted_b15 at hD
    obtain ⟨M1, eM1, hD⟩ := g_let hD
    refine mr_putI C hw kc_19 0 (by decide) tf_732 wd_2781 dX19_counted_15 (by decide) rfl rfl rfl rfl (fun H locs hw => ?_)
    replace hw : mw_W G ad NF TF FF M1 L H locs := by rw [eM1]; exact hw
    refine lv_aload_n C.1.1 C.1.2.1 dX19_counted_18 rfl (lv_at hl 0 rfl) ?_
    refine mr_getI C hw kc_19 0 (by decide) tf_732 wd_2781 dX19_counted_19 (by decide) rfl ?_
    refine lv_if_gt (tgt := 32) C.1.1 C.1.2.1 dX19_counted_22 (by decide) (fun c2 => ?_) (fun c2 => ?_)
    · replace hD := g_pos c2 hD
      exact hb32 M1 L _ _ ls hD hw (lv_sub hl [] rfl)
    · replace hD := g_neg c2 hD
      refine lv_aload_n C.1.1 C.1.2.1 dX19_counted_25 rfl (lv_at hl 0 rfl) ?_
      refine mr_getI C hw kc_19 4 (by decide) tf_732 wd_2785 dX19_counted_26 (by decide) rfl ?_
      refine lv_if_ne (tgt := 36) C.1.1 C.1.2.1 dX19_counted_29 (by decide) (fun c3 => ?_) (fun c3 => ?_)
      · replace hD := g_neg c3 hD
        refine lv_aload_n C.1.1 C.1.2.1 dX19_counted_36 rfl (lv_at hl 0 rfl) ?_
        refine mr_getR C hw kc_19 109 (by decide) tf_732 ff_732_109 wd_2890 dX19_counted_37 (by decide) rfl ?_
        refine lv_iload_n C.1.1 C.1.2.1 dX19_counted_40 rfl (lv_at hl 1 rfl) ?_
        obtain ⟨q4, hD⟩ := g_ck hD
        refine mr_iald C hw (by decide) tf_939 q4 dX19_counted_41 ?_
        exact hb42 (M1 939 a1.toNatClampNeg) M1 L _ _ ls hD hw (lv_sub hl [] rfl)
      · replace hD := g_pos c3 hD
        exact hb32 M1 L _ _ ls hD hw (lv_sub hl [] rfl)
  have hb10 : ∀ (M : mwM) (L : mwL) (H : Heap) (locs : List Loc) (ls : Array Slot), fX19_counted_b10 fu a1 M L = some (r0, M0, L0) → mw_W G ad NF TF FF M L H locs → lv_has ls 2 [(0, .ref (ad 732)), (1, .int a1)] → W p l e ({ frames := 0, cells := 0, slots := 0, locals := 0 }) s m [.ref (ad 732), .int a1].toArray below meth c H locs 0 0 (MQ below (mw_Qi G ad NF TF FF (mw_eqI r0 M0 L0)) [.ref (ad 732), .int a1].toArray s 0 0 (mw_fr G)) (F0 m 10 ls [.ref (ad 732)]) := by
    intro M L H locs ls hD hw hl
    unfold fX19_counted_b10 at hD
    refine lv_iconst (v := 1) C.1.1 C.1.2.1 dX19_counted_10 (by decide) ?_
    refine lv_goto (tgt := 15) C.1.1 C.1.2.1 dX19_counted_11 (by decide) ?_
    exact hb15 1 M L _ _ ls hD hw (lv_sub hl [0, 1] rfl)
  unfold DX19_counted at hD
  refine lv_aload_n C.1.1 C.1.2.1 dX19_counted_0 rfl (lv_at hl 0 rfl) ?_
  refine lv_iload_n C.1.1 C.1.2.1 dX19_counted_1 rfl (lv_at hl 1 rfl) ?_
  refine lv_if_lt (tgt := 10) C.1.1 C.1.2.1 dX19_counted_2 (by decide) (fun c5 => ?_) (fun c5 => ?_)
  · replace hD := g_pos c5 hD
    exact hb10 M L _ _ ls hD hw (lv_sub hl [0, 1] rfl)
  · replace hD := g_neg c5 hD
    refine lv_iload_n C.1.1 C.1.2.1 dX19_counted_5 rfl (lv_at hl 1 rfl) ?_
    refine lv_iconst (v := 4) C.1.1 C.1.2.1 dX19_counted_6 (by decide) ?_
    refine lv_icmp_le (tgt := 14) C.1.1 C.1.2.1 dX19_counted_7 (by decide) (fun c6 => ?_) (fun c6 => ?_)
    · replace hD := g_pos c6 hD
      refine lv_iconst (v := 0) C.1.1 C.1.2.1 dX19_counted_14 (by decide) ?_
      exact hb15 0 M L _ _ ls hD hw (lv_sub hl [0, 1] rfl)
    · replace hD := g_neg c6 hD
      exact hb10 M L _ _ ls hD hw (lv_sub hl [0, 1] rfl)

theorem dX19_say__0 : decode cX19_say_ 0 = .ok (.aload_n 0, 1) := by decide +kernel
theorem dX19_say__1 : decode cX19_say_ 1 = .ok (.iconst 0, 1) := by decide +kernel
theorem dX19_say__2 : decode cX19_say_ 2 = .ok (.putfield 289, 3) := by decide +kernel
theorem dX19_say__5 : decode cX19_say_ 5 = .ok (.aload_n 0, 1) := by decide +kernel
theorem dX19_say__6 : decode cX19_say_ 6 = .ok (.getfield 854, 3) := by decide +kernel
theorem dX19_say__9 : decode cX19_say_ 9 = .ok (.bipush 100, 2) := by decide +kernel
theorem dX19_say__11 : decode cX19_say_ 11 = .ok (.if_icmp .ge 27, 3) := by decide +kernel
theorem dX19_say__14 : decode cX19_say_ 14 = .ok (.aload_n 0, 1) := by decide +kernel
theorem dX19_say__15 : decode cX19_say_ 15 = .ok (.getfield 276, 3) := by decide +kernel
theorem dX19_say__18 : decode cX19_say_ 18 = .ok (.aload_n 0, 1) := by decide +kernel
theorem dX19_say__19 : decode cX19_say_ 19 = .ok (.getfield 854, 3) := by decide +kernel
theorem dX19_say__22 : decode cX19_say_ 22 = .ok (.iload_n 1, 1) := by decide +kernel
theorem dX19_say__23 : decode cX19_say_ 23 = .ok (.sipush 255, 3) := by decide +kernel
theorem dX19_say__26 : decode cX19_say_ 26 = .ok (.iand, 1) := by decide +kernel
theorem dX19_say__27 : decode cX19_say_ 27 = .ok (.iastore, 1) := by decide +kernel
theorem dX19_say__28 : decode cX19_say_ 28 = .ok (.aload_n 0, 1) := by decide +kernel
theorem dX19_say__29 : decode cX19_say_ 29 = .ok (.dup, 1) := by decide +kernel
theorem dX19_say__30 : decode cX19_say_ 30 = .ok (.getfield 854, 3) := by decide +kernel
theorem dX19_say__33 : decode cX19_say_ 33 = .ok (.iconst 1, 1) := by decide +kernel
theorem dX19_say__34 : decode cX19_say_ 34 = .ok (.iadd, 1) := by decide +kernel
theorem dX19_say__35 : decode cX19_say_ 35 = .ok (.putfield 854, 3) := by decide +kernel
theorem dX19_say__38 : decode cX19_say_ 38 = .ok (.aload_n 0, 1) := by decide +kernel
theorem dX19_say__39 : decode cX19_say_ 39 = .ok (.getfield 854, 3) := by decide +kernel
theorem dX19_say__42 : decode cX19_say_ 42 = .ok (.ireturn, 1) := by decide +kernel
theorem cwX19_say_ : mw_cwV yX19_say_ cX19_say_ 2 ((some .int)) 1 := ⟨⟨wd_13, wd_4321, by decide +kernel⟩, wd_4319, wd_4320⟩
set_option maxHeartbeats 4000000 in
set_option maxRecDepth 100000 in
theorem tX19_say_ (l : Launch) (G : mwG) (ad : Nat → Nat) (fu : Nat) (a1 : Int32) (M : mwM) (L : mwL) {r0 : Int32} {M0 : mwM} {L0 : mwL} (hD : DX19_say_ fu a1 M L = some (r0, M0, L0)) : Met l yX19_say_ (Cond.code yX19_say_ cX19_say_ 2 ((some .int)) :: GT) ({ frames := 0, cells := 0, slots := 0, locals := 0 }) (mw_Pre G ad NF TF FF M L [.ref (ad 732), .int a1]) (mw_Qi G ad NF TF FF (mw_eqI r0 M0 L0)) 0 0 (mw_fr G) := by
  refine mw_enter (by decide) (Nat.le_of_ble_eq_true rfl) ?_
  intro p e s m below meth c ls C hr hlocks hnm hw hl
  have hl : lv_has ls 2 [(0, .ref (ad 732)), (1, .int a1)] := hl
  have hb38 : ∀ (M : mwM) (L : mwL) (H : Heap) (locs : List Loc) (ls : Array Slot), fX19_say__b38 fu a1 M L = some (r0, M0, L0) → mw_W G ad NF TF FF M L H locs → lv_has ls 2 [(0, .ref (ad 732))] → W p l e ({ frames := 0, cells := 0, slots := 0, locals := 0 }) s m [.ref (ad 732), .int a1].toArray below meth c H locs 0 0 (MQ below (mw_Qi G ad NF TF FF (mw_eqI r0 M0 L0)) [.ref (ad 732), .int a1].toArray s 0 0 (mw_fr G)) (F0 m 38 ls []) := by
    intro M L H locs ls hD hw hl
    unfold fX19_say__b38 at hD
    refine lv_aload_n C.1.1 C.1.2.1 dX19_say__38 rfl (lv_at hl 0 rfl) ?_
    refine mr_getI C hw kc_19 110 (by decide) tf_732 wd_2891 dX19_say__39 (by decide) rfl ?_
    exact mr_iret C hr hlocks hw rfl (Option.some.inj hD) dX19_say__42
  unfold DX19_say_ at hD
  refine lv_aload_n C.1.1 C.1.2.1 dX19_say__0 rfl (lv_at hl 0 rfl) ?_
  refine lv_iconst (v := 0) C.1.1 C.1.2.1 dX19_say__1 (by decide) ?_
  obtain ⟨M1, eM1, hD⟩ := g_let hD
  refine mr_putI C hw kc_19 0 (by decide) tf_732 wd_2781 dX19_say__2 (by decide) rfl rfl rfl rfl (fun H locs hw => ?_)
  replace hw : mw_W G ad NF TF FF M1 L H locs := by rw [eM1]; exact hw
  refine lv_aload_n C.1.1 C.1.2.1 dX19_say__5 rfl (lv_at hl 0 rfl) ?_
  refine mr_getI C hw kc_19 110 (by decide) tf_732 wd_2891 dX19_say__6 (by decide) rfl ?_
  refine lv_bipush (v := 100) C.1.1 C.1.2.1 dX19_say__9 (by decide) ?_
  refine lv_icmp_ge (tgt := 38) C.1.1 C.1.2.1 dX19_say__11 (by decide) (fun c2 => ?_) (fun c2 => ?_)
  · replace hD := g_pos c2 hD
    exact hb38 M1 L _ _ ls hD hw (lv_sub hl [0] rfl)
  · replace hD := g_neg c2 hD
    refine lv_aload_n C.1.1 C.1.2.1 dX19_say__14 rfl (lv_at hl 0 rfl) ?_
    refine mr_getR C hw kc_19 111 (by decide) tf_732 ff_732_111 wd_2892 dX19_say__15 (by decide) rfl ?_
    refine lv_aload_n C.1.1 C.1.2.1 dX19_say__18 rfl (lv_at hl 0 rfl) ?_
    refine mr_getI C hw kc_19 110 (by decide) tf_732 wd_2891 dX19_say__19 (by decide) rfl ?_
    refine lv_iload_n C.1.1 C.1.2.1 dX19_say__22 rfl (lv_at hl 1 rfl) ?_
    refine lv_sipush (v := 255) C.1.1 C.1.2.1 dX19_say__23 (by decide) ?_
    refine lv_iand C.1.1 C.1.2.1 dX19_say__26 ?_
    obtain ⟨q3, hD⟩ := g_ck hD
    obtain ⟨M4, eM4, hD⟩ := g_let hD
    refine mr_iast C hw (by decide) tf_940 q3 dX19_say__27 (fun H locs hw => ?_)
    replace hw : mw_W G ad NF TF FF M4 L H locs := by rw [eM4]; exact hw
    refine lv_aload_n C.1.1 C.1.2.1 dX19_say__28 rfl (lv_at hl 0 rfl) ?_
    refine lv_dup C.1.1 C.1.2.1 dX19_say__29 rfl ?_
    refine mr_getI C hw kc_19 110 (by decide) tf_732 wd_2891 dX19_say__30 (by decide) rfl ?_
    refine lv_iconst (v := 1) C.1.1 C.1.2.1 dX19_say__33 (by decide) ?_
    refine lv_iadd C.1.1 C.1.2.1 dX19_say__34 ?_
    obtain ⟨M5, eM5, hD⟩ := g_let hD
    refine mr_putI C hw kc_19 110 (by decide) tf_732 wd_2891 dX19_say__35 (by decide) rfl rfl rfl rfl (fun H locs hw => ?_)
    replace hw : mw_W G ad NF TF FF M5 L H locs := by rw [eM5]; exact hw
    exact hb38 M5 L _ _ ls hD hw (lv_sub hl [0] rfl)

theorem dX19_ask_0 : decode cX19_ask 0 = .ok (.aload_n 0, 1) := by decide +kernel
theorem dX19_ask_1 : decode cX19_ask 1 = .ok (.aload_n 0, 1) := by decide +kernel
theorem dX19_ask_2 : decode cX19_ask 2 = .ok (.iload_n 1, 1) := by decide +kernel
theorem dX19_ask_3 : decode cX19_ask 3 = .ok (.invokevirtual 825, 3) := by decide +kernel
theorem dX19_ask_6 : decode cX19_ask 6 = .ok (.ifCond .eq 7, 3) := by decide +kernel
theorem dX19_ask_9 : decode cX19_ask 9 = .ok (.iconst 1, 1) := by decide +kernel
theorem dX19_ask_10 : decode cX19_ask 10 = .ok (.goto 31, 3) := by decide +kernel
theorem dX19_ask_13 : decode cX19_ask 13 = .ok (.aload_n 0, 1) := by decide +kernel
theorem dX19_ask_14 : decode cX19_ask 14 = .ok (.getfield 854, 3) := by decide +kernel
theorem dX19_ask_17 : decode cX19_ask 17 = .ok (.ifCond .eq 19, 3) := by decide +kernel
theorem dX19_ask_20 : decode cX19_ask 20 = .ok (.aload_n 0, 1) := by decide +kernel
theorem dX19_ask_21 : decode cX19_ask 21 = .ok (.getfield 245, 3) := by decide +kernel
theorem dX19_ask_24 : decode cX19_ask 24 = .ok (.ifCond .ge 12, 3) := by decide +kernel
theorem dX19_ask_27 : decode cX19_ask 27 = .ok (.aload_n 0, 1) := by decide +kernel
theorem dX19_ask_28 : decode cX19_ask 28 = .ok (.getfield 603, 3) := by decide +kernel
theorem dX19_ask_31 : decode cX19_ask 31 = .ok (.bipush 98, 2) := by decide +kernel
theorem dX19_ask_33 : decode cX19_ask 33 = .ok (.if_icmp .le 7, 3) := by decide +kernel
theorem dX19_ask_36 : decode cX19_ask 36 = .ok (.iconst 2, 1) := by decide +kernel
theorem dX19_ask_37 : decode cX19_ask 37 = .ok (.goto 4, 3) := by decide +kernel
theorem dX19_ask_40 : decode cX19_ask 40 = .ok (.iconst 0, 1) := by decide +kernel
theorem dX19_ask_41 : decode cX19_ask 41 = .ok (.putfield 289, 3) := by decide +kernel
theorem dX19_ask_44 : decode cX19_ask 44 = .ok (.aload_n 0, 1) := by decide +kernel
theorem dX19_ask_45 : decode cX19_ask 45 = .ok (.getfield 289, 3) := by decide +kernel
theorem dX19_ask_48 : decode cX19_ask 48 = .ok (.ifCond .le 5, 3) := by decide +kernel
theorem dX19_ask_51 : decode cX19_ask 51 = .ok (.iconst 0, 1) := by decide +kernel
theorem dX19_ask_52 : decode cX19_ask 52 = .ok (.ireturn, 1) := by decide +kernel
theorem dX19_ask_53 : decode cX19_ask 53 = .ok (.aload_n 0, 1) := by decide +kernel
theorem dX19_ask_54 : decode cX19_ask 54 = .ok (.getfield 854, 3) := by decide +kernel
theorem dX19_ask_57 : decode cX19_ask 57 = .ok (.istore_n 2, 1) := by decide +kernel
theorem dX19_ask_58 : decode cX19_ask 58 = .ok (.iconst 0, 1) := by decide +kernel
theorem dX19_ask_59 : decode cX19_ask 59 = .ok (.istore_n 3, 1) := by decide +kernel
theorem dX19_ask_60 : decode cX19_ask 60 = .ok (.iload_n 3, 1) := by decide +kernel
theorem dX19_ask_61 : decode cX19_ask 61 = .ok (.iload_n 2, 1) := by decide +kernel
theorem dX19_ask_62 : decode cX19_ask 62 = .ok (.if_icmp .ge 21, 3) := by decide +kernel
theorem dX19_ask_65 : decode cX19_ask 65 = .ok (.aload_n 0, 1) := by decide +kernel
theorem dX19_ask_66 : decode cX19_ask 66 = .ok (.getfield 255, 3) := by decide +kernel
theorem dX19_ask_69 : decode cX19_ask 69 = .ok (.iload_n 3, 1) := by decide +kernel
theorem dX19_ask_70 : decode cX19_ask 70 = .ok (.aload_n 0, 1) := by decide +kernel
theorem dX19_ask_71 : decode cX19_ask 71 = .ok (.getfield 276, 3) := by decide +kernel
theorem dX19_ask_74 : decode cX19_ask 74 = .ok (.iload_n 3, 1) := by decide +kernel
theorem dX19_ask_75 : decode cX19_ask 75 = .ok (.iaload, 1) := by decide +kernel
theorem dX19_ask_76 : decode cX19_ask 76 = .ok (.iastore, 1) := by decide +kernel
theorem dX19_ask_77 : decode cX19_ask 77 = .ok (.iinc 3 1, 3) := by decide +kernel
theorem dX19_ask_80 : decode cX19_ask 80 = .ok (.goto (-20), 3) := by decide +kernel
theorem dX19_ask_83 : decode cX19_ask 83 = .ok (.aload_n 0, 1) := by decide +kernel
theorem dX19_ask_84 : decode cX19_ask 84 = .ok (.iload_n 2, 1) := by decide +kernel
theorem dX19_ask_85 : decode cX19_ask 85 = .ok (.putfield 730, 3) := by decide +kernel
theorem dX19_ask_88 : decode cX19_ask 88 = .ok (.aload_n 0, 1) := by decide +kernel
theorem dX19_ask_89 : decode cX19_ask 89 = .ok (.iconst 0, 1) := by decide +kernel
theorem dX19_ask_90 : decode cX19_ask 90 = .ok (.putfield 854, 3) := by decide +kernel
theorem dX19_ask_93 : decode cX19_ask 93 = .ok (.aload_n 0, 1) := by decide +kernel
theorem dX19_ask_94 : decode cX19_ask 94 = .ok (.iload_n 1, 1) := by decide +kernel
theorem dX19_ask_95 : decode cX19_ask 95 = .ok (.putfield 245, 3) := by decide +kernel
theorem dX19_ask_98 : decode cX19_ask 98 = .ok (.aload_n 0, 1) := by decide +kernel
theorem dX19_ask_99 : decode cX19_ask 99 = .ok (.iconst 0, 1) := by decide +kernel
theorem dX19_ask_100 : decode cX19_ask 100 = .ok (.putfield 618, 3) := by decide +kernel
theorem dX19_ask_103 : decode cX19_ask 103 = .ok (.aload_n 0, 1) := by decide +kernel
theorem dX19_ask_104 : decode cX19_ask 104 = .ok (.iload_n 1, 1) := by decide +kernel
theorem dX19_ask_105 : decode cX19_ask 105 = .ok (.iconst 1, 1) := by decide +kernel
theorem dX19_ask_106 : decode cX19_ask 106 = .ok (.invokevirtual 726, 3) := by decide +kernel
theorem dX19_ask_109 : decode cX19_ask 109 = .ok (.iload_n 2, 1) := by decide +kernel
theorem dX19_ask_110 : decode cX19_ask 110 = .ok (.ireturn, 1) := by decide +kernel
theorem cwX19_ask : mw_cwV yX19_ask cX19_ask 4 ((some .int)) 1 := ⟨⟨wd_13, wd_4325, by decide +kernel⟩, wd_4323, wd_4324⟩
set_option maxHeartbeats 4000000 in
set_option maxRecDepth 100000 in
theorem tX19_ask (l : Launch) (G : mwG) (ad : Nat → Nat) (fu : Nat) (a1 : Int32) (M : mwM) (L : mwL) {r0 : Int32} {M0 : mwM} {L0 : mwL} (hD : DX19_ask fu a1 M L = some (r0, M0, L0)) : Met l yX19_ask (Cond.code yX19_ask cX19_ask 4 ((some .int)) :: GT) ({ frames := 3, cells := 0, slots := 0, locals := 68 }) (mw_Pre G ad NF TF FF M L [.ref (ad 732), .int a1]) (mw_Qi G ad NF TF FF (mw_eqI r0 M0 L0)) 0 0 (mw_fr G) := by
  refine mw_enter (by decide) (Nat.le_of_ble_eq_true rfl) ?_
  intro p e s m below meth c ls C hr hlocks hnm hw hl
  have hl : lv_has ls 4 [(0, .ref (ad 732)), (1, .int a1)] := hl
  have hh60 : ∀ (f : Nat) (v2 : Int32) (v3 : Int32) (M : mwM) (L : mwL) (H : Heap) (locs : List Loc) (ls : Array Slot), fX19_ask_h60 fu a1 f (v2, v3, M, L) = some (r0, M0, L0) → mw_W G ad NF TF FF M L H locs → lv_has ls 4 [(0, .ref (ad 732)), (1, .int a1), (2, .int v2), (3, .int v3)] → W p l e ({ frames := 3, cells := 0, slots := 0, locals := 68 }) s m [.ref (ad 732), .int a1].toArray below meth c H locs 0 0 (MQ below (mw_Qi G ad NF TF FF (mw_eqI r0 M0 L0)) [.ref (ad 732), .int a1].toArray s 0 0 (mw_fr G)) (F0 m 60 ls []) := by
    intro f
    induction f with
    | zero => intro v2 v3 M L H locs ls hD; cases hD
    | succ f60 ih60 =>
      intro v2 v3 M L H locs ls hD hw hl
      replace hD : fX19_ask_i60 fu a1 (fX19_ask_h60 fu a1 f60) v2 v3 M L = some (r0, M0, L0) := hD
      unfold fX19_ask_i60 at hD
      refine lv_iload_n C.1.1 C.1.2.1 dX19_ask_60 rfl (lv_at hl 3 rfl) ?_
      refine lv_iload_n C.1.1 C.1.2.1 dX19_ask_61 rfl (lv_at hl 2 rfl) ?_
      refine lv_icmp_ge (tgt := 83) C.1.1 C.1.2.1 dX19_ask_62 (by decide) (fun c4 => ?_) (fun c4 => ?_)
      · replace hD := g_pos c4 hD
        refine lv_aload_n C.1.1 C.1.2.1 dX19_ask_83 rfl (lv_at hl 0 rfl) ?_
        refine lv_iload_n C.1.1 C.1.2.1 dX19_ask_84 rfl (lv_at hl 2 rfl) ?_
        obtain ⟨M5, eM5, hD⟩ := g_let hD
        refine mr_putI C hw kc_19 102 (by decide) tf_732 wd_2883 dX19_ask_85 (by decide) rfl rfl rfl rfl (fun H locs hw => ?_)
        replace hw : mw_W G ad NF TF FF M5 L H locs := by rw [eM5]; exact hw
        refine lv_aload_n C.1.1 C.1.2.1 dX19_ask_88 rfl (lv_at hl 0 rfl) ?_
        refine lv_iconst (v := 0) C.1.1 C.1.2.1 dX19_ask_89 (by decide) ?_
        obtain ⟨M6, eM6, hD⟩ := g_let hD
        refine mr_putI C hw kc_19 110 (by decide) tf_732 wd_2891 dX19_ask_90 (by decide) rfl rfl rfl rfl (fun H locs hw => ?_)
        replace hw : mw_W G ad NF TF FF M6 L H locs := by rw [eM6]; exact hw
        refine lv_aload_n C.1.1 C.1.2.1 dX19_ask_93 rfl (lv_at hl 0 rfl) ?_
        refine lv_iload_n C.1.1 C.1.2.1 dX19_ask_94 rfl (lv_at hl 1 rfl) ?_
        obtain ⟨M7, eM7, hD⟩ := g_let hD
        refine mr_putI C hw kc_19 97 (by decide) tf_732 wd_2878 dX19_ask_95 (by decide) rfl rfl rfl rfl (fun H locs hw => ?_)
        replace hw : mw_W G ad NF TF FF M7 L H locs := by rw [eM7]; exact hw
        refine lv_aload_n C.1.1 C.1.2.1 dX19_ask_98 rfl (lv_at hl 0 rfl) ?_
        refine lv_iconst (v := 0) C.1.1 C.1.2.1 dX19_ask_99 (by decide) ?_
        obtain ⟨M8, eM8, hD⟩ := g_let hD
        refine mr_putI C hw kc_19 98 (by decide) tf_732 wd_2879 dX19_ask_100 (by decide) rfl rfl rfl rfl (fun H locs hw => ?_)
        replace hw : mw_W G ad NF TF FF M8 L H locs := by rw [eM8]; exact hw
        refine lv_aload_n C.1.1 C.1.2.1 dX19_ask_103 rfl (lv_at hl 0 rfl) ?_
        refine lv_iload_n C.1.1 C.1.2.1 dX19_ask_104 rfl (lv_at hl 1 rfl) ?_
        refine lv_iconst (v := 1) C.1.1 C.1.2.1 dX19_ask_105 (by decide) ?_
        obtain ⟨M9, L10, h1, hD⟩ := g_b2 hD
        refine md_cvV (As := [.int a1, .int 1]) (rest := []) C hw (tX19_say l G ad fu a1 1 M8 L h1) kc_19 (by decide) tf_732 wd_4042 cwX19_say ⟨Nat.le_of_ble_eq_true rfl, Nat.le_of_ble_eq_true rfl⟩ rfl hl.1 (Nat.le_of_ble_eq_true rfl) dX19_ask_106 rfl rfl ⟨Nat.zero_le _, Nat.zero_le _⟩ rfl (fun H locs hw => ?_)
        refine lv_iload_n C.1.1 C.1.2.1 dX19_ask_109 rfl (lv_at hl 2 rfl) ?_
        exact mr_iret C hr hlocks hw rfl (Option.some.inj hD) dX19_ask_110
      · replace hD := g_neg c4 hD
        refine lv_aload_n C.1.1 C.1.2.1 dX19_ask_65 rfl (lv_at hl 0 rfl) ?_
        refine mr_getR C hw kc_19 101 (by decide) tf_732 ff_732_101 wd_2882 dX19_ask_66 (by decide) rfl ?_
        refine lv_iload_n C.1.1 C.1.2.1 dX19_ask_69 rfl (lv_at hl 3 rfl) ?_
        refine lv_aload_n C.1.1 C.1.2.1 dX19_ask_70 rfl (lv_at hl 0 rfl) ?_
        refine mr_getR C hw kc_19 111 (by decide) tf_732 ff_732_111 wd_2892 dX19_ask_71 (by decide) rfl ?_
        refine lv_iload_n C.1.1 C.1.2.1 dX19_ask_74 rfl (lv_at hl 3 rfl) ?_
        obtain ⟨q11, hD⟩ := g_ck hD
        refine mr_iald C hw (by decide) tf_940 q11 dX19_ask_75 ?_
        obtain ⟨q12, hD⟩ := g_ck hD
        obtain ⟨M13, eM13, hD⟩ := g_let hD
        refine mr_iast C hw (by decide) tf_933 q12 dX19_ask_76 (fun H locs hw => ?_)
        replace hw : mw_W G ad NF TF FF M13 L H locs := by rw [eM13]; exact hw
        obtain ⟨x14, ex14, hD⟩ := g_let hD
        refine lv_iinc (v := x14) (lv' := [(3, .int x14), (0, .ref (ad 732)), (1, .int a1), (2, .int v2)]) C.1.1 C.1.2.1 dX19_ask_77 hl (k := 3) rfl (by rw [ex14]; rfl) (by decide) rfl (fun ls hl => ?_)
        refine lv_goto (tgt := 60) C.1.1 C.1.2.1 dX19_ask_80 (by decide) ?_
        exact ih60 v2 x14 M13 L _ _ ls hD hw (lv_sub hl [1, 2, 3, 0] rfl)
  have hb41 : ∀ (s1 : Int32) (M : mwM) (L : mwL) (H : Heap) (locs : List Loc) (ls : Array Slot), fX19_ask_b41 fu a1 s1 M L = some (r0, M0, L0) → mw_W G ad NF TF FF M L H locs → lv_has ls 4 [(0, .ref (ad 732)), (1, .int a1)] → W p l e ({ frames := 3, cells := 0, slots := 0, locals := 68 }) s m [.ref (ad 732), .int a1].toArray below meth c H locs 0 0 (MQ below (mw_Qi G ad NF TF FF (mw_eqI r0 M0 L0)) [.ref (ad 732), .int a1].toArray s 0 0 (mw_fr G)) (F0 m 41 ls [.int s1, .ref (ad 732)]) := by
    intro s1 M L H locs ls hD hw hl
    unfold fX19_ask_b41 at hD
    obtain ⟨M1, eM1, hD⟩ := g_let hD
    refine mr_putI C hw kc_19 0 (by decide) tf_732 wd_2781 dX19_ask_41 (by decide) rfl rfl rfl rfl (fun H locs hw => ?_)
    replace hw : mw_W G ad NF TF FF M1 L H locs := by rw [eM1]; exact hw
    refine lv_aload_n C.1.1 C.1.2.1 dX19_ask_44 rfl (lv_at hl 0 rfl) ?_
    refine mr_getI C hw kc_19 0 (by decide) tf_732 wd_2781 dX19_ask_45 (by decide) rfl ?_
    refine lv_if_le (tgt := 53) C.1.1 C.1.2.1 dX19_ask_48 (by decide) (fun c2 => ?_) (fun c2 => ?_)
    · replace hD := g_pos c2 hD
      refine lv_aload_n C.1.1 C.1.2.1 dX19_ask_53 rfl (lv_at hl 0 rfl) ?_
      refine mr_getI C hw kc_19 110 (by decide) tf_732 wd_2891 dX19_ask_54 (by decide) rfl ?_
      obtain ⟨x3, ex3, hD⟩ := g_let hD
      refine W.eq (g2 := F0 m 57 ls (.int x3 :: [])) (by rw [ex3]) ?_
      refine lv_istore_n (lv' := [(2, .int x3), (0, .ref (ad 732)), (1, .int a1)]) C.1.1 C.1.2.1 dX19_ask_57 rfl hl (by decide) rfl (fun ls hl => ?_)
      refine lv_iconst (v := 0) C.1.1 C.1.2.1 dX19_ask_58 (by decide) ?_
      refine lv_istore_n (lv' := [(3, .int 0), (2, .int x3), (0, .ref (ad 732)), (1, .int a1)]) C.1.1 C.1.2.1 dX19_ask_59 rfl hl (by decide) rfl (fun ls hl => ?_)
      exact hh60 fu x3 0 M1 L _ _ ls hD hw (lv_sub hl [2, 3, 1, 0] rfl)
    · replace hD := g_neg c2 hD
      refine lv_iconst (v := 0) C.1.1 C.1.2.1 dX19_ask_51 (by decide) ?_
      exact mr_iret C hr hlocks hw rfl (Option.some.inj hD) dX19_ask_52
  have hb36 : ∀ (M : mwM) (L : mwL) (H : Heap) (locs : List Loc) (ls : Array Slot), fX19_ask_b36 fu a1 M L = some (r0, M0, L0) → mw_W G ad NF TF FF M L H locs → lv_has ls 4 [(0, .ref (ad 732)), (1, .int a1)] → W p l e ({ frames := 3, cells := 0, slots := 0, locals := 68 }) s m [.ref (ad 732), .int a1].toArray below meth c H locs 0 0 (MQ below (mw_Qi G ad NF TF FF (mw_eqI r0 M0 L0)) [.ref (ad 732), .int a1].toArray s 0 0 (mw_fr G)) (F0 m 36 ls [.ref (ad 732)]) := by
    intro M L H locs ls hD hw hl
    unfold fX19_ask_b36 at hD
    refine lv_iconst (v := 2) C.1.1 C.1.2.1 dX19_ask_36 (by decide) ?_
    refine lv_goto (tgt := 41) C.1.1 C.1.2.1 dX19_ask_37 (by decide) ?_
    exact hb41 2 M L _ _ ls hD hw (lv_sub hl [0, 1] rfl)
  unfold DX19_ask at hD
  refine lv_aload_n C.1.1 C.1.2.1 dX19_ask_0 rfl (lv_at hl 0 rfl) ?_
  refine lv_aload_n C.1.1 C.1.2.1 dX19_ask_1 rfl (lv_at hl 0 rfl) ?_
  refine lv_iload_n C.1.1 C.1.2.1 dX19_ask_2 rfl (lv_at hl 1 rfl) ?_
  obtain ⟨r17, M15, L16, h1, hD⟩ := g_b3 hD
  refine md_cvI (As := [.int a1]) (rest := [.ref (ad 732)]) C hw (tX19_noController l G ad fu a1 M L h1) kc_19 (by decide) tf_732 wd_4246 cwX19_noController ⟨Nat.le_of_ble_eq_true rfl, Nat.le_of_ble_eq_true rfl⟩ rfl hl.1 (Nat.le_of_ble_eq_true rfl) dX19_ask_3 rfl rfl ⟨Nat.zero_le _, Nat.zero_le _⟩ rfl (fun H locs hw => ?_)
  refine lv_if_eq (tgt := 13) C.1.1 C.1.2.1 dX19_ask_6 (by decide) (fun c18 => ?_) (fun c18 => ?_)
  · replace hD := g_pos c18 hD
    refine lv_aload_n C.1.1 C.1.2.1 dX19_ask_13 rfl (lv_at hl 0 rfl) ?_
    refine mr_getI C hw kc_19 110 (by decide) tf_732 wd_2891 dX19_ask_14 (by decide) rfl ?_
    refine lv_if_eq (tgt := 36) C.1.1 C.1.2.1 dX19_ask_17 (by decide) (fun c19 => ?_) (fun c19 => ?_)
    · replace hD := g_pos c19 hD
      exact hb36 M15 L16 _ _ ls hD hw (lv_sub hl [0, 1] rfl)
    · replace hD := g_neg c19 hD
      refine lv_aload_n C.1.1 C.1.2.1 dX19_ask_20 rfl (lv_at hl 0 rfl) ?_
      refine mr_getI C hw kc_19 97 (by decide) tf_732 wd_2878 dX19_ask_21 (by decide) rfl ?_
      refine lv_if_ge (tgt := 36) C.1.1 C.1.2.1 dX19_ask_24 (by decide) (fun c20 => ?_) (fun c20 => ?_)
      · replace hD := g_pos c20 hD
        exact hb36 M15 L16 _ _ ls hD hw (lv_sub hl [0, 1] rfl)
      · replace hD := g_neg c20 hD
        refine lv_aload_n C.1.1 C.1.2.1 dX19_ask_27 rfl (lv_at hl 0 rfl) ?_
        refine mr_getI C hw kc_19 88 (by decide) tf_732 wd_2869 dX19_ask_28 (by decide) rfl ?_
        refine lv_bipush (v := 98) C.1.1 C.1.2.1 dX19_ask_31 (by decide) ?_
        refine lv_icmp_le (tgt := 40) C.1.1 C.1.2.1 dX19_ask_33 (by decide) (fun c21 => ?_) (fun c21 => ?_)
        · replace hD := g_pos c21 hD
          refine lv_iconst (v := 0) C.1.1 C.1.2.1 dX19_ask_40 (by decide) ?_
          exact hb41 0 M15 L16 _ _ ls hD hw (lv_sub hl [0, 1] rfl)
        · replace hD := g_neg c21 hD
          exact hb36 M15 L16 _ _ ls hD hw (lv_sub hl [0, 1] rfl)
  · replace hD := g_neg c18 hD
    refine lv_iconst (v := 1) C.1.1 C.1.2.1 dX19_ask_9 (by decide) ?_
    refine lv_goto (tgt := 41) C.1.1 C.1.2.1 dX19_ask_10 (by decide) ?_
    exact hb41 1 M15 L16 _ _ ls hD hw (lv_sub hl [0, 1] rfl)

theorem dX19_asking_0 : decode cX19_asking 0 = .ok (.aload_n 0, 1) := by decide +kernel
theorem dX19_asking_1 : decode cX19_asking 1 = .ok (.iconst 0, 1) := by decide +kernel
theorem dX19_asking_2 : decode cX19_asking 2 = .ok (.putfield 289, 3) := by decide +kernel
theorem dX19_asking_5 : decode cX19_asking 5 = .ok (.aload_n 0, 1) := by decide +kernel
theorem dX19_asking_6 : decode cX19_asking 6 = .ok (.getfield 630, 3) := by decide +kernel
theorem dX19_asking_9 : decode cX19_asking 9 = .ok (.ifCond .eq 10, 3) := by decide +kernel
theorem dX19_asking_12 : decode cX19_asking 12 = .ok (.aload_n 0, 1) := by decide +kernel
theorem dX19_asking_13 : decode cX19_asking 13 = .ok (.getfield 245, 3) := by decide +kernel
theorem dX19_asking_16 : decode cX19_asking 16 = .ok (.goto 4, 3) := by decide +kernel
theorem dX19_asking_19 : decode cX19_asking 19 = .ok (.iconst (-1), 1) := by decide +kernel
theorem dX19_asking_20 : decode cX19_asking 20 = .ok (.ireturn, 1) := by decide +kernel
theorem cwX19_asking : mw_cwV yX19_asking cX19_asking 1 ((some .int)) 0 := ⟨⟨wd_13, wd_4329, by decide +kernel⟩, wd_4327, wd_4328⟩
set_option maxHeartbeats 4000000 in
set_option maxRecDepth 100000 in
theorem tX19_asking (l : Launch) (G : mwG) (ad : Nat → Nat) (fu : Nat) (M : mwM) (L : mwL) {r0 : Int32} {M0 : mwM} {L0 : mwL} (hD : DX19_asking fu M L = some (r0, M0, L0)) : Met l yX19_asking (Cond.code yX19_asking cX19_asking 1 ((some .int)) :: GT) ({ frames := 0, cells := 0, slots := 0, locals := 0 }) (mw_Pre G ad NF TF FF M L [.ref (ad 732)]) (mw_Qi G ad NF TF FF (mw_eqI r0 M0 L0)) 0 0 (mw_fr G) := by
  refine mw_enter (by decide) (Nat.le_of_ble_eq_true rfl) ?_
  intro p e s m below meth c ls C hr hlocks hnm hw hl
  have hl : lv_has ls 1 [(0, .ref (ad 732))] := hl
  have hb20 : ∀ (s0 : Int32) (M : mwM) (L : mwL) (H : Heap) (locs : List Loc) (ls : Array Slot), fX19_asking_b20 fu s0 M L = some (r0, M0, L0) → mw_W G ad NF TF FF M L H locs → lv_has ls 1 [] → W p l e ({ frames := 0, cells := 0, slots := 0, locals := 0 }) s m [.ref (ad 732)].toArray below meth c H locs 0 0 (MQ below (mw_Qi G ad NF TF FF (mw_eqI r0 M0 L0)) [.ref (ad 732)].toArray s 0 0 (mw_fr G)) (F0 m 20 ls [.int s0]) := by
    intro s0 M L H locs ls hD hw hl
    unfold fX19_asking_b20 at hD
    exact mr_iret C hr hlocks hw rfl (Option.some.inj hD) dX19_asking_20
  unfold DX19_asking at hD
  refine lv_aload_n C.1.1 C.1.2.1 dX19_asking_0 rfl (lv_at hl 0 rfl) ?_
  refine lv_iconst (v := 0) C.1.1 C.1.2.1 dX19_asking_1 (by decide) ?_
  obtain ⟨M1, eM1, hD⟩ := g_let hD
  refine mr_putI C hw kc_19 0 (by decide) tf_732 wd_2781 dX19_asking_2 (by decide) rfl rfl rfl rfl (fun H locs hw => ?_)
  replace hw : mw_W G ad NF TF FF M1 L H locs := by rw [eM1]; exact hw
  refine lv_aload_n C.1.1 C.1.2.1 dX19_asking_5 rfl (lv_at hl 0 rfl) ?_
  refine mr_getI C hw kc_19 4 (by decide) tf_732 wd_2785 dX19_asking_6 (by decide) rfl ?_
  refine lv_if_eq (tgt := 19) C.1.1 C.1.2.1 dX19_asking_9 (by decide) (fun c2 => ?_) (fun c2 => ?_)
  · replace hD := g_pos c2 hD
    refine lv_iconst (v := (-1)) C.1.1 C.1.2.1 dX19_asking_19 (by decide) ?_
    exact hb20 ((-1)) M1 L _ _ ls hD hw (lv_sub hl [] rfl)
  · replace hD := g_neg c2 hD
    refine lv_aload_n C.1.1 C.1.2.1 dX19_asking_12 rfl (lv_at hl 0 rfl) ?_
    refine mr_getI C hw kc_19 97 (by decide) tf_732 wd_2878 dX19_asking_13 (by decide) rfl ?_
    refine lv_goto (tgt := 20) C.1.1 C.1.2.1 dX19_asking_16 (by decide) ?_
    exact hb20 (M1 732 97) M1 L _ _ ls hD hw (lv_sub hl [] rfl)

theorem dX19_answer_0 : decode cX19_answer 0 = .ok (.aload_n 0, 1) := by decide +kernel
theorem dX19_answer_1 : decode cX19_answer 1 = .ok (.aload_n 0, 1) := by decide +kernel
theorem dX19_answer_2 : decode cX19_answer 2 = .ok (.getfield 630, 3) := by decide +kernel
theorem dX19_answer_5 : decode cX19_answer 5 = .ok (.ifCond .eq 15, 3) := by decide +kernel
theorem dX19_answer_8 : decode cX19_answer 8 = .ok (.iload_n 1, 1) := by decide +kernel
theorem dX19_answer_9 : decode cX19_answer 9 = .ok (.ifCond .lt 11, 3) := by decide +kernel
theorem dX19_answer_12 : decode cX19_answer 12 = .ok (.iload_n 1, 1) := by decide +kernel
theorem dX19_answer_13 : decode cX19_answer 13 = .ok (.aload_n 0, 1) := by decide +kernel
theorem dX19_answer_14 : decode cX19_answer 14 = .ok (.getfield 618, 3) := by decide +kernel
theorem dX19_answer_17 : decode cX19_answer 17 = .ok (.if_icmp .lt 7, 3) := by decide +kernel
theorem dX19_answer_20 : decode cX19_answer 20 = .ok (.iconst 1, 1) := by decide +kernel
theorem dX19_answer_21 : decode cX19_answer 21 = .ok (.goto 4, 3) := by decide +kernel
theorem dX19_answer_24 : decode cX19_answer 24 = .ok (.iconst 0, 1) := by decide +kernel
theorem dX19_answer_25 : decode cX19_answer 25 = .ok (.putfield 289, 3) := by decide +kernel
theorem dX19_answer_28 : decode cX19_answer 28 = .ok (.aload_n 0, 1) := by decide +kernel
theorem dX19_answer_29 : decode cX19_answer 29 = .ok (.getfield 289, 3) := by decide +kernel
theorem dX19_answer_32 : decode cX19_answer 32 = .ok (.ifCond .le 7, 3) := by decide +kernel
theorem dX19_answer_35 : decode cX19_answer 35 = .ok (.iconst 0, 1) := by decide +kernel
theorem dX19_answer_36 : decode cX19_answer 36 = .ok (.goto 9, 3) := by decide +kernel
theorem dX19_answer_39 : decode cX19_answer 39 = .ok (.aload_n 0, 1) := by decide +kernel
theorem dX19_answer_40 : decode cX19_answer 40 = .ok (.getfield 249, 3) := by decide +kernel
theorem dX19_answer_43 : decode cX19_answer 43 = .ok (.iload_n 1, 1) := by decide +kernel
theorem dX19_answer_44 : decode cX19_answer 44 = .ok (.iaload, 1) := by decide +kernel
theorem dX19_answer_45 : decode cX19_answer 45 = .ok (.ireturn, 1) := by decide +kernel
theorem cwX19_answer : mw_cwV yX19_answer cX19_answer 2 ((some .int)) 1 := ⟨⟨wd_13, wd_4333, by decide +kernel⟩, wd_4331, wd_4332⟩
set_option maxHeartbeats 4000000 in
set_option maxRecDepth 100000 in
theorem tX19_answer (l : Launch) (G : mwG) (ad : Nat → Nat) (fu : Nat) (a1 : Int32) (M : mwM) (L : mwL) {r0 : Int32} {M0 : mwM} {L0 : mwL} (hD : DX19_answer fu a1 M L = some (r0, M0, L0)) : Met l yX19_answer (Cond.code yX19_answer cX19_answer 2 ((some .int)) :: GT) ({ frames := 0, cells := 0, slots := 0, locals := 0 }) (mw_Pre G ad NF TF FF M L [.ref (ad 732), .int a1]) (mw_Qi G ad NF TF FF (mw_eqI r0 M0 L0)) 0 0 (mw_fr G) := by
  refine mw_enter (by decide) (Nat.le_of_ble_eq_true rfl) ?_
  intro p e s m below meth c ls C hr hlocks hnm hw hl
  have hl : lv_has ls 2 [(0, .ref (ad 732)), (1, .int a1)] := hl
  have hb45 : ∀ (s0 : Int32) (M : mwM) (L : mwL) (H : Heap) (locs : List Loc) (ls : Array Slot), fX19_answer_b45 fu a1 s0 M L = some (r0, M0, L0) → mw_W G ad NF TF FF M L H locs → lv_has ls 2 [] → W p l e ({ frames := 0, cells := 0, slots := 0, locals := 0 }) s m [.ref (ad 732), .int a1].toArray below meth c H locs 0 0 (MQ below (mw_Qi G ad NF TF FF (mw_eqI r0 M0 L0)) [.ref (ad 732), .int a1].toArray s 0 0 (mw_fr G)) (F0 m 45 ls [.int s0]) := by
    intro s0 M L H locs ls hD hw hl
    unfold fX19_answer_b45 at hD
    exact mr_iret C hr hlocks hw rfl (Option.some.inj hD) dX19_answer_45
  have hb25 : ∀ (s1 : Int32) (M : mwM) (L : mwL) (H : Heap) (locs : List Loc) (ls : Array Slot), fX19_answer_b25 fu a1 s1 M L = some (r0, M0, L0) → mw_W G ad NF TF FF M L H locs → lv_has ls 2 [(0, .ref (ad 732)), (1, .int a1)] → W p l e ({ frames := 0, cells := 0, slots := 0, locals := 0 }) s m [.ref (ad 732), .int a1].toArray below meth c H locs 0 0 (MQ below (mw_Qi G ad NF TF FF (mw_eqI r0 M0 L0)) [.ref (ad 732), .int a1].toArray s 0 0 (mw_fr G)) (F0 m 25 ls [.int s1, .ref (ad 732)]) := by
    intro s1 M L H locs ls hD hw hl
    unfold fX19_answer_b25 at hD
    obtain ⟨M1, eM1, hD⟩ := g_let hD
    refine mr_putI C hw kc_19 0 (by decide) tf_732 wd_2781 dX19_answer_25 (by decide) rfl rfl rfl rfl (fun H locs hw => ?_)
    replace hw : mw_W G ad NF TF FF M1 L H locs := by rw [eM1]; exact hw
    refine lv_aload_n C.1.1 C.1.2.1 dX19_answer_28 rfl (lv_at hl 0 rfl) ?_
    refine mr_getI C hw kc_19 0 (by decide) tf_732 wd_2781 dX19_answer_29 (by decide) rfl ?_
    refine lv_if_le (tgt := 39) C.1.1 C.1.2.1 dX19_answer_32 (by decide) (fun c2 => ?_) (fun c2 => ?_)
    · replace hD := g_pos c2 hD
      refine lv_aload_n C.1.1 C.1.2.1 dX19_answer_39 rfl (lv_at hl 0 rfl) ?_
      refine mr_getR C hw kc_19 99 (by decide) tf_732 ff_732_99 wd_2880 dX19_answer_40 (by decide) rfl ?_
      refine lv_iload_n C.1.1 C.1.2.1 dX19_answer_43 rfl (lv_at hl 1 rfl) ?_
      obtain ⟨q3, hD⟩ := g_ck hD
      refine mr_iald C hw (by decide) tf_931 q3 dX19_answer_44 ?_
      exact hb45 (M1 931 a1.toNatClampNeg) M1 L _ _ ls hD hw (lv_sub hl [] rfl)
    · replace hD := g_neg c2 hD
      refine lv_iconst (v := 0) C.1.1 C.1.2.1 dX19_answer_35 (by decide) ?_
      refine lv_goto (tgt := 45) C.1.1 C.1.2.1 dX19_answer_36 (by decide) ?_
      exact hb45 0 M1 L _ _ ls hD hw (lv_sub hl [] rfl)
  have hb20 : ∀ (M : mwM) (L : mwL) (H : Heap) (locs : List Loc) (ls : Array Slot), fX19_answer_b20 fu a1 M L = some (r0, M0, L0) → mw_W G ad NF TF FF M L H locs → lv_has ls 2 [(0, .ref (ad 732)), (1, .int a1)] → W p l e ({ frames := 0, cells := 0, slots := 0, locals := 0 }) s m [.ref (ad 732), .int a1].toArray below meth c H locs 0 0 (MQ below (mw_Qi G ad NF TF FF (mw_eqI r0 M0 L0)) [.ref (ad 732), .int a1].toArray s 0 0 (mw_fr G)) (F0 m 20 ls [.ref (ad 732)]) := by
    intro M L H locs ls hD hw hl
    unfold fX19_answer_b20 at hD
    refine lv_iconst (v := 1) C.1.1 C.1.2.1 dX19_answer_20 (by decide) ?_
    refine lv_goto (tgt := 25) C.1.1 C.1.2.1 dX19_answer_21 (by decide) ?_
    exact hb25 1 M L _ _ ls hD hw (lv_sub hl [0, 1] rfl)
  unfold DX19_answer at hD
  refine lv_aload_n C.1.1 C.1.2.1 dX19_answer_0 rfl (lv_at hl 0 rfl) ?_
  refine lv_aload_n C.1.1 C.1.2.1 dX19_answer_1 rfl (lv_at hl 0 rfl) ?_
  refine mr_getI C hw kc_19 4 (by decide) tf_732 wd_2785 dX19_answer_2 (by decide) rfl ?_
  refine lv_if_eq (tgt := 20) C.1.1 C.1.2.1 dX19_answer_5 (by decide) (fun c4 => ?_) (fun c4 => ?_)
  · replace hD := g_pos c4 hD
    exact hb20 M L _ _ ls hD hw (lv_sub hl [0, 1] rfl)
  · replace hD := g_neg c4 hD
    refine lv_iload_n C.1.1 C.1.2.1 dX19_answer_8 rfl (lv_at hl 1 rfl) ?_
    refine lv_if_lt (tgt := 20) C.1.1 C.1.2.1 dX19_answer_9 (by decide) (fun c5 => ?_) (fun c5 => ?_)
    · replace hD := g_pos c5 hD
      exact hb20 M L _ _ ls hD hw (lv_sub hl [0, 1] rfl)
    · replace hD := g_neg c5 hD
      refine lv_iload_n C.1.1 C.1.2.1 dX19_answer_12 rfl (lv_at hl 1 rfl) ?_
      refine lv_aload_n C.1.1 C.1.2.1 dX19_answer_13 rfl (lv_at hl 0 rfl) ?_
      refine mr_getI C hw kc_19 98 (by decide) tf_732 wd_2879 dX19_answer_14 (by decide) rfl ?_
      refine lv_icmp_lt (tgt := 24) C.1.1 C.1.2.1 dX19_answer_17 (by decide) (fun c6 => ?_) (fun c6 => ?_)
      · replace hD := g_pos c6 hD
        refine lv_iconst (v := 0) C.1.1 C.1.2.1 dX19_answer_24 (by decide) ?_
        exact hb25 0 M L _ _ ls hD hw (lv_sub hl [0, 1] rfl)
      · replace hD := g_neg c6 hD
        exact hb20 M L _ _ ls hD hw (lv_sub hl [0, 1] rfl)

theorem dX19_answers_0 : decode cX19_answers 0 = .ok (.aload_n 0, 1) := by decide +kernel
theorem dX19_answers_1 : decode cX19_answers 1 = .ok (.iconst 0, 1) := by decide +kernel
theorem dX19_answers_2 : decode cX19_answers 2 = .ok (.putfield 289, 3) := by decide +kernel
theorem dX19_answers_5 : decode cX19_answers 5 = .ok (.aload_n 0, 1) := by decide +kernel
theorem dX19_answers_6 : decode cX19_answers 6 = .ok (.getfield 630, 3) := by decide +kernel
theorem dX19_answers_9 : decode cX19_answers 9 = .ok (.ifCond .eq 10, 3) := by decide +kernel
theorem dX19_answers_12 : decode cX19_answers 12 = .ok (.aload_n 0, 1) := by decide +kernel
theorem dX19_answers_13 : decode cX19_answers 13 = .ok (.getfield 618, 3) := by decide +kernel
theorem dX19_answers_16 : decode cX19_answers 16 = .ok (.goto 4, 3) := by decide +kernel
theorem dX19_answers_19 : decode cX19_answers 19 = .ok (.iconst 0, 1) := by decide +kernel
theorem dX19_answers_20 : decode cX19_answers 20 = .ok (.ireturn, 1) := by decide +kernel
theorem cwX19_answers : mw_cwV yX19_answers cX19_answers 1 ((some .int)) 0 := ⟨⟨wd_13, wd_4337, by decide +kernel⟩, wd_4335, wd_4336⟩
set_option maxHeartbeats 4000000 in
set_option maxRecDepth 100000 in
theorem tX19_answers (l : Launch) (G : mwG) (ad : Nat → Nat) (fu : Nat) (M : mwM) (L : mwL) {r0 : Int32} {M0 : mwM} {L0 : mwL} (hD : DX19_answers fu M L = some (r0, M0, L0)) : Met l yX19_answers (Cond.code yX19_answers cX19_answers 1 ((some .int)) :: GT) ({ frames := 0, cells := 0, slots := 0, locals := 0 }) (mw_Pre G ad NF TF FF M L [.ref (ad 732)]) (mw_Qi G ad NF TF FF (mw_eqI r0 M0 L0)) 0 0 (mw_fr G) := by
  refine mw_enter (by decide) (Nat.le_of_ble_eq_true rfl) ?_
  intro p e s m below meth c ls C hr hlocks hnm hw hl
  have hl : lv_has ls 1 [(0, .ref (ad 732))] := hl
  have hb20 : ∀ (s0 : Int32) (M : mwM) (L : mwL) (H : Heap) (locs : List Loc) (ls : Array Slot), fX19_answers_b20 fu s0 M L = some (r0, M0, L0) → mw_W G ad NF TF FF M L H locs → lv_has ls 1 [] → W p l e ({ frames := 0, cells := 0, slots := 0, locals := 0 }) s m [.ref (ad 732)].toArray below meth c H locs 0 0 (MQ below (mw_Qi G ad NF TF FF (mw_eqI r0 M0 L0)) [.ref (ad 732)].toArray s 0 0 (mw_fr G)) (F0 m 20 ls [.int s0]) := by
    intro s0 M L H locs ls hD hw hl
    unfold fX19_answers_b20 at hD
    exact mr_iret C hr hlocks hw rfl (Option.some.inj hD) dX19_answers_20
  unfold DX19_answers at hD
  refine lv_aload_n C.1.1 C.1.2.1 dX19_answers_0 rfl (lv_at hl 0 rfl) ?_
  refine lv_iconst (v := 0) C.1.1 C.1.2.1 dX19_answers_1 (by decide) ?_
  obtain ⟨M1, eM1, hD⟩ := g_let hD
  refine mr_putI C hw kc_19 0 (by decide) tf_732 wd_2781 dX19_answers_2 (by decide) rfl rfl rfl rfl (fun H locs hw => ?_)
  replace hw : mw_W G ad NF TF FF M1 L H locs := by rw [eM1]; exact hw
  refine lv_aload_n C.1.1 C.1.2.1 dX19_answers_5 rfl (lv_at hl 0 rfl) ?_
  refine mr_getI C hw kc_19 4 (by decide) tf_732 wd_2785 dX19_answers_6 (by decide) rfl ?_
  refine lv_if_eq (tgt := 19) C.1.1 C.1.2.1 dX19_answers_9 (by decide) (fun c2 => ?_) (fun c2 => ?_)
  · replace hD := g_pos c2 hD
    refine lv_iconst (v := 0) C.1.1 C.1.2.1 dX19_answers_19 (by decide) ?_
    exact hb20 0 M1 L _ _ ls hD hw (lv_sub hl [] rfl)
  · replace hD := g_neg c2 hD
    refine lv_aload_n C.1.1 C.1.2.1 dX19_answers_12 rfl (lv_at hl 0 rfl) ?_
    refine mr_getI C hw kc_19 98 (by decide) tf_732 wd_2879 dX19_answers_13 (by decide) rfl ?_
    refine lv_goto (tgt := 20) C.1.1 C.1.2.1 dX19_answers_16 (by decide) ?_
    exact hb20 (M1 732 98) M1 L _ _ ls hD hw (lv_sub hl [] rfl)
