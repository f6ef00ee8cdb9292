theorem dX3_mixBits_0 : decode cX3_mixBits 0 = .ok (.iload_n 0, 1) := by decide +kernel
theorem dX3_mixBits_1 : decode cX3_mixBits 1 = .ok (.bipush 8, 2) := by decide +kernel
theorem dX3_mixBits_3 : decode cX3_mixBits 3 = .ok (.ishl, 1) := by decide +kernel
theorem dX3_mixBits_4 : decode cX3_mixBits 4 = .ok (.iload_n 0, 1) := by decide +kernel
theorem dX3_mixBits_5 : decode cX3_mixBits 5 = .ok (.ior, 1) := by decide +kernel
theorem dX3_mixBits_6 : decode cX3_mixBits 6 = .ok (.istore_n 1, 1) := by decide +kernel
theorem dX3_mixBits_7 : decode cX3_mixBits 7 = .ok (.iload_n 0, 1) := by decide +kernel
theorem dX3_mixBits_8 : decode cX3_mixBits 8 = .ok (.iload_n 1, 1) := by decide +kernel
theorem dX3_mixBits_9 : decode cX3_mixBits 9 = .ok (.bipush 7, 2) := by decide +kernel
theorem dX3_mixBits_11 : decode cX3_mixBits 11 = .ok (.ishr, 1) := by decide +kernel
theorem dX3_mixBits_12 : decode cX3_mixBits 12 = .ok (.ixor, 1) := by decide +kernel
theorem dX3_mixBits_13 : decode cX3_mixBits 13 = .ok (.iload_n 1, 1) := by decide +kernel
theorem dX3_mixBits_14 : decode cX3_mixBits 14 = .ok (.bipush 6, 2) := by decide +kernel
theorem dX3_mixBits_16 : decode cX3_mixBits 16 = .ok (.ishr, 1) := by decide +kernel
theorem dX3_mixBits_17 : decode cX3_mixBits 17 = .ok (.ixor, 1) := by decide +kernel
theorem dX3_mixBits_18 : decode cX3_mixBits 18 = .ok (.iload_n 1, 1) := by decide +kernel
theorem dX3_mixBits_19 : decode cX3_mixBits 19 = .ok (.iconst 5, 1) := by decide +kernel
theorem dX3_mixBits_20 : decode cX3_mixBits 20 = .ok (.ishr, 1) := by decide +kernel
theorem dX3_mixBits_21 : decode cX3_mixBits 21 = .ok (.ixor, 1) := by decide +kernel
theorem dX3_mixBits_22 : decode cX3_mixBits 22 = .ok (.iload_n 1, 1) := by decide +kernel
theorem dX3_mixBits_23 : decode cX3_mixBits 23 = .ok (.iconst 4, 1) := by decide +kernel
theorem dX3_mixBits_24 : decode cX3_mixBits 24 = .ok (.ishr, 1) := by decide +kernel
theorem dX3_mixBits_25 : decode cX3_mixBits 25 = .ok (.ixor, 1) := by decide +kernel
theorem dX3_mixBits_26 : decode cX3_mixBits 26 = .ok (.bipush 99, 2) := by decide +kernel
theorem dX3_mixBits_28 : decode cX3_mixBits 28 = .ok (.ixor, 1) := by decide +kernel
theorem dX3_mixBits_29 : decode cX3_mixBits 29 = .ok (.sipush 255, 3) := by decide +kernel
theorem dX3_mixBits_32 : decode cX3_mixBits 32 = .ok (.iand, 1) := by decide +kernel
theorem dX3_mixBits_33 : decode cX3_mixBits 33 = .ok (.ireturn, 1) := by decide +kernel
theorem cwX3_mixBits : mw_cwS yX3_mixBits cX3_mixBits 2 ((some .int)) 1 := ⟨⟨wd_8, wd_293, by decide +kernel⟩, wd_292⟩
set_option maxHeartbeats 4000000 in
set_option maxRecDepth 100000 in
theorem tX3_mixBits (l : Launch) (G : mwG) (ad : Nat → Nat) (fu : Nat) (a1 : Int32) (M : mwM) (L : mwL) {r0 : Int32} {M0 : mwM} {L0 : mwL} (hD : DX3_mixBits fu a1 M L = some (r0, M0, L0)) : Met l yX3_mixBits (Cond.code yX3_mixBits cX3_mixBits 2 ((some .int)) :: GT) ({ frames := 0, cells := 0, slots := 0, locals := 0 }) (mw_Pre G ad NF TF FF M L [.int a1]) (mw_Qi G ad NF TF FF (mw_eqI r0 M0 L0)) 0 0 (mw_fr G) := by
  refine mw_enter (by decide) (Nat.le_of_ble_eq_true rfl) ?_
  intro p e s m below meth c ls C hr hlocks hnm hw hl
  have hl : lv_has ls 2 [(0, .int a1)] := hl
  unfold DX3_mixBits at hD
  refine lv_iload_n C.1.1 C.1.2.1 dX3_mixBits_0 rfl (lv_at hl 0 rfl) ?_
  refine lv_bipush (v := 8) C.1.1 C.1.2.1 dX3_mixBits_1 (by decide) ?_
  refine lv_ishl C.1.1 C.1.2.1 dX3_mixBits_3 ?_
  refine lv_iload_n C.1.1 C.1.2.1 dX3_mixBits_4 rfl (lv_at hl 0 rfl) ?_
  refine lv_ior C.1.1 C.1.2.1 dX3_mixBits_5 ?_
  obtain ⟨x1, ex1, hD⟩ := g_let hD
  refine W.eq (g2 := F0 m 6 ls (.int x1 :: [])) (by rw [ex1]) ?_
  refine lv_istore_n (lv' := [(1, .int x1), (0, .int a1)]) C.1.1 C.1.2.1 dX3_mixBits_6 rfl hl (by decide) rfl (fun ls hl => ?_)
  refine lv_iload_n C.1.1 C.1.2.1 dX3_mixBits_7 rfl (lv_at hl 1 rfl) ?_
  refine lv_iload_n C.1.1 C.1.2.1 dX3_mixBits_8 rfl (lv_at hl 0 rfl) ?_
  refine lv_bipush (v := 7) C.1.1 C.1.2.1 dX3_mixBits_9 (by decide) ?_
  refine lv_ishr C.1.1 C.1.2.1 dX3_mixBits_11 ?_
  refine lv_ixor C.1.1 C.1.2.1 dX3_mixBits_12 ?_
  refine lv_iload_n C.1.1 C.1.2.1 dX3_mixBits_13 rfl (lv_at hl 0 rfl) ?_
  refine lv_bipush (v := 6) C.1.1 C.1.2.1 dX3_mixBits_14 (by decide) ?_
  refine lv_ishr C.1.1 C.1.2.1 dX3_mixBits_16 ?_
  refine lv_ixor C.1.1 C.1.2.1 dX3_mixBits_17 ?_
  refine lv_iload_n C.1.1 C.1.2.1 dX3_mixBits_18 rfl (lv_at hl 0 rfl) ?_
  refine lv_iconst (v := 5) C.1.1 C.1.2.1 dX3_mixBits_19 (by decide) ?_
  refine lv_ishr C.1.1 C.1.2.1 dX3_mixBits_20 ?_
  refine lv_ixor C.1.1 C.1.2.1 dX3_mixBits_21 ?_
  refine lv_iload_n C.1.1 C.1.2.1 dX3_mixBits_22 rfl (lv_at hl 0 rfl) ?_
  refine lv_iconst (v := 4) C.1.1 C.1.2.1 dX3_mixBits_23 (by decide) ?_
  refine lv_ishr C.1.1 C.1.2.1 dX3_mixBits_24 ?_
  refine lv_ixor C.1.1 C.1.2.1 dX3_mixBits_25 ?_
  refine lv_bipush (v := 99) C.1.1 C.1.2.1 dX3_mixBits_26 (by decide) ?_
  refine lv_ixor C.1.1 C.1.2.1 dX3_mixBits_28 ?_
  refine lv_sipush (v := 255) C.1.1 C.1.2.1 dX3_mixBits_29 (by decide) ?_
  refine lv_iand C.1.1 C.1.2.1 dX3_mixBits_32 ?_
  exact mr_iret C hr hlocks hw rfl (Option.some.inj hD) dX3_mixBits_33

theorem dX3_timesInverseOfThree_0 : decode cX3_timesInverseOfThree 0 = .ok (.iload_n 0, 1) := by decide +kernel
theorem dX3_timesInverseOfThree_1 : decode cX3_timesInverseOfThree 1 = .ok (.iload_n 0, 1) := by decide +kernel
theorem dX3_timesInverseOfThree_2 : decode cX3_timesInverseOfThree 2 = .ok (.iconst 1, 1) := by decide +kernel
theorem dX3_timesInverseOfThree_3 : decode cX3_timesInverseOfThree 3 = .ok (.ishl, 1) := by decide +kernel
theorem dX3_timesInverseOfThree_4 : decode cX3_timesInverseOfThree 4 = .ok (.ixor, 1) := by decide +kernel
theorem dX3_timesInverseOfThree_5 : decode cX3_timesInverseOfThree 5 = .ok (.istore_n 1, 1) := by decide +kernel
theorem dX3_timesInverseOfThree_6 : decode cX3_timesInverseOfThree 6 = .ok (.iload_n 1, 1) := by decide +kernel
theorem dX3_timesInverseOfThree_7 : decode cX3_timesInverseOfThree 7 = .ok (.iload_n 1, 1) := by decide +kernel
theorem dX3_timesInverseOfThree_8 : decode cX3_timesInverseOfThree 8 = .ok (.iconst 2, 1) := by decide +kernel
theorem dX3_timesInverseOfThree_9 : decode cX3_timesInverseOfThree 9 = .ok (.ishl, 1) := by decide +kernel
theorem dX3_timesInverseOfThree_10 : decode cX3_timesInverseOfThree 10 = .ok (.ixor, 1) := by decide +kernel
theorem dX3_timesInverseOfThree_11 : decode cX3_timesInverseOfThree 11 = .ok (.istore_n 1, 1) := by decide +kernel
theorem dX3_timesInverseOfThree_12 : decode cX3_timesInverseOfThree 12 = .ok (.iload_n 1, 1) := by decide +kernel
theorem dX3_timesInverseOfThree_13 : decode cX3_timesInverseOfThree 13 = .ok (.iload_n 1, 1) := by decide +kernel
theorem dX3_timesInverseOfThree_14 : decode cX3_timesInverseOfThree 14 = .ok (.iconst 4, 1) := by decide +kernel
theorem dX3_timesInverseOfThree_15 : decode cX3_timesInverseOfThree 15 = .ok (.ishl, 1) := by decide +kernel
theorem dX3_timesInverseOfThree_16 : decode cX3_timesInverseOfThree 16 = .ok (.ixor, 1) := by decide +kernel
theorem dX3_timesInverseOfThree_17 : decode cX3_timesInverseOfThree 17 = .ok (.istore_n 1, 1) := by decide +kernel
theorem dX3_timesInverseOfThree_18 : decode cX3_timesInverseOfThree 18 = .ok (.iload_n 1, 1) := by decide +kernel
theorem dX3_timesInverseOfThree_19 : decode cX3_timesInverseOfThree 19 = .ok (.sipush 255, 3) := by decide +kernel
theorem dX3_timesInverseOfThree_22 : decode cX3_timesInverseOfThree 22 = .ok (.iand, 1) := by decide +kernel
theorem dX3_timesInverseOfThree_23 : decode cX3_timesInverseOfThree 23 = .ok (.iload_n 1, 1) := by decide +kernel
theorem dX3_timesInverseOfThree_24 : decode cX3_timesInverseOfThree 24 = .ok (.sipush 128, 3) := by decide +kernel
theorem dX3_timesInverseOfThree_27 : decode cX3_timesInverseOfThree 27 = .ok (.iand, 1) := by decide +kernel
theorem dX3_timesInverseOfThree_28 : decode cX3_timesInverseOfThree 28 = .ok (.ifCond .eq 8, 3) := by decide +kernel
theorem dX3_timesInverseOfThree_31 : decode cX3_timesInverseOfThree 31 = .ok (.bipush 9, 2) := by decide +kernel
theorem dX3_timesInverseOfThree_33 : decode cX3_timesInverseOfThree 33 = .ok (.goto 4, 3) := by decide +kernel
theorem dX3_timesInverseOfThree_36 : decode cX3_timesInverseOfThree 36 = .ok (.iconst 0, 1) := by decide +kernel
theorem dX3_timesInverseOfThree_37 : decode cX3_timesInverseOfThree 37 = .ok (.ixor, 1) := by decide +kernel
theorem dX3_timesInverseOfThree_38 : decode cX3_timesInverseOfThree 38 = .ok (.ireturn, 1) := by decide +kernel
theorem cwX3_timesInverseOfThree : mw_cwS yX3_timesInverseOfThree cX3_timesInverseOfThree 2 ((some .int)) 1 := ⟨⟨wd_8, wd_296, by decide +kernel⟩, wd_295⟩
set_option maxHeartbeats 4000000 in
set_option maxRecDepth 100000 in
theorem tX3_timesInverseOfThree (l : Launch) (G : mwG) (ad : Nat → Nat) (fu : Nat) (a1 : Int32) (M : mwM) (L : mwL) {r0 : Int32} {M0 : mwM} {L0 : mwL} (hD : DX3_timesInverseOfThree fu a1 M L = some (r0, M0, L0)) : Met l yX3_timesInverseOfThree (Cond.code yX3_timesInverseOfThree cX3_timesInverseOfThree 2 ((some .int)) :: GT) ({ frames := 0, cells := 0, slots := 0, locals := 0 }) (mw_Pre G ad NF TF FF M L [.int a1]) (mw_Qi G ad NF TF FF (mw_eqI r0 M0 L0)) 0 0 (mw_fr G) := by
  refine mw_enter (by decide) (Nat.le_of_ble_eq_true rfl) ?_
  intro p e s m below meth c ls C hr hlocks hnm hw hl
  have hl : lv_has ls 2 [(0, .int a1)] := hl
  have hb37 : ∀ (s0 : Int32) (s1 : Int32) (M : mwM) (L : mwL) (H : Heap) (locs : List Loc) (ls : Array Slot), fX3_timesInverseOfThree_b37 fu a1 s0 s1 M L = some (r0, M0, L0) → mw_W G ad NF TF FF M L H locs → lv_has ls 2 [] → W p l e ({ frames := 0, cells := 0, slots := 0, locals := 0 }) s m [.int a1].toArray below meth c H locs 0 0 (MQ below (mw_Qi G ad NF TF FF (mw_eqI r0 M0 L0)) [.int a1].toArray s 0 0 (mw_fr G)) (F0 m 37 ls [.int s1, .int s0]) := by
    intro s0 s1 M L H locs ls hD hw hl
    unfold fX3_timesInverseOfThree_b37 at hD
    refine lv_ixor C.1.1 C.1.2.1 dX3_timesInverseOfThree_37 ?_
    exact mr_iret C hr hlocks hw rfl (Option.some.inj hD) dX3_timesInverseOfThree_38
  unfold DX3_timesInverseOfThree at hD
  refine lv_iload_n C.1.1 C.1.2.1 dX3_timesInverseOfThree_0 rfl (lv_at hl 0 rfl) ?_
  refine lv_iload_n C.1.1 C.1.2.1 dX3_timesInverseOfThree_1 rfl (lv_at hl 0 rfl) ?_
  refine lv_iconst (v := 1) C.1.1 C.1.2.1 dX3_timesInverseOfThree_2 (by decide) ?_
  refine lv_ishl C.1.1 C.1.2.1 dX3_timesInverseOfThree_3 ?_
  refine lv_ixor C.1.1 C.1.2.1 dX3_timesInverseOfThree_4 ?_
  obtain ⟨x1, ex1, hD⟩ := g_let hD
  refine W.eq (g2 := F0 m 5 ls (.int x1 :: [])) (by rw [ex1]) ?_
  refine lv_istore_n (lv' := [(1, .int x1), (0, .int a1)]) C.1.1 C.1.2.1 dX3_timesInverseOfThree_5 rfl hl (by decide) rfl (fun ls hl => ?_)
  refine lv_iload_n C.1.1 C.1.2.1 dX3_timesInverseOfThree_6 rfl (lv_at hl 0 rfl) ?_
  refine lv_iload_n C.1.1 C.1.2.1 dX3_timesInverseOfThree_7 rfl (lv_at hl 0 rfl) ?_
  refine lv_iconst (v := 2) C.1.1 C.1.2.1 dX3_timesInverseOfThree_8 (by decide) ?_
  refine lv_ishl C.1.1 C.1.2.1 dX3_timesInverseOfThree_9 ?_
  refine lv_ixor C.1.1 C.1.2.1 dX3_timesInverseOfThree_10 ?_
  obtain ⟨x2, ex2, hD⟩ := g_let hD
  refine W.eq (g2 := F0 m 11 ls (.int x2 :: [])) (by rw [ex2]) ?_
  refine lv_istore_n (lv' := [(1, .int x2), (0, .int a1)]) C.1.1 C.1.2.1 dX3_timesInverseOfThree_11 rfl hl (by decide) rfl (fun ls hl => ?_)
  refine lv_iload_n C.1.1 C.1.2.1 dX3_timesInverseOfThree_12 rfl (lv_at hl 0 rfl) ?_
  refine lv_iload_n C.1.1 C.1.2.1 dX3_timesInverseOfThree_13 rfl (lv_at hl 0 rfl) ?_
  refine lv_iconst (v := 4) C.1.1 C.1.2.1 dX3_timesInverseOfThree_14 (by decide) ?_
  refine lv_ishl C.1.1 C.1.2.1 dX3_timesInverseOfThree_15 ?_
  refine lv_ixor C.1.1 C.1.2.1 dX3_timesInverseOfThree_16 ?_
  obtain ⟨x3, ex3, hD⟩ := g_let hD
  refine W.eq (g2 := F0 m 17 ls (.int x3 :: [])) (by rw [ex3]) ?_
  refine lv_istore_n (lv' := [(1, .int x3), (0, .int a1)]) C.1.1 C.1.2.1 dX3_timesInverseOfThree_17 rfl hl (by decide) rfl (fun ls hl => ?_)
  refine lv_iload_n C.1.1 C.1.2.1 dX3_timesInverseOfThree_18 rfl (lv_at hl 0 rfl) ?_
  refine lv_sipush (v := 255) C.1.1 C.1.2.1 dX3_timesInverseOfThree_19 (by decide) ?_
  refine lv_iand C.1.1 C.1.2.1 dX3_timesInverseOfThree_22 ?_
  refine lv_iload_n C.1.1 C.1.2.1 dX3_timesInverseOfThree_23 rfl (lv_at hl 0 rfl) ?_
  refine lv_sipush (v := 128) C.1.1 C.1.2.1 dX3_timesInverseOfThree_24 (by decide) ?_
  refine lv_iand C.1.1 C.1.2.1 dX3_timesInverseOfThree_27 ?_
  refine lv_if_eq (tgt := 36) C.1.1 C.1.2.1 dX3_timesInverseOfThree_28 (by decide) (fun c4 => ?_) (fun c4 => ?_)
  · replace hD := g_pos c4 hD
    refine lv_iconst (v := 0) C.1.1 C.1.2.1 dX3_timesInverseOfThree_36 (by decide) ?_
    exact hb37 (x3 &&& 255) 0 M L _ _ ls hD hw (lv_sub hl [] rfl)
  · replace hD := g_neg c4 hD
    refine lv_bipush (v := 9) C.1.1 C.1.2.1 dX3_timesInverseOfThree_31 (by decide) ?_
    refine lv_goto (tgt := 37) C.1.1 C.1.2.1 dX3_timesInverseOfThree_33 (by decide) ?_
    exact hb37 (x3 &&& 255) 9 M L _ _ ls hD hw (lv_sub hl [] rfl)

theorem dX3_spreadKey_0 : decode cX3_spreadKey 0 = .ok (.aload_n 0, 1) := by decide +kernel
theorem dX3_spreadKey_1 : decode cX3_spreadKey 1 = .ok (.getfield 18, 3) := by decide +kernel
theorem dX3_spreadKey_4 : decode cX3_spreadKey 4 = .ok (.iload_n 1, 1) := by decide +kernel
theorem dX3_spreadKey_5 : decode cX3_spreadKey 5 = .ok (.aaload, 1) := by decide +kernel
theorem dX3_spreadKey_6 : decode cX3_spreadKey 6 = .ok (.astore_n 2, 1) := by decide +kernel
theorem dX3_spreadKey_7 : decode cX3_spreadKey 7 = .ok (.iconst 1, 1) := by decide +kernel
theorem dX3_spreadKey_8 : decode cX3_spreadKey 8 = .ok (.istore_n 3, 1) := by decide +kernel
theorem dX3_spreadKey_9 : decode cX3_spreadKey 9 = .ok (.iconst 0, 1) := by decide +kernel
theorem dX3_spreadKey_10 : decode cX3_spreadKey 10 = .ok (.istore 4, 2) := by decide +kernel
theorem dX3_spreadKey_12 : decode cX3_spreadKey 12 = .ok (.iload 4, 2) := by decide +kernel
theorem dX3_spreadKey_14 : decode cX3_spreadKey 14 = .ok (.bipush 16, 2) := by decide +kernel
theorem dX3_spreadKey_16 : decode cX3_spreadKey 16 = .ok (.if_icmp .ge 17, 3) := by decide +kernel
theorem dX3_spreadKey_19 : decode cX3_spreadKey 19 = .ok (.aload_n 2, 1) := by decide +kernel
theorem dX3_spreadKey_20 : decode cX3_spreadKey 20 = .ok (.iload 4, 2) := by decide +kernel
theorem dX3_spreadKey_22 : decode cX3_spreadKey 22 = .ok (.iload_n 1, 1) := by decide +kernel
theorem dX3_spreadKey_23 : decode cX3_spreadKey 23 = .ok (.iload 4, 2) := by decide +kernel
theorem dX3_spreadKey_25 : decode cX3_spreadKey 25 = .ok (.iadd, 1) := by decide +kernel
theorem dX3_spreadKey_26 : decode cX3_spreadKey 26 = .ok (.iastore, 1) := by decide +kernel
theorem dX3_spreadKey_27 : decode cX3_spreadKey 27 = .ok (.iinc 4 1, 3) := by decide +kernel
theorem dX3_spreadKey_30 : decode cX3_spreadKey 30 = .ok (.goto (-18), 3) := by decide +kernel
theorem dX3_spreadKey_33 : decode cX3_spreadKey 33 = .ok (.bipush 16, 2) := by decide +kernel
theorem dX3_spreadKey_35 : decode cX3_spreadKey 35 = .ok (.istore 4, 2) := by decide +kernel
theorem dX3_spreadKey_37 : decode cX3_spreadKey 37 = .ok (.iload 4, 2) := by decide +kernel
theorem dX3_spreadKey_39 : decode cX3_spreadKey 39 = .ok (.sipush 176, 3) := by decide +kernel
theorem dX3_spreadKey_42 : decode cX3_spreadKey 42 = .ok (.if_icmp .ge 112, 3) := by decide +kernel
theorem dX3_spreadKey_45 : decode cX3_spreadKey 45 = .ok (.iload 4, 2) := by decide +kernel
theorem dX3_spreadKey_47 : decode cX3_spreadKey 47 = .ok (.bipush 16, 2) := by decide +kernel
theorem dX3_spreadKey_49 : decode cX3_spreadKey 49 = .ok (.irem, 1) := by decide +kernel
theorem dX3_spreadKey_50 : decode cX3_spreadKey 50 = .ok (.ifCond .ne 7, 3) := by decide +kernel
theorem dX3_spreadKey_53 : decode cX3_spreadKey 53 = .ok (.iconst 1, 1) := by decide +kernel
theorem dX3_spreadKey_54 : decode cX3_spreadKey 54 = .ok (.goto 4, 3) := by decide +kernel
theorem dX3_spreadKey_57 : decode cX3_spreadKey 57 = .ok (.iconst 0, 1) := by decide +kernel
theorem dX3_spreadKey_58 : decode cX3_spreadKey 58 = .ok (.istore 5, 2) := by decide +kernel
theorem dX3_spreadKey_60 : decode cX3_spreadKey 60 = .ok (.iconst 0, 1) := by decide +kernel
theorem dX3_spreadKey_61 : decode cX3_spreadKey 61 = .ok (.istore 6, 2) := by decide +kernel
theorem dX3_spreadKey_63 : decode cX3_spreadKey 63 = .ok (.iload 6, 2) := by decide +kernel
theorem dX3_spreadKey_65 : decode cX3_spreadKey 65 = .ok (.iconst 4, 1) := by decide +kernel
theorem dX3_spreadKey_66 : decode cX3_spreadKey 66 = .ok (.if_icmp .ge 62, 3) := by decide +kernel
theorem dX3_spreadKey_69 : decode cX3_spreadKey 69 = .ok (.aload_n 2, 1) := by decide +kernel
theorem dX3_spreadKey_70 : decode cX3_spreadKey 70 = .ok (.iload 4, 2) := by decide +kernel
theorem dX3_spreadKey_72 : decode cX3_spreadKey 72 = .ok (.iload 6, 2) := by decide +kernel
theorem dX3_spreadKey_74 : decode cX3_spreadKey 74 = .ok (.iadd, 1) := by decide +kernel
theorem dX3_spreadKey_75 : decode cX3_spreadKey 75 = .ok (.aload_n 2, 1) := by decide +kernel
theorem dX3_spreadKey_76 : decode cX3_spreadKey 76 = .ok (.iload 4, 2) := by decide +kernel
theorem dX3_spreadKey_78 : decode cX3_spreadKey 78 = .ok (.iload 6, 2) := by decide +kernel
theorem dX3_spreadKey_80 : decode cX3_spreadKey 80 = .ok (.iadd, 1) := by decide +kernel
theorem dX3_spreadKey_81 : decode cX3_spreadKey 81 = .ok (.bipush 16, 2) := by decide +kernel
theorem dX3_spreadKey_83 : decode cX3_spreadKey 83 = .ok (.isub, 1) := by decide +kernel
theorem dX3_spreadKey_84 : decode cX3_spreadKey 84 = .ok (.iaload, 1) := by decide +kernel
theorem dX3_spreadKey_85 : decode cX3_spreadKey 85 = .ok (.iload 5, 2) := by decide +kernel
theorem dX3_spreadKey_87 : decode cX3_spreadKey 87 = .ok (.ifCond .eq 24, 3) := by decide +kernel
theorem dX3_spreadKey_90 : decode cX3_spreadKey 90 = .ok (.aload_n 0, 1) := by decide +kernel
theorem dX3_spreadKey_91 : decode cX3_spreadKey 91 = .ok (.getfield 9, 3) := by decide +kernel
theorem dX3_spreadKey_94 : decode cX3_spreadKey 94 = .ok (.aload_n 2, 1) := by decide +kernel
theorem dX3_spreadKey_95 : decode cX3_spreadKey 95 = .ok (.iload 4, 2) := by decide +kernel
theorem dX3_spreadKey_97 : decode cX3_spreadKey 97 = .ok (.iconst 4, 1) := by decide +kernel
theorem dX3_spreadKey_98 : decode cX3_spreadKey 98 = .ok (.isub, 1) := by decide +kernel
theorem dX3_spreadKey_99 : decode cX3_spreadKey 99 = .ok (.iload 6, 2) := by decide +kernel
theorem dX3_spreadKey_101 : decode cX3_spreadKey 101 = .ok (.iconst 1, 1) := by decide +kernel
theorem dX3_spreadKey_102 : decode cX3_spreadKey 102 = .ok (.iadd, 1) := by decide +kernel
theorem dX3_spreadKey_103 : decode cX3_spreadKey 103 = .ok (.iconst 4, 1) := by decide +kernel
theorem dX3_spreadKey_104 : decode cX3_spreadKey 104 = .ok (.irem, 1) := by decide +kernel
theorem dX3_spreadKey_105 : decode cX3_spreadKey 105 = .ok (.iadd, 1) := by decide +kernel
theorem dX3_spreadKey_106 : decode cX3_spreadKey 106 = .ok (.iaload, 1) := by decide +kernel
theorem dX3_spreadKey_107 : decode cX3_spreadKey 107 = .ok (.iaload, 1) := by decide +kernel
theorem dX3_spreadKey_108 : decode cX3_spreadKey 108 = .ok (.goto 12, 3) := by decide +kernel
theorem dX3_spreadKey_111 : decode cX3_spreadKey 111 = .ok (.aload_n 2, 1) := by decide +kernel
theorem dX3_spreadKey_112 : decode cX3_spreadKey 112 = .ok (.iload 4, 2) := by decide +kernel
theorem dX3_spreadKey_114 : decode cX3_spreadKey 114 = .ok (.iconst 4, 1) := by decide +kernel
theorem dX3_spreadKey_115 : decode cX3_spreadKey 115 = .ok (.isub, 1) := by decide +kernel
theorem dX3_spreadKey_116 : decode cX3_spreadKey 116 = .ok (.iload 6, 2) := by decide +kernel
theorem dX3_spreadKey_118 : decode cX3_spreadKey 118 = .ok (.iadd, 1) := by decide +kernel
theorem dX3_spreadKey_119 : decode cX3_spreadKey 119 = .ok (.iaload, 1) := by decide +kernel
theorem dX3_spreadKey_120 : decode cX3_spreadKey 120 = .ok (.ixor, 1) := by decide +kernel
theorem dX3_spreadKey_121 : decode cX3_spreadKey 121 = .ok (.iastore, 1) := by decide +kernel
theorem dX3_spreadKey_122 : decode cX3_spreadKey 122 = .ok (.iinc 6 1, 3) := by decide +kernel
theorem dX3_spreadKey_125 : decode cX3_spreadKey 125 = .ok (.goto (-62), 3) := by decide +kernel
theorem dX3_spreadKey_128 : decode cX3_spreadKey 128 = .ok (.iload 5, 2) := by decide +kernel
theorem dX3_spreadKey_130 : decode cX3_spreadKey 130 = .ok (.ifCond .eq 18, 3) := by decide +kernel
theorem dX3_spreadKey_133 : decode cX3_spreadKey 133 = .ok (.aload_n 2, 1) := by decide +kernel
theorem dX3_spreadKey_134 : decode cX3_spreadKey 134 = .ok (.iload 4, 2) := by decide +kernel
theorem dX3_spreadKey_136 : decode cX3_spreadKey 136 = .ok (.dup2, 1) := by decide +kernel
theorem dX3_spreadKey_137 : decode cX3_spreadKey 137 = .ok (.iaload, 1) := by decide +kernel
theorem dX3_spreadKey_138 : decode cX3_spreadKey 138 = .ok (.iload_n 3, 1) := by decide +kernel
theorem dX3_spreadKey_139 : decode cX3_spreadKey 139 = .ok (.ixor, 1) := by decide +kernel
theorem dX3_spreadKey_140 : decode cX3_spreadKey 140 = .ok (.iastore, 1) := by decide +kernel
theorem dX3_spreadKey_141 : decode cX3_spreadKey 141 = .ok (.aload_n 0, 1) := by decide +kernel
theorem dX3_spreadKey_142 : decode cX3_spreadKey 142 = .ok (.getfield 13, 3) := by decide +kernel
theorem dX3_spreadKey_145 : decode cX3_spreadKey 145 = .ok (.iload_n 3, 1) := by decide +kernel
theorem dX3_spreadKey_146 : decode cX3_spreadKey 146 = .ok (.iaload, 1) := by decide +kernel
theorem dX3_spreadKey_147 : decode cX3_spreadKey 147 = .ok (.istore_n 3, 1) := by decide +kernel
theorem dX3_spreadKey_148 : decode cX3_spreadKey 148 = .ok (.iinc 4 4, 3) := by decide +kernel
theorem dX3_spreadKey_151 : decode cX3_spreadKey 151 = .ok (.goto (-114), 3) := by decide +kernel
theorem dX3_spreadKey_154 : decode cX3_spreadKey 154 = .ok (.return_, 1) := by decide +kernel
theorem cwX3_spreadKey : mw_cwV yX3_spreadKey cX3_spreadKey 7 (none) 1 := ⟨⟨wd_8, wd_1207, by decide +kernel⟩, wd_1206, sl_58⟩
set_option maxHeartbeats 4000000 in
set_option maxRecDepth 100000 in
theorem tX3_spreadKey (l : Launch) (G : mwG) (ad : Nat → Nat) (fu : Nat) (a1 : Int32) (M : mwM) (L : mwL) {M0 : mwM} {L0 : mwL} (hD : DX3_spreadKey fu a1 M L = some (M0, L0)) : Met l yX3_spreadKey (Cond.code yX3_spreadKey cX3_spreadKey 7 (none) :: GT) ({ frames := 0, cells := 0, slots := 0, locals := 0 }) (mw_Pre G ad NF TF FF M L [.ref (ad 97), .int a1]) (mw_Qv G ad NF TF FF (mw_eqV M0 L0)) 0 0 (mw_fr G) := by
  refine mw_enter (by decide) (Nat.le_of_ble_eq_true rfl) ?_
  intro p e s m below meth c ls C hr hlocks hnm hw hl
  have hl : lv_has ls 7 [(0, .ref (ad 97)), (1, .int a1)] := hl
  have hh37 : ∀ (f : Nat) (v2 : Nat) (v3 : Int32) (v4 : Int32) (M : mwM) (L : mwL) (H : Heap) (locs : List Loc) (ls : Array Slot), fX3_spreadKey_h37 fu a1 f (v2, v3, v4, M, L) = some (M0, L0) → v2 < NF ∧ TF v2 = (0, 176) → mw_W G ad NF TF FF M L H locs → lv_has ls 7 [(0, .ref (ad 97)), (2, .ref (ad v2)), (3, .int v3), (4, .int v4)] → W p l e ({ frames := 0, cells := 0, slots := 0, locals := 0 }) s m [.ref (ad 97), .int a1].toArray below meth c H locs 0 0 (MQ below (mw_Qv G ad NF TF FF (mw_eqV M0 L0)) [.ref (ad 97), .int a1].toArray s 0 0 (mw_fr G)) (F0 m 37 ls []) := by
    intro f
    induction f with
    | zero => intro v2 v3 v4 M L H locs ls hD; cases hD
    | succ f37 ih37 =>
      intro v2 v3 v4 M L H locs ls hD hv2 hw hl
      replace hD : fX3_spreadKey_i37 fu a1 (fX3_spreadKey_h37 fu a1 f37) v2 v3 v4 M L = some (M0, L0) := hD
      have hb148 : ∀ (v2 : Nat) (v3 : Int32) (v4 : Int32) (M : mwM) (L : mwL) (H : Heap) (locs : List Loc) (ls : Array Slot), fX3_spreadKey_b148 fu a1 (fX3_spreadKey_h37 fu a1 f37) v2 v3 v4 M L = some (M0, L0) → v2 < NF ∧ TF v2 = (0, 176) → mw_W G ad NF TF FF M L H locs → lv_has ls 7 [(0, .ref (ad 97)), (2, .ref (ad v2)), (3, .int v3), (4, .int v4)] → W p l e ({ frames := 0, cells := 0, slots := 0, locals := 0 }) s m [.ref (ad 97), .int a1].toArray below meth c H locs 0 0 (MQ below (mw_Qv G ad NF TF FF (mw_eqV M0 L0)) [.ref (ad 97), .int a1].toArray s 0 0 (mw_fr G)) (F0 m 148 ls []) := by
        intro v2 v3 v4 M L H locs ls hD hv2 hw hl
        unfold fX3_spreadKey_b148 at hD
        obtain ⟨x24, ex24, hD⟩ := g_let hD
        refine lv_iinc (v := x24) (lv' := [(4, .int x24), (0, .ref (ad 97)), (2, .ref (ad v2)), (3, .int v3)]) C.1.1 C.1.2.1 dX3_spreadKey_148 hl (k := 3) rfl (by rw [ex24]; rfl) (by decide) rfl (fun ls hl => ?_)
        refine lv_goto (tgt := 37) C.1.1 C.1.2.1 dX3_spreadKey_151 (by decide) ?_
        exact ih37 v2 v3 x24 M L _ _ ls hD ⟨hv2.1, hv2.2⟩ hw (lv_sub hl [1, 2, 3, 0] rfl)
      have hh63 : ∀ (f : Nat) (v2 : Nat) (v3 : Int32) (v4 : Int32) (v5 : Int32) (v6 : Int32) (M : mwM) (L : mwL) (H : Heap) (locs : List Loc) (ls : Array Slot), fX3_spreadKey_h63 fu a1 (fX3_spreadKey_h37 fu a1 f37) f (v2, v3, v4, v5, v6, M, L) = some (M0, L0) → v2 < NF ∧ TF v2 = (0, 176) → mw_W G ad NF TF FF M L H locs → lv_has ls 7 [(0, .ref (ad 97)), (2, .ref (ad v2)), (3, .int v3), (4, .int v4), (5, .int v5), (6, .int v6)] → W p l e ({ frames := 0, cells := 0, slots := 0, locals := 0 }) s m [.ref (ad 97), .int a1].toArray below meth c H locs 0 0 (MQ below (mw_Qv G ad NF TF FF (mw_eqV M0 L0)) [.ref (ad 97), .int a1].toArray s 0 0 (mw_fr G)) (F0 m 63 ls []) := by
        intro f
        induction f with
        | zero => intro v2 v3 v4 v5 v6 M L H locs ls hD; cases hD
        | succ f63 ih63 =>
          intro v2 v3 v4 v5 v6 M L H locs ls hD hv2 hw hl
          replace hD : fX3_spreadKey_i63 fu a1 (fX3_spreadKey_h37 fu a1 f37) (fX3_spreadKey_h63 fu a1 (fX3_spreadKey_h37 fu a1 f37) f63) v2 v3 v4 v5 v6 M L = some (M0, L0) := hD
          have hb120 : ∀ (v2 : Nat) (v3 : Int32) (v4 : Int32) (v5 : Int32) (v6 : Int32) (s0 : Nat) (s1 : Int32) (s2 : Int32) (s3 : Int32) (M : mwM) (L : mwL) (H : Heap) (locs : List Loc) (ls : Array Slot), fX3_spreadKey_b120 fu a1 (fX3_spreadKey_h37 fu a1 f37) (fX3_spreadKey_h63 fu a1 (fX3_spreadKey_h37 fu a1 f37) f63) v2 v3 v4 v5 v6 s0 s1 s2 s3 M L = some (M0, L0) → v2 < NF ∧ TF v2 = (0, 176) → s0 < NF ∧ TF s0 = (0, 176) → mw_W G ad NF TF FF M L H locs → lv_has ls 7 [(0, .ref (ad 97)), (2, .ref (ad v2)), (3, .int v3), (4, .int v4), (5, .int v5), (6, .int v6)] → W p l e ({ frames := 0, cells := 0, slots := 0, locals := 0 }) s m [.ref (ad 97), .int a1].toArray below meth c H locs 0 0 (MQ below (mw_Qv G ad NF TF FF (mw_eqV M0 L0)) [.ref (ad 97), .int a1].toArray s 0 0 (mw_fr G)) (F0 m 120 ls [.int s3, .int s2, .int s1, .ref (ad s0)]) := by
            intro v2 v3 v4 v5 v6 s0 s1 s2 s3 M L H locs ls hD hv2 hs0 hw hl
            unfold fX3_spreadKey_b120 at hD
            refine lv_ixor C.1.1 C.1.2.1 dX3_spreadKey_120 ?_
            obtain ⟨q21, hD⟩ := g_ck hD
            obtain ⟨M22, eM22, hD⟩ := g_let hD
            refine mr_iast C hw hs0.1 hs0.2 q21 dX3_spreadKey_121 (fun H locs hw => ?_)
            replace hw : mw_W G ad NF TF FF M22 L H locs := by rw [eM22]; exact hw
            obtain ⟨x23, ex23, hD⟩ := g_let hD
            refine lv_iinc (v := x23) (lv' := [(6, .int x23), (0, .ref (ad 97)), (2, .ref (ad v2)), (3, .int v3), (4, .int v4), (5, .int v5)]) C.1.1 C.1.2.1 dX3_spreadKey_122 hl (k := 5) rfl (by rw [ex23]; rfl) (by decide) rfl (fun ls hl => ?_)
            refine lv_goto (tgt := 63) C.1.1 C.1.2.1 dX3_spreadKey_125 (by decide) ?_
            exact ih63 v2 v3 v4 v5 x23 M22 L _ _ ls hD ⟨hv2.1, hv2.2⟩ hw (lv_sub hl [1, 2, 3, 4, 5, 0] rfl)
          unfold fX3_spreadKey_i63 at hD
          refine lv_iload C.1.1 C.1.2.1 dX3_spreadKey_63 (lv_at hl 5 rfl) ?_
          refine lv_iconst (v := 4) C.1.1 C.1.2.1 dX3_spreadKey_65 (by decide) ?_
          refine lv_icmp_ge (tgt := 128) C.1.1 C.1.2.1 dX3_spreadKey_66 (by decide) (fun c8 => ?_) (fun c8 => ?_)
          · replace hD := g_pos c8 hD
            refine lv_iload C.1.1 C.1.2.1 dX3_spreadKey_128 (lv_at hl 4 rfl) ?_
            refine lv_if_eq (tgt := 148) C.1.1 C.1.2.1 dX3_spreadKey_130 (by decide) (fun c9 => ?_) (fun c9 => ?_)
            · replace hD := g_pos c9 hD
              exact hb148 v2 v3 v4 M L _ _ ls hD ⟨hv2.1, hv2.2⟩ hw (lv_sub hl [0, 1, 2, 3] rfl)
            · replace hD := g_neg c9 hD
              refine lv_aload_n C.1.1 C.1.2.1 dX3_spreadKey_133 rfl (lv_at hl 1 rfl) ?_
              refine lv_iload C.1.1 C.1.2.1 dX3_spreadKey_134 (lv_at hl 3 rfl) ?_
              refine lv_dup2_11 C.1.1 C.1.2.1 dX3_spreadKey_136 rfl rfl ?_
              obtain ⟨q10, hD⟩ := g_ck hD
              refine mr_iald C hw hv2.1 hv2.2 q10 dX3_spreadKey_137 ?_
              refine lv_iload_n C.1.1 C.1.2.1 dX3_spreadKey_138 rfl (lv_at hl 2 rfl) ?_
              refine lv_ixor C.1.1 C.1.2.1 dX3_spreadKey_139 ?_
              obtain ⟨q11, hD⟩ := g_ck hD
              obtain ⟨M12, eM12, hD⟩ := g_let hD
              refine mr_iast C hw hv2.1 hv2.2 q11 dX3_spreadKey_140 (fun H locs hw => ?_)
              replace hw : mw_W G ad NF TF FF M12 L H locs := by rw [eM12]; exact hw
              refine lv_aload_n C.1.1 C.1.2.1 dX3_spreadKey_141 rfl (lv_at hl 0 rfl) ?_
              refine mr_getR C hw kc_3 1 (by decide) tf_97 ff_97_1 wd_298 dX3_spreadKey_142 (by decide) rfl ?_
              refine lv_iload_n C.1.1 C.1.2.1 dX3_spreadKey_145 rfl (lv_at hl 2 rfl) ?_
              obtain ⟨q13, hD⟩ := g_ck hD
              refine mr_iald C hw (by decide) tf_99 q13 dX3_spreadKey_146 ?_
              obtain ⟨x14, ex14, hD⟩ := g_let hD
              refine W.eq (g2 := F0 m 147 ls (.int x14 :: [])) (by rw [ex14]) ?_
              refine lv_istore_n (lv' := [(3, .int x14), (0, .ref (ad 97)), (2, .ref (ad v2)), (4, .int v4), (5, .int v5), (6, .int v6)]) C.1.1 C.1.2.1 dX3_spreadKey_147 rfl hl (by decide) rfl (fun ls hl => ?_)
              exact hb148 v2 x14 v4 M12 L _ _ ls hD ⟨hv2.1, hv2.2⟩ hw (lv_sub hl [1, 2, 0, 3] rfl)
          · replace hD := g_neg c8 hD
            refine lv_aload_n C.1.1 C.1.2.1 dX3_spreadKey_69 rfl (lv_at hl 1 rfl) ?_
            refine lv_iload C.1.1 C.1.2.1 dX3_spreadKey_70 (lv_at hl 3 rfl) ?_
            refine lv_iload C.1.1 C.1.2.1 dX3_spreadKey_72 (lv_at hl 5 rfl) ?_
            refine lv_iadd C.1.1 C.1.2.1 dX3_spreadKey_74 ?_
            refine lv_aload_n C.1.1 C.1.2.1 dX3_spreadKey_75 rfl (lv_at hl 1 rfl) ?_
            refine lv_iload C.1.1 C.1.2.1 dX3_spreadKey_76 (lv_at hl 3 rfl) ?_
            refine lv_iload C.1.1 C.1.2.1 dX3_spreadKey_78 (lv_at hl 5 rfl) ?_
            refine lv_iadd C.1.1 C.1.2.1 dX3_spreadKey_80 ?_
            refine lv_bipush (v := 16) C.1.1 C.1.2.1 dX3_spreadKey_81 (by decide) ?_
            refine lv_isub C.1.1 C.1.2.1 dX3_spreadKey_83 ?_
            obtain ⟨q15, hD⟩ := g_ck hD
            refine mr_iald C hw hv2.1 hv2.2 q15 dX3_spreadKey_84 ?_
            refine lv_iload C.1.1 C.1.2.1 dX3_spreadKey_85 (lv_at hl 4 rfl) ?_
            refine lv_if_eq (tgt := 111) C.1.1 C.1.2.1 dX3_spreadKey_87 (by decide) (fun c16 => ?_) (fun c16 => ?_)
            · replace hD := g_pos c16 hD
              refine lv_aload_n C.1.1 C.1.2.1 dX3_spreadKey_111 rfl (lv_at hl 1 rfl) ?_
              refine lv_iload C.1.1 C.1.2.1 dX3_spreadKey_112 (lv_at hl 3 rfl) ?_
              refine lv_iconst (v := 4) C.1.1 C.1.2.1 dX3_spreadKey_114 (by decide) ?_
              refine lv_isub C.1.1 C.1.2.1 dX3_spreadKey_115 ?_
              refine lv_iload C.1.1 C.1.2.1 dX3_spreadKey_116 (lv_at hl 5 rfl) ?_
              refine lv_iadd C.1.1 C.1.2.1 dX3_spreadKey_118 ?_
              obtain ⟨q17, hD⟩ := g_ck hD
              refine mr_iald C hw hv2.1 hv2.2 q17 dX3_spreadKey_119 ?_
              exact hb120 v2 v3 v4 v5 v6 v2 (v4 + v6) (M v2 ((v4 + v6) - 16).toNatClampNeg) (M v2 ((v4 - 4) + v6).toNatClampNeg) M L _ _ ls hD ⟨hv2.1, hv2.2⟩ ⟨hv2.1, hv2.2⟩ hw (lv_sub hl [0, 1, 2, 3, 4, 5] rfl)
            · replace hD := g_neg c16 hD
              refine lv_aload_n C.1.1 C.1.2.1 dX3_spreadKey_90 rfl (lv_at hl 0 rfl) ?_
              refine mr_getR C hw kc_3 0 (by decide) tf_97 ff_97_0 wd_297 dX3_spreadKey_91 (by decide) rfl ?_
              refine lv_aload_n C.1.1 C.1.2.1 dX3_spreadKey_94 rfl (lv_at hl 1 rfl) ?_
              refine lv_iload C.1.1 C.1.2.1 dX3_spreadKey_95 (lv_at hl 3 rfl) ?_
              refine lv_iconst (v := 4) C.1.1 C.1.2.1 dX3_spreadKey_97 (by decide) ?_
              refine lv_isub C.1.1 C.1.2.1 dX3_spreadKey_98 ?_
              refine lv_iload C.1.1 C.1.2.1 dX3_spreadKey_99 (lv_at hl 5 rfl) ?_
              refine lv_iconst (v := 1) C.1.1 C.1.2.1 dX3_spreadKey_101 (by decide) ?_
              refine lv_iadd C.1.1 C.1.2.1 dX3_spreadKey_102 ?_
              refine lv_iconst (v := 4) C.1.1 C.1.2.1 dX3_spreadKey_103 (by decide) ?_
              refine lv_irem C.1.1 C.1.2.1 dX3_spreadKey_104 (by decide) ?_
              refine lv_iadd C.1.1 C.1.2.1 dX3_spreadKey_105 ?_
              obtain ⟨q19, hD⟩ := g_ck hD
              refine mr_iald C hw hv2.1 hv2.2 q19 dX3_spreadKey_106 ?_
              obtain ⟨q20, hD⟩ := g_ck hD
              refine mr_iald C hw (by decide) tf_98 q20 dX3_spreadKey_107 ?_
              refine lv_goto (tgt := 120) C.1.1 C.1.2.1 dX3_spreadKey_108 (by decide) ?_
              exact hb120 v2 v3 v4 v5 v6 v2 (v4 + v6) (M v2 ((v4 + v6) - 16).toNatClampNeg) (M 98 (M v2 ((v4 - 4) + ((v6 + 1) - (v6 + 1) / 4 * 4)).toNatClampNeg).toNatClampNeg) M L _ _ ls hD ⟨hv2.1, hv2.2⟩ ⟨hv2.1, hv2.2⟩ hw (lv_sub hl [0, 1, 2, 3, 4, 5] rfl)
      have hb58 : ∀ (v2 : Nat) (v3 : Int32) (v4 : Int32) (s0 : Int32) (M : mwM) (L : mwL) (H : Heap) (locs : List Loc) (ls : Array Slot), fX3_spreadKey_b58 fu a1 (fX3_spreadKey_h37 fu a1 f37) v2 v3 v4 s0 M L = some (M0, L0) → v2 < NF ∧ TF v2 = (0, 176) → mw_W G ad NF TF FF M L H locs → lv_has ls 7 [(0, .ref (ad 97)), (2, .ref (ad v2)), (3, .int v3), (4, .int v4)] → W p l e ({ frames := 0, cells := 0, slots := 0, locals := 0 }) s m [.ref (ad 97), .int a1].toArray below meth c H locs 0 0 (MQ below (mw_Qv G ad NF TF FF (mw_eqV M0 L0)) [.ref (ad 97), .int a1].toArray s 0 0 (mw_fr G)) (F0 m 58 ls [.int s0]) := by
        intro v2 v3 v4 s0 M L H locs ls hD hv2 hw hl
        unfold fX3_spreadKey_b58 at hD
        refine lv_istore (lv' := [(5, .int s0), (0, .ref (ad 97)), (2, .ref (ad v2)), (3, .int v3), (4, .int v4)]) C.1.1 C.1.2.1 dX3_spreadKey_58 hl (by decide) rfl (fun ls hl => ?_)
        refine lv_iconst (v := 0) C.1.1 C.1.2.1 dX3_spreadKey_60 (by decide) ?_
        refine lv_istore (lv' := [(6, .int 0), (5, .int s0), (0, .ref (ad 97)), (2, .ref (ad v2)), (3, .int v3), (4, .int v4)]) C.1.1 C.1.2.1 dX3_spreadKey_61 hl (by decide) rfl (fun ls hl => ?_)
        exact hh63 fu v2 v3 v4 s0 0 M L _ _ ls hD ⟨hv2.1, hv2.2⟩ hw (lv_sub hl [2, 3, 4, 5, 1, 0] rfl)
      unfold fX3_spreadKey_i37 at hD
      refine lv_iload C.1.1 C.1.2.1 dX3_spreadKey_37 (lv_at hl 3 rfl) ?_
      refine lv_sipush (v := 176) C.1.1 C.1.2.1 dX3_spreadKey_39 (by decide) ?_
      refine lv_icmp_ge (tgt := 154) C.1.1 C.1.2.1 dX3_spreadKey_42 (by decide) (fun c5 => ?_) (fun c5 => ?_)
      · replace hD := g_pos c5 hD
        exact mr_vret C hr hlocks hw (Option.some.inj hD) dX3_spreadKey_154
      · replace hD := g_neg c5 hD
        refine lv_iload C.1.1 C.1.2.1 dX3_spreadKey_45 (lv_at hl 3 rfl) ?_
        refine lv_bipush (v := 16) C.1.1 C.1.2.1 dX3_spreadKey_47 (by decide) ?_
        refine lv_irem C.1.1 C.1.2.1 dX3_spreadKey_49 (by decide) ?_
        refine lv_if_ne (tgt := 57) C.1.1 C.1.2.1 dX3_spreadKey_50 (by decide) (fun c7 => ?_) (fun c7 => ?_)
        · replace hD := g_neg c7 hD
          refine lv_iconst (v := 0) C.1.1 C.1.2.1 dX3_spreadKey_57 (by decide) ?_
          exact hb58 v2 v3 v4 0 M L _ _ ls hD ⟨hv2.1, hv2.2⟩ hw (lv_sub hl [0, 1, 2, 3] rfl)
        · replace hD := g_pos c7 hD
          refine lv_iconst (v := 1) C.1.1 C.1.2.1 dX3_spreadKey_53 (by decide) ?_
          refine lv_goto (tgt := 58) C.1.1 C.1.2.1 dX3_spreadKey_54 (by decide) ?_
          exact hb58 v2 v3 v4 1 M L _ _ ls hD ⟨hv2.1, hv2.2⟩ hw (lv_sub hl [0, 1, 2, 3] rfl)
  have hh12 : ∀ (f : Nat) (v2 : Nat) (v3 : Int32) (v4 : Int32) (M : mwM) (L : mwL) (H : Heap) (locs : List Loc) (ls : Array Slot), fX3_spreadKey_h12 fu a1 f (v2, v3, v4, M, L) = some (M0, L0) → v2 < NF ∧ TF v2 = (0, 176) → mw_W G ad NF TF FF M L H locs → lv_has ls 7 [(0, .ref (ad 97)), (1, .int a1), (2, .ref (ad v2)), (3, .int v3), (4, .int v4)] → W p l e ({ frames := 0, cells := 0, slots := 0, locals := 0 }) s m [.ref (ad 97), .int a1].toArray below meth c H locs 0 0 (MQ below (mw_Qv G ad NF TF FF (mw_eqV M0 L0)) [.ref (ad 97), .int a1].toArray s 0 0 (mw_fr G)) (F0 m 12 ls []) := by
    intro f
    induction f with
    | zero => intro v2 v3 v4 M L H locs ls hD; cases hD
    | succ f12 ih12 =>
      intro v2 v3 v4 M L H locs ls hD hv2 hw hl
      replace hD : fX3_spreadKey_i12 fu a1 (fX3_spreadKey_h12 fu a1 f12) v2 v3 v4 M L = some (M0, L0) := hD
      unfold fX3_spreadKey_i12 at hD
      refine lv_iload C.1.1 C.1.2.1 dX3_spreadKey_12 (lv_at hl 4 rfl) ?_
      refine lv_bipush (v := 16) C.1.1 C.1.2.1 dX3_spreadKey_14 (by decide) ?_
      refine lv_icmp_ge (tgt := 33) C.1.1 C.1.2.1 dX3_spreadKey_16 (by decide) (fun c1 => ?_) (fun c1 => ?_)
      · replace hD := g_pos c1 hD
        refine lv_bipush (v := 16) C.1.1 C.1.2.1 dX3_spreadKey_33 (by decide) ?_
        refine lv_istore (lv' := [(4, .int 16), (0, .ref (ad 97)), (1, .int a1), (2, .ref (ad v2)), (3, .int v3)]) C.1.1 C.1.2.1 dX3_spreadKey_35 hl (by decide) rfl (fun ls hl => ?_)
        exact hh37 fu v2 v3 16 M L _ _ ls hD ⟨hv2.1, hv2.2⟩ hw (lv_sub hl [1, 3, 4, 0] rfl)
      · replace hD := g_neg c1 hD
        refine lv_aload_n C.1.1 C.1.2.1 dX3_spreadKey_19 rfl (lv_at hl 2 rfl) ?_
        refine lv_iload C.1.1 C.1.2.1 dX3_spreadKey_20 (lv_at hl 4 rfl) ?_
        refine lv_iload_n C.1.1 C.1.2.1 dX3_spreadKey_22 rfl (lv_at hl 1 rfl) ?_
        refine lv_iload C.1.1 C.1.2.1 dX3_spreadKey_23 (lv_at hl 4 rfl) ?_
        refine lv_iadd C.1.1 C.1.2.1 dX3_spreadKey_25 ?_
        obtain ⟨q2, hD⟩ := g_ck hD
        obtain ⟨M3, eM3, hD⟩ := g_let hD
        refine mr_iast C hw hv2.1 hv2.2 q2 dX3_spreadKey_26 (fun H locs hw => ?_)
        replace hw : mw_W G ad NF TF FF M3 L H locs := by rw [eM3]; exact hw
        obtain ⟨x4, ex4, hD⟩ := g_let hD
        refine lv_iinc (v := x4) (lv' := [(4, .int x4), (0, .ref (ad 97)), (1, .int a1), (2, .ref (ad v2)), (3, .int v3)]) C.1.1 C.1.2.1 dX3_spreadKey_27 hl (k := 4) rfl (by rw [ex4]; rfl) (by decide) rfl (fun ls hl => ?_)
        refine lv_goto (tgt := 12) C.1.1 C.1.2.1 dX3_spreadKey_30 (by decide) ?_
        exact ih12 v2 v3 x4 M3 L _ _ ls hD ⟨hv2.1, hv2.2⟩ hw (lv_sub hl [1, 2, 3, 4, 0] rfl)
  unfold DX3_spreadKey at hD
  refine lv_aload_n C.1.1 C.1.2.1 dX3_spreadKey_0 rfl (lv_at hl 0 rfl) ?_
  refine mr_getR C hw kc_3 2 (by decide) tf_97 ff_97_2 wd_299 dX3_spreadKey_1 (by decide) rfl ?_
  refine lv_iload_n C.1.1 C.1.2.1 dX3_spreadKey_4 rfl (lv_at hl 1 rfl) ?_
  obtain ⟨q25, hD⟩ := g_ck hD
  refine mr_aald C hw (by decide) tf_100 (by decide) (by decide) rfl rfl q25 (fr_100 _ (g_lt q25)).1 dX3_spreadKey_5 ?_
  refine lv_astore_n (lv' := [(2, .ref (ad (101 + a1.toNatClampNeg))), (0, .ref (ad 97)), (1, .int a1)]) C.1.1 C.1.2.1 dX3_spreadKey_6 rfl hl (by decide) rfl (fun ls hl => ?_)
  refine lv_iconst (v := 1) C.1.1 C.1.2.1 dX3_spreadKey_7 (by decide) ?_
  refine lv_istore_n (lv' := [(3, .int 1), (2, .ref (ad (101 + a1.toNatClampNeg))), (0, .ref (ad 97)), (1, .int a1)]) C.1.1 C.1.2.1 dX3_spreadKey_8 rfl hl (by decide) rfl (fun ls hl => ?_)
  refine lv_iconst (v := 0) C.1.1 C.1.2.1 dX3_spreadKey_9 (by decide) ?_
  refine lv_istore (lv' := [(4, .int 0), (3, .int 1), (2, .ref (ad (101 + a1.toNatClampNeg))), (0, .ref (ad 97)), (1, .int a1)]) C.1.1 C.1.2.1 dX3_spreadKey_10 hl (by decide) rfl (fun ls hl => ?_)
  exact hh12 fu ((101 + a1.toNatClampNeg)) 1 0 M L _ _ ls hD ⟨(fr_100 _ (g_lt q25)).2.2, (fr_100 _ (g_lt q25)).2.1⟩ hw (lv_sub hl [3, 4, 2, 1, 0] rfl)

theorem dX3_encrypt_0 : decode cX3_encrypt 0 = .ok (.aload_n 0, 1) := by decide +kernel
theorem dX3_encrypt_1 : decode cX3_encrypt 1 = .ok (.getfield 18, 3) := by decide +kernel
theorem dX3_encrypt_4 : decode cX3_encrypt 4 = .ok (.iload_n 1, 1) := by decide +kernel
theorem dX3_encrypt_5 : decode cX3_encrypt 5 = .ok (.aaload, 1) := by decide +kernel
theorem dX3_encrypt_6 : decode cX3_encrypt 6 = .ok (.astore_n 2, 1) := by decide +kernel
theorem dX3_encrypt_7 : decode cX3_encrypt 7 = .ok (.iconst 0, 1) := by decide +kernel
theorem dX3_encrypt_8 : decode cX3_encrypt 8 = .ok (.istore_n 3, 1) := by decide +kernel
theorem dX3_encrypt_9 : decode cX3_encrypt 9 = .ok (.iload_n 3, 1) := by decide +kernel
theorem dX3_encrypt_10 : decode cX3_encrypt 10 = .ok (.bipush 16, 2) := by decide +kernel
theorem dX3_encrypt_12 : decode cX3_encrypt 12 = .ok (.if_icmp .ge 25, 3) := by decide +kernel
theorem dX3_encrypt_15 : decode cX3_encrypt 15 = .ok (.aload_n 0, 1) := by decide +kernel
theorem dX3_encrypt_16 : decode cX3_encrypt 16 = .ok (.getfield 31, 3) := by decide +kernel
theorem dX3_encrypt_19 : decode cX3_encrypt 19 = .ok (.iload_n 3, 1) := by decide +kernel
theorem dX3_encrypt_20 : decode cX3_encrypt 20 = .ok (.aload_n 0, 1) := by decide +kernel
theorem dX3_encrypt_21 : decode cX3_encrypt 21 = .ok (.getfield 28, 3) := by decide +kernel
theorem dX3_encrypt_24 : decode cX3_encrypt 24 = .ok (.iload_n 3, 1) := by decide +kernel
theorem dX3_encrypt_25 : decode cX3_encrypt 25 = .ok (.iaload, 1) := by decide +kernel
theorem dX3_encrypt_26 : decode cX3_encrypt 26 = .ok (.aload_n 2, 1) := by decide +kernel
theorem dX3_encrypt_27 : decode cX3_encrypt 27 = .ok (.iload_n 3, 1) := by decide +kernel
theorem dX3_encrypt_28 : decode cX3_encrypt 28 = .ok (.iaload, 1) := by decide +kernel
theorem dX3_encrypt_29 : decode cX3_encrypt 29 = .ok (.ixor, 1) := by decide +kernel
theorem dX3_encrypt_30 : decode cX3_encrypt 30 = .ok (.iastore, 1) := by decide +kernel
theorem dX3_encrypt_31 : decode cX3_encrypt 31 = .ok (.iinc 3 1, 3) := by decide +kernel
theorem dX3_encrypt_34 : decode cX3_encrypt 34 = .ok (.goto (-25), 3) := by decide +kernel
theorem dX3_encrypt_37 : decode cX3_encrypt 37 = .ok (.iconst 1, 1) := by decide +kernel
theorem dX3_encrypt_38 : decode cX3_encrypt 38 = .ok (.istore_n 3, 1) := by decide +kernel
theorem dX3_encrypt_39 : decode cX3_encrypt 39 = .ok (.iload_n 3, 1) := by decide +kernel
theorem dX3_encrypt_40 : decode cX3_encrypt 40 = .ok (.bipush 10, 2) := by decide +kernel
theorem dX3_encrypt_42 : decode cX3_encrypt 42 = .ok (.if_icmp .gt 191, 3) := by decide +kernel
theorem dX3_encrypt_45 : decode cX3_encrypt 45 = .ok (.iconst 0, 1) := by decide +kernel
theorem dX3_encrypt_46 : decode cX3_encrypt 46 = .ok (.istore 4, 2) := by decide +kernel
theorem dX3_encrypt_48 : decode cX3_encrypt 48 = .ok (.iload 4, 2) := by decide +kernel
theorem dX3_encrypt_50 : decode cX3_encrypt 50 = .ok (.bipush 16, 2) := by decide +kernel
theorem dX3_encrypt_52 : decode cX3_encrypt 52 = .ok (.if_icmp .ge 38, 3) := by decide +kernel
theorem dX3_encrypt_55 : decode cX3_encrypt 55 = .ok (.aload_n 0, 1) := by decide +kernel
theorem dX3_encrypt_56 : decode cX3_encrypt 56 = .ok (.getfield 28, 3) := by decide +kernel
theorem dX3_encrypt_59 : decode cX3_encrypt 59 = .ok (.iload 4, 2) := by decide +kernel
theorem dX3_encrypt_61 : decode cX3_encrypt 61 = .ok (.aload_n 0, 1) := by decide +kernel
theorem dX3_encrypt_62 : decode cX3_encrypt 62 = .ok (.getfield 9, 3) := by decide +kernel
theorem dX3_encrypt_65 : decode cX3_encrypt 65 = .ok (.aload_n 0, 1) := by decide +kernel
theorem dX3_encrypt_66 : decode cX3_encrypt 66 = .ok (.getfield 31, 3) := by decide +kernel
theorem dX3_encrypt_69 : decode cX3_encrypt 69 = .ok (.iload 4, 2) := by decide +kernel
theorem dX3_encrypt_71 : decode cX3_encrypt 71 = .ok (.iconst 4, 1) := by decide +kernel
theorem dX3_encrypt_72 : decode cX3_encrypt 72 = .ok (.iload 4, 2) := by decide +kernel
theorem dX3_encrypt_74 : decode cX3_encrypt 74 = .ok (.iconst 4, 1) := by decide +kernel
theorem dX3_encrypt_75 : decode cX3_encrypt 75 = .ok (.irem, 1) := by decide +kernel
theorem dX3_encrypt_76 : decode cX3_encrypt 76 = .ok (.imul, 1) := by decide +kernel
theorem dX3_encrypt_77 : decode cX3_encrypt 77 = .ok (.iadd, 1) := by decide +kernel
theorem dX3_encrypt_78 : decode cX3_encrypt 78 = .ok (.bipush 16, 2) := by decide +kernel
theorem dX3_encrypt_80 : decode cX3_encrypt 80 = .ok (.irem, 1) := by decide +kernel
theorem dX3_encrypt_81 : decode cX3_encrypt 81 = .ok (.iaload, 1) := by decide +kernel
theorem dX3_encrypt_82 : decode cX3_encrypt 82 = .ok (.iaload, 1) := by decide +kernel
theorem dX3_encrypt_83 : decode cX3_encrypt 83 = .ok (.iastore, 1) := by decide +kernel
theorem dX3_encrypt_84 : decode cX3_encrypt 84 = .ok (.iinc 4 1, 3) := by decide +kernel
theorem dX3_encrypt_87 : decode cX3_encrypt 87 = .ok (.goto (-39), 3) := by decide +kernel
theorem dX3_encrypt_90 : decode cX3_encrypt 90 = .ok (.iconst 0, 1) := by decide +kernel
theorem dX3_encrypt_91 : decode cX3_encrypt 91 = .ok (.istore 4, 2) := by decide +kernel
theorem dX3_encrypt_93 : decode cX3_encrypt 93 = .ok (.iload 4, 2) := by decide +kernel
theorem dX3_encrypt_95 : decode cX3_encrypt 95 = .ok (.bipush 16, 2) := by decide +kernel
theorem dX3_encrypt_97 : decode cX3_encrypt 97 = .ok (.if_icmp .ge 130, 3) := by decide +kernel
theorem dX3_encrypt_100 : decode cX3_encrypt 100 = .ok (.iload 4, 2) := by decide +kernel
theorem dX3_encrypt_102 : decode cX3_encrypt 102 = .ok (.iconst 4, 1) := by decide +kernel
theorem dX3_encrypt_103 : decode cX3_encrypt 103 = .ok (.idiv, 1) := by decide +kernel
theorem dX3_encrypt_104 : decode cX3_encrypt 104 = .ok (.iconst 4, 1) := by decide +kernel
theorem dX3_encrypt_105 : decode cX3_encrypt 105 = .ok (.imul, 1) := by decide +kernel
theorem dX3_encrypt_106 : decode cX3_encrypt 106 = .ok (.istore 5, 2) := by decide +kernel
theorem dX3_encrypt_108 : decode cX3_encrypt 108 = .ok (.aload_n 0, 1) := by decide +kernel
theorem dX3_encrypt_109 : decode cX3_encrypt 109 = .ok (.getfield 28, 3) := by decide +kernel
theorem dX3_encrypt_112 : decode cX3_encrypt 112 = .ok (.iload 4, 2) := by decide +kernel
theorem dX3_encrypt_114 : decode cX3_encrypt 114 = .ok (.iaload, 1) := by decide +kernel
theorem dX3_encrypt_115 : decode cX3_encrypt 115 = .ok (.istore 6, 2) := by decide +kernel
theorem dX3_encrypt_117 : decode cX3_encrypt 117 = .ok (.aload_n 0, 1) := by decide +kernel
theorem dX3_encrypt_118 : decode cX3_encrypt 118 = .ok (.getfield 28, 3) := by decide +kernel
theorem dX3_encrypt_121 : decode cX3_encrypt 121 = .ok (.iload 5, 2) := by decide +kernel
theorem dX3_encrypt_123 : decode cX3_encrypt 123 = .ok (.iload 4, 2) := by decide +kernel
theorem dX3_encrypt_125 : decode cX3_encrypt 125 = .ok (.iconst 1, 1) := by decide +kernel
theorem dX3_encrypt_126 : decode cX3_encrypt 126 = .ok (.iadd, 1) := by decide +kernel
theorem dX3_encrypt_127 : decode cX3_encrypt 127 = .ok (.iconst 4, 1) := by decide +kernel
theorem dX3_encrypt_128 : decode cX3_encrypt 128 = .ok (.irem, 1) := by decide +kernel
theorem dX3_encrypt_129 : decode cX3_encrypt 129 = .ok (.iadd, 1) := by decide +kernel
theorem dX3_encrypt_130 : decode cX3_encrypt 130 = .ok (.iaload, 1) := by decide +kernel
theorem dX3_encrypt_131 : decode cX3_encrypt 131 = .ok (.istore 7, 2) := by decide +kernel
theorem dX3_encrypt_133 : decode cX3_encrypt 133 = .ok (.aload_n 0, 1) := by decide +kernel
theorem dX3_encrypt_134 : decode cX3_encrypt 134 = .ok (.getfield 28, 3) := by decide +kernel
theorem dX3_encrypt_137 : decode cX3_encrypt 137 = .ok (.iload 5, 2) := by decide +kernel
theorem dX3_encrypt_139 : decode cX3_encrypt 139 = .ok (.iload 4, 2) := by decide +kernel
theorem dX3_encrypt_141 : decode cX3_encrypt 141 = .ok (.iconst 2, 1) := by decide +kernel
theorem dX3_encrypt_142 : decode cX3_encrypt 142 = .ok (.iadd, 1) := by decide +kernel
theorem dX3_encrypt_143 : decode cX3_encrypt 143 = .ok (.iconst 4, 1) := by decide +kernel
theorem dX3_encrypt_144 : decode cX3_encrypt 144 = .ok (.irem, 1) := by decide +kernel
theorem dX3_encrypt_145 : decode cX3_encrypt 145 = .ok (.iadd, 1) := by decide +kernel
theorem dX3_encrypt_146 : decode cX3_encrypt 146 = .ok (.iaload, 1) := by decide +kernel
theorem dX3_encrypt_147 : decode cX3_encrypt 147 = .ok (.istore 8, 2) := by decide +kernel
theorem dX3_encrypt_149 : decode cX3_encrypt 149 = .ok (.aload_n 0, 1) := by decide +kernel
theorem dX3_encrypt_150 : decode cX3_encrypt 150 = .ok (.getfield 28, 3) := by decide +kernel
theorem dX3_encrypt_153 : decode cX3_encrypt 153 = .ok (.iload 5, 2) := by decide +kernel
theorem dX3_encrypt_155 : decode cX3_encrypt 155 = .ok (.iload 4, 2) := by decide +kernel
theorem dX3_encrypt_157 : decode cX3_encrypt 157 = .ok (.iconst 3, 1) := by decide +kernel
theorem dX3_encrypt_158 : decode cX3_encrypt 158 = .ok (.iadd, 1) := by decide +kernel
theorem dX3_encrypt_159 : decode cX3_encrypt 159 = .ok (.iconst 4, 1) := by decide +kernel
theorem dX3_encrypt_160 : decode cX3_encrypt 160 = .ok (.irem, 1) := by decide +kernel
theorem dX3_encrypt_161 : decode cX3_encrypt 161 = .ok (.iadd, 1) := by decide +kernel
theorem dX3_encrypt_162 : decode cX3_encrypt 162 = .ok (.iaload, 1) := by decide +kernel
theorem dX3_encrypt_163 : decode cX3_encrypt 163 = .ok (.istore 9, 2) := by decide +kernel
theorem dX3_encrypt_165 : decode cX3_encrypt 165 = .ok (.iload_n 3, 1) := by decide +kernel
theorem dX3_encrypt_166 : decode cX3_encrypt 166 = .ok (.bipush 10, 2) := by decide +kernel
theorem dX3_encrypt_168 : decode cX3_encrypt 168 = .ok (.if_icmp .ge 30, 3) := by decide +kernel
theorem dX3_encrypt_171 : decode cX3_encrypt 171 = .ok (.aload_n 0, 1) := by decide +kernel
theorem dX3_encrypt_172 : decode cX3_encrypt 172 = .ok (.getfield 13, 3) := by decide +kernel
theorem dX3_encrypt_175 : decode cX3_encrypt 175 = .ok (.iload 6, 2) := by decide +kernel
theorem dX3_encrypt_177 : decode cX3_encrypt 177 = .ok (.iaload, 1) := by decide +kernel
theorem dX3_encrypt_178 : decode cX3_encrypt 178 = .ok (.aload_n 0, 1) := by decide +kernel
theorem dX3_encrypt_179 : decode cX3_encrypt 179 = .ok (.getfield 13, 3) := by decide +kernel
theorem dX3_encrypt_182 : decode cX3_encrypt 182 = .ok (.iload 7, 2) := by decide +kernel
theorem dX3_encrypt_184 : decode cX3_encrypt 184 = .ok (.iaload, 1) := by decide +kernel
theorem dX3_encrypt_185 : decode cX3_encrypt 185 = .ok (.ixor, 1) := by decide +kernel
theorem dX3_encrypt_186 : decode cX3_encrypt 186 = .ok (.iload 7, 2) := by decide +kernel
theorem dX3_encrypt_188 : decode cX3_encrypt 188 = .ok (.ixor, 1) := by decide +kernel
theorem dX3_encrypt_189 : decode cX3_encrypt 189 = .ok (.iload 8, 2) := by decide +kernel
theorem dX3_encrypt_191 : decode cX3_encrypt 191 = .ok (.ixor, 1) := by decide +kernel
theorem dX3_encrypt_192 : decode cX3_encrypt 192 = .ok (.iload 9, 2) := by decide +kernel
theorem dX3_encrypt_194 : decode cX3_encrypt 194 = .ok (.ixor, 1) := by decide +kernel
theorem dX3_encrypt_195 : decode cX3_encrypt 195 = .ok (.goto 5, 3) := by decide +kernel
theorem dX3_encrypt_198 : decode cX3_encrypt 198 = .ok (.iload 6, 2) := by decide +kernel
theorem dX3_encrypt_200 : decode cX3_encrypt 200 = .ok (.istore 10, 2) := by decide +kernel
theorem dX3_encrypt_202 : decode cX3_encrypt 202 = .ok (.aload_n 0, 1) := by decide +kernel
theorem dX3_encrypt_203 : decode cX3_encrypt 203 = .ok (.getfield 31, 3) := by decide +kernel
theorem dX3_encrypt_206 : decode cX3_encrypt 206 = .ok (.iload 4, 2) := by decide +kernel
theorem dX3_encrypt_208 : decode cX3_encrypt 208 = .ok (.iload 10, 2) := by decide +kernel
theorem dX3_encrypt_210 : decode cX3_encrypt 210 = .ok (.aload_n 2, 1) := by decide +kernel
theorem dX3_encrypt_211 : decode cX3_encrypt 211 = .ok (.bipush 16, 2) := by decide +kernel
theorem dX3_encrypt_213 : decode cX3_encrypt 213 = .ok (.iload_n 3, 1) := by decide +kernel
theorem dX3_encrypt_214 : decode cX3_encrypt 214 = .ok (.imul, 1) := by decide +kernel
theorem dX3_encrypt_215 : decode cX3_encrypt 215 = .ok (.iload 4, 2) := by decide +kernel
theorem dX3_encrypt_217 : decode cX3_encrypt 217 = .ok (.iadd, 1) := by decide +kernel
theorem dX3_encrypt_218 : decode cX3_encrypt 218 = .ok (.iaload, 1) := by decide +kernel
theorem dX3_encrypt_219 : decode cX3_encrypt 219 = .ok (.ixor, 1) := by decide +kernel
theorem dX3_encrypt_220 : decode cX3_encrypt 220 = .ok (.iastore, 1) := by decide +kernel
theorem dX3_encrypt_221 : decode cX3_encrypt 221 = .ok (.iinc 4 1, 3) := by decide +kernel
theorem dX3_encrypt_224 : decode cX3_encrypt 224 = .ok (.goto (-131), 3) := by decide +kernel
theorem dX3_encrypt_227 : decode cX3_encrypt 227 = .ok (.iinc 3 1, 3) := by decide +kernel
theorem dX3_encrypt_230 : decode cX3_encrypt 230 = .ok (.goto (-191), 3) := by decide +kernel
theorem dX3_encrypt_233 : decode cX3_encrypt 233 = .ok (.return_, 1) := by decide +kernel
theorem cwX3_encrypt : mw_cwV yX3_encrypt cX3_encrypt 11 (none) 1 := ⟨⟨wd_8, wd_1215, by decide +kernel⟩, wd_1214, sl_60⟩
set_option maxHeartbeats 4000000 in
set_option maxRecDepth 100000 in
theorem tX3_encrypt (l : Launch) (G : mwG) (ad : Nat → Nat) (fu : Nat) (a1 : Int32) (M : mwM) (L : mwL) {M0 : mwM} {L0 : mwL} (hD : DX3_encrypt fu a1 M L = some (M0, L0)) : Met l yX3_encrypt (Cond.code yX3_encrypt cX3_encrypt 11 (none) :: GT) ({ frames := 0, cells := 0, slots := 0, locals := 0 }) (mw_Pre G ad NF TF FF M L [.ref (ad 97), .int a1]) (mw_Qv G ad NF TF FF (mw_eqV M0 L0)) 0 0 (mw_fr G) := by
  refine mw_enter (by decide) (Nat.le_of_ble_eq_true rfl) ?_
  intro p e s m below meth c ls C hr hlocks hnm hw hl
  have hl : lv_has ls 11 [(0, .ref (ad 97)), (1, .int a1)] := hl
  have hh39 : ∀ (f : Nat) (v2 : Nat) (v3 : Int32) (M : mwM) (L : mwL) (H : Heap) (locs : List Loc) (ls : Array Slot), fX3_encrypt_h39 fu a1 f (v2, v3, M, L) = some (M0, L0) → v2 < NF ∧ TF v2 = (0, 176) → mw_W G ad NF TF FF M L H locs → lv_has ls 11 [(0, .ref (ad 97)), (2, .ref (ad v2)), (3, .int v3)] → W p l e ({ frames := 0, cells := 0, slots := 0, locals := 0 }) s m [.ref (ad 97), .int a1].toArray below meth c H locs 0 0 (MQ below (mw_Qv G ad NF TF FF (mw_eqV M0 L0)) [.ref (ad 97), .int a1].toArray s 0 0 (mw_fr G)) (F0 m 39 ls []) := by
    intro f
    induction f with
    | zero => intro v2 v3 M L H locs ls hD; cases hD
    | succ f39 ih39 =>
      intro v2 v3 M L H locs ls hD hv2 hw hl
      replace hD : fX3_encrypt_i39 fu a1 (fX3_encrypt_h39 fu a1 f39) v2 v3 M L = some (M0, L0) := hD
      have hh93 : ∀ (f : Nat) (v2 : Nat) (v3 : Int32) (v4 : Int32) (M : mwM) (L : mwL) (H : Heap) (locs : List Loc) (ls : Array Slot), fX3_encrypt_h93 fu a1 (fX3_encrypt_h39 fu a1 f39) f (v2, v3, v4, M, L) = some (M0, L0) → v2 < NF ∧ TF v2 = (0, 176) → mw_W G ad NF TF FF M L H locs → lv_has ls 11 [(0, .ref (ad 97)), (2, .ref (ad v2)), (3, .int v3), (4, .int v4)] → W p l e ({ frames := 0, cells := 0, slots := 0, locals := 0 }) s m [.ref (ad 97), .int a1].toArray below meth c H locs 0 0 (MQ below (mw_Qv G ad NF TF FF (mw_eqV M0 L0)) [.ref (ad 97), .int a1].toArray s 0 0 (mw_fr G)) (F0 m 93 ls []) := by
        intro f
        induction f with
        | zero => intro v2 v3 v4 M L H locs ls hD; cases hD
        | succ f93 ih93 =>
          intro v2 v3 v4 M L H locs ls hD hv2 hw hl
          replace hD : fX3_encrypt_i93 fu a1 (fX3_encrypt_h39 fu a1 f39) (fX3_encrypt_h93 fu a1 (fX3_encrypt_h39 fu a1 f39) f93) v2 v3 v4 M L = some (M0, L0) := hD
          have hb200 : ∀ (v2 : Nat) (v3 : Int32) (v4 : Int32) (s0 : Int32) (M : mwM) (L : mwL) (H : Heap) (locs : List Loc) (ls : Array Slot), fX3_encrypt_b200 fu a1 (fX3_encrypt_h39 fu a1 f39) (fX3_encrypt_h93 fu a1 (fX3_encrypt_h39 fu a1 f39) f93) v2 v3 v4 s0 M L = some (M0, L0) → v2 < NF ∧ TF v2 = (0, 176) → mw_W G ad NF TF FF M L H locs → lv_has ls 11 [(0, .ref (ad 97)), (2, .ref (ad v2)), (3, .int v3), (4, .int v4)] → W p l e ({ frames := 0, cells := 0, slots := 0, locals := 0 }) s m [.ref (ad 97), .int a1].toArray below meth c H locs 0 0 (MQ below (mw_Qv G ad NF TF FF (mw_eqV M0 L0)) [.ref (ad 97), .int a1].toArray s 0 0 (mw_fr G)) (F0 m 200 ls [.int s0]) := by
            intro v2 v3 v4 s0 M L H locs ls hD hv2 hw hl
            unfold fX3_encrypt_b200 at hD
            refine lv_istore (lv' := [(10, .int s0), (0, .ref (ad 97)), (2, .ref (ad v2)), (3, .int v3), (4, .int v4)]) C.1.1 C.1.2.1 dX3_encrypt_200 hl (by decide) rfl (fun ls hl => ?_)
            refine lv_aload_n C.1.1 C.1.2.1 dX3_encrypt_202 rfl (lv_at hl 1 rfl) ?_
            refine mr_getR C hw kc_3 6 (by decide) tf_97 ff_97_6 wd_303 dX3_encrypt_203 (by decide) rfl ?_
            refine lv_iload C.1.1 C.1.2.1 dX3_encrypt_206 (lv_at hl 4 rfl) ?_
            refine lv_iload C.1.1 C.1.2.1 dX3_encrypt_208 (lv_at hl 0 rfl) ?_
            refine lv_aload_n C.1.1 C.1.2.1 dX3_encrypt_210 rfl (lv_at hl 2 rfl) ?_
            refine lv_bipush (v := 16) C.1.1 C.1.2.1 dX3_encrypt_211 (by decide) ?_
            refine lv_iload_n C.1.1 C.1.2.1 dX3_encrypt_213 rfl (lv_at hl 3 rfl) ?_
            refine lv_imul C.1.1 C.1.2.1 dX3_encrypt_214 ?_
            refine lv_iload C.1.1 C.1.2.1 dX3_encrypt_215 (lv_at hl 4 rfl) ?_
            refine lv_iadd C.1.1 C.1.2.1 dX3_encrypt_217 ?_
            obtain ⟨q34, hD⟩ := g_ck hD
            refine mr_iald C hw hv2.1 hv2.2 q34 dX3_encrypt_218 ?_
            refine lv_ixor C.1.1 C.1.2.1 dX3_encrypt_219 ?_
            obtain ⟨q35, hD⟩ := g_ck hD
            obtain ⟨M36, eM36, hD⟩ := g_let hD
            refine mr_iast C hw (by decide) tf_138 q35 dX3_encrypt_220 (fun H locs hw => ?_)
            replace hw : mw_W G ad NF TF FF M36 L H locs := by rw [eM36]; exact hw
            obtain ⟨x37, ex37, hD⟩ := g_let hD
            refine lv_iinc (v := x37) (lv' := [(4, .int x37), (10, .int s0), (0, .ref (ad 97)), (2, .ref (ad v2)), (3, .int v3)]) C.1.1 C.1.2.1 dX3_encrypt_221 hl (k := 4) rfl (by rw [ex37]; rfl) (by decide) rfl (fun ls hl => ?_)
            refine lv_goto (tgt := 93) C.1.1 C.1.2.1 dX3_encrypt_224 (by decide) ?_
            exact ih93 v2 v3 x37 M36 L _ _ ls hD ⟨hv2.1, hv2.2⟩ hw (lv_sub hl [2, 3, 4, 0] rfl)
          unfold fX3_encrypt_i93 at hD
          refine lv_iload C.1.1 C.1.2.1 dX3_encrypt_93 (lv_at hl 3 rfl) ?_
          refine lv_bipush (v := 16) C.1.1 C.1.2.1 dX3_encrypt_95 (by decide) ?_
          refine lv_icmp_ge (tgt := 227) C.1.1 C.1.2.1 dX3_encrypt_97 (by decide) (fun c16 => ?_) (fun c16 => ?_)
          · replace hD := g_pos c16 hD
            obtain ⟨x17, ex17, hD⟩ := g_let hD
            refine lv_iinc (v := x17) (lv' := [(3, .int x17), (0, .ref (ad 97)), (2, .ref (ad v2)), (4, .int v4)]) C.1.1 C.1.2.1 dX3_encrypt_227 hl (k := 2) rfl (by rw [ex17]; rfl) (by decide) rfl (fun ls hl => ?_)
            refine lv_goto (tgt := 39) C.1.1 C.1.2.1 dX3_encrypt_230 (by decide) ?_
            exact ih39 v2 x17 M L _ _ ls hD ⟨hv2.1, hv2.2⟩ hw (lv_sub hl [1, 2, 0] rfl)
          · replace hD := g_neg c16 hD
            refine lv_iload C.1.1 C.1.2.1 dX3_encrypt_100 (lv_at hl 3 rfl) ?_
            refine lv_iconst (v := 4) C.1.1 C.1.2.1 dX3_encrypt_102 (by decide) ?_
            refine lv_idiv C.1.1 C.1.2.1 dX3_encrypt_103 (by decide) ?_
            refine lv_iconst (v := 4) C.1.1 C.1.2.1 dX3_encrypt_104 (by decide) ?_
            refine lv_imul C.1.1 C.1.2.1 dX3_encrypt_105 ?_
            obtain ⟨x19, ex19, hD⟩ := g_let hD
            refine W.eq (g2 := F0 m 106 ls (.int x19 :: [])) (by rw [ex19]) ?_
            refine lv_istore (lv' := [(5, .int x19), (0, .ref (ad 97)), (2, .ref (ad v2)), (3, .int v3), (4, .int v4)]) C.1.1 C.1.2.1 dX3_encrypt_106 hl (by decide) rfl (fun ls hl => ?_)
            refine lv_aload_n C.1.1 C.1.2.1 dX3_encrypt_108 rfl (lv_at hl 1 rfl) ?_
            refine mr_getR C hw kc_3 5 (by decide) tf_97 ff_97_5 wd_302 dX3_encrypt_109 (by decide) rfl ?_
            refine lv_iload C.1.1 C.1.2.1 dX3_encrypt_112 (lv_at hl 4 rfl) ?_
            obtain ⟨q20, hD⟩ := g_ck hD
            refine mr_iald C hw (by decide) tf_137 q20 dX3_encrypt_114 ?_
            obtain ⟨x21, ex21, hD⟩ := g_let hD
            refine W.eq (g2 := F0 m 115 ls (.int x21 :: [])) (by rw [ex21]) ?_
            refine lv_istore (lv' := [(6, .int x21), (5, .int x19), (0, .ref (ad 97)), (2, .ref (ad v2)), (3, .int v3), (4, .int v4)]) C.1.1 C.1.2.1 dX3_encrypt_115 hl (by decide) rfl (fun ls hl => ?_)
            refine lv_aload_n C.1.1 C.1.2.1 dX3_encrypt_117 rfl (lv_at hl 2 rfl) ?_
            refine mr_getR C hw kc_3 5 (by decide) tf_97 ff_97_5 wd_302 dX3_encrypt_118 (by decide) rfl ?_
            refine lv_iload C.1.1 C.1.2.1 dX3_encrypt_121 (lv_at hl 1 rfl) ?_
            refine lv_iload C.1.1 C.1.2.1 dX3_encrypt_123 (lv_at hl 5 rfl) ?_
            refine lv_iconst (v := 1) C.1.1 C.1.2.1 dX3_encrypt_125 (by decide) ?_
            refine lv_iadd C.1.1 C.1.2.1 dX3_encrypt_126 ?_
            refine lv_iconst (v := 4) C.1.1 C.1.2.1 dX3_encrypt_127 (by decide) ?_
            refine lv_irem C.1.1 C.1.2.1 dX3_encrypt_128 (by decide) ?_
            refine lv_iadd C.1.1 C.1.2.1 dX3_encrypt_129 ?_
            obtain ⟨q23, hD⟩ := g_ck hD
            refine mr_iald C hw (by decide) tf_137 q23 dX3_encrypt_130 ?_
            obtain ⟨x24, ex24, hD⟩ := g_let hD
            refine W.eq (g2 := F0 m 131 ls (.int x24 :: [])) (by rw [ex24]) ?_
            refine lv_istore (lv' := [(7, .int x24), (6, .int x21), (5, .int x19), (0, .ref (ad 97)), (2, .ref (ad v2)), (3, .int v3), (4, .int v4)]) C.1.1 C.1.2.1 dX3_encrypt_131 hl (by decide) rfl (fun ls hl => ?_)
            refine lv_aload_n C.1.1 C.1.2.1 dX3_encrypt_133 rfl (lv_at hl 3 rfl) ?_
            refine mr_getR C hw kc_3 5 (by decide) tf_97 ff_97_5 wd_302 dX3_encrypt_134 (by decide) rfl ?_
            refine lv_iload C.1.1 C.1.2.1 dX3_encrypt_137 (lv_at hl 2 rfl) ?_
            refine lv_iload C.1.1 C.1.2.1 dX3_encrypt_139 (lv_at hl 6 rfl) ?_
            refine lv_iconst (v := 2) C.1.1 C.1.2.1 dX3_encrypt_141 (by decide) ?_
            refine lv_iadd C.1.1 C.1.2.1 dX3_encrypt_142 ?_
            refine lv_iconst (v := 4) C.1.1 C.1.2.1 dX3_encrypt_143 (by decide) ?_
            refine lv_irem C.1.1 C.1.2.1 dX3_encrypt_144 (by decide) ?_
            refine lv_iadd C.1.1 C.1.2.1 dX3_encrypt_145 ?_
            obtain ⟨q26, hD⟩ := g_ck hD
            refine mr_iald C hw (by decide) tf_137 q26 dX3_encrypt_146 ?_
            obtain ⟨x27, ex27, hD⟩ := g_let hD
            refine W.eq (g2 := F0 m 147 ls (.int x27 :: [])) (by rw [ex27]) ?_
            refine lv_istore (lv' := [(8, .int x27), (7, .int x24), (6, .int x21), (5, .int x19), (0, .ref (ad 97)), (2, .ref (ad v2)), (3, .int v3), (4, .int v4)]) C.1.1 C.1.2.1 dX3_encrypt_147 hl (by decide) rfl (fun ls hl => ?_)
            refine lv_aload_n C.1.1 C.1.2.1 dX3_encrypt_149 rfl (lv_at hl 4 rfl) ?_
            refine mr_getR C hw kc_3 5 (by decide) tf_97 ff_97_5 wd_302 dX3_encrypt_150 (by decide) rfl ?_
            refine lv_iload C.1.1 C.1.2.1 dX3_encrypt_153 (lv_at hl 3 rfl) ?_
            refine lv_iload C.1.1 C.1.2.1 dX3_encrypt_155 (lv_at hl 7 rfl) ?_
            refine lv_iconst (v := 3) C.1.1 C.1.2.1 dX3_encrypt_157 (by decide) ?_
            refine lv_iadd C.1.1 C.1.2.1 dX3_encrypt_158 ?_
            refine lv_iconst (v := 4) C.1.1 C.1.2.1 dX3_encrypt_159 (by decide) ?_
            refine lv_irem C.1.1 C.1.2.1 dX3_encrypt_160 (by decide) ?_
            refine lv_iadd C.1.1 C.1.2.1 dX3_encrypt_161 ?_
            obtain ⟨q29, hD⟩ := g_ck hD
            refine mr_iald C hw (by decide) tf_137 q29 dX3_encrypt_162 ?_
            obtain ⟨x30, ex30, hD⟩ := g_let hD
            refine W.eq (g2 := F0 m 163 ls (.int x30 :: [])) (by rw [ex30]) ?_
            refine lv_istore (lv' := [(9, .int x30), (8, .int x27), (7, .int x24), (6, .int x21), (5, .int x19), (0, .ref (ad 97)), (2, .ref (ad v2)), (3, .int v3), (4, .int v4)]) C.1.1 C.1.2.1 dX3_encrypt_163 hl (by decide) rfl (fun ls hl => ?_)
            refine lv_iload_n C.1.1 C.1.2.1 dX3_encrypt_165 rfl (lv_at hl 7 rfl) ?_
            refine lv_bipush (v := 10) C.1.1 C.1.2.1 dX3_encrypt_166 (by decide) ?_
            refine lv_icmp_ge (tgt := 198) C.1.1 C.1.2.1 dX3_encrypt_168 (by decide) (fun c31 => ?_) (fun c31 => ?_)
            · replace hD := g_pos c31 hD
              refine lv_iload C.1.1 C.1.2.1 dX3_encrypt_198 (lv_at hl 3 rfl) ?_
              exact hb200 v2 v3 v4 x21 M L _ _ ls hD ⟨hv2.1, hv2.2⟩ hw (lv_sub hl [5, 6, 7, 8] rfl)
            · replace hD := g_neg c31 hD
              refine lv_aload_n C.1.1 C.1.2.1 dX3_encrypt_171 rfl (lv_at hl 5 rfl) ?_
              refine mr_getR C hw kc_3 1 (by decide) tf_97 ff_97_1 wd_298 dX3_encrypt_172 (by decide) rfl ?_
              refine lv_iload C.1.1 C.1.2.1 dX3_encrypt_175 (lv_at hl 3 rfl) ?_
              obtain ⟨q32, hD⟩ := g_ck hD
              refine mr_iald C hw (by decide) tf_99 q32 dX3_encrypt_177 ?_
              refine lv_aload_n C.1.1 C.1.2.1 dX3_encrypt_178 rfl (lv_at hl 5 rfl) ?_
              refine mr_getR C hw kc_3 1 (by decide) tf_97 ff_97_1 wd_298 dX3_encrypt_179 (by decide) rfl ?_
              refine lv_iload C.1.1 C.1.2.1 dX3_encrypt_182 (lv_at hl 2 rfl) ?_
              obtain ⟨q33, hD⟩ := g_ck hD
              refine mr_iald C hw (by decide) tf_99 q33 dX3_encrypt_184 ?_
              refine lv_ixor C.1.1 C.1.2.1 dX3_encrypt_185 ?_
              refine lv_iload C.1.1 C.1.2.1 dX3_encrypt_186 (lv_at hl 2 rfl) ?_
              refine lv_ixor C.1.1 C.1.2.1 dX3_encrypt_188 ?_
              refine lv_iload C.1.1 C.1.2.1 dX3_encrypt_189 (lv_at hl 1 rfl) ?_
              refine lv_ixor C.1.1 C.1.2.1 dX3_encrypt_191 ?_
              refine lv_iload C.1.1 C.1.2.1 dX3_encrypt_192 (lv_at hl 0 rfl) ?_
              refine lv_ixor C.1.1 C.1.2.1 dX3_encrypt_194 ?_
              refine lv_goto (tgt := 200) C.1.1 C.1.2.1 dX3_encrypt_195 (by decide) ?_
              exact hb200 v2 v3 v4 (((((M 99 x21.toNatClampNeg) ^^^ (M 99 x24.toNatClampNeg)) ^^^ x24) ^^^ x27) ^^^ x30) M L _ _ ls hD ⟨hv2.1, hv2.2⟩ hw (lv_sub hl [5, 6, 7, 8] rfl)
      have hh48 : ∀ (f : Nat) (v2 : Nat) (v3 : Int32) (v4 : Int32) (M : mwM) (L : mwL) (H : Heap) (locs : List Loc) (ls : Array Slot), fX3_encrypt_h48 fu a1 (fX3_encrypt_h39 fu a1 f39) f (v2, v3, v4, M, L) = some (M0, L0) → v2 < NF ∧ TF v2 = (0, 176) → mw_W G ad NF TF FF M L H locs → lv_has ls 11 [(0, .ref (ad 97)), (2, .ref (ad v2)), (3, .int v3), (4, .int v4)] → W p l e ({ frames := 0, cells := 0, slots := 0, locals := 0 }) s m [.ref (ad 97), .int a1].toArray below meth c H locs 0 0 (MQ below (mw_Qv G ad NF TF FF (mw_eqV M0 L0)) [.ref (ad 97), .int a1].toArray s 0 0 (mw_fr G)) (F0 m 48 ls []) := by
        intro f
        induction f with
        | zero => intro v2 v3 v4 M L H locs ls hD; cases hD
        | succ f48 ih48 =>
          intro v2 v3 v4 M L H locs ls hD hv2 hw hl
          replace hD : fX3_encrypt_i48 fu a1 (fX3_encrypt_h39 fu a1 f39) (fX3_encrypt_h48 fu a1 (fX3_encrypt_h39 fu a1 f39) f48) v2 v3 v4 M L = some (M0, L0) := hD
          unfold fX3_encrypt_i48 at hD
          refine lv_iload C.1.1 C.1.2.1 dX3_encrypt_48 (lv_at hl 3 rfl) ?_
          refine lv_bipush (v := 16) C.1.1 C.1.2.1 dX3_encrypt_50 (by decide) ?_
          refine lv_icmp_ge (tgt := 90) C.1.1 C.1.2.1 dX3_encrypt_52 (by decide) (fun c8 => ?_) (fun c8 => ?_)
          · replace hD := g_pos c8 hD
            refine lv_iconst (v := 0) C.1.1 C.1.2.1 dX3_encrypt_90 (by decide) ?_
            refine lv_istore (lv' := [(4, .int 0), (0, .ref (ad 97)), (2, .ref (ad v2)), (3, .int v3)]) C.1.1 C.1.2.1 dX3_encrypt_91 hl (by decide) rfl (fun ls hl => ?_)
            exact hh93 fu v2 v3 0 M L _ _ ls hD ⟨hv2.1, hv2.2⟩ hw (lv_sub hl [1, 2, 3, 0] rfl)
          · replace hD := g_neg c8 hD
            refine lv_aload_n C.1.1 C.1.2.1 dX3_encrypt_55 rfl (lv_at hl 0 rfl) ?_
            refine mr_getR C hw kc_3 5 (by decide) tf_97 ff_97_5 wd_302 dX3_encrypt_56 (by decide) rfl ?_
            refine lv_iload C.1.1 C.1.2.1 dX3_encrypt_59 (lv_at hl 3 rfl) ?_
            refine lv_aload_n C.1.1 C.1.2.1 dX3_encrypt_61 rfl (lv_at hl 0 rfl) ?_
            refine mr_getR C hw kc_3 0 (by decide) tf_97 ff_97_0 wd_297 dX3_encrypt_62 (by decide) rfl ?_
            refine lv_aload_n C.1.1 C.1.2.1 dX3_encrypt_65 rfl (lv_at hl 0 rfl) ?_
            refine mr_getR C hw kc_3 6 (by decide) tf_97 ff_97_6 wd_303 dX3_encrypt_66 (by decide) rfl ?_
            refine lv_iload C.1.1 C.1.2.1 dX3_encrypt_69 (lv_at hl 3 rfl) ?_
            refine lv_iconst (v := 4) C.1.1 C.1.2.1 dX3_encrypt_71 (by decide) ?_
            refine lv_iload C.1.1 C.1.2.1 dX3_encrypt_72 (lv_at hl 3 rfl) ?_
            refine lv_iconst (v := 4) C.1.1 C.1.2.1 dX3_encrypt_74 (by decide) ?_
            refine lv_irem C.1.1 C.1.2.1 dX3_encrypt_75 (by decide) ?_
            refine lv_imul C.1.1 C.1.2.1 dX3_encrypt_76 ?_
            refine lv_iadd C.1.1 C.1.2.1 dX3_encrypt_77 ?_
            refine lv_bipush (v := 16) C.1.1 C.1.2.1 dX3_encrypt_78 (by decide) ?_
            refine lv_irem C.1.1 C.1.2.1 dX3_encrypt_80 (by decide) ?_
            obtain ⟨q11, hD⟩ := g_ck hD
            refine mr_iald C hw (by decide) tf_138 q11 dX3_encrypt_81 ?_
            obtain ⟨q12, hD⟩ := g_ck hD
            refine mr_iald C hw (by decide) tf_98 q12 dX3_encrypt_82 ?_
            obtain ⟨q13, hD⟩ := g_ck hD
            obtain ⟨M14, eM14, hD⟩ := g_let hD
            refine mr_iast C hw (by decide) tf_137 q13 dX3_encrypt_83 (fun H locs hw => ?_)
            replace hw : mw_W G ad NF TF FF M14 L H locs := by rw [eM14]; exact hw
            obtain ⟨x15, ex15, hD⟩ := g_let hD
            refine lv_iinc (v := x15) (lv' := [(4, .int x15), (0, .ref (ad 97)), (2, .ref (ad v2)), (3, .int v3)]) C.1.1 C.1.2.1 dX3_encrypt_84 hl (k := 3) rfl (by rw [ex15]; rfl) (by decide) rfl (fun ls hl => ?_)
            refine lv_goto (tgt := 48) C.1.1 C.1.2.1 dX3_encrypt_87 (by decide) ?_
            exact ih48 v2 v3 x15 M14 L _ _ ls hD ⟨hv2.1, hv2.2⟩ hw (lv_sub hl [1, 2, 3, 0] rfl)
      unfold fX3_encrypt_i39 at hD
      refine lv_iload_n C.1.1 C.1.2.1 dX3_encrypt_39 rfl (lv_at hl 2 rfl) ?_
      refine lv_bipush (v := 10) C.1.1 C.1.2.1 dX3_encrypt_40 (by decide) ?_
      refine lv_icmp_gt (tgt := 233) C.1.1 C.1.2.1 dX3_encrypt_42 (by decide) (fun c7 => ?_) (fun c7 => ?_)
      · replace hD := g_pos c7 hD
        exact mr_vret C hr hlocks hw (Option.some.inj hD) dX3_encrypt_233
      · replace hD := g_neg c7 hD
        refine lv_iconst (v := 0) C.1.1 C.1.2.1 dX3_encrypt_45 (by decide) ?_
        refine lv_istore (lv' := [(4, .int 0), (0, .ref (ad 97)), (2, .ref (ad v2)), (3, .int v3)]) C.1.1 C.1.2.1 dX3_encrypt_46 hl (by decide) rfl (fun ls hl => ?_)
        exact hh48 fu v2 v3 0 M L _ _ ls hD ⟨hv2.1, hv2.2⟩ hw (lv_sub hl [1, 2, 3, 0] rfl)
  have hh9 : ∀ (f : Nat) (v2 : Nat) (v3 : Int32) (M : mwM) (L : mwL) (H : Heap) (locs : List Loc) (ls : Array Slot), fX3_encrypt_h9 fu a1 f (v2, v3, M, L) = some (M0, L0) → v2 < NF ∧ TF v2 = (0, 176) → mw_W G ad NF TF FF M L H locs → lv_has ls 11 [(0, .ref (ad 97)), (2, .ref (ad v2)), (3, .int v3)] → W p l e ({ frames := 0, cells := 0, slots := 0, locals := 0 }) s m [.ref (ad 97), .int a1].toArray below meth c H locs 0 0 (MQ below (mw_Qv G ad NF TF FF (mw_eqV M0 L0)) [.ref (ad 97), .int a1].toArray s 0 0 (mw_fr G)) (F0 m 9 ls []) := by
    intro f
    induction f with
    | zero => intro v2 v3 M L H locs ls hD; cases hD
    | succ f9 ih9 =>
      intro v2 v3 M L H locs ls hD hv2 hw hl
      replace hD : fX3_encrypt_i9 fu a1 (fX3_encrypt_h9 fu a1 f9) v2 v3 M L = some (M0, L0) := hD
      unfold fX3_encrypt_i9 at hD
      refine lv_iload_n C.1.1 C.1.2.1 dX3_encrypt_9 rfl (lv_at hl 2 rfl) ?_
      refine lv_bipush (v := 16) C.1.1 C.1.2.1 dX3_encrypt_10 (by decide) ?_
      refine lv_icmp_ge (tgt := 37) C.1.1 C.1.2.1 dX3_encrypt_12 (by decide) (fun c1 => ?_) (fun c1 => ?_)
      · replace hD := g_pos c1 hD
        refine lv_iconst (v := 1) C.1.1 C.1.2.1 dX3_encrypt_37 (by decide) ?_
        refine lv_istore_n (lv' := [(3, .int 1), (0, .ref (ad 97)), (2, .ref (ad v2))]) C.1.1 C.1.2.1 dX3_encrypt_38 rfl hl (by decide) rfl (fun ls hl => ?_)
        exact hh39 fu v2 1 M L _ _ ls hD ⟨hv2.1, hv2.2⟩ hw (lv_sub hl [1, 2, 0] rfl)
      · replace hD := g_neg c1 hD
        refine lv_aload_n C.1.1 C.1.2.1 dX3_encrypt_15 rfl (lv_at hl 0 rfl) ?_
        refine mr_getR C hw kc_3 6 (by decide) tf_97 ff_97_6 wd_303 dX3_encrypt_16 (by decide) rfl ?_
        refine lv_iload_n C.1.1 C.1.2.1 dX3_encrypt_19 rfl (lv_at hl 2 rfl) ?_
        refine lv_aload_n C.1.1 C.1.2.1 dX3_encrypt_20 rfl (lv_at hl 0 rfl) ?_
        refine mr_getR C hw kc_3 5 (by decide) tf_97 ff_97_5 wd_302 dX3_encrypt_21 (by decide) rfl ?_
        refine lv_iload_n C.1.1 C.1.2.1 dX3_encrypt_24 rfl (lv_at hl 2 rfl) ?_
        obtain ⟨q2, hD⟩ := g_ck hD
        refine mr_iald C hw (by decide) tf_137 q2 dX3_encrypt_25 ?_
        refine lv_aload_n C.1.1 C.1.2.1 dX3_encrypt_26 rfl (lv_at hl 1 rfl) ?_
        refine lv_iload_n C.1.1 C.1.2.1 dX3_encrypt_27 rfl (lv_at hl 2 rfl) ?_
        obtain ⟨q3, hD⟩ := g_ck hD
        refine mr_iald C hw hv2.1 hv2.2 q3 dX3_encrypt_28 ?_
        refine lv_ixor C.1.1 C.1.2.1 dX3_encrypt_29 ?_
        obtain ⟨q4, hD⟩ := g_ck hD
        obtain ⟨M5, eM5, hD⟩ := g_let hD
        refine mr_iast C hw (by decide) tf_138 q4 dX3_encrypt_30 (fun H locs hw => ?_)
        replace hw : mw_W G ad NF TF FF M5 L H locs := by rw [eM5]; exact hw
        obtain ⟨x6, ex6, hD⟩ := g_let hD
        refine lv_iinc (v := x6) (lv' := [(3, .int x6), (0, .ref (ad 97)), (2, .ref (ad v2))]) C.1.1 C.1.2.1 dX3_encrypt_31 hl (k := 2) rfl (by rw [ex6]; rfl) (by decide) rfl (fun ls hl => ?_)
        refine lv_goto (tgt := 9) C.1.1 C.1.2.1 dX3_encrypt_34 (by decide) ?_
        exact ih9 v2 x6 M5 L _ _ ls hD ⟨hv2.1, hv2.2⟩ hw (lv_sub hl [1, 2, 0] rfl)
  unfold DX3_encrypt at hD
  refine lv_aload_n C.1.1 C.1.2.1 dX3_encrypt_0 rfl (lv_at hl 0 rfl) ?_
  refine mr_getR C hw kc_3 2 (by decide) tf_97 ff_97_2 wd_299 dX3_encrypt_1 (by decide) rfl ?_
  refine lv_iload_n C.1.1 C.1.2.1 dX3_encrypt_4 rfl (lv_at hl 1 rfl) ?_
  obtain ⟨q38, hD⟩ := g_ck hD
  refine mr_aald C hw (by decide) tf_100 (by decide) (by decide) rfl rfl q38 (fr_100 _ (g_lt q38)).1 dX3_encrypt_5 ?_
  refine lv_astore_n (lv' := [(2, .ref (ad (101 + a1.toNatClampNeg))), (0, .ref (ad 97)), (1, .int a1)]) C.1.1 C.1.2.1 dX3_encrypt_6 rfl hl (by decide) rfl (fun ls hl => ?_)
  refine lv_iconst (v := 0) C.1.1 C.1.2.1 dX3_encrypt_7 (by decide) ?_
  refine lv_istore_n (lv' := [(3, .int 0), (2, .ref (ad (101 + a1.toNatClampNeg))), (0, .ref (ad 97)), (1, .int a1)]) C.1.1 C.1.2.1 dX3_encrypt_8 rfl hl (by decide) rfl (fun ls hl => ?_)
  exact hh9 fu ((101 + a1.toNatClampNeg)) 0 M L _ _ ls hD ⟨(fr_100 _ (g_lt q38)).2.2, (fr_100 _ (g_lt q38)).2.1⟩ hw (lv_sub hl [2, 1, 0] rfl)

theorem dX3_makeSecond_0 : decode cX3_makeSecond 0 = .ok (.iconst 0, 1) := by decide +kernel
theorem dX3_makeSecond_1 : decode cX3_makeSecond 1 = .ok (.istore_n 2, 1) := by decide +kernel
theorem dX3_makeSecond_2 : decode cX3_makeSecond 2 = .ok (.iload_n 2, 1) := by decide +kernel
theorem dX3_makeSecond_3 : decode cX3_makeSecond 3 = .ok (.bipush 16, 2) := by decide +kernel
theorem dX3_makeSecond_5 : decode cX3_makeSecond 5 = .ok (.if_icmp .ge 16, 3) := by decide +kernel
theorem dX3_makeSecond_8 : decode cX3_makeSecond 8 = .ok (.aload_n 0, 1) := by decide +kernel
theorem dX3_makeSecond_9 : decode cX3_makeSecond 9 = .ok (.getfield 28, 3) := by decide +kernel
theorem dX3_makeSecond_12 : decode cX3_makeSecond 12 = .ok (.iload_n 2, 1) := by decide +kernel
theorem dX3_makeSecond_13 : decode cX3_makeSecond 13 = .ok (.iconst 0, 1) := by decide +kernel
theorem dX3_makeSecond_14 : decode cX3_makeSecond 14 = .ok (.iastore, 1) := by decide +kernel
theorem dX3_makeSecond_15 : decode cX3_makeSecond 15 = .ok (.iinc 2 1, 3) := by decide +kernel
theorem dX3_makeSecond_18 : decode cX3_makeSecond 18 = .ok (.goto (-16), 3) := by decide +kernel
theorem dX3_makeSecond_21 : decode cX3_makeSecond 21 = .ok (.aload_n 0, 1) := by decide +kernel
theorem dX3_makeSecond_22 : decode cX3_makeSecond 22 = .ok (.iload_n 1, 1) := by decide +kernel
theorem dX3_makeSecond_23 : decode cX3_makeSecond 23 = .ok (.invokevirtual 48, 3) := by decide +kernel
theorem dX3_makeSecond_26 : decode cX3_makeSecond 26 = .ok (.iconst 0, 1) := by decide +kernel
theorem dX3_makeSecond_27 : decode cX3_makeSecond 27 = .ok (.istore_n 2, 1) := by decide +kernel
theorem dX3_makeSecond_28 : decode cX3_makeSecond 28 = .ok (.iload_n 2, 1) := by decide +kernel
theorem dX3_makeSecond_29 : decode cX3_makeSecond 29 = .ok (.bipush 16, 2) := by decide +kernel
theorem dX3_makeSecond_31 : decode cX3_makeSecond 31 = .ok (.if_icmp .ge 23, 3) := by decide +kernel
theorem dX3_makeSecond_34 : decode cX3_makeSecond 34 = .ok (.aload_n 0, 1) := by decide +kernel
theorem dX3_makeSecond_35 : decode cX3_makeSecond 35 = .ok (.getfield 21, 3) := by decide +kernel
theorem dX3_makeSecond_38 : decode cX3_makeSecond 38 = .ok (.iload_n 1, 1) := by decide +kernel
theorem dX3_makeSecond_39 : decode cX3_makeSecond 39 = .ok (.aaload, 1) := by decide +kernel
theorem dX3_makeSecond_40 : decode cX3_makeSecond 40 = .ok (.iload_n 2, 1) := by decide +kernel
theorem dX3_makeSecond_41 : decode cX3_makeSecond 41 = .ok (.aload_n 0, 1) := by decide +kernel
theorem dX3_makeSecond_42 : decode cX3_makeSecond 42 = .ok (.getfield 31, 3) := by decide +kernel
theorem dX3_makeSecond_45 : decode cX3_makeSecond 45 = .ok (.iload_n 2, 1) := by decide +kernel
theorem dX3_makeSecond_46 : decode cX3_makeSecond 46 = .ok (.iaload, 1) := by decide +kernel
theorem dX3_makeSecond_47 : decode cX3_makeSecond 47 = .ok (.iastore, 1) := by decide +kernel
theorem dX3_makeSecond_48 : decode cX3_makeSecond 48 = .ok (.iinc 2 1, 3) := by decide +kernel
theorem dX3_makeSecond_51 : decode cX3_makeSecond 51 = .ok (.goto (-23), 3) := by decide +kernel
theorem dX3_makeSecond_54 : decode cX3_makeSecond 54 = .ok (.iconst 0, 1) := by decide +kernel
theorem dX3_makeSecond_55 : decode cX3_makeSecond 55 = .ok (.istore_n 2, 1) := by decide +kernel
theorem dX3_makeSecond_56 : decode cX3_makeSecond 56 = .ok (.iload_n 2, 1) := by decide +kernel
theorem dX3_makeSecond_57 : decode cX3_makeSecond 57 = .ok (.iconst 2, 1) := by decide +kernel
theorem dX3_makeSecond_58 : decode cX3_makeSecond 58 = .ok (.if_icmp .ge 117, 3) := by decide +kernel
theorem dX3_makeSecond_61 : decode cX3_makeSecond 61 = .ok (.aload_n 0, 1) := by decide +kernel
theorem dX3_makeSecond_62 : decode cX3_makeSecond 62 = .ok (.getfield 21, 3) := by decide +kernel
theorem dX3_makeSecond_65 : decode cX3_makeSecond 65 = .ok (.iload_n 1, 1) := by decide +kernel
theorem dX3_makeSecond_66 : decode cX3_makeSecond 66 = .ok (.aaload, 1) := by decide +kernel
theorem dX3_makeSecond_67 : decode cX3_makeSecond 67 = .ok (.iconst 0, 1) := by decide +kernel
theorem dX3_makeSecond_68 : decode cX3_makeSecond 68 = .ok (.iaload, 1) := by decide +kernel
theorem dX3_makeSecond_69 : decode cX3_makeSecond 69 = .ok (.bipush 7, 2) := by decide +kernel
theorem dX3_makeSecond_71 : decode cX3_makeSecond 71 = .ok (.ishr, 1) := by decide +kernel
theorem dX3_makeSecond_72 : decode cX3_makeSecond 72 = .ok (.istore_n 3, 1) := by decide +kernel
theorem dX3_makeSecond_73 : decode cX3_makeSecond 73 = .ok (.iconst 0, 1) := by decide +kernel
theorem dX3_makeSecond_74 : decode cX3_makeSecond 74 = .ok (.istore 4, 2) := by decide +kernel
theorem dX3_makeSecond_76 : decode cX3_makeSecond 76 = .ok (.iload 4, 2) := by decide +kernel
theorem dX3_makeSecond_78 : decode cX3_makeSecond 78 = .ok (.bipush 16, 2) := by decide +kernel
theorem dX3_makeSecond_80 : decode cX3_makeSecond 80 = .ok (.if_icmp .ge 65, 3) := by decide +kernel
theorem dX3_makeSecond_83 : decode cX3_makeSecond 83 = .ok (.iload 4, 2) := by decide +kernel
theorem dX3_makeSecond_85 : decode cX3_makeSecond 85 = .ok (.iconst 1, 1) := by decide +kernel
theorem dX3_makeSecond_86 : decode cX3_makeSecond 86 = .ok (.iadd, 1) := by decide +kernel
theorem dX3_makeSecond_87 : decode cX3_makeSecond 87 = .ok (.bipush 16, 2) := by decide +kernel
theorem dX3_makeSecond_89 : decode cX3_makeSecond 89 = .ok (.if_icmp .ge 20, 3) := by decide +kernel
theorem dX3_makeSecond_92 : decode cX3_makeSecond 92 = .ok (.aload_n 0, 1) := by decide +kernel
theorem dX3_makeSecond_93 : decode cX3_makeSecond 93 = .ok (.getfield 21, 3) := by decide +kernel
theorem dX3_makeSecond_96 : decode cX3_makeSecond 96 = .ok (.iload_n 1, 1) := by decide +kernel
theorem dX3_makeSecond_97 : decode cX3_makeSecond 97 = .ok (.aaload, 1) := by decide +kernel
theorem dX3_makeSecond_98 : decode cX3_makeSecond 98 = .ok (.iload 4, 2) := by decide +kernel
theorem dX3_makeSecond_100 : decode cX3_makeSecond 100 = .ok (.iconst 1, 1) := by decide +kernel
theorem dX3_makeSecond_101 : decode cX3_makeSecond 101 = .ok (.iadd, 1) := by decide +kernel
theorem dX3_makeSecond_102 : decode cX3_makeSecond 102 = .ok (.iaload, 1) := by decide +kernel
theorem dX3_makeSecond_103 : decode cX3_makeSecond 103 = .ok (.bipush 7, 2) := by decide +kernel
theorem dX3_makeSecond_105 : decode cX3_makeSecond 105 = .ok (.ishr, 1) := by decide +kernel
theorem dX3_makeSecond_106 : decode cX3_makeSecond 106 = .ok (.goto 4, 3) := by decide +kernel
theorem dX3_makeSecond_109 : decode cX3_makeSecond 109 = .ok (.iconst 0, 1) := by decide +kernel
theorem dX3_makeSecond_110 : decode cX3_makeSecond 110 = .ok (.istore 5, 2) := by decide +kernel
theorem dX3_makeSecond_112 : decode cX3_makeSecond 112 = .ok (.aload_n 0, 1) := by decide +kernel
theorem dX3_makeSecond_113 : decode cX3_makeSecond 113 = .ok (.getfield 21, 3) := by decide +kernel
theorem dX3_makeSecond_116 : decode cX3_makeSecond 116 = .ok (.iload_n 1, 1) := by decide +kernel
theorem dX3_makeSecond_117 : decode cX3_makeSecond 117 = .ok (.aaload, 1) := by decide +kernel
theorem dX3_makeSecond_118 : decode cX3_makeSecond 118 = .ok (.iload 4, 2) := by decide +kernel
theorem dX3_makeSecond_120 : decode cX3_makeSecond 120 = .ok (.aload_n 0, 1) := by decide +kernel
theorem dX3_makeSecond_121 : decode cX3_makeSecond 121 = .ok (.getfield 21, 3) := by decide +kernel
theorem dX3_makeSecond_124 : decode cX3_makeSecond 124 = .ok (.iload_n 1, 1) := by decide +kernel
theorem dX3_makeSecond_125 : decode cX3_makeSecond 125 = .ok (.aaload, 1) := by decide +kernel
theorem dX3_makeSecond_126 : decode cX3_makeSecond 126 = .ok (.iload 4, 2) := by decide +kernel
theorem dX3_makeSecond_128 : decode cX3_makeSecond 128 = .ok (.iaload, 1) := by decide +kernel
theorem dX3_makeSecond_129 : decode cX3_makeSecond 129 = .ok (.iconst 1, 1) := by decide +kernel
theorem dX3_makeSecond_130 : decode cX3_makeSecond 130 = .ok (.ishl, 1) := by decide +kernel
theorem dX3_makeSecond_131 : decode cX3_makeSecond 131 = .ok (.sipush 255, 3) := by decide +kernel
theorem dX3_makeSecond_134 : decode cX3_makeSecond 134 = .ok (.iand, 1) := by decide +kernel
theorem dX3_makeSecond_135 : decode cX3_makeSecond 135 = .ok (.iload 5, 2) := by decide +kernel
theorem dX3_makeSecond_137 : decode cX3_makeSecond 137 = .ok (.ior, 1) := by decide +kernel
theorem dX3_makeSecond_138 : decode cX3_makeSecond 138 = .ok (.iastore, 1) := by decide +kernel
theorem dX3_makeSecond_139 : decode cX3_makeSecond 139 = .ok (.iinc 4 1, 3) := by decide +kernel
theorem dX3_makeSecond_142 : decode cX3_makeSecond 142 = .ok (.goto (-66), 3) := by decide +kernel
theorem dX3_makeSecond_145 : decode cX3_makeSecond 145 = .ok (.aload_n 0, 1) := by decide +kernel
theorem dX3_makeSecond_146 : decode cX3_makeSecond 146 = .ok (.getfield 21, 3) := by decide +kernel
theorem dX3_makeSecond_149 : decode cX3_makeSecond 149 = .ok (.iload_n 1, 1) := by decide +kernel
theorem dX3_makeSecond_150 : decode cX3_makeSecond 150 = .ok (.aaload, 1) := by decide +kernel
theorem dX3_makeSecond_151 : decode cX3_makeSecond 151 = .ok (.bipush 15, 2) := by decide +kernel
theorem dX3_makeSecond_153 : decode cX3_makeSecond 153 = .ok (.dup2, 1) := by decide +kernel
theorem dX3_makeSecond_154 : decode cX3_makeSecond 154 = .ok (.iaload, 1) := by decide +kernel
theorem dX3_makeSecond_155 : decode cX3_makeSecond 155 = .ok (.iload_n 3, 1) := by decide +kernel
theorem dX3_makeSecond_156 : decode cX3_makeSecond 156 = .ok (.iconst 1, 1) := by decide +kernel
theorem dX3_makeSecond_157 : decode cX3_makeSecond 157 = .ok (.if_icmp .ne 9, 3) := by decide +kernel
theorem dX3_makeSecond_160 : decode cX3_makeSecond 160 = .ok (.sipush 135, 3) := by decide +kernel
theorem dX3_makeSecond_163 : decode cX3_makeSecond 163 = .ok (.goto 4, 3) := by decide +kernel
theorem dX3_makeSecond_166 : decode cX3_makeSecond 166 = .ok (.iconst 0, 1) := by decide +kernel
theorem dX3_makeSecond_167 : decode cX3_makeSecond 167 = .ok (.ixor, 1) := by decide +kernel
theorem dX3_makeSecond_168 : decode cX3_makeSecond 168 = .ok (.iastore, 1) := by decide +kernel
theorem dX3_makeSecond_169 : decode cX3_makeSecond 169 = .ok (.iinc 2 1, 3) := by decide +kernel
theorem dX3_makeSecond_172 : decode cX3_makeSecond 172 = .ok (.goto (-116), 3) := by decide +kernel
theorem dX3_makeSecond_175 : decode cX3_makeSecond 175 = .ok (.return_, 1) := by decide +kernel
theorem cwX3_makeSecond : mw_cwV yX3_makeSecond cX3_makeSecond 6 (none) 1 := ⟨⟨wd_8, wd_1211, by decide +kernel⟩, wd_1210, sl_59⟩
set_option maxHeartbeats 4000000 in
set_option maxRecDepth 100000 in
theorem tX3_makeSecond (l : Launch) (G : mwG) (ad : Nat → Nat) (fu : Nat) (a1 : Int32) (M : mwM) (L : mwL) {M0 : mwM} {L0 : mwL} (hD : DX3_makeSecond fu a1 M L = some (M0, L0)) : Met l yX3_makeSecond (Cond.code yX3_makeSecond cX3_makeSecond 6 (none) :: GT) ({ frames := 1, cells := 0, slots := 0, locals := 30 }) (mw_Pre G ad NF TF FF M L [.ref (ad 97), .int a1]) (mw_Qv G ad NF TF FF (mw_eqV M0 L0)) 0 0 (mw_fr G) := by
  refine mw_enter (by decide) (Nat.le_of_ble_eq_true rfl) ?_
  intro p e s m below meth c ls C hr hlocks hnm hw hl
  have hl : lv_has ls 6 [(0, .ref (ad 97)), (1, .int a1)] := hl
  have hh56 : ∀ (f : Nat) (v2 : Int32) (M : mwM) (L : mwL) (H : Heap) (locs : List Loc) (ls : Array Slot), fX3_makeSecond_h56 fu a1 f (v2, M, L) = some (M0, L0) → mw_W G ad NF TF FF M L H locs → lv_has ls 6 [(0, .ref (ad 97)), (1, .int a1), (2, .int v2)] → W p l e ({ frames := 1, cells := 0, slots := 0, locals := 30 }) s m [.ref (ad 97), .int a1].toArray below meth c H locs 0 0 (MQ below (mw_Qv G ad NF TF FF (mw_eqV M0 L0)) [.ref (ad 97), .int a1].toArray s 0 0 (mw_fr G)) (F0 m 56 ls []) := by
    intro f
    induction f with
    | zero => intro v2 M L H locs ls hD; cases hD
    | succ f56 ih56 =>
      intro v2 M L H locs ls hD hw hl
      replace hD : fX3_makeSecond_i56 fu a1 (fX3_makeSecond_h56 fu a1 f56) v2 M L = some (M0, L0) := hD
      have hb167 : ∀ (v2 : Int32) (s0 : Nat) (s1 : Int32) (s2 : Int32) (s3 : Int32) (M : mwM) (L : mwL) (H : Heap) (locs : List Loc) (ls : Array Slot), fX3_makeSecond_b167 fu a1 (fX3_makeSecond_h56 fu a1 f56) v2 s0 s1 s2 s3 M L = some (M0, L0) → s0 < NF ∧ TF s0 = (0, 16) → mw_W G ad NF TF FF M L H locs → lv_has ls 6 [(0, .ref (ad 97)), (1, .int a1), (2, .int v2)] → W p l e ({ frames := 1, cells := 0, slots := 0, locals := 30 }) s m [.ref (ad 97), .int a1].toArray below meth c H locs 0 0 (MQ below (mw_Qv G ad NF TF FF (mw_eqV M0 L0)) [.ref (ad 97), .int a1].toArray s 0 0 (mw_fr G)) (F0 m 167 ls [.int s3, .int s2, .int s1, .ref (ad s0)]) := by
        intro v2 s0 s1 s2 s3 M L H locs ls hD hs0 hw hl
        unfold fX3_makeSecond_b167 at hD
        refine lv_ixor C.1.1 C.1.2.1 dX3_makeSecond_167 ?_
        obtain ⟨q30, hD⟩ := g_ck hD
        obtain ⟨M31, eM31, hD⟩ := g_let hD
        refine mr_iast C hw hs0.1 hs0.2 q30 dX3_makeSecond_168 (fun H locs hw => ?_)
        replace hw : mw_W G ad NF TF FF M31 L H locs := by rw [eM31]; exact hw
        obtain ⟨x32, ex32, hD⟩ := g_let hD
        refine lv_iinc (v := x32) (lv' := [(2, .int x32), (0, .ref (ad 97)), (1, .int a1)]) C.1.1 C.1.2.1 dX3_makeSecond_169 hl (k := 2) rfl (by rw [ex32]; rfl) (by decide) rfl (fun ls hl => ?_)
        refine lv_goto (tgt := 56) C.1.1 C.1.2.1 dX3_makeSecond_172 (by decide) ?_
        exact ih56 x32 M31 L _ _ ls hD hw (lv_sub hl [1, 2, 0] rfl)
      have hh76 : ∀ (f : Nat) (v2 : Int32) (v3 : Int32) (v4 : Int32) (M : mwM) (L : mwL) (H : Heap) (locs : List Loc) (ls : Array Slot), fX3_makeSecond_h76 fu a1 (fX3_makeSecond_h56 fu a1 f56) f (v2, v3, v4, M, L) = some (M0, L0) → mw_W G ad NF TF FF M L H locs → lv_has ls 6 [(0, .ref (ad 97)), (1, .int a1), (2, .int v2), (3, .int v3), (4, .int v4)] → W p l e ({ frames := 1, cells := 0, slots := 0, locals := 30 }) s m [.ref (ad 97), .int a1].toArray below meth c H locs 0 0 (MQ below (mw_Qv G ad NF TF FF (mw_eqV M0 L0)) [.ref (ad 97), .int a1].toArray s 0 0 (mw_fr G)) (F0 m 76 ls []) := by
        intro f
        induction f with
        | zero => intro v2 v3 v4 M L H locs ls hD; cases hD
        | succ f76 ih76 =>
          intro v2 v3 v4 M L H locs ls hD hw hl
          replace hD : fX3_makeSecond_i76 fu a1 (fX3_makeSecond_h56 fu a1 f56) (fX3_makeSecond_h76 fu a1 (fX3_makeSecond_h56 fu a1 f56) f76) v2 v3 v4 M L = some (M0, L0) := hD
          have hb110 : ∀ (v2 : Int32) (v3 : Int32) (v4 : Int32) (s0 : Int32) (M : mwM) (L : mwL) (H : Heap) (locs : List Loc) (ls : Array Slot), fX3_makeSecond_b110 fu a1 (fX3_makeSecond_h56 fu a1 f56) (fX3_makeSecond_h76 fu a1 (fX3_makeSecond_h56 fu a1 f56) f76) v2 v3 v4 s0 M L = some (M0, L0) → mw_W G ad NF TF FF M L H locs → lv_has ls 6 [(0, .ref (ad 97)), (1, .int a1), (2, .int v2), (3, .int v3), (4, .int v4)] → W p l e ({ frames := 1, cells := 0, slots := 0, locals := 30 }) s m [.ref (ad 97), .int a1].toArray below meth c H locs 0 0 (MQ below (mw_Qv G ad NF TF FF (mw_eqV M0 L0)) [.ref (ad 97), .int a1].toArray s 0 0 (mw_fr G)) (F0 m 110 ls [.int s0]) := by
            intro v2 v3 v4 s0 M L H locs ls hD hw hl
            unfold fX3_makeSecond_b110 at hD
            refine lv_istore (lv' := [(5, .int s0), (0, .ref (ad 97)), (1, .int a1), (2, .int v2), (3, .int v3), (4, .int v4)]) C.1.1 C.1.2.1 dX3_makeSecond_110 hl (by decide) rfl (fun ls hl => ?_)
            refine lv_aload_n C.1.1 C.1.2.1 dX3_makeSecond_112 rfl (lv_at hl 1 rfl) ?_
            refine mr_getR C hw kc_3 3 (by decide) tf_97 ff_97_3 wd_300 dX3_makeSecond_113 (by decide) rfl ?_
            refine lv_iload_n C.1.1 C.1.2.1 dX3_makeSecond_116 rfl (lv_at hl 2 rfl) ?_
            obtain ⟨q24, hD⟩ := g_ck hD
            refine mr_aald C hw (by decide) tf_118 (by decide) (by decide) rfl rfl q24 (fr_118 _ (g_lt q24)).1 dX3_makeSecond_117 ?_
            refine lv_iload C.1.1 C.1.2.1 dX3_makeSecond_118 (lv_at hl 5 rfl) ?_
            refine lv_aload_n C.1.1 C.1.2.1 dX3_makeSecond_120 rfl (lv_at hl 1 rfl) ?_
            refine mr_getR C hw kc_3 3 (by decide) tf_97 ff_97_3 wd_300 dX3_makeSecond_121 (by decide) rfl ?_
            refine lv_iload_n C.1.1 C.1.2.1 dX3_makeSecond_124 rfl (lv_at hl 2 rfl) ?_
            obtain ⟨q25, hD⟩ := g_ck hD
            refine mr_aald C hw (by decide) tf_118 (by decide) (by decide) rfl rfl q25 (fr_118 _ (g_lt q25)).1 dX3_makeSecond_125 ?_
            refine lv_iload C.1.1 C.1.2.1 dX3_makeSecond_126 (lv_at hl 5 rfl) ?_
            obtain ⟨q26, hD⟩ := g_ck hD
            refine mr_iald C hw (fr_118 _ (g_lt q25)).2.2 (fr_118 _ (g_lt q25)).2.1 q26 dX3_makeSecond_128 ?_
            refine lv_iconst (v := 1) C.1.1 C.1.2.1 dX3_makeSecond_129 (by decide) ?_
            refine lv_ishl C.1.1 C.1.2.1 dX3_makeSecond_130 ?_
            refine lv_sipush (v := 255) C.1.1 C.1.2.1 dX3_makeSecond_131 (by decide) ?_
            refine lv_iand C.1.1 C.1.2.1 dX3_makeSecond_134 ?_
            refine lv_iload C.1.1 C.1.2.1 dX3_makeSecond_135 (lv_at hl 0 rfl) ?_
            refine lv_ior C.1.1 C.1.2.1 dX3_makeSecond_137 ?_
            obtain ⟨q27, hD⟩ := g_ck hD
            obtain ⟨M28, eM28, hD⟩ := g_let hD
            refine mr_iast C hw (fr_118 _ (g_lt q24)).2.2 (fr_118 _ (g_lt q24)).2.1 q27 dX3_makeSecond_138 (fun H locs hw => ?_)
            replace hw : mw_W G ad NF TF FF M28 L H locs := by rw [eM28]; exact hw
            obtain ⟨x29, ex29, hD⟩ := g_let hD
            refine lv_iinc (v := x29) (lv' := [(4, .int x29), (5, .int s0), (0, .ref (ad 97)), (1, .int a1), (2, .int v2), (3, .int v3)]) C.1.1 C.1.2.1 dX3_makeSecond_139 hl (k := 5) rfl (by rw [ex29]; rfl) (by decide) rfl (fun ls hl => ?_)
            refine lv_goto (tgt := 76) C.1.1 C.1.2.1 dX3_makeSecond_142 (by decide) ?_
            exact ih76 v2 v3 x29 M28 L _ _ ls hD hw (lv_sub hl [2, 3, 4, 5, 0] rfl)
          unfold fX3_makeSecond_i76 at hD
          refine lv_iload C.1.1 C.1.2.1 dX3_makeSecond_76 (lv_at hl 4 rfl) ?_
          refine lv_bipush (v := 16) C.1.1 C.1.2.1 dX3_makeSecond_78 (by decide) ?_
          refine lv_icmp_ge (tgt := 145) C.1.1 C.1.2.1 dX3_makeSecond_80 (by decide) (fun c17 => ?_) (fun c17 => ?_)
          · replace hD := g_pos c17 hD
            refine lv_aload_n C.1.1 C.1.2.1 dX3_makeSecond_145 rfl (lv_at hl 0 rfl) ?_
            refine mr_getR C hw kc_3 3 (by decide) tf_97 ff_97_3 wd_300 dX3_makeSecond_146 (by decide) rfl ?_
            refine lv_iload_n C.1.1 C.1.2.1 dX3_makeSecond_149 rfl (lv_at hl 1 rfl) ?_
            obtain ⟨q18, hD⟩ := g_ck hD
            refine mr_aald C hw (by decide) tf_118 (by decide) (by decide) rfl rfl q18 (fr_118 _ (g_lt q18)).1 dX3_makeSecond_150 ?_
            refine lv_bipush (v := 15) C.1.1 C.1.2.1 dX3_makeSecond_151 (by decide) ?_
            refine lv_dup2_11 C.1.1 C.1.2.1 dX3_makeSecond_153 rfl rfl ?_
            refine mr_iald C hw (fr_118 _ (g_lt q18)).2.2 (fr_118 _ (g_lt q18)).2.1 (show vp_in 15 16 from by unfold vp_in; decide) dX3_makeSecond_154 ?_
            refine lv_iload_n C.1.1 C.1.2.1 dX3_makeSecond_155 rfl (lv_at hl 3 rfl) ?_
            refine lv_iconst (v := 1) C.1.1 C.1.2.1 dX3_makeSecond_156 (by decide) ?_
            refine lv_icmp_ne (tgt := 166) C.1.1 C.1.2.1 dX3_makeSecond_157 (by decide) (fun c20 => ?_) (fun c20 => ?_)
            · replace hD := g_neg c20 hD
              refine lv_iconst (v := 0) C.1.1 C.1.2.1 dX3_makeSecond_166 (by decide) ?_
              exact hb167 v2 ((119 + a1.toNatClampNeg)) 15 (M (119 + a1.toNatClampNeg) (15 : Int32).toNatClampNeg) 0 M L _ _ ls hD ⟨(fr_118 _ (g_lt q18)).2.2, (fr_118 _ (g_lt q18)).2.1⟩ hw (lv_sub hl [0, 1, 2] rfl)
            · replace hD := g_pos c20 hD
              refine lv_sipush (v := 135) C.1.1 C.1.2.1 dX3_makeSecond_160 (by decide) ?_
              refine lv_goto (tgt := 167) C.1.1 C.1.2.1 dX3_makeSecond_163 (by decide) ?_
              exact hb167 v2 ((119 + a1.toNatClampNeg)) 15 (M (119 + a1.toNatClampNeg) (15 : Int32).toNatClampNeg) 135 M L _ _ ls hD ⟨(fr_118 _ (g_lt q18)).2.2, (fr_118 _ (g_lt q18)).2.1⟩ hw (lv_sub hl [0, 1, 2] rfl)
          · replace hD := g_neg c17 hD
            refine lv_iload C.1.1 C.1.2.1 dX3_makeSecond_83 (lv_at hl 4 rfl) ?_
            refine lv_iconst (v := 1) C.1.1 C.1.2.1 dX3_makeSecond_85 (by decide) ?_
            refine lv_iadd C.1.1 C.1.2.1 dX3_makeSecond_86 ?_
            refine lv_bipush (v := 16) C.1.1 C.1.2.1 dX3_makeSecond_87 (by decide) ?_
            refine lv_icmp_ge (tgt := 109) C.1.1 C.1.2.1 dX3_makeSecond_89 (by decide) (fun c21 => ?_) (fun c21 => ?_)
            · replace hD := g_pos c21 hD
              refine lv_iconst (v := 0) C.1.1 C.1.2.1 dX3_makeSecond_109 (by decide) ?_
              exact hb110 v2 v3 v4 0 M L _ _ ls hD hw (lv_sub hl [0, 1, 2, 3, 4] rfl)
            · replace hD := g_neg c21 hD
              refine lv_aload_n C.1.1 C.1.2.1 dX3_makeSecond_92 rfl (lv_at hl 0 rfl) ?_
              refine mr_getR C hw kc_3 3 (by decide) tf_97 ff_97_3 wd_300 dX3_makeSecond_93 (by decide) rfl ?_
              refine lv_iload_n C.1.1 C.1.2.1 dX3_makeSecond_96 rfl (lv_at hl 1 rfl) ?_
              obtain ⟨q22, hD⟩ := g_ck hD
              refine mr_aald C hw (by decide) tf_118 (by decide) (by decide) rfl rfl q22 (fr_118 _ (g_lt q22)).1 dX3_makeSecond_97 ?_
              refine lv_iload C.1.1 C.1.2.1 dX3_makeSecond_98 (lv_at hl 4 rfl) ?_
              refine lv_iconst (v := 1) C.1.1 C.1.2.1 dX3_makeSecond_100 (by decide) ?_
              refine lv_iadd C.1.1 C.1.2.1 dX3_makeSecond_101 ?_
              obtain ⟨q23, hD⟩ := g_ck hD
              refine mr_iald C hw (fr_118 _ (g_lt q22)).2.2 (fr_118 _ (g_lt q22)).2.1 q23 dX3_makeSecond_102 ?_
              refine lv_bipush (v := 7) C.1.1 C.1.2.1 dX3_makeSecond_103 (by decide) ?_
              refine lv_ishr C.1.1 C.1.2.1 dX3_makeSecond_105 ?_
              refine lv_goto (tgt := 110) C.1.1 C.1.2.1 dX3_makeSecond_106 (by decide) ?_
              exact hb110 v2 v3 v4 ((M (119 + a1.toNatClampNeg) (v4 + 1).toNatClampNeg) >>> (7 &&& 31)) M L _ _ ls hD hw (lv_sub hl [0, 1, 2, 3, 4] rfl)
      unfold fX3_makeSecond_i56 at hD
      refine lv_iload_n C.1.1 C.1.2.1 dX3_makeSecond_56 rfl (lv_at hl 2 rfl) ?_
      refine lv_iconst (v := 2) C.1.1 C.1.2.1 dX3_makeSecond_57 (by decide) ?_
      refine lv_icmp_ge (tgt := 175) C.1.1 C.1.2.1 dX3_makeSecond_58 (by decide) (fun c13 => ?_) (fun c13 => ?_)
      · replace hD := g_pos c13 hD
        exact mr_vret C hr hlocks hw (Option.some.inj hD) dX3_makeSecond_175
      · replace hD := g_neg c13 hD
        refine lv_aload_n C.1.1 C.1.2.1 dX3_makeSecond_61 rfl (lv_at hl 0 rfl) ?_
        refine mr_getR C hw kc_3 3 (by decide) tf_97 ff_97_3 wd_300 dX3_makeSecond_62 (by decide) rfl ?_
        refine lv_iload_n C.1.1 C.1.2.1 dX3_makeSecond_65 rfl (lv_at hl 1 rfl) ?_
        obtain ⟨q14, hD⟩ := g_ck hD
        refine mr_aald C hw (by decide) tf_118 (by decide) (by decide) rfl rfl q14 (fr_118 _ (g_lt q14)).1 dX3_makeSecond_66 ?_
        refine lv_iconst (v := 0) C.1.1 C.1.2.1 dX3_makeSecond_67 (by decide) ?_
        refine mr_iald C hw (fr_118 _ (g_lt q14)).2.2 (fr_118 _ (g_lt q14)).2.1 (show vp_in 0 16 from by unfold vp_in; decide) dX3_makeSecond_68 ?_
        refine lv_bipush (v := 7) C.1.1 C.1.2.1 dX3_makeSecond_69 (by decide) ?_
        refine lv_ishr C.1.1 C.1.2.1 dX3_makeSecond_71 ?_
        obtain ⟨x16, ex16, hD⟩ := g_let hD
        refine W.eq (g2 := F0 m 72 ls (.int x16 :: [])) (by rw [ex16]) ?_
        refine lv_istore_n (lv' := [(3, .int x16), (0, .ref (ad 97)), (1, .int a1), (2, .int v2)]) C.1.1 C.1.2.1 dX3_makeSecond_72 rfl hl (by decide) rfl (fun ls hl => ?_)
        refine lv_iconst (v := 0) C.1.1 C.1.2.1 dX3_makeSecond_73 (by decide) ?_
        refine lv_istore (lv' := [(4, .int 0), (3, .int x16), (0, .ref (ad 97)), (1, .int a1), (2, .int v2)]) C.1.1 C.1.2.1 dX3_makeSecond_74 hl (by decide) rfl (fun ls hl => ?_)
        exact hh76 fu v2 x16 0 M L _ _ ls hD hw (lv_sub hl [2, 3, 4, 1, 0] rfl)
  have hh28 : ∀ (f : Nat) (v2 : Int32) (M : mwM) (L : mwL) (H : Heap) (locs : List Loc) (ls : Array Slot), fX3_makeSecond_h28 fu a1 f (v2, M, L) = some (M0, L0) → mw_W G ad NF TF FF M L H locs → lv_has ls 6 [(0, .ref (ad 97)), (1, .int a1), (2, .int v2)] → W p l e ({ frames := 1, cells := 0, slots := 0, locals := 30 }) s m [.ref (ad 97), .int a1].toArray below meth c H locs 0 0 (MQ below (mw_Qv G ad NF TF FF (mw_eqV M0 L0)) [.ref (ad 97), .int a1].toArray s 0 0 (mw_fr G)) (F0 m 28 ls []) := by
    intro f
    induction f with
    | zero => intro v2 M L H locs ls hD; cases hD
    | succ f28 ih28 =>
      intro v2 M L H locs ls hD hw hl
      replace hD : fX3_makeSecond_i28 fu a1 (fX3_makeSecond_h28 fu a1 f28) v2 M L = some (M0, L0) := hD
      unfold fX3_makeSecond_i28 at hD
      refine lv_iload_n C.1.1 C.1.2.1 dX3_makeSecond_28 rfl (lv_at hl 2 rfl) ?_
      refine lv_bipush (v := 16) C.1.1 C.1.2.1 dX3_makeSecond_29 (by decide) ?_
      refine lv_icmp_ge (tgt := 54) C.1.1 C.1.2.1 dX3_makeSecond_31 (by decide) (fun c7 => ?_) (fun c7 => ?_)
      · replace hD := g_pos c7 hD
        refine lv_iconst (v := 0) C.1.1 C.1.2.1 dX3_makeSecond_54 (by decide) ?_
        refine lv_istore_n (lv' := [(2, .int 0), (0, .ref (ad 97)), (1, .int a1)]) C.1.1 C.1.2.1 dX3_makeSecond_55 rfl hl (by decide) rfl (fun ls hl => ?_)
        exact hh56 fu 0 M L _ _ ls hD hw (lv_sub hl [1, 2, 0] rfl)
      · replace hD := g_neg c7 hD
        refine lv_aload_n C.1.1 C.1.2.1 dX3_makeSecond_34 rfl (lv_at hl 0 rfl) ?_
        refine mr_getR C hw kc_3 3 (by decide) tf_97 ff_97_3 wd_300 dX3_makeSecond_35 (by decide) rfl ?_
        refine lv_iload_n C.1.1 C.1.2.1 dX3_makeSecond_38 rfl (lv_at hl 1 rfl) ?_
        obtain ⟨q8, hD⟩ := g_ck hD
        refine mr_aald C hw (by decide) tf_118 (by decide) (by decide) rfl rfl q8 (fr_118 _ (g_lt q8)).1 dX3_makeSecond_39 ?_
        refine lv_iload_n C.1.1 C.1.2.1 dX3_makeSecond_40 rfl (lv_at hl 2 rfl) ?_
        refine lv_aload_n C.1.1 C.1.2.1 dX3_makeSecond_41 rfl (lv_at hl 0 rfl) ?_
        refine mr_getR C hw kc_3 6 (by decide) tf_97 ff_97_6 wd_303 dX3_makeSecond_42 (by decide) rfl ?_
        refine lv_iload_n C.1.1 C.1.2.1 dX3_makeSecond_45 rfl (lv_at hl 2 rfl) ?_
        obtain ⟨q9, hD⟩ := g_ck hD
        refine mr_iald C hw (by decide) tf_138 q9 dX3_makeSecond_46 ?_
        obtain ⟨q10, hD⟩ := g_ck hD
        obtain ⟨M11, eM11, hD⟩ := g_let hD
        refine mr_iast C hw (fr_118 _ (g_lt q8)).2.2 (fr_118 _ (g_lt q8)).2.1 q10 dX3_makeSecond_47 (fun H locs hw => ?_)
        replace hw : mw_W G ad NF TF FF M11 L H locs := by rw [eM11]; exact hw
        obtain ⟨x12, ex12, hD⟩ := g_let hD
        refine lv_iinc (v := x12) (lv' := [(2, .int x12), (0, .ref (ad 97)), (1, .int a1)]) C.1.1 C.1.2.1 dX3_makeSecond_48 hl (k := 2) rfl (by rw [ex12]; rfl) (by decide) rfl (fun ls hl => ?_)
        refine lv_goto (tgt := 28) C.1.1 C.1.2.1 dX3_makeSecond_51 (by decide) ?_
        exact ih28 x12 M11 L _ _ ls hD hw (lv_sub hl [1, 2, 0] rfl)
  have hh2 : ∀ (f : Nat) (v2 : Int32) (M : mwM) (L : mwL) (H : Heap) (locs : List Loc) (ls : Array Slot), fX3_makeSecond_h2 fu a1 f (v2, M, L) = some (M0, L0) → mw_W G ad NF TF FF M L H locs → lv_has ls 6 [(0, .ref (ad 97)), (1, .int a1), (2, .int v2)] → W p l e ({ frames := 1, cells := 0, slots := 0, locals := 30 }) s m [.ref (ad 97), .int a1].toArray below meth c H locs 0 0 (MQ below (mw_Qv G ad NF TF FF (mw_eqV M0 L0)) [.ref (ad 97), .int a1].toArray s 0 0 (mw_fr G)) (F0 m 2 ls []) := by
    intro f
    induction f with
    | zero => intro v2 M L H locs ls hD; cases hD
    | succ f2 ih2 =>
      intro v2 M L H locs ls hD hw hl
      replace hD : fX3_makeSecond_i2 fu a1 (fX3_makeSecond_h2 fu a1 f2) v2 M L = some (M0, L0) := hD
      unfold fX3_makeSecond_i2 at hD
      refine lv_iload_n C.1.1 C.1.2.1 dX3_makeSecond_2 rfl (lv_at hl 2 rfl) ?_
      refine lv_bipush (v := 16) C.1.1 C.1.2.1 dX3_makeSecond_3 (by decide) ?_
      refine lv_icmp_ge (tgt := 21) C.1.1 C.1.2.1 dX3_makeSecond_5 (by decide) (fun c1 => ?_) (fun c1 => ?_)
      · replace hD := g_pos c1 hD
        refine lv_aload_n C.1.1 C.1.2.1 dX3_makeSecond_21 rfl (lv_at hl 0 rfl) ?_
        refine lv_iload_n C.1.1 C.1.2.1 dX3_makeSecond_22 rfl (lv_at hl 1 rfl) ?_
        obtain ⟨M2, L3, h1, hD⟩ := g_b2 hD
        refine md_cvV (As := [.int a1]) (rest := []) C hw (tX3_encrypt l G ad fu a1 M L h1) kc_3 (by decide) tf_97 wd_1212 cwX3_encrypt ⟨Nat.le_of_ble_eq_true rfl, Nat.le_of_ble_eq_true rfl⟩ rfl hl.1 (Nat.le_of_ble_eq_true rfl) dX3_makeSecond_23 rfl rfl ⟨Nat.zero_le _, Nat.zero_le _⟩ rfl (fun H locs hw => ?_)
        refine lv_iconst (v := 0) C.1.1 C.1.2.1 dX3_makeSecond_26 (by decide) ?_
        refine lv_istore_n (lv' := [(2, .int 0), (0, .ref (ad 97)), (1, .int a1)]) C.1.1 C.1.2.1 dX3_makeSecond_27 rfl hl (by decide) rfl (fun ls hl => ?_)
        exact hh28 fu 0 M2 L3 _ _ ls hD hw (lv_sub hl [1, 2, 0] rfl)
      · replace hD := g_neg c1 hD
        refine lv_aload_n C.1.1 C.1.2.1 dX3_makeSecond_8 rfl (lv_at hl 0 rfl) ?_
        refine mr_getR C hw kc_3 5 (by decide) tf_97 ff_97_5 wd_302 dX3_makeSecond_9 (by decide) rfl ?_
        refine lv_iload_n C.1.1 C.1.2.1 dX3_makeSecond_12 rfl (lv_at hl 2 rfl) ?_
        refine lv_iconst (v := 0) C.1.1 C.1.2.1 dX3_makeSecond_13 (by decide) ?_
        obtain ⟨q4, hD⟩ := g_ck hD
        obtain ⟨M5, eM5, hD⟩ := g_let hD
        refine mr_iast C hw (by decide) tf_137 q4 dX3_makeSecond_14 (fun H locs hw => ?_)
        replace hw : mw_W G ad NF TF FF M5 L H locs := by rw [eM5]; exact hw
        obtain ⟨x6, ex6, hD⟩ := g_let hD
        refine lv_iinc (v := x6) (lv' := [(2, .int x6), (0, .ref (ad 97)), (1, .int a1)]) C.1.1 C.1.2.1 dX3_makeSecond_15 hl (k := 2) rfl (by rw [ex6]; rfl) (by decide) rfl (fun ls hl => ?_)
        refine lv_goto (tgt := 2) C.1.1 C.1.2.1 dX3_makeSecond_18 (by decide) ?_
        exact ih2 x6 M5 L _ _ ls hD hw (lv_sub hl [1, 2, 0] rfl)
  unfold DX3_makeSecond at hD
  refine lv_iconst (v := 0) C.1.1 C.1.2.1 dX3_makeSecond_0 (by decide) ?_
  refine lv_istore_n (lv' := [(2, .int 0), (0, .ref (ad 97)), (1, .int a1)]) C.1.1 C.1.2.1 dX3_makeSecond_1 rfl hl (by decide) rfl (fun ls hl => ?_)
  exact hh2 fu 0 M L _ _ ls hD hw (lv_sub hl [1, 2, 0] rfl)

theorem dX3_learn_0 : decode cX3_learn 0 = .ok (.aload_n 0, 1) := by decide +kernel
theorem dX3_learn_1 : decode cX3_learn 1 = .ok (.getfield 24, 3) := by decide +kernel
theorem dX3_learn_4 : decode cX3_learn 4 = .ok (.iload_n 1, 1) := by decide +kernel
theorem dX3_learn_5 : decode cX3_learn 5 = .ok (.baload, 1) := by decide +kernel
theorem dX3_learn_6 : decode cX3_learn 6 = .ok (.ifCond .ne 20, 3) := by decide +kernel
theorem dX3_learn_9 : decode cX3_learn 9 = .ok (.aload_n 0, 1) := by decide +kernel
theorem dX3_learn_10 : decode cX3_learn 10 = .ok (.getfield 24, 3) := by decide +kernel
theorem dX3_learn_13 : decode cX3_learn 13 = .ok (.iload_n 1, 1) := by decide +kernel
theorem dX3_learn_14 : decode cX3_learn 14 = .ok (.iconst 1, 1) := by decide +kernel
theorem dX3_learn_15 : decode cX3_learn 15 = .ok (.bastore, 1) := by decide +kernel
theorem dX3_learn_16 : decode cX3_learn 16 = .ok (.aload_n 0, 1) := by decide +kernel
theorem dX3_learn_17 : decode cX3_learn 17 = .ok (.iload_n 1, 1) := by decide +kernel
theorem dX3_learn_18 : decode cX3_learn 18 = .ok (.invokevirtual 41, 3) := by decide +kernel
theorem dX3_learn_21 : decode cX3_learn 21 = .ok (.aload_n 0, 1) := by decide +kernel
theorem dX3_learn_22 : decode cX3_learn 22 = .ok (.iload_n 1, 1) := by decide +kernel
theorem dX3_learn_23 : decode cX3_learn 23 = .ok (.invokevirtual 45, 3) := by decide +kernel
theorem dX3_learn_26 : decode cX3_learn 26 = .ok (.return_, 1) := by decide +kernel
theorem cwX3_learn : mw_cwV yX3_learn cX3_learn 2 (none) 1 := ⟨⟨wd_8, wd_1203, by decide +kernel⟩, wd_1201, wd_1202⟩
set_option maxHeartbeats 4000000 in
set_option maxRecDepth 100000 in
theorem tX3_learn (l : Launch) (G : mwG) (ad : Nat → Nat) (fu : Nat) (a1 : Int32) (M : mwM) (L : mwL) {M0 : mwM} {L0 : mwL} (hD : DX3_learn fu a1 M L = some (M0, L0)) : Met l yX3_learn (Cond.code yX3_learn cX3_learn 2 (none) :: GT) ({ frames := 2, cells := 0, slots := 0, locals := 55 }) (mw_Pre G ad NF TF FF M L [.ref (ad 97), .int a1]) (mw_Qv G ad NF TF FF (mw_eqV M0 L0)) 0 0 (mw_fr G) := by
  refine mw_enter (by decide) (Nat.le_of_ble_eq_true rfl) ?_
  intro p e s m below meth c ls C hr hlocks hnm hw hl
  have hl : lv_has ls 2 [(0, .ref (ad 97)), (1, .int a1)] := hl
  have hb26 : ∀ (M : mwM) (L : mwL) (H : Heap) (locs : List Loc) (ls : Array Slot), fX3_learn_b26 fu a1 M L = some (M0, L0) → mw_W G ad NF TF FF M L H locs → lv_has ls 2 [] → W p l e ({ frames := 2, cells := 0, slots := 0, locals := 55 }) s m [.ref (ad 97), .int a1].toArray below meth c H locs 0 0 (MQ below (mw_Qv G ad NF TF FF (mw_eqV M0 L0)) [.ref (ad 97), .int a1].toArray s 0 0 (mw_fr G)) (F0 m 26 ls []) := by
    intro M L H locs ls hD hw hl
    unfold fX3_learn_b26 at hD
    exact mr_vret C hr hlocks hw (Option.some.inj hD) dX3_learn_26
  unfold DX3_learn at hD
  refine lv_aload_n C.1.1 C.1.2.1 dX3_learn_0 rfl (lv_at hl 0 rfl) ?_
  refine mr_getR C hw kc_3 4 (by decide) tf_97 ff_97_4 wd_301 dX3_learn_1 (by decide) rfl ?_
  refine lv_iload_n C.1.1 C.1.2.1 dX3_learn_4 rfl (lv_at hl 1 rfl) ?_
  obtain ⟨q1, hD⟩ := g_ck hD
  refine mr_zald C hw (by decide) tf_136 q1 dX3_learn_5 ?_
  refine lv_if_ne (tgt := 26) C.1.1 C.1.2.1 dX3_learn_6 (by decide) (fun c2 => ?_) (fun c2 => ?_)
  · replace hD := g_neg c2 hD
    exact hb26 M L _ _ ls hD hw (lv_sub hl [] rfl)
  · replace hD := g_pos c2 hD
    refine lv_aload_n C.1.1 C.1.2.1 dX3_learn_9 rfl (lv_at hl 0 rfl) ?_
    refine mr_getR C hw kc_3 4 (by decide) tf_97 ff_97_4 wd_301 dX3_learn_10 (by decide) rfl ?_
    refine lv_iload_n C.1.1 C.1.2.1 dX3_learn_13 rfl (lv_at hl 1 rfl) ?_
    refine lv_iconst (v := 1) C.1.1 C.1.2.1 dX3_learn_14 (by decide) ?_
    obtain ⟨q3, hD⟩ := g_ck hD
    obtain ⟨M4, eM4, hD⟩ := g_let hD
    refine mr_zast C hw (by decide) tf_136 q3 dX3_learn_15 (fun H locs hw => ?_)
    replace hw : mw_W G ad NF TF FF M4 L H locs := by rw [eM4]; exact hw
    refine lv_aload_n C.1.1 C.1.2.1 dX3_learn_16 rfl (lv_at hl 0 rfl) ?_
    refine lv_iload_n C.1.1 C.1.2.1 dX3_learn_17 rfl (lv_at hl 1 rfl) ?_
    obtain ⟨M5, L6, h1, hD⟩ := g_b2 hD
    refine md_cvV (As := [.int a1]) (rest := []) C hw (tX3_spreadKey l G ad fu a1 M4 L h1) kc_3 (by decide) tf_97 wd_1204 cwX3_spreadKey ⟨Nat.le_of_ble_eq_true rfl, Nat.le_of_ble_eq_true rfl⟩ rfl hl.1 (Nat.le_of_ble_eq_true rfl) dX3_learn_18 rfl rfl ⟨Nat.zero_le _, Nat.zero_le _⟩ rfl (fun H locs hw => ?_)
    refine lv_aload_n C.1.1 C.1.2.1 dX3_learn_21 rfl (lv_at hl 0 rfl) ?_
    refine lv_iload_n C.1.1 C.1.2.1 dX3_learn_22 rfl (lv_at hl 1 rfl) ?_
    obtain ⟨M7, L8, h1, hD⟩ := g_b2 hD
    refine md_cvV (As := [.int a1]) (rest := []) C hw (tX3_makeSecond l G ad fu a1 M5 L6 h1) kc_3 (by decide) tf_97 wd_1208 cwX3_makeSecond ⟨Nat.le_of_ble_eq_true rfl, Nat.le_of_ble_eq_true rfl⟩ rfl hl.1 (Nat.le_of_ble_eq_true rfl) dX3_learn_23 rfl rfl ⟨Nat.zero_le _, Nat.zero_le _⟩ rfl (fun H locs hw => ?_)
    exact hb26 M7 L8 _ _ ls hD hw (lv_sub hl [] rfl)

theorem dX3_make_0 : decode cX3_make 0 = .ok (.iconst 0, 1) := by decide +kernel
theorem dX3_make_1 : decode cX3_make 1 = .ok (.istore 4, 2) := by decide +kernel
theorem dX3_make_3 : decode cX3_make 3 = .ok (.iload 4, 2) := by decide +kernel
theorem dX3_make_5 : decode cX3_make 5 = .ok (.bipush 16, 2) := by decide +kernel
theorem dX3_make_7 : decode cX3_make 7 = .ok (.if_icmp .ge 52, 3) := by decide +kernel
theorem dX3_make_10 : decode cX3_make 10 = .ok (.aload_n 0, 1) := by decide +kernel
theorem dX3_make_11 : decode cX3_make 11 = .ok (.getfield 28, 3) := by decide +kernel
theorem dX3_make_14 : decode cX3_make 14 = .ok (.iload 4, 2) := by decide +kernel
theorem dX3_make_16 : decode cX3_make 16 = .ok (.iload 4, 2) := by decide +kernel
theorem dX3_make_18 : decode cX3_make 18 = .ok (.iload_n 3, 1) := by decide +kernel
theorem dX3_make_19 : decode cX3_make 19 = .ok (.if_icmp .ge 10, 3) := by decide +kernel
theorem dX3_make_22 : decode cX3_make 22 = .ok (.aload_n 2, 1) := by decide +kernel
theorem dX3_make_23 : decode cX3_make 23 = .ok (.iload 4, 2) := by decide +kernel
theorem dX3_make_25 : decode cX3_make 25 = .ok (.iaload, 1) := by decide +kernel
theorem dX3_make_26 : decode cX3_make 26 = .ok (.goto 16, 3) := by decide +kernel
theorem dX3_make_29 : decode cX3_make 29 = .ok (.iload 4, 2) := by decide +kernel
theorem dX3_make_31 : decode cX3_make 31 = .ok (.iload_n 3, 1) := by decide +kernel
theorem dX3_make_32 : decode cX3_make 32 = .ok (.if_icmp .ne 9, 3) := by decide +kernel
theorem dX3_make_35 : decode cX3_make 35 = .ok (.sipush 128, 3) := by decide +kernel
theorem dX3_make_38 : decode cX3_make 38 = .ok (.goto 4, 3) := by decide +kernel
theorem dX3_make_41 : decode cX3_make 41 = .ok (.iconst 0, 1) := by decide +kernel
theorem dX3_make_42 : decode cX3_make 42 = .ok (.aload_n 0, 1) := by decide +kernel
theorem dX3_make_43 : decode cX3_make 43 = .ok (.getfield 21, 3) := by decide +kernel
theorem dX3_make_46 : decode cX3_make 46 = .ok (.iload_n 1, 1) := by decide +kernel
theorem dX3_make_47 : decode cX3_make 47 = .ok (.aaload, 1) := by decide +kernel
theorem dX3_make_48 : decode cX3_make 48 = .ok (.iload 4, 2) := by decide +kernel
theorem dX3_make_50 : decode cX3_make 50 = .ok (.iaload, 1) := by decide +kernel
theorem dX3_make_51 : decode cX3_make 51 = .ok (.ixor, 1) := by decide +kernel
theorem dX3_make_52 : decode cX3_make 52 = .ok (.iastore, 1) := by decide +kernel
theorem dX3_make_53 : decode cX3_make 53 = .ok (.iinc 4 1, 3) := by decide +kernel
theorem dX3_make_56 : decode cX3_make 56 = .ok (.goto (-53), 3) := by decide +kernel
theorem dX3_make_59 : decode cX3_make 59 = .ok (.aload_n 0, 1) := by decide +kernel
theorem dX3_make_60 : decode cX3_make 60 = .ok (.iload_n 1, 1) := by decide +kernel
theorem dX3_make_61 : decode cX3_make 61 = .ok (.invokevirtual 48, 3) := by decide +kernel
theorem dX3_make_64 : decode cX3_make 64 = .ok (.return_, 1) := by decide +kernel
theorem cwX3_make : mw_cwV yX3_make cX3_make 5 (none) 3 := ⟨⟨wd_8, wd_1330, by decide +kernel⟩, wd_1328, wd_1329⟩
set_option maxHeartbeats 4000000 in
set_option maxRecDepth 100000 in
theorem tX3_make (l : Launch) (G : mwG) (ad : Nat → Nat) (fu : Nat) (a1 : Int32) (a2 : Nat) (n2 : Nat) (a3 : Int32) (M : mwM) (L : mwL) {M0 : mwM} {L0 : mwL} (hD : DX3_make fu a1 a2 n2 a3 M L = some (M0, L0)) (hk2 : a2 < NF) (hT2 : TF a2 = (0, n2)) : Met l yX3_make (Cond.code yX3_make cX3_make 5 (none) :: GT) ({ frames := 1, cells := 0, slots := 0, locals := 30 }) (mw_Pre G ad NF TF FF M L [.ref (ad 97), .int a1, .ref (ad a2), .int a3]) (mw_Qv G ad NF TF FF (mw_eqV M0 L0)) 0 0 (mw_fr G) := by
  refine mw_enter (by decide) (Nat.le_of_ble_eq_true rfl) ?_
  intro p e s m below meth c ls C hr hlocks hnm hw hl
  have hl : lv_has ls 5 [(0, .ref (ad 97)), (1, .int a1), (2, .ref (ad a2)), (3, .int a3)] := hl
  have hh3 : ∀ (f : Nat) (v4 : Int32) (M : mwM) (L : mwL) (H : Heap) (locs : List Loc) (ls : Array Slot), fX3_make_h3 fu a1 a2 n2 a3 f (v4, M, L) = some (M0, L0) → mw_W G ad NF TF FF M L H locs → lv_has ls 5 [(0, .ref (ad 97)), (1, .int a1), (2, .ref (ad a2)), (3, .int a3), (4, .int v4)] → W p l e ({ frames := 1, cells := 0, slots := 0, locals := 30 }) s m [.ref (ad 97), .int a1, .ref (ad a2), .int a3].toArray below meth c H locs 0 0 (MQ below (mw_Qv G ad NF TF FF (mw_eqV M0 L0)) [.ref (ad 97), .int a1, .ref (ad a2), .int a3].toArray s 0 0 (mw_fr G)) (F0 m 3 ls []) := by
    intro f
    induction f with
    | zero => intro v4 M L H locs ls hD; cases hD
    | succ f3 ih3 =>
      intro v4 M L H locs ls hD hw hl
      replace hD : fX3_make_i3 fu a1 a2 n2 a3 (fX3_make_h3 fu a1 a2 n2 a3 f3) v4 M L = some (M0, L0) := hD
      have hb42 : ∀ (v4 : Int32) (s1 : Int32) (s2 : Int32) (M : mwM) (L : mwL) (H : Heap) (locs : List Loc) (ls : Array Slot), fX3_make_b42 fu a1 a2 n2 a3 (fX3_make_h3 fu a1 a2 n2 a3 f3) v4 s1 s2 M L = some (M0, L0) → mw_W G ad NF TF FF M L H locs → lv_has ls 5 [(0, .ref (ad 97)), (1, .int a1), (2, .ref (ad a2)), (3, .int a3), (4, .int v4)] → W p l e ({ frames := 1, cells := 0, slots := 0, locals := 30 }) s m [.ref (ad 97), .int a1, .ref (ad a2), .int a3].toArray below meth c H locs 0 0 (MQ below (mw_Qv G ad NF TF FF (mw_eqV M0 L0)) [.ref (ad 97), .int a1, .ref (ad a2), .int a3].toArray s 0 0 (mw_fr G)) (F0 m 42 ls [.int s2, .int s1, .ref (ad 137)]) := by
        intro v4 s1 s2 M L H locs ls hD hw hl
        unfold fX3_make_b42 at hD
        refine lv_aload_n C.1.1 C.1.2.1 dX3_make_42 rfl (lv_at hl 0 rfl) ?_
        refine mr_getR C hw kc_3 3 (by decide) tf_97 ff_97_3 wd_300 dX3_make_43 (by decide) rfl ?_
        refine lv_iload_n C.1.1 C.1.2.1 dX3_make_46 rfl (lv_at hl 1 rfl) ?_
        obtain ⟨q7, hD⟩ := g_ck hD
        refine mr_aald C hw (by decide) tf_118 (by decide) (by decide) rfl rfl q7 (fr_118 _ (g_lt q7)).1 dX3_make_47 ?_
        refine lv_iload C.1.1 C.1.2.1 dX3_make_48 (lv_at hl 4 rfl) ?_
        obtain ⟨q8, hD⟩ := g_ck hD
        refine mr_iald C hw (fr_118 _ (g_lt q7)).2.2 (fr_118 _ (g_lt q7)).2.1 q8 dX3_make_50 ?_
        refine lv_ixor C.1.1 C.1.2.1 dX3_make_51 ?_
        obtain ⟨q9, hD⟩ := g_ck hD
        obtain ⟨M10, eM10, hD⟩ := g_let hD
        refine mr_iast C hw (by decide) tf_137 q9 dX3_make_52 (fun H locs hw => ?_)
        replace hw : mw_W G ad NF TF FF M10 L H locs := by rw [eM10]; exact hw
        obtain ⟨x11, ex11, hD⟩ := g_let hD
        refine lv_iinc (v := x11) (lv' := [(4, .int x11), (0, .ref (ad 97)), (1, .int a1), (2, .ref (ad a2)), (3, .int a3)]) C.1.1 C.1.2.1 dX3_make_53 hl (k := 4) rfl (by rw [ex11]; rfl) (by decide) rfl (fun ls hl => ?_)
        refine lv_goto (tgt := 3) C.1.1 C.1.2.1 dX3_make_56 (by decide) ?_
        exact ih3 x11 M10 L _ _ ls hD hw (lv_sub hl [1, 2, 3, 4, 0] rfl)
      unfold fX3_make_i3 at hD
      refine lv_iload C.1.1 C.1.2.1 dX3_make_3 (lv_at hl 4 rfl) ?_
      refine lv_bipush (v := 16) C.1.1 C.1.2.1 dX3_make_5 (by decide) ?_
      refine lv_icmp_ge (tgt := 59) C.1.1 C.1.2.1 dX3_make_7 (by decide) (fun c1 => ?_) (fun c1 => ?_)
      · replace hD := g_pos c1 hD
        refine lv_aload_n C.1.1 C.1.2.1 dX3_make_59 rfl (lv_at hl 0 rfl) ?_
        refine lv_iload_n C.1.1 C.1.2.1 dX3_make_60 rfl (lv_at hl 1 rfl) ?_
        obtain ⟨M2, L3, h1, hD⟩ := g_b2 hD
        refine md_cvV (As := [.int a1]) (rest := []) C hw (tX3_encrypt l G ad fu a1 M L h1) kc_3 (by decide) tf_97 wd_1212 cwX3_encrypt ⟨Nat.le_of_ble_eq_true rfl, Nat.le_of_ble_eq_true rfl⟩ rfl hl.1 (Nat.le_of_ble_eq_true rfl) dX3_make_61 rfl rfl ⟨Nat.zero_le _, Nat.zero_le _⟩ rfl (fun H locs hw => ?_)
        exact mr_vret C hr hlocks hw (Option.some.inj hD) dX3_make_64
      · replace hD := g_neg c1 hD
        refine lv_aload_n C.1.1 C.1.2.1 dX3_make_10 rfl (lv_at hl 0 rfl) ?_
        refine mr_getR C hw kc_3 5 (by decide) tf_97 ff_97_5 wd_302 dX3_make_11 (by decide) rfl ?_
        refine lv_iload C.1.1 C.1.2.1 dX3_make_14 (lv_at hl 4 rfl) ?_
        refine lv_iload C.1.1 C.1.2.1 dX3_make_16 (lv_at hl 4 rfl) ?_
        refine lv_iload_n C.1.1 C.1.2.1 dX3_make_18 rfl (lv_at hl 3 rfl) ?_
        refine lv_icmp_ge (tgt := 29) C.1.1 C.1.2.1 dX3_make_19 (by decide) (fun c4 => ?_) (fun c4 => ?_)
        · replace hD := g_pos c4 hD
          refine lv_iload C.1.1 C.1.2.1 dX3_make_29 (lv_at hl 4 rfl) ?_
          refine lv_iload_n C.1.1 C.1.2.1 dX3_make_31 rfl (lv_at hl 3 rfl) ?_
          refine lv_icmp_ne (tgt := 41) C.1.1 C.1.2.1 dX3_make_32 (by decide) (fun c5 => ?_) (fun c5 => ?_)
          · replace hD := g_neg c5 hD
            refine lv_iconst (v := 0) C.1.1 C.1.2.1 dX3_make_41 (by decide) ?_
            exact hb42 v4 v4 0 M L _ _ ls hD hw (lv_sub hl [0, 1, 2, 3, 4] rfl)
          · replace hD := g_pos c5 hD
            refine lv_sipush (v := 128) C.1.1 C.1.2.1 dX3_make_35 (by decide) ?_
            refine lv_goto (tgt := 42) C.1.1 C.1.2.1 dX3_make_38 (by decide) ?_
            exact hb42 v4 v4 128 M L _ _ ls hD hw (lv_sub hl [0, 1, 2, 3, 4] rfl)
        · replace hD := g_neg c4 hD
          refine lv_aload_n C.1.1 C.1.2.1 dX3_make_22 rfl (lv_at hl 2 rfl) ?_
          refine lv_iload C.1.1 C.1.2.1 dX3_make_23 (lv_at hl 4 rfl) ?_
          obtain ⟨q6, hD⟩ := g_ck hD
          refine mr_iald C hw hk2 hT2 q6 dX3_make_25 ?_
          refine lv_goto (tgt := 42) C.1.1 C.1.2.1 dX3_make_26 (by decide) ?_
          exact hb42 v4 v4 (M a2 v4.toNatClampNeg) M L _ _ ls hD hw (lv_sub hl [0, 1, 2, 3, 4] rfl)
  unfold DX3_make at hD
  refine lv_iconst (v := 0) C.1.1 C.1.2.1 dX3_make_0 (by decide) ?_
  refine lv_istore (lv' := [(4, .int 0), (0, .ref (ad 97)), (1, .int a1), (2, .ref (ad a2)), (3, .int a3)]) C.1.1 C.1.2.1 dX3_make_1 hl (by decide) rfl (fun ls hl => ?_)
  exact hh3 fu 0 M L _ _ ls hD hw (lv_sub hl [1, 2, 3, 4, 0] rfl)

theorem dX3_isOut_0 : decode cX3_isOut 0 = .ok (.iconst 0, 1) := by decide +kernel
theorem dX3_isOut_1 : decode cX3_isOut 1 = .ok (.istore_n 3, 1) := by decide +kernel
theorem dX3_isOut_2 : decode cX3_isOut 2 = .ok (.iload_n 3, 1) := by decide +kernel
theorem dX3_isOut_3 : decode cX3_isOut 3 = .ok (.iconst 4, 1) := by decide +kernel
theorem dX3_isOut_4 : decode cX3_isOut 4 = .ok (.if_icmp .ge 25, 3) := by decide +kernel
theorem dX3_isOut_7 : decode cX3_isOut 7 = .ok (.aload_n 1, 1) := by decide +kernel
theorem dX3_isOut_8 : decode cX3_isOut 8 = .ok (.iload_n 2, 1) := by decide +kernel
theorem dX3_isOut_9 : decode cX3_isOut 9 = .ok (.iload_n 3, 1) := by decide +kernel
theorem dX3_isOut_10 : decode cX3_isOut 10 = .ok (.iadd, 1) := by decide +kernel
theorem dX3_isOut_11 : decode cX3_isOut 11 = .ok (.iaload, 1) := by decide +kernel
theorem dX3_isOut_12 : decode cX3_isOut 12 = .ok (.aload_n 0, 1) := by decide +kernel
theorem dX3_isOut_13 : decode cX3_isOut 13 = .ok (.getfield 31, 3) := by decide +kernel
theorem dX3_isOut_16 : decode cX3_isOut 16 = .ok (.iload_n 3, 1) := by decide +kernel
theorem dX3_isOut_17 : decode cX3_isOut 17 = .ok (.iaload, 1) := by decide +kernel
theorem dX3_isOut_18 : decode cX3_isOut 18 = .ok (.if_icmp .eq 5, 3) := by decide +kernel
theorem dX3_isOut_21 : decode cX3_isOut 21 = .ok (.iconst 0, 1) := by decide +kernel
theorem dX3_isOut_22 : decode cX3_isOut 22 = .ok (.ireturn, 1) := by decide +kernel
theorem dX3_isOut_23 : decode cX3_isOut 23 = .ok (.iinc 3 1, 3) := by decide +kernel
theorem dX3_isOut_26 : decode cX3_isOut 26 = .ok (.goto (-24), 3) := by decide +kernel
theorem dX3_isOut_29 : decode cX3_isOut 29 = .ok (.iconst 1, 1) := by decide +kernel
theorem dX3_isOut_30 : decode cX3_isOut 30 = .ok (.ireturn, 1) := by decide +kernel
theorem cwX3_isOut : mw_cwV yX3_isOut cX3_isOut 4 ((some .boolean)) 2 := ⟨⟨wd_8, wd_1595, by decide +kernel⟩, wd_1593, wd_1594⟩
set_option maxHeartbeats 4000000 in
set_option maxRecDepth 100000 in
theorem tX3_isOut (l : Launch) (G : mwG) (ad : Nat → Nat) (fu : Nat) (a1 : Nat) (n1 : Nat) (a2 : Int32) (M : mwM) (L : mwL) {r0 : Int32} {M0 : mwM} {L0 : mwL} (hD : DX3_isOut fu a1 n1 a2 M L = some (r0, M0, L0)) (hk1 : a1 < NF) (hT1 : TF a1 = (0, n1)) : Met l yX3_isOut (Cond.code yX3_isOut cX3_isOut 4 ((some .boolean)) :: GT) ({ frames := 0, cells := 0, slots := 0, locals := 0 }) (mw_Pre G ad NF TF FF M L [.ref (ad 97), .ref (ad a1), .int a2]) (mw_Qi G ad NF TF FF (mw_eqI r0 M0 L0)) 0 0 (mw_fr G) := by
  refine mw_enter (by decide) (Nat.le_of_ble_eq_true rfl) ?_
  intro p e s m below meth c ls C hr hlocks hnm hw hl
  have hl : lv_has ls 4 [(0, .ref (ad 97)), (1, .ref (ad a1)), (2, .int a2)] := hl
  have hh2 : ∀ (f : Nat) (v3 : Int32) (M : mwM) (L : mwL) (H : Heap) (locs : List Loc) (ls : Array Slot), fX3_isOut_h2 fu a1 n1 a2 f (v3, M, L) = some (r0, M0, L0) → mw_W G ad NF TF FF M L H locs → lv_has ls 4 [(0, .ref (ad 97)), (1, .ref (ad a1)), (2, .int a2), (3, .int v3)] → W p l e ({ frames := 0, cells := 0, slots := 0, locals := 0 }) s m [.ref (ad 97), .ref (ad a1), .int a2].toArray below meth c H locs 0 0 (MQ below (mw_Qi G ad NF TF FF (mw_eqI r0 M0 L0)) [.ref (ad 97), .ref (ad a1), .int a2].toArray s 0 0 (mw_fr G)) (F0 m 2 ls []) := by
    intro f
    induction f with
    | zero => intro v3 M L H locs ls hD; cases hD
    | succ f2 ih2 =>
      intro v3 M L H locs ls hD hw hl
      replace hD : fX3_isOut_i2 fu a1 n1 a2 (fX3_isOut_h2 fu a1 n1 a2 f2) v3 M L = some (r0, M0, L0) := hD
      unfold fX3_isOut_i2 at hD
      refine lv_iload_n C.1.1 C.1.2.1 dX3_isOut_2 rfl (lv_at hl 3 rfl) ?_
      refine lv_iconst (v := 4) C.1.1 C.1.2.1 dX3_isOut_3 (by decide) ?_
      refine lv_icmp_ge (tgt := 29) C.1.1 C.1.2.1 dX3_isOut_4 (by decide) (fun c1 => ?_) (fun c1 => ?_)
      · replace hD := g_pos c1 hD
        refine lv_iconst (v := 1) C.1.1 C.1.2.1 dX3_isOut_29 (by decide) ?_
        exact mr_iret C hr hlocks hw (by decide +kernel) (Option.some.inj hD) dX3_isOut_30
      · replace hD := g_neg c1 hD
        refine lv_aload_n C.1.1 C.1.2.1 dX3_isOut_7 rfl (lv_at hl 1 rfl) ?_
        refine lv_iload_n C.1.1 C.1.2.1 dX3_isOut_8 rfl (lv_at hl 2 rfl) ?_
        refine lv_iload_n C.1.1 C.1.2.1 dX3_isOut_9 rfl (lv_at hl 3 rfl) ?_
        refine lv_iadd C.1.1 C.1.2.1 dX3_isOut_10 ?_
        obtain ⟨q2, hD⟩ := g_ck hD
        refine mr_iald C hw hk1 hT1 q2 dX3_isOut_11 ?_
        refine lv_aload_n C.1.1 C.1.2.1 dX3_isOut_12 rfl (lv_at hl 0 rfl) ?_
        refine mr_getR C hw kc_3 6 (by decide) tf_97 ff_97_6 wd_303 dX3_isOut_13 (by decide) rfl ?_
        refine lv_iload_n C.1.1 C.1.2.1 dX3_isOut_16 rfl (lv_at hl 3 rfl) ?_
        obtain ⟨q3, hD⟩ := g_ck hD
        refine mr_iald C hw (by decide) tf_138 q3 dX3_isOut_17 ?_
        refine lv_icmp_eq (tgt := 23) C.1.1 C.1.2.1 dX3_isOut_18 (by decide) (fun c4 => ?_) (fun c4 => ?_)
        · replace hD := g_pos c4 hD
          obtain ⟨x5, ex5, hD⟩ := g_let hD
          refine lv_iinc (v := x5) (lv' := [(3, .int x5), (0, .ref (ad 97)), (1, .ref (ad a1)), (2, .int a2)]) C.1.1 C.1.2.1 dX3_isOut_23 hl (k := 3) rfl (by rw [ex5]; rfl) (by decide) rfl (fun ls hl => ?_)
          refine lv_goto (tgt := 2) C.1.1 C.1.2.1 dX3_isOut_26 (by decide) ?_
          exact ih2 x5 M L _ _ ls hD hw (lv_sub hl [1, 2, 3, 0] rfl)
        · replace hD := g_neg c4 hD
          refine lv_iconst (v := 0) C.1.1 C.1.2.1 dX3_isOut_21 (by decide) ?_
          exact mr_iret C hr hlocks hw (by decide +kernel) (Option.some.inj hD) dX3_isOut_22
  unfold DX3_isOut at hD
  refine lv_iconst (v := 0) C.1.1 C.1.2.1 dX3_isOut_0 (by decide) ?_
  refine lv_istore_n (lv' := [(3, .int 0), (0, .ref (ad 97)), (1, .ref (ad a1)), (2, .int a2)]) C.1.1 C.1.2.1 dX3_isOut_1 rfl hl (by decide) rfl (fun ls hl => ?_)
  exact hh2 fu 0 M L _ _ ls hD hw (lv_sub hl [1, 2, 3, 0] rfl)
