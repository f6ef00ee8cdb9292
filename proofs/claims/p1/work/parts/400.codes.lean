theorem dX3_mixBits_0 : decode cX3_mixBits 0 = .ok (.iload_n 0, 1) := by decide +kernel
theorem dX3_mixBits_1 : decode cX3_mixBits 1 = .ok (.bipush 8, 2) := by decide +kernel
theorem dX3_mixBits_3 : decode cX3_mixBits 3 = .ok (.ishl, 1) := by decide +kernel
theorem dX3_mixBits_4 : decode cX3_mixBits 4 = .ok (.iload_n 0, 1) := by decide +kernel
theorem dX3_mixBits_5 : decode cX3_mixBits 5 = .ok (.ior, 1) := by decide +kernel
theorem dX3_mixBits_6 : decode cX3_mixBits 6 = .ok (.istore_n 1, 1) := by decide +kernel
theorem dX3_mixBits_7 : decode cX3_mixBits 7 = .ok (.iload_n 0, 1) := by decide +kernel
theorem dX3_mixBits_8 : decode cX3_mixBits 8 = .ok (.iload_n 1, 1) := by decide +kernel
theorem dX3_mixBits_9 : decode cX3_mixBits 9 = .ok (.bipush 7, 2) := by decide +kernel
theorem dX3_mixBits_11 : decode cX3_mixBits 11 = .ok (.ishr, 1) := by decide +kernel
theorem dX3_mixBits_12 : decode cX3_mixBits 12 = .ok (.ixor, 1) := by decide +kernel
theorem dX3_mixBits_13 : decode cX3_mixBits 13 = .ok (.iload_n 1, 1) := by decide +kernel
theorem dX3_mixBits_14 : decode cX3_mixBits 14 = .ok (.bipush 6, 2) := by decide +kernel
theorem dX3_mixBits_16 : decode cX3_mixBits 16 = .ok (.ishr, 1) := by decide +kernel
theorem dX3_mixBits_17 : decode cX3_mixBits 17 = .ok (.ixor, 1) := by decide +kernel
theorem dX3_mixBits_18 : decode cX3_mixBits 18 = .ok (.iload_n 1, 1) := by decide +kernel
theorem dX3_mixBits_19 : decode cX3_mixBits 19 = .ok (.iconst 5, 1) := by decide +kernel
theorem dX3_mixBits_20 : decode cX3_mixBits 20 = .ok (.ishr, 1) := by decide +kernel
theorem dX3_mixBits_21 : decode cX3_mixBits 21 = .ok (.ixor, 1) := by decide +kernel
theorem dX3_mixBits_22 : decode cX3_mixBits 22 = .ok (.iload_n 1, 1) := by decide +kernel
theorem dX3_mixBits_23 : decode cX3_mixBits 23 = .ok (.iconst 4, 1) := by decide +kernel
theorem dX3_mixBits_24 : decode cX3_mixBits 24 = .ok (.ishr, 1) := by decide +kernel
theorem dX3_mixBits_25 : decode cX3_mixBits 25 = .ok (.ixor, 1) := by decide +kernel
theorem dX3_mixBits_26 : decode cX3_mixBits 26 = .ok (.bipush 99, 2) := by decide +kernel
theorem dX3_mixBits_28 : decode cX3_mixBits 28 = .ok (.ixor, 1) := by decide +kernel
theorem dX3_mixBits_29 : decode cX3_mixBits 29 = .ok (.sipush 255, 3) := by decide +kernel
theorem dX3_mixBits_32 : decode cX3_mixBits 32 = .ok (.iand, 1) := by decide +kernel
theorem dX3_mixBits_33 : decode cX3_mixBits 33 = .ok (.ireturn, 1) := by decide +kernel
theorem cwX3_mixBits : mw_cwS yX3_mixBits cX3_mixBits 2 ((some .int)) 1 := ⟨⟨wd_8, wd_293, by decide +kernel⟩, wd_292⟩
noncomputable def DX3_mixBits (fu : Nat) (a1 : Int32) (M : mwM) (L : mwL) : Option (Int32 × mwM × mwL) :=
  mlet ((a1 <<< (8 &&& 31)) ||| a1) (fun x1 => some ((((((a1 ^^^ (x1 >>> (7 &&& 31))) ^^^ (x1 >>> (6 &&& 31))) ^^^ (x1 >>> (5 &&& 31))) ^^^ (x1 >>> (4 &&& 31))) ^^^ 99) &&& 255, M, L))
set_option maxHeartbeats 4000000 in
set_option maxRecDepth 100000 in
theorem tX3_mixBits (l : Launch) (G : mwG) (ad : Nat → Nat) (fu : Nat) (a1 : Int32) (M : mwM) (L : mwL) {r0 : Int32} {M0 : mwM} {L0 : mwL} (hD : DX3_mixBits fu a1 M L = some (r0, M0, L0)) : Met l yX3_mixBits (Cond.code yX3_mixBits cX3_mixBits 2 ((some .int)) :: GT) ({ frames := 0, cells := 0, slots := 0, locals := 0 }) (mw_Pre G ad NF TF FF M L [.int a1]) (mw_Qi G ad NF TF FF (mw_eqI r0 M0 L0)) 0 0 (mw_fr G) := by
  refine mw_enter (by decide) (Nat.le_of_ble_eq_true rfl) ?_
  intro p e s m below meth c ls C hr hlocks hnm hw hl
  have hl : lv_has ls 2 [(0, .int a1)] := hl
  unfold DX3_mixBits at hD
  refine lv_iload_n C.1.1 C.1.2.1 dX3_mixBits_0 rfl (lv_at hl 0 rfl) ?_
  refine lv_bipush (v := 8) C.1.1 C.1.2.1 dX3_mixBits_1 (by decide) ?_
  refine lv_ishl C.1.1 C.1.2.1 dX3_mixBits_3 ?_
  refine lv_iload_n C.1.1 C.1.2.1 dX3_mixBits_4 rfl (lv_at hl 0 rfl) ?_
  refine lv_ior C.1.1 C.1.2.1 dX3_mixBits_5 ?_
  obtain ⟨x1, ex1, hD⟩ := g_let hD
  refine W.eq (g2 := F0 m 6 ls (.int x1 :: [])) (by rw [ex1]) ?_
  refine lv_istore_n (lv' := [(1, .int x1), (0, .int a1)]) C.1.1 C.1.2.1 dX3_mixBits_6 rfl hl (by decide) rfl (fun ls hl => ?_)
  refine lv_iload_n C.1.1 C.1.2.1 dX3_mixBits_7 rfl (lv_at hl 1 rfl) ?_
  refine lv_iload_n C.1.1 C.1.2.1 dX3_mixBits_8 rfl (lv_at hl 0 rfl) ?_
  refine lv_bipush (v := 7) C.1.1 C.1.2.1 dX3_mixBits_9 (by decide) ?_
  refine lv_ishr C.1.1 C.1.2.1 dX3_mixBits_11 ?_
  refine lv_ixor C.1.1 C.1.2.1 dX3_mixBits_12 ?_
  refine lv_iload_n C.1.1 C.1.2.1 dX3_mixBits_13 rfl (lv_at hl 0 rfl) ?_
  refine lv_bipush (v := 6) C.1.1 C.1.2.1 dX3_mixBits_14 (by decide) ?_
  refine lv_ishr C.1.1 C.1.2.1 dX3_mixBits_16 ?_
  refine lv_ixor C.1.1 C.1.2.1 dX3_mixBits_17 ?_
  refine lv_iload_n C.1.1 C.1.2.1 dX3_mixBits_18 rfl (lv_at hl 0 rfl) ?_
  refine lv_iconst (v := 5) C.1.1 C.1.2.1 dX3_mixBits_19 (by decide) ?_
  refine lv_ishr C.1.1 C.1.2.1 dX3_mixBits_20 ?_
  refine lv_ixor C.1.1 C.1.2.1 dX3_mixBits_21 ?_
  refine lv_iload_n C.1.1 C.1.2.1 dX3_mixBits_22 rfl (lv_at hl 0 rfl) ?_
  refine lv_iconst (v := 4) C.1.1 C.1.2.1 dX3_mixBits_23 (by decide) ?_
  refine lv_ishr C.1.1 C.1.2.1 dX3_mixBits_24 ?_
  refine lv_ixor C.1.1 C.1.2.1 dX3_mixBits_25 ?_
  refine lv_bipush (v := 99) C.1.1 C.1.2.1 dX3_mixBits_26 (by decide) ?_
  refine lv_ixor C.1.1 C.1.2.1 dX3_mixBits_28 ?_
  refine lv_sipush (v := 255) C.1.1 C.1.2.1 dX3_mixBits_29 (by decide) ?_
  refine lv_iand C.1.1 C.1.2.1 dX3_mixBits_32 ?_
  exact mr_iret C hr hlocks hw rfl (Option.some.inj hD) dX3_mixBits_33

theorem dX3_timesInverseOfThree_0 : decode cX3_timesInverseOfThree 0 = .ok (.iload_n 0, 1) := by decide +kernel
theorem dX3_timesInverseOfThree_1 : decode cX3_timesInverseOfThree 1 = .ok (.iload_n 0, 1) := by decide +kernel
theorem dX3_timesInverseOfThree_2 : decode cX3_timesInverseOfThree 2 = .ok (.iconst 1, 1) := by decide +kernel
theorem dX3_timesInverseOfThree_3 : decode cX3_timesInverseOfThree 3 = .ok (.ishl, 1) := by decide +kernel
theorem dX3_timesInverseOfThree_4 : decode cX3_timesInverseOfThree 4 = .ok (.ixor, 1) := by decide +kernel
theorem dX3_timesInverseOfThree_5 : decode cX3_timesInverseOfThree 5 = .ok (.istore_n 1, 1) := by decide +kernel
theorem dX3_timesInverseOfThree_6 : decode cX3_timesInverseOfThree 6 = .ok (.iload_n 1, 1) := by decide +kernel
theorem dX3_timesInverseOfThree_7 : decode cX3_timesInverseOfThree 7 = .ok (.iload_n 1, 1) := by decide +kernel
theorem dX3_timesInverseOfThree_8 : decode cX3_timesInverseOfThree 8 = .ok (.iconst 2, 1) := by decide +kernel
theorem dX3_timesInverseOfThree_9 : decode cX3_timesInverseOfThree 9 = .ok (.ishl, 1) := by decide +kernel
theorem dX3_timesInverseOfThree_10 : decode cX3_timesInverseOfThree 10 = .ok (.ixor, 1) := by decide +kernel
theorem dX3_timesInverseOfThree_11 : decode cX3_timesInverseOfThree 11 = .ok (.istore_n 1, 1) := by decide +kernel
theorem dX3_timesInverseOfThree_12 : decode cX3_timesInverseOfThree 12 = .ok (.iload_n 1, 1) := by decide +kernel
theorem dX3_timesInverseOfThree_13 : decode cX3_timesInverseOfThree 13 = .ok (.iload_n 1, 1) := by decide +kernel
theorem dX3_timesInverseOfThree_14 : decode cX3_timesInverseOfThree 14 = .ok (.iconst 4, 1) := by decide +kernel
theorem dX3_timesInverseOfThree_15 : decode cX3_timesInverseOfThree 15 = .ok (.ishl, 1) := by decide +kernel
theorem dX3_timesInverseOfThree_16 : decode cX3_timesInverseOfThree 16 = .ok (.ixor, 1) := by decide +kernel
theorem dX3_timesInverseOfThree_17 : decode cX3_timesInverseOfThree 17 = .ok (.istore_n 1, 1) := by decide +kernel
theorem dX3_timesInverseOfThree_18 : decode cX3_timesInverseOfThree 18 = .ok (.iload_n 1, 1) := by decide +kernel
theorem dX3_timesInverseOfThree_19 : decode cX3_timesInverseOfThree 19 = .ok (.sipush 255, 3) := by decide +kernel
theorem dX3_timesInverseOfThree_22 : decode cX3_timesInverseOfThree 22 = .ok (.iand, 1) := by decide +kernel
theorem dX3_timesInverseOfThree_23 : decode cX3_timesInverseOfThree 23 = .ok (.iload_n 1, 1) := by decide +kernel
theorem dX3_timesInverseOfThree_24 : decode cX3_timesInverseOfThree 24 = .ok (.sipush 128, 3) := by decide +kernel
theorem dX3_timesInverseOfThree_27 : decode cX3_timesInverseOfThree 27 = .ok (.iand, 1) := by decide +kernel
theorem dX3_timesInverseOfThree_28 : decode cX3_timesInverseOfThree 28 = .ok (.ifCond .eq 8, 3) := by decide +kernel
theorem dX3_timesInverseOfThree_31 : decode cX3_timesInverseOfThree 31 = .ok (.bipush 9, 2) := by decide +kernel
theorem dX3_timesInverseOfThree_33 : decode cX3_timesInverseOfThree 33 = .ok (.goto 4, 3) := by decide +kernel
theorem dX3_timesInverseOfThree_36 : decode cX3_timesInverseOfThree 36 = .ok (.iconst 0, 1) := by decide +kernel
theorem dX3_timesInverseOfThree_37 : decode cX3_timesInverseOfThree 37 = .ok (.ixor, 1) := by decide +kernel
theorem dX3_timesInverseOfThree_38 : decode cX3_timesInverseOfThree 38 = .ok (.ireturn, 1) := by decide +kernel
theorem cwX3_timesInverseOfThree : mw_cwS yX3_timesInverseOfThree cX3_timesInverseOfThree 2 ((some .int)) 1 := ⟨⟨wd_8, wd_296, by decide +kernel⟩, wd_295⟩
noncomputable def fX3_timesInverseOfThree_b37 (fu : Nat) (a1 : Int32) (s0 : Int32) (s1 : Int32) (M : mwM) (L : mwL) : Option (Int32 × mwM × mwL) :=
  some (s0 ^^^ s1, M, L)
noncomputable def DX3_timesInverseOfThree (fu : Nat) (a1 : Int32) (M : mwM) (L : mwL) : Option (Int32 × mwM × mwL) :=
  mlet (a1 ^^^ (a1 <<< (1 &&& 31))) (fun x1 => mlet (x1 ^^^ (x1 <<< (2 &&& 31))) (fun x2 => mlet (x2 ^^^ (x2 <<< (4 &&& 31))) (fun x3 => (if (x3 &&& 128) = 0 then fX3_timesInverseOfThree_b37 fu a1 (x3 &&& 255) 0 M L else fX3_timesInverseOfThree_b37 fu a1 (x3 &&& 255) 9 M L))))
set_option maxHeartbeats 4000000 in
set_option maxRecDepth 100000 in
theorem tX3_timesInverseOfThree (l : Launch) (G : mwG) (ad : Nat → Nat) (fu : Nat) (a1 : Int32) (M : mwM) (L : mwL) {r0 : Int32} {M0 : mwM} {L0 : mwL} (hD : DX3_timesInverseOfThree fu a1 M L = some (r0, M0, L0)) : Met l yX3_timesInverseOfThree (Cond.code yX3_timesInverseOfThree cX3_timesInverseOfThree 2 ((some .int)) :: GT) ({ frames := 0, cells := 0, slots := 0, locals := 0 }) (mw_Pre G ad NF TF FF M L [.int a1]) (mw_Qi G ad NF TF FF (mw_eqI r0 M0 L0)) 0 0 (mw_fr G) := by
  refine mw_enter (by decide) (Nat.le_of_ble_eq_true rfl) ?_
  intro p e s m below meth c ls C hr hlocks hnm hw hl
  have hl : lv_has ls 2 [(0, .int a1)] := hl
  have hb37 : ∀ (s0 : Int32) (s1 : Int32) (M : mwM) (L : mwL) (H : Heap) (locs : List Loc) (ls : Array Slot), fX3_timesInverseOfThree_b37 fu a1 s0 s1 M L = some (r0, M0, L0) → mw_W G ad NF TF FF M L H locs → lv_has ls 2 [] → W p l e ({ frames := 0, cells := 0, slots := 0, locals := 0 }) s m [.int a1].toArray below meth c H locs 0 0 (MQ below (mw_Qi G ad NF TF FF (mw_eqI r0 M0 L0)) [.int a1].toArray s 0 0 (mw_fr G)) (F0 m 37 ls [.int s1, .int s0]) := by
    intro s0 s1 M L H locs ls hD hw hl
    unfold fX3_timesInverseOfThree_b37 at hD
    refine lv_ixor C.1.1 C.1.2.1 dX3_timesInverseOfThree_37 ?_
    exact mr_iret C hr hlocks hw rfl (Option.some.inj hD) dX3_timesInverseOfThree_38
  unfold DX3_timesInverseOfThree at hD
  refine lv_iload_n C.1.1 C.1.2.1 dX3_timesInverseOfThree_0 rfl (lv_at hl 0 rfl) ?_
  refine lv_iload_n C.1.1 C.1.2.1 dX3_timesInverseOfThree_1 rfl (lv_at hl 0 rfl) ?_
  refine lv_iconst (v := 1) C.1.1 C.1.2.1 dX3_timesInverseOfThree_2 (by decide) ?_
  refine lv_ishl C.1.1 C.1.2.1 dX3_timesInverseOfThree_3 ?_
  refine lv_ixor C.1.1 C.1.2.1 dX3_timesInverseOfThree_4 ?_
  obtain ⟨x1, ex1, hD⟩ := g_let hD
  refine W.eq (g2 := F0 m 5 ls (.int x1 :: [])) (by rw [ex1]) ?_
  refine lv_istore_n (lv' := [(1, .int x1), (0, .int a1)]) C.1.1 C.1.2.1 dX3_timesInverseOfThree_5 rfl hl (by decide) rfl (fun ls hl => ?_)
  refine lv_iload_n C.1.1 C.1.2.1 dX3_timesInverseOfThree_6 rfl (lv_at hl 0 rfl) ?_
  refine lv_iload_n C.1.1 C.1.2.1 dX3_timesInverseOfThree_7 rfl (lv_at hl 0 rfl) ?_
  refine lv_iconst (v := 2) C.1.1 C.1.2.1 dX3_timesInverseOfThree_8 (by decide) ?_
  refine lv_ishl C.1.1 C.1.2.1 dX3_timesInverseOfThree_9 ?_
  refine lv_ixor C.1.1 C.1.2.1 dX3_timesInverseOfThree_10 ?_
  obtain ⟨x2, ex2, hD⟩ := g_let hD
  refine W.eq (g2 := F0 m 11 ls (.int x2 :: [])) (by rw [ex2]) ?_
  refine lv_istore_n (lv' := [(1, .int x2), (0, .int a1)]) C.1.1 C.1.2.1 dX3_timesInverseOfThree_11 rfl hl (by decide) rfl (fun ls hl => ?_)
  refine lv_iload_n C.1.1 C.1.2.1 dX3_timesInverseOfThree_12 rfl (lv_at hl 0 rfl) ?_
  refine lv_iload_n C.1.1 C.1.2.1 dX3_timesInverseOfThree_13 rfl (lv_at hl 0 rfl) ?_
  refine lv_iconst (v := 4) C.1.1 C.1.2.1 dX3_timesInverseOfThree_14 (by decide) ?_
  refine lv_ishl C.1.1 C.1.2.1 dX3_timesInverseOfThree_15 ?_
  refine lv_ixor C.1.1 C.1.2.1 dX3_timesInverseOfThree_16 ?_
  obtain ⟨x3, ex3, hD⟩ := g_let hD
  refine W.eq (g2 := F0 m 17 ls (.int x3 :: [])) (by rw [ex3]) ?_
  refine lv_istore_n (lv' := [(1, .int x3), (0, .int a1)]) C.1.1 C.1.2.1 dX3_timesInverseOfThree_17 rfl hl (by decide) rfl (fun ls hl => ?_)
  refine lv_iload_n C.1.1 C.1.2.1 dX3_timesInverseOfThree_18 rfl (lv_at hl 0 rfl) ?_
  refine lv_sipush (v := 255) C.1.1 C.1.2.1 dX3_timesInverseOfThree_19 (by decide) ?_
  refine lv_iand C.1.1 C.1.2.1 dX3_timesInverseOfThree_22 ?_
  refine lv_iload_n C.1.1 C.1.2.1 dX3_timesInverseOfThree_23 rfl (lv_at hl 0 rfl) ?_
  refine lv_sipush (v := 128) C.1.1 C.1.2.1 dX3_timesInverseOfThree_24 (by decide) ?_
  refine lv_iand C.1.1 C.1.2.1 dX3_timesInverseOfThree_27 ?_
  refine lv_if_eq (tgt := 36) C.1.1 C.1.2.1 dX3_timesInverseOfThree_28 (by decide) (fun c4 => ?_) (fun c4 => ?_)
  · replace hD := g_pos c4 hD
    refine lv_iconst (v := 0) C.1.1 C.1.2.1 dX3_timesInverseOfThree_36 (by decide) ?_
    exact hb37 (x3 &&& 255) 0 M L _ _ ls hD hw (lv_sub hl [] rfl)
  · replace hD := g_neg c4 hD
    refine lv_bipush (v := 9) C.1.1 C.1.2.1 dX3_timesInverseOfThree_31 (by decide) ?_
    refine lv_goto (tgt := 37) C.1.1 C.1.2.1 dX3_timesInverseOfThree_33 (by decide) ?_
    exact hb37 (x3 &&& 255) 9 M L _ _ ls hD hw (lv_sub hl [] rfl)

theorem dX14_key_0 : decode cX14_key 0 = .ok (.aload_n 0, 1) := by decide +kernel
theorem dX14_key_1 : decode cX14_key 1 = .ok (.iconst 0, 1) := by decide +kernel
theorem dX14_key_2 : decode cX14_key 2 = .ok (.putfield 58, 3) := by decide +kernel
theorem dX14_key_5 : decode cX14_key 5 = .ok (.aload_n 0, 1) := by decide +kernel
theorem dX14_key_6 : decode cX14_key 6 = .ok (.getfield 62, 3) := by decide +kernel
theorem dX14_key_9 : decode cX14_key 9 = .ok (.bipush 16, 2) := by decide +kernel
theorem dX14_key_11 : decode cX14_key 11 = .ok (.if_icmp .ne 6, 3) := by decide +kernel
theorem dX14_key_14 : decode cX14_key 14 = .ok (.bipush (-4), 2) := by decide +kernel
theorem dX14_key_16 : decode cX14_key 16 = .ok (.ireturn, 1) := by decide +kernel
theorem dX14_key_17 : decode cX14_key 17 = .ok (.aload_n 0, 1) := by decide +kernel
theorem dX14_key_18 : decode cX14_key 18 = .ok (.dup, 1) := by decide +kernel
theorem dX14_key_19 : decode cX14_key 19 = .ok (.getfield 62, 3) := by decide +kernel
theorem dX14_key_22 : decode cX14_key 22 = .ok (.iconst 1, 1) := by decide +kernel
theorem dX14_key_23 : decode cX14_key 23 = .ok (.iadd, 1) := by decide +kernel
theorem dX14_key_24 : decode cX14_key 24 = .ok (.putfield 62, 3) := by decide +kernel
theorem dX14_key_27 : decode cX14_key 27 = .ok (.aload_n 0, 1) := by decide +kernel
theorem dX14_key_28 : decode cX14_key 28 = .ok (.getfield 62, 3) := by decide +kernel
theorem dX14_key_31 : decode cX14_key 31 = .ok (.ireturn, 1) := by decide +kernel
theorem cwX14_key : mw_cwV yX14_key cX14_key 1 ((some .int)) 0 := ⟨⟨wd_16, wd_2772, by decide +kernel⟩, wd_2770, wd_2771⟩
noncomputable def DX14_key (fu : Nat) (M : mwM) (L : mwL) : Option (Int32 × mwM × mwL) :=
  mlet (mset M 854 0 0) (fun M1 => (if (M1 854 1) = 16 then some ((-4), M1, L) else mlet (mset M1 854 1 ((M1 854 1) + 1)) (fun M3 => some (M3 854 1, M3, L))))
set_option maxHeartbeats 4000000 in
set_option maxRecDepth 100000 in
theorem tX14_key (l : Launch) (G : mwG) (ad : Nat → Nat) (fu : Nat) (M : mwM) (L : mwL) {r0 : Int32} {M0 : mwM} {L0 : mwL} (hD : DX14_key fu M L = some (r0, M0, L0)) : Met l yX14_key (Cond.code yX14_key cX14_key 1 ((some .int)) :: GT) ({ frames := 0, cells := 0, slots := 0, locals := 0 }) (mw_Pre G ad NF TF FF M L [.ref (ad 854)]) (mw_Qi G ad NF TF FF (mw_eqI r0 M0 L0)) 0 0 (mw_fr G) := by
  refine mw_enter (by decide) (Nat.le_of_ble_eq_true rfl) ?_
  intro p e s m below meth c ls C hr hlocks hnm hw hl
  have hl : lv_has ls 1 [(0, .ref (ad 854))] := hl
  unfold DX14_key at hD
  refine lv_aload_n C.1.1 C.1.2.1 dX14_key_0 rfl (lv_at hl 0 rfl) ?_
  refine lv_iconst (v := 0) C.1.1 C.1.2.1 dX14_key_1 (by decide) ?_
  obtain ⟨M1, eM1, hD⟩ := g_let hD
  refine mr_putI C hw kc_14 0 (by decide) tf_854 wd_2266 dX14_key_2 (by decide) rfl rfl rfl rfl (fun H locs hw => ?_)
  replace hw : mw_W G ad NF TF FF M1 L H locs := by rw [eM1]; exact hw
  refine lv_aload_n C.1.1 C.1.2.1 dX14_key_5 rfl (lv_at hl 0 rfl) ?_
  refine mr_getI C hw kc_14 1 (by decide) tf_854 wd_2267 dX14_key_6 (by decide) rfl ?_
  refine lv_bipush (v := 16) C.1.1 C.1.2.1 dX14_key_9 (by decide) ?_
  refine lv_icmp_ne (tgt := 17) C.1.1 C.1.2.1 dX14_key_11 (by decide) (fun c2 => ?_) (fun c2 => ?_)
  · replace hD := g_neg c2 hD
    refine lv_aload_n C.1.1 C.1.2.1 dX14_key_17 rfl (lv_at hl 0 rfl) ?_
    refine lv_dup C.1.1 C.1.2.1 dX14_key_18 rfl ?_
    refine mr_getI C hw kc_14 1 (by decide) tf_854 wd_2267 dX14_key_19 (by decide) rfl ?_
    refine lv_iconst (v := 1) C.1.1 C.1.2.1 dX14_key_22 (by decide) ?_
    refine lv_iadd C.1.1 C.1.2.1 dX14_key_23 ?_
    obtain ⟨M3, eM3, hD⟩ := g_let hD
    refine mr_putI C hw kc_14 1 (by decide) tf_854 wd_2267 dX14_key_24 (by decide) rfl rfl rfl rfl (fun H locs hw => ?_)
    replace hw : mw_W G ad NF TF FF M3 L H locs := by rw [eM3]; exact hw
    refine lv_aload_n C.1.1 C.1.2.1 dX14_key_27 rfl (lv_at hl 0 rfl) ?_
    refine mr_getI C hw kc_14 1 (by decide) tf_854 wd_2267 dX14_key_28 (by decide) rfl ?_
    exact mr_iret C hr hlocks hw rfl (Option.some.inj hD) dX14_key_31
  · replace hD := g_pos c2 hD
    refine lv_bipush (v := (-4)) C.1.1 C.1.2.1 dX14_key_14 (by decide) ?_
    exact mr_iret C hr hlocks hw rfl (Option.some.inj hD) dX14_key_16

theorem dX14_noKey_0 : decode cX14_noKey 0 = .ok (.aload_n 0, 1) := by decide +kernel
theorem dX14_noKey_1 : decode cX14_noKey 1 = .ok (.iconst 0, 1) := by decide +kernel
theorem dX14_noKey_2 : decode cX14_noKey 2 = .ok (.putfield 58, 3) := by decide +kernel
theorem dX14_noKey_5 : decode cX14_noKey 5 = .ok (.iload_n 1, 1) := by decide +kernel
theorem dX14_noKey_6 : decode cX14_noKey 6 = .ok (.iconst 1, 1) := by decide +kernel
theorem dX14_noKey_7 : decode cX14_noKey 7 = .ok (.if_icmp .lt 11, 3) := by decide +kernel
theorem dX14_noKey_10 : decode cX14_noKey 10 = .ok (.iload_n 1, 1) := by decide +kernel
theorem dX14_noKey_11 : decode cX14_noKey 11 = .ok (.aload_n 0, 1) := by decide +kernel
theorem dX14_noKey_12 : decode cX14_noKey 12 = .ok (.getfield 62, 3) := by decide +kernel
theorem dX14_noKey_15 : decode cX14_noKey 15 = .ok (.if_icmp .le 7, 3) := by decide +kernel
theorem dX14_noKey_18 : decode cX14_noKey 18 = .ok (.iconst 1, 1) := by decide +kernel
theorem dX14_noKey_19 : decode cX14_noKey 19 = .ok (.goto 4, 3) := by decide +kernel
theorem dX14_noKey_22 : decode cX14_noKey 22 = .ok (.iconst 0, 1) := by decide +kernel
theorem dX14_noKey_23 : decode cX14_noKey 23 = .ok (.ireturn, 1) := by decide +kernel
theorem cwX14_noKey : mw_cwV yX14_noKey cX14_noKey 2 ((some .boolean)) 1 := ⟨⟨wd_16, wd_2780, by decide +kernel⟩, wd_2779, sl_147⟩
noncomputable def fX14_noKey_b23 (fu : Nat) (a1 : Int32) (s0 : Int32) (M : mwM) (L : mwL) : Option (Int32 × mwM × mwL) :=
  mzz s0 (some (s0, M, L))
noncomputable def fX14_noKey_b18 (fu : Nat) (a1 : Int32) (M : mwM) (L : mwL) : Option (Int32 × mwM × mwL) :=
  fX14_noKey_b23 fu a1 1 M L
noncomputable def DX14_noKey (fu : Nat) (a1 : Int32) (M : mwM) (L : mwL) : Option (Int32 × mwM × mwL) :=
  mlet (mset M 854 0 0) (fun M2 => (if a1 < 1 then fX14_noKey_b18 fu a1 M2 L else (if a1 ≤ (M2 854 1) then fX14_noKey_b23 fu a1 0 M2 L else fX14_noKey_b18 fu a1 M2 L)))
set_option maxHeartbeats 4000000 in
set_option maxRecDepth 100000 in
theorem tX14_noKey (l : Launch) (G : mwG) (ad : Nat → Nat) (fu : Nat) (a1 : Int32) (M : mwM) (L : mwL) {r0 : Int32} {M0 : mwM} {L0 : mwL} (hD : DX14_noKey fu a1 M L = some (r0, M0, L0)) : Met l yX14_noKey (Cond.code yX14_noKey cX14_noKey 2 ((some .boolean)) :: GT) ({ frames := 0, cells := 0, slots := 0, locals := 0 }) (mw_Pre G ad NF TF FF M L [.ref (ad 854), .int a1]) (mw_Qi G ad NF TF FF (mw_eqI r0 M0 L0)) 0 0 (mw_fr G) := by
  refine mw_enter (by decide) (Nat.le_of_ble_eq_true rfl) ?_
  intro p e s m below meth c ls C hr hlocks hnm hw hl
  have hl : lv_has ls 2 [(0, .ref (ad 854)), (1, .int a1)] := hl
  have hb23 : ∀ (s0 : Int32) (M : mwM) (L : mwL) (H : Heap) (locs : List Loc) (ls : Array Slot), fX14_noKey_b23 fu a1 s0 M L = some (r0, M0, L0) → mw_W G ad NF TF FF M L H locs → lv_has ls 2 [] → W p l e ({ frames := 0, cells := 0, slots := 0, locals := 0 }) s m [.ref (ad 854), .int a1].toArray below meth c H locs 0 0 (MQ below (mw_Qi G ad NF TF FF (mw_eqI r0 M0 L0)) [.ref (ad 854), .int a1].toArray s 0 0 (mw_fr G)) (F0 m 23 ls [.int s0]) := by
    intro s0 M L H locs ls hD hw hl
    unfold fX14_noKey_b23 at hD
    obtain ⟨z1, hD⟩ := g_zz hD
    exact mr_iret C hr hlocks hw (nz_zz z1) (Option.some.inj hD) dX14_noKey_23
  have hb18 : ∀ (M : mwM) (L : mwL) (H : Heap) (locs : List Loc) (ls : Array Slot), fX14_noKey_b18 fu a1 M L = some (r0, M0, L0) → mw_W G ad NF TF FF M L H locs → lv_has ls 2 [] → W p l e ({ frames := 0, cells := 0, slots := 0, locals := 0 }) s m [.ref (ad 854), .int a1].toArray below meth c H locs 0 0 (MQ below (mw_Qi G ad NF TF FF (mw_eqI r0 M0 L0)) [.ref (ad 854), .int a1].toArray s 0 0 (mw_fr G)) (F0 m 18 ls []) := by
    intro M L H locs ls hD hw hl
    unfold fX14_noKey_b18 at hD
    refine lv_iconst (v := 1) C.1.1 C.1.2.1 dX14_noKey_18 (by decide) ?_
    refine lv_goto (tgt := 23) C.1.1 C.1.2.1 dX14_noKey_19 (by decide) ?_
    exact hb23 1 M L _ _ ls hD hw (lv_sub hl [] rfl)
  unfold DX14_noKey at hD
  refine lv_aload_n C.1.1 C.1.2.1 dX14_noKey_0 rfl (lv_at hl 0 rfl) ?_
  refine lv_iconst (v := 0) C.1.1 C.1.2.1 dX14_noKey_1 (by decide) ?_
  obtain ⟨M2, eM2, hD⟩ := g_let hD
  refine mr_putI C hw kc_14 0 (by decide) tf_854 wd_2266 dX14_noKey_2 (by decide) rfl rfl rfl rfl (fun H locs hw => ?_)
  replace hw : mw_W G ad NF TF FF M2 L H locs := by rw [eM2]; exact hw
  refine lv_iload_n C.1.1 C.1.2.1 dX14_noKey_5 rfl (lv_at hl 1 rfl) ?_
  refine lv_iconst (v := 1) C.1.1 C.1.2.1 dX14_noKey_6 (by decide) ?_
  refine lv_icmp_lt (tgt := 18) C.1.1 C.1.2.1 dX14_noKey_7 (by decide) (fun c3 => ?_) (fun c3 => ?_)
  · replace hD := g_pos c3 hD
    exact hb18 M2 L _ _ ls hD hw (lv_sub hl [] rfl)
  · replace hD := g_neg c3 hD
    refine lv_iload_n C.1.1 C.1.2.1 dX14_noKey_10 rfl (lv_at hl 1 rfl) ?_
    refine lv_aload_n C.1.1 C.1.2.1 dX14_noKey_11 rfl (lv_at hl 0 rfl) ?_
    refine mr_getI C hw kc_14 1 (by decide) tf_854 wd_2267 dX14_noKey_12 (by decide) rfl ?_
    refine lv_icmp_le (tgt := 22) C.1.1 C.1.2.1 dX14_noKey_15 (by decide) (fun c4 => ?_) (fun c4 => ?_)
    · replace hD := g_pos c4 hD
      refine lv_iconst (v := 0) C.1.1 C.1.2.1 dX14_noKey_22 (by decide) ?_
      exact hb23 0 M2 L _ _ ls hD hw (lv_sub hl [] rfl)
    · replace hD := g_neg c4 hD
      exact hb18 M2 L _ _ ls hD hw (lv_sub hl [] rfl)

theorem dX14_keyByte_0 : decode cX14_keyByte 0 = .ok (.aload_n 0, 1) := by decide +kernel
theorem dX14_keyByte_1 : decode cX14_keyByte 1 = .ok (.iload_n 1, 1) := by decide +kernel
theorem dX14_keyByte_2 : decode cX14_keyByte 2 = .ok (.invokevirtual 82, 3) := by decide +kernel
theorem dX14_keyByte_5 : decode cX14_keyByte 5 = .ok (.ifCond .eq 4, 3) := by decide +kernel
theorem dX14_keyByte_8 : decode cX14_keyByte 8 = .ok (.return_, 1) := by decide +kernel
theorem dX14_keyByte_9 : decode cX14_keyByte 9 = .ok (.aload_n 0, 1) := by decide +kernel
theorem dX14_keyByte_10 : decode cX14_keyByte 10 = .ok (.getfield 7, 3) := by decide +kernel
theorem dX14_keyByte_13 : decode cX14_keyByte 13 = .ok (.bipush 16, 2) := by decide +kernel
theorem dX14_keyByte_15 : decode cX14_keyByte 15 = .ok (.iload_n 1, 1) := by decide +kernel
theorem dX14_keyByte_16 : decode cX14_keyByte 16 = .ok (.imul, 1) := by decide +kernel
theorem dX14_keyByte_17 : decode cX14_keyByte 17 = .ok (.aload_n 0, 1) := by decide +kernel
theorem dX14_keyByte_18 : decode cX14_keyByte 18 = .ok (.getfield 13, 3) := by decide +kernel
theorem dX14_keyByte_21 : decode cX14_keyByte 21 = .ok (.iload_n 1, 1) := by decide +kernel
theorem dX14_keyByte_22 : decode cX14_keyByte 22 = .ok (.iaload, 1) := by decide +kernel
theorem dX14_keyByte_23 : decode cX14_keyByte 23 = .ok (.iadd, 1) := by decide +kernel
theorem dX14_keyByte_24 : decode cX14_keyByte 24 = .ok (.iload_n 2, 1) := by decide +kernel
theorem dX14_keyByte_25 : decode cX14_keyByte 25 = .ok (.sipush 255, 3) := by decide +kernel
theorem dX14_keyByte_28 : decode cX14_keyByte 28 = .ok (.iand, 1) := by decide +kernel
theorem dX14_keyByte_29 : decode cX14_keyByte 29 = .ok (.iastore, 1) := by decide +kernel
theorem dX14_keyByte_30 : decode cX14_keyByte 30 = .ok (.aload_n 0, 1) := by decide +kernel
theorem dX14_keyByte_31 : decode cX14_keyByte 31 = .ok (.getfield 13, 3) := by decide +kernel
theorem dX14_keyByte_34 : decode cX14_keyByte 34 = .ok (.iload_n 1, 1) := by decide +kernel
theorem dX14_keyByte_35 : decode cX14_keyByte 35 = .ok (.aload_n 0, 1) := by decide +kernel
theorem dX14_keyByte_36 : decode cX14_keyByte 36 = .ok (.getfield 13, 3) := by decide +kernel
theorem dX14_keyByte_39 : decode cX14_keyByte 39 = .ok (.iload_n 1, 1) := by decide +kernel
theorem dX14_keyByte_40 : decode cX14_keyByte 40 = .ok (.iaload, 1) := by decide +kernel
theorem dX14_keyByte_41 : decode cX14_keyByte 41 = .ok (.iconst 1, 1) := by decide +kernel
theorem dX14_keyByte_42 : decode cX14_keyByte 42 = .ok (.iadd, 1) := by decide +kernel
theorem dX14_keyByte_43 : decode cX14_keyByte 43 = .ok (.bipush 16, 2) := by decide +kernel
theorem dX14_keyByte_45 : decode cX14_keyByte 45 = .ok (.irem, 1) := by decide +kernel
theorem dX14_keyByte_46 : decode cX14_keyByte 46 = .ok (.iastore, 1) := by decide +kernel
theorem dX14_keyByte_47 : decode cX14_keyByte 47 = .ok (.return_, 1) := by decide +kernel
theorem cwX14_keyByte : mw_cwV yX14_keyByte cX14_keyByte 3 (none) 2 := ⟨⟨wd_16, wd_2776, by decide +kernel⟩, wd_2774, wd_2775⟩
noncomputable def DX14_keyByte (fu : Nat) (a1 : Int32) (a2 : Int32) (M : mwM) (L : mwL) : Option (mwM × mwL) :=
  mb3 (DX14_noKey fu a1 M L) (fun r3 M1 L2 => (if r3 = 0 then mck a1 17 (mck ((16 * a1) + (M1 856 a1.toNatClampNeg)) 272 (mlet (mset M1 855 (((16 * a1) + (M1 856 a1.toNatClampNeg)).toNatClampNeg) (a2 &&& 255)) (fun M7 => mck a1 17 (mck a1 17 (mlet (mset M7 856 (a1.toNatClampNeg) (((M7 856 a1.toNatClampNeg) + 1) - ((M7 856 a1.toNatClampNeg) + 1) / 16 * 16)) (fun M11 => some (M11, L2))))))) else some (M1, L2)))
set_option maxHeartbeats 4000000 in
set_option maxRecDepth 100000 in
theorem tX14_keyByte (l : Launch) (G : mwG) (ad : Nat → Nat) (fu : Nat) (a1 : Int32) (a2 : Int32) (M : mwM) (L : mwL) {M0 : mwM} {L0 : mwL} (hD : DX14_keyByte fu a1 a2 M L = some (M0, L0)) : Met l yX14_keyByte (Cond.code yX14_keyByte cX14_keyByte 3 (none) :: GT) ({ frames := 1, cells := 0, slots := 0, locals := 21 }) (mw_Pre G ad NF TF FF M L [.ref (ad 854), .int a1, .int a2]) (mw_Qv G ad NF TF FF (mw_eqV M0 L0)) 0 0 (mw_fr G) := by
  refine mw_enter (by decide) (Nat.le_of_ble_eq_true rfl) ?_
  intro p e s m below meth c ls C hr hlocks hnm hw hl
  have hl : lv_has ls 3 [(0, .ref (ad 854)), (1, .int a1), (2, .int a2)] := hl
  unfold DX14_keyByte at hD
  refine lv_aload_n C.1.1 C.1.2.1 dX14_keyByte_0 rfl (lv_at hl 0 rfl) ?_
  refine lv_iload_n C.1.1 C.1.2.1 dX14_keyByte_1 rfl (lv_at hl 1 rfl) ?_
  obtain ⟨r3, M1, L2, h1, hD⟩ := g_b3 hD
  refine md_cvI (As := [.int a1]) (rest := []) C hw (tX14_noKey l G ad fu a1 M L h1) kc_14 (by decide) tf_854 wd_2777 cwX14_noKey ⟨Nat.le_of_ble_eq_true rfl, Nat.le_of_ble_eq_true rfl⟩ rfl hl.1 (Nat.le_of_ble_eq_true rfl) dX14_keyByte_2 rfl rfl ⟨Nat.zero_le _, Nat.zero_le _⟩ rfl (fun H locs hw => ?_)
  refine lv_if_eq (tgt := 9) C.1.1 C.1.2.1 dX14_keyByte_5 (by decide) (fun c4 => ?_) (fun c4 => ?_)
  · replace hD := g_pos c4 hD
    refine lv_aload_n C.1.1 C.1.2.1 dX14_keyByte_9 rfl (lv_at hl 0 rfl) ?_
    refine mr_getR C hw kc_14 2 (by decide) tf_854 ff_854_2 wd_2268 dX14_keyByte_10 (by decide) rfl ?_
    refine lv_bipush (v := 16) C.1.1 C.1.2.1 dX14_keyByte_13 (by decide) ?_
    refine lv_iload_n C.1.1 C.1.2.1 dX14_keyByte_15 rfl (lv_at hl 1 rfl) ?_
    refine lv_imul C.1.1 C.1.2.1 dX14_keyByte_16 ?_
    refine lv_aload_n C.1.1 C.1.2.1 dX14_keyByte_17 rfl (lv_at hl 0 rfl) ?_
    refine mr_getR C hw kc_14 3 (by decide) tf_854 ff_854_3 wd_2269 dX14_keyByte_18 (by decide) rfl ?_
    refine lv_iload_n C.1.1 C.1.2.1 dX14_keyByte_21 rfl (lv_at hl 1 rfl) ?_
    obtain ⟨q5, hD⟩ := g_ck hD
    refine mr_iald C hw (by decide) tf_856 q5 dX14_keyByte_22 ?_
    refine lv_iadd C.1.1 C.1.2.1 dX14_keyByte_23 ?_
    refine lv_iload_n C.1.1 C.1.2.1 dX14_keyByte_24 rfl (lv_at hl 2 rfl) ?_
    refine lv_sipush (v := 255) C.1.1 C.1.2.1 dX14_keyByte_25 (by decide) ?_
    refine lv_iand C.1.1 C.1.2.1 dX14_keyByte_28 ?_
    obtain ⟨q6, hD⟩ := g_ck hD
    obtain ⟨M7, eM7, hD⟩ := g_let hD
    refine mr_iast C hw (by decide) tf_855 q6 dX14_keyByte_29 (fun H locs hw => ?_)
    replace hw : mw_W G ad NF TF FF M7 L2 H locs := by rw [eM7]; exact hw
    refine lv_aload_n C.1.1 C.1.2.1 dX14_keyByte_30 rfl (lv_at hl 0 rfl) ?_
    refine mr_getR C hw kc_14 3 (by decide) tf_854 ff_854_3 wd_2269 dX14_keyByte_31 (by decide) rfl ?_
    refine lv_iload_n C.1.1 C.1.2.1 dX14_keyByte_34 rfl (lv_at hl 1 rfl) ?_
    refine lv_aload_n C.1.1 C.1.2.1 dX14_keyByte_35 rfl (lv_at hl 0 rfl) ?_
    refine mr_getR C hw kc_14 3 (by decide) tf_854 ff_854_3 wd_2269 dX14_keyByte_36 (by decide) rfl ?_
    refine lv_iload_n C.1.1 C.1.2.1 dX14_keyByte_39 rfl (lv_at hl 1 rfl) ?_
    obtain ⟨q8, hD⟩ := g_ck hD
    refine mr_iald C hw (by decide) tf_856 q8 dX14_keyByte_40 ?_
    refine lv_iconst (v := 1) C.1.1 C.1.2.1 dX14_keyByte_41 (by decide) ?_
    refine lv_iadd C.1.1 C.1.2.1 dX14_keyByte_42 ?_
    refine lv_bipush (v := 16) C.1.1 C.1.2.1 dX14_keyByte_43 (by decide) ?_
    refine lv_irem C.1.1 C.1.2.1 dX14_keyByte_45 (by decide) ?_
    obtain ⟨q10, hD⟩ := g_ck hD
    obtain ⟨M11, eM11, hD⟩ := g_let hD
    refine mr_iast C hw (by decide) tf_856 q10 dX14_keyByte_46 (fun H locs hw => ?_)
    replace hw : mw_W G ad NF TF FF M11 L2 H locs := by rw [eM11]; exact hw
    exact mr_vret C hr hlocks hw (Option.some.inj hD) dX14_keyByte_47
  · replace hD := g_neg c4 hD
    exact mr_vret C hr hlocks hw (Option.some.inj hD) dX14_keyByte_8

theorem dX14_product_0 : decode cX14_product 0 = .ok (.iconst 0, 1) := by decide +kernel
theorem dX14_product_1 : decode cX14_product 1 = .ok (.istore_n 2, 1) := by decide +kernel
theorem dX14_product_2 : decode cX14_product 2 = .ok (.iload_n 0, 1) := by decide +kernel
theorem dX14_product_3 : decode cX14_product 3 = .ok (.istore_n 3, 1) := by decide +kernel
theorem dX14_product_4 : decode cX14_product 4 = .ok (.iconst 0, 1) := by decide +kernel
theorem dX14_product_5 : decode cX14_product 5 = .ok (.istore 4, 2) := by decide +kernel
theorem dX14_product_7 : decode cX14_product 7 = .ok (.iload 4, 2) := by decide +kernel
theorem dX14_product_9 : decode cX14_product 9 = .ok (.bipush 8, 2) := by decide +kernel
theorem dX14_product_11 : decode cX14_product 11 = .ok (.if_icmp .ge 50, 3) := by decide +kernel
theorem dX14_product_14 : decode cX14_product 14 = .ok (.iload_n 1, 1) := by decide +kernel
theorem dX14_product_15 : decode cX14_product 15 = .ok (.iload 4, 2) := by decide +kernel
theorem dX14_product_17 : decode cX14_product 17 = .ok (.ishr, 1) := by decide +kernel
theorem dX14_product_18 : decode cX14_product 18 = .ok (.iconst 1, 1) := by decide +kernel
theorem dX14_product_19 : decode cX14_product 19 = .ok (.iand, 1) := by decide +kernel
theorem dX14_product_20 : decode cX14_product 20 = .ok (.iconst 1, 1) := by decide +kernel
theorem dX14_product_21 : decode cX14_product 21 = .ok (.if_icmp .ne 9, 3) := by decide +kernel
theorem dX14_product_24 : decode cX14_product 24 = .ok (.iload_n 2, 1) := by decide +kernel
theorem dX14_product_25 : decode cX14_product 25 = .ok (.iload_n 3, 1) := by decide +kernel
theorem dX14_product_26 : decode cX14_product 26 = .ok (.ixor, 1) := by decide +kernel
theorem dX14_product_27 : decode cX14_product 27 = .ok (.goto 4, 3) := by decide +kernel
theorem dX14_product_30 : decode cX14_product 30 = .ok (.iload_n 2, 1) := by decide +kernel
theorem dX14_product_31 : decode cX14_product 31 = .ok (.istore_n 2, 1) := by decide +kernel
theorem dX14_product_32 : decode cX14_product 32 = .ok (.iload_n 3, 1) := by decide +kernel
theorem dX14_product_33 : decode cX14_product 33 = .ok (.bipush 127, 2) := by decide +kernel
theorem dX14_product_35 : decode cX14_product 35 = .ok (.if_icmp .le 16, 3) := by decide +kernel
theorem dX14_product_38 : decode cX14_product 38 = .ok (.iconst 2, 1) := by decide +kernel
theorem dX14_product_39 : decode cX14_product 39 = .ok (.iload_n 3, 1) := by decide +kernel
theorem dX14_product_40 : decode cX14_product 40 = .ok (.imul, 1) := by decide +kernel
theorem dX14_product_41 : decode cX14_product 41 = .ok (.sipush 256, 3) := by decide +kernel
theorem dX14_product_44 : decode cX14_product 44 = .ok (.isub, 1) := by decide +kernel
theorem dX14_product_45 : decode cX14_product 45 = .ok (.bipush 27, 2) := by decide +kernel
theorem dX14_product_47 : decode cX14_product 47 = .ok (.ixor, 1) := by decide +kernel
theorem dX14_product_48 : decode cX14_product 48 = .ok (.goto 6, 3) := by decide +kernel
theorem dX14_product_51 : decode cX14_product 51 = .ok (.iconst 2, 1) := by decide +kernel
theorem dX14_product_52 : decode cX14_product 52 = .ok (.iload_n 3, 1) := by decide +kernel
theorem dX14_product_53 : decode cX14_product 53 = .ok (.imul, 1) := by decide +kernel
theorem dX14_product_54 : decode cX14_product 54 = .ok (.istore_n 3, 1) := by decide +kernel
theorem dX14_product_55 : decode cX14_product 55 = .ok (.iinc 4 1, 3) := by decide +kernel
theorem dX14_product_58 : decode cX14_product 58 = .ok (.goto (-51), 3) := by decide +kernel
theorem dX14_product_61 : decode cX14_product 61 = .ok (.iload_n 2, 1) := by decide +kernel
theorem dX14_product_62 : decode cX14_product 62 = .ok (.ireturn, 1) := by decide +kernel
theorem cwX14_product : mw_cwS yX14_product cX14_product 5 ((some .int)) 2 := ⟨⟨wd_16, wd_2265, by decide +kernel⟩, wd_2264⟩
noncomputable def fX14_product_b54 (fu : Nat) (a1 : Int32) (a2 : Int32) (r7 : (Int32 × Int32 × Int32 × mwM × mwL) → Option (Int32 × mwM × mwL)) (v2 : Int32) (v4 : Int32) (s0 : Int32) (M : mwM) (L : mwL) : Option (Int32 × mwM × mwL) :=
  mlet (v4 + 1) (fun x4 => r7 (v2, s0, x4, M, L))
noncomputable def fX14_product_b31 (fu : Nat) (a1 : Int32) (a2 : Int32) (r7 : (Int32 × Int32 × Int32 × mwM × mwL) → Option (Int32 × mwM × mwL)) (v3 : Int32) (v4 : Int32) (s0 : Int32) (M : mwM) (L : mwL) : Option (Int32 × mwM × mwL) :=
  (if v3 ≤ 127 then fX14_product_b54 fu a1 a2 r7 s0 v4 (2 * v3) M L else fX14_product_b54 fu a1 a2 r7 s0 v4 (((2 * v3) - 256) ^^^ 27) M L)
noncomputable def fX14_product_i7 (fu : Nat) (a1 : Int32) (a2 : Int32) (r7 : (Int32 × Int32 × Int32 × mwM × mwL) → Option (Int32 × mwM × mwL)) (v2 : Int32) (v3 : Int32) (v4 : Int32) (M : mwM) (L : mwL) : Option (Int32 × mwM × mwL) :=
  (if 8 ≤ v4 then some (v2, M, L) else (if ((a2 >>> (v4 &&& 31)) &&& 1) = 1 then fX14_product_b31 fu a1 a2 r7 v3 v4 (v2 ^^^ v3) M L else fX14_product_b31 fu a1 a2 r7 v3 v4 v2 M L))
noncomputable def fX14_product_h7 (fu : Nat) (a1 : Int32) (a2 : Int32) : Nat → (Int32 × Int32 × Int32 × mwM × mwL) → Option (Int32 × mwM × mwL) := mloop (fun r7 s => fX14_product_i7 fu a1 a2 r7 s.1 s.2.1 s.2.2.1 s.2.2.2.1 s.2.2.2.2)
noncomputable def DX14_product (fu : Nat) (a1 : Int32) (a2 : Int32) (M : mwM) (L : mwL) : Option (Int32 × mwM × mwL) :=
  fX14_product_h7 fu a1 a2 fu (0, a1, 0, M, L)
set_option maxHeartbeats 4000000 in
set_option maxRecDepth 100000 in
theorem tX14_product (l : Launch) (G : mwG) (ad : Nat → Nat) (fu : Nat) (a1 : Int32) (a2 : Int32) (M : mwM) (L : mwL) {r0 : Int32} {M0 : mwM} {L0 : mwL} (hD : DX14_product fu a1 a2 M L = some (r0, M0, L0)) : Met l yX14_product (Cond.code yX14_product cX14_product 5 ((some .int)) :: GT) ({ frames := 0, cells := 0, slots := 0, locals := 0 }) (mw_Pre G ad NF TF FF M L [.int a1, .int a2]) (mw_Qi G ad NF TF FF (mw_eqI r0 M0 L0)) 0 0 (mw_fr G) := by
  refine mw_enter (by decide) (Nat.le_of_ble_eq_true rfl) ?_
  intro p e s m below meth c ls C hr hlocks hnm hw hl
  have hl : lv_has ls 5 [(0, .int a1), (1, .int a2)] := hl
  have hh7 : ∀ (f : Nat) (v2 : Int32) (v3 : Int32) (v4 : Int32) (M : mwM) (L : mwL) (H : Heap) (locs : List Loc) (ls : Array Slot), fX14_product_h7 fu a1 a2 f (v2, v3, v4, M, L) = some (r0, M0, L0) → mw_W G ad NF TF FF M L H locs → lv_has ls 5 [(1, .int a2), (2, .int v2), (3, .int v3), (4, .int v4)] → W p l e ({ frames := 0, cells := 0, slots := 0, locals := 0 }) s m [.int a1, .int a2].toArray below meth c H locs 0 0 (MQ below (mw_Qi G ad NF TF FF (mw_eqI r0 M0 L0)) [.int a1, .int a2].toArray s 0 0 (mw_fr G)) (F0 m 7 ls []) := by
    intro f
    induction f with
    | zero => intro v2 v3 v4 M L H locs ls hD; cases hD
    | succ f7 ih7 =>
      intro v2 v3 v4 M L H locs ls hD hw hl
      replace hD : fX14_product_i7 fu a1 a2 (fX14_product_h7 fu a1 a2 f7) v2 v3 v4 M L = some (r0, M0, L0) := hD
      have hb54 : ∀ (v2 : Int32) (v4 : Int32) (s0 : Int32) (M : mwM) (L : mwL) (H : Heap) (locs : List Loc) (ls : Array Slot), fX14_product_b54 fu a1 a2 (fX14_product_h7 fu a1 a2 f7) v2 v4 s0 M L = some (r0, M0, L0) → mw_W G ad NF TF FF M L H locs → lv_has ls 5 [(1, .int a2), (2, .int v2), (4, .int v4)] → W p l e ({ frames := 0, cells := 0, slots := 0, locals := 0 }) s m [.int a1, .int a2].toArray below meth c H locs 0 0 (MQ below (mw_Qi G ad NF TF FF (mw_eqI r0 M0 L0)) [.int a1, .int a2].toArray s 0 0 (mw_fr G)) (F0 m 54 ls [.int s0]) := by
        intro v2 v4 s0 M L H locs ls hD hw hl
        unfold fX14_product_b54 at hD
        refine lv_istore_n (lv' := [(3, .int s0), (1, .int a2), (2, .int v2), (4, .int v4)]) C.1.1 C.1.2.1 dX14_product_54 rfl hl (by decide) rfl (fun ls hl => ?_)
        obtain ⟨x4, ex4, hD⟩ := g_let hD
        refine lv_iinc (v := x4) (lv' := [(4, .int x4), (3, .int s0), (1, .int a2), (2, .int v2)]) C.1.1 C.1.2.1 dX14_product_55 hl (k := 3) rfl (by rw [ex4]; rfl) (by decide) rfl (fun ls hl => ?_)
        refine lv_goto (tgt := 7) C.1.1 C.1.2.1 dX14_product_58 (by decide) ?_
        exact ih7 v2 s0 x4 M L _ _ ls hD hw (lv_sub hl [2, 3, 1, 0] rfl)
      have hb31 : ∀ (v3 : Int32) (v4 : Int32) (s0 : Int32) (M : mwM) (L : mwL) (H : Heap) (locs : List Loc) (ls : Array Slot), fX14_product_b31 fu a1 a2 (fX14_product_h7 fu a1 a2 f7) v3 v4 s0 M L = some (r0, M0, L0) → mw_W G ad NF TF FF M L H locs → lv_has ls 5 [(1, .int a2), (3, .int v3), (4, .int v4)] → W p l e ({ frames := 0, cells := 0, slots := 0, locals := 0 }) s m [.int a1, .int a2].toArray below meth c H locs 0 0 (MQ below (mw_Qi G ad NF TF FF (mw_eqI r0 M0 L0)) [.int a1, .int a2].toArray s 0 0 (mw_fr G)) (F0 m 31 ls [.int s0]) := by
        intro v3 v4 s0 M L H locs ls hD hw hl
        unfold fX14_product_b31 at hD
        refine lv_istore_n (lv' := [(2, .int s0), (1, .int a2), (3, .int v3), (4, .int v4)]) C.1.1 C.1.2.1 dX14_product_31 rfl hl (by decide) rfl (fun ls hl => ?_)
        refine lv_iload_n C.1.1 C.1.2.1 dX14_product_32 rfl (lv_at hl 2 rfl) ?_
        refine lv_bipush (v := 127) C.1.1 C.1.2.1 dX14_product_33 (by decide) ?_
        refine lv_icmp_le (tgt := 51) C.1.1 C.1.2.1 dX14_product_35 (by decide) (fun c3 => ?_) (fun c3 => ?_)
        · replace hD := g_pos c3 hD
          refine lv_iconst (v := 2) C.1.1 C.1.2.1 dX14_product_51 (by decide) ?_
          refine lv_iload_n C.1.1 C.1.2.1 dX14_product_52 rfl (lv_at hl 2 rfl) ?_
          refine lv_imul C.1.1 C.1.2.1 dX14_product_53 ?_
          exact hb54 s0 v4 (2 * v3) M L _ _ ls hD hw (lv_sub hl [1, 0, 3] rfl)
        · replace hD := g_neg c3 hD
          refine lv_iconst (v := 2) C.1.1 C.1.2.1 dX14_product_38 (by decide) ?_
          refine lv_iload_n C.1.1 C.1.2.1 dX14_product_39 rfl (lv_at hl 2 rfl) ?_
          refine lv_imul C.1.1 C.1.2.1 dX14_product_40 ?_
          refine lv_sipush (v := 256) C.1.1 C.1.2.1 dX14_product_41 (by decide) ?_
          refine lv_isub C.1.1 C.1.2.1 dX14_product_44 ?_
          refine lv_bipush (v := 27) C.1.1 C.1.2.1 dX14_product_45 (by decide) ?_
          refine lv_ixor C.1.1 C.1.2.1 dX14_product_47 ?_
          refine lv_goto (tgt := 54) C.1.1 C.1.2.1 dX14_product_48 (by decide) ?_
          exact hb54 s0 v4 (((2 * v3) - 256) ^^^ 27) M L _ _ ls hD hw (lv_sub hl [1, 0, 3] rfl)
      unfold fX14_product_i7 at hD
      refine lv_iload C.1.1 C.1.2.1 dX14_product_7 (lv_at hl 3 rfl) ?_
      refine lv_bipush (v := 8) C.1.1 C.1.2.1 dX14_product_9 (by decide) ?_
      refine lv_icmp_ge (tgt := 61) C.1.1 C.1.2.1 dX14_product_11 (by decide) (fun c1 => ?_) (fun c1 => ?_)
      · replace hD := g_pos c1 hD
        refine lv_iload_n C.1.1 C.1.2.1 dX14_product_61 rfl (lv_at hl 1 rfl) ?_
        exact mr_iret C hr hlocks hw rfl (Option.some.inj hD) dX14_product_62
      · replace hD := g_neg c1 hD
        refine lv_iload_n C.1.1 C.1.2.1 dX14_product_14 rfl (lv_at hl 0 rfl) ?_
        refine lv_iload C.1.1 C.1.2.1 dX14_product_15 (lv_at hl 3 rfl) ?_
        refine lv_ishr C.1.1 C.1.2.1 dX14_product_17 ?_
        refine lv_iconst (v := 1) C.1.1 C.1.2.1 dX14_product_18 (by decide) ?_
        refine lv_iand C.1.1 C.1.2.1 dX14_product_19 ?_
        refine lv_iconst (v := 1) C.1.1 C.1.2.1 dX14_product_20 (by decide) ?_
        refine lv_icmp_ne (tgt := 30) C.1.1 C.1.2.1 dX14_product_21 (by decide) (fun c2 => ?_) (fun c2 => ?_)
        · replace hD := g_neg c2 hD
          refine lv_iload_n C.1.1 C.1.2.1 dX14_product_30 rfl (lv_at hl 1 rfl) ?_
          exact hb31 v3 v4 v2 M L _ _ ls hD hw (lv_sub hl [0, 2, 3] rfl)
        · replace hD := g_pos c2 hD
          refine lv_iload_n C.1.1 C.1.2.1 dX14_product_24 rfl (lv_at hl 1 rfl) ?_
          refine lv_iload_n C.1.1 C.1.2.1 dX14_product_25 rfl (lv_at hl 2 rfl) ?_
          refine lv_ixor C.1.1 C.1.2.1 dX14_product_26 ?_
          refine lv_goto (tgt := 31) C.1.1 C.1.2.1 dX14_product_27 (by decide) ?_
          exact hb31 v3 v4 (v2 ^^^ v3) M L _ _ ls hD hw (lv_sub hl [0, 2, 3] rfl)
  unfold DX14_product at hD
  refine lv_iconst (v := 0) C.1.1 C.1.2.1 dX14_product_0 (by decide) ?_
  refine lv_istore_n (lv' := [(2, .int 0), (0, .int a1), (1, .int a2)]) C.1.1 C.1.2.1 dX14_product_1 rfl hl (by decide) rfl (fun ls hl => ?_)
  refine lv_iload_n C.1.1 C.1.2.1 dX14_product_2 rfl (lv_at hl 1 rfl) ?_
  refine lv_istore_n (lv' := [(3, .int a1), (2, .int 0), (0, .int a1), (1, .int a2)]) C.1.1 C.1.2.1 dX14_product_3 rfl hl (by decide) rfl (fun ls hl => ?_)
  refine lv_iconst (v := 0) C.1.1 C.1.2.1 dX14_product_4 (by decide) ?_
  refine lv_istore (lv' := [(4, .int 0), (3, .int a1), (2, .int 0), (0, .int a1), (1, .int a2)]) C.1.1 C.1.2.1 dX14_product_5 hl (by decide) rfl (fun ls hl => ?_)
  exact hh7 fu 0 a1 0 M L _ _ ls hD hw (lv_sub hl [4, 2, 1, 0] rfl)

theorem dX14_substituteOf_0 : decode cX14_substituteOf 0 = .ok (.iconst 0, 1) := by decide +kernel
theorem dX14_substituteOf_1 : decode cX14_substituteOf 1 = .ok (.istore_n 1, 1) := by decide +kernel
theorem dX14_substituteOf_2 : decode cX14_substituteOf 2 = .ok (.iload_n 0, 1) := by decide +kernel
theorem dX14_substituteOf_3 : decode cX14_substituteOf 3 = .ok (.ifCond .le 18, 3) := by decide +kernel
theorem dX14_substituteOf_6 : decode cX14_substituteOf 6 = .ok (.iload_n 0, 1) := by decide +kernel
theorem dX14_substituteOf_7 : decode cX14_substituteOf 7 = .ok (.iload_n 1, 1) := by decide +kernel
theorem dX14_substituteOf_8 : decode cX14_substituteOf 8 = .ok (.invokestatic 65, 3) := by decide +kernel
theorem dX14_substituteOf_11 : decode cX14_substituteOf 11 = .ok (.iconst 1, 1) := by decide +kernel
theorem dX14_substituteOf_12 : decode cX14_substituteOf 12 = .ok (.if_icmp .eq 9, 3) := by decide +kernel
theorem dX14_substituteOf_15 : decode cX14_substituteOf 15 = .ok (.iinc 1 1, 3) := by decide +kernel
theorem dX14_substituteOf_18 : decode cX14_substituteOf 18 = .ok (.goto (-16), 3) := by decide +kernel
theorem dX14_substituteOf_21 : decode cX14_substituteOf 21 = .ok (.bipush 99, 2) := by decide +kernel
theorem dX14_substituteOf_23 : decode cX14_substituteOf 23 = .ok (.istore_n 2, 1) := by decide +kernel
theorem dX14_substituteOf_24 : decode cX14_substituteOf 24 = .ok (.iconst 0, 1) := by decide +kernel
theorem dX14_substituteOf_25 : decode cX14_substituteOf 25 = .ok (.istore_n 3, 1) := by decide +kernel
theorem dX14_substituteOf_26 : decode cX14_substituteOf 26 = .ok (.iload_n 3, 1) := by decide +kernel
theorem dX14_substituteOf_27 : decode cX14_substituteOf 27 = .ok (.iconst 5, 1) := by decide +kernel
theorem dX14_substituteOf_28 : decode cX14_substituteOf 28 = .ok (.if_icmp .ge 26, 3) := by decide +kernel
theorem dX14_substituteOf_31 : decode cX14_substituteOf 31 = .ok (.iload_n 2, 1) := by decide +kernel
theorem dX14_substituteOf_32 : decode cX14_substituteOf 32 = .ok (.iload_n 1, 1) := by decide +kernel
theorem dX14_substituteOf_33 : decode cX14_substituteOf 33 = .ok (.iload_n 3, 1) := by decide +kernel
theorem dX14_substituteOf_34 : decode cX14_substituteOf 34 = .ok (.ishl, 1) := by decide +kernel
theorem dX14_substituteOf_35 : decode cX14_substituteOf 35 = .ok (.iload_n 1, 1) := by decide +kernel
theorem dX14_substituteOf_36 : decode cX14_substituteOf 36 = .ok (.bipush 8, 2) := by decide +kernel
theorem dX14_substituteOf_38 : decode cX14_substituteOf 38 = .ok (.iload_n 3, 1) := by decide +kernel
theorem dX14_substituteOf_39 : decode cX14_substituteOf 39 = .ok (.isub, 1) := by decide +kernel
theorem dX14_substituteOf_40 : decode cX14_substituteOf 40 = .ok (.ishr, 1) := by decide +kernel
theorem dX14_substituteOf_41 : decode cX14_substituteOf 41 = .ok (.ior, 1) := by decide +kernel
theorem dX14_substituteOf_42 : decode cX14_substituteOf 42 = .ok (.sipush 255, 3) := by decide +kernel
theorem dX14_substituteOf_45 : decode cX14_substituteOf 45 = .ok (.iand, 1) := by decide +kernel
theorem dX14_substituteOf_46 : decode cX14_substituteOf 46 = .ok (.ixor, 1) := by decide +kernel
theorem dX14_substituteOf_47 : decode cX14_substituteOf 47 = .ok (.istore_n 2, 1) := by decide +kernel
theorem dX14_substituteOf_48 : decode cX14_substituteOf 48 = .ok (.iinc 3 1, 3) := by decide +kernel
theorem dX14_substituteOf_51 : decode cX14_substituteOf 51 = .ok (.goto (-25), 3) := by decide +kernel
theorem dX14_substituteOf_54 : decode cX14_substituteOf 54 = .ok (.iload_n 2, 1) := by decide +kernel
theorem dX14_substituteOf_55 : decode cX14_substituteOf 55 = .ok (.ireturn, 1) := by decide +kernel
theorem cwX14_substituteOf : mw_cwS yX14_substituteOf cX14_substituteOf 4 ((some .int)) 1 := ⟨⟨wd_16, wd_2262, by decide +kernel⟩, wd_2261⟩
noncomputable def fX14_substituteOf_i26 (fu : Nat) (a1 : Int32) (r26 : (Int32 × Int32 × Int32 × mwM × mwL) → Option (Int32 × mwM × mwL)) (v1 : Int32) (v2 : Int32) (v3 : Int32) (M : mwM) (L : mwL) : Option (Int32 × mwM × mwL) :=
  (if 5 ≤ v3 then some (v2, M, L) else mlet (v2 ^^^ (((v1 <<< (v3 &&& 31)) ||| (v1 >>> ((8 - v3) &&& 31))) &&& 255)) (fun x8 => mlet (v3 + 1) (fun x9 => r26 (v1, x8, x9, M, L))))
noncomputable def fX14_substituteOf_h26 (fu : Nat) (a1 : Int32) : Nat → (Int32 × Int32 × Int32 × mwM × mwL) → Option (Int32 × mwM × mwL) := mloop (fun r26 s => fX14_substituteOf_i26 fu a1 r26 s.1 s.2.1 s.2.2.1 s.2.2.2.1 s.2.2.2.2)
noncomputable def fX14_substituteOf_b21 (fu : Nat) (a1 : Int32) (v1 : Int32) (M : mwM) (L : mwL) : Option (Int32 × mwM × mwL) :=
  fX14_substituteOf_h26 fu a1 fu (v1, 99, 0, M, L)
noncomputable def fX14_substituteOf_i2 (fu : Nat) (a1 : Int32) (r2 : (Int32 × mwM × mwL) → Option (Int32 × mwM × mwL)) (v1 : Int32) (M : mwM) (L : mwL) : Option (Int32 × mwM × mwL) :=
  (if a1 ≤ 0 then fX14_substituteOf_b21 fu a1 v1 M L else mb3 (DX14_product fu a1 v1 M L) (fun r4 M2 L3 => (if r4 = 1 then fX14_substituteOf_b21 fu a1 v1 M2 L3 else mlet (v1 + 1) (fun x6 => r2 (x6, M2, L3)))))
noncomputable def fX14_substituteOf_h2 (fu : Nat) (a1 : Int32) : Nat → (Int32 × mwM × mwL) → Option (Int32 × mwM × mwL) := mloop (fun r2 s => fX14_substituteOf_i2 fu a1 r2 s.1 s.2.1 s.2.2)
noncomputable def DX14_substituteOf (fu : Nat) (a1 : Int32) (M : mwM) (L : mwL) : Option (Int32 × mwM × mwL) :=
  fX14_substituteOf_h2 fu a1 fu (0, M, L)
set_option maxHeartbeats 4000000 in
set_option maxRecDepth 100000 in
theorem tX14_substituteOf (l : Launch) (G : mwG) (ad : Nat → Nat) (fu : Nat) (a1 : Int32) (M : mwM) (L : mwL) {r0 : Int32} {M0 : mwM} {L0 : mwL} (hD : DX14_substituteOf fu a1 M L = some (r0, M0, L0)) : Met l yX14_substituteOf (Cond.code yX14_substituteOf cX14_substituteOf 4 ((some .int)) :: GT) ({ frames := 1, cells := 0, slots := 0, locals := 24 }) (mw_Pre G ad NF TF FF M L [.int a1]) (mw_Qi G ad NF TF FF (mw_eqI r0 M0 L0)) 0 0 (mw_fr G) := by
  refine mw_enter (by decide) (Nat.le_of_ble_eq_true rfl) ?_
  intro p e s m below meth c ls C hr hlocks hnm hw hl
  have hl : lv_has ls 4 [(0, .int a1)] := hl
  have hh26 : ∀ (f : Nat) (v1 : Int32) (v2 : Int32) (v3 : Int32) (M : mwM) (L : mwL) (H : Heap) (locs : List Loc) (ls : Array Slot), fX14_substituteOf_h26 fu a1 f (v1, v2, v3, M, L) = some (r0, M0, L0) → mw_W G ad NF TF FF M L H locs → lv_has ls 4 [(1, .int v1), (2, .int v2), (3, .int v3)] → W p l e ({ frames := 1, cells := 0, slots := 0, locals := 24 }) s m [.int a1].toArray below meth c H locs 0 0 (MQ below (mw_Qi G ad NF TF FF (mw_eqI r0 M0 L0)) [.int a1].toArray s 0 0 (mw_fr G)) (F0 m 26 ls []) := by
    intro f
    induction f with
    | zero => intro v1 v2 v3 M L H locs ls hD; cases hD
    | succ f26 ih26 =>
      intro v1 v2 v3 M L H locs ls hD hw hl
      replace hD : fX14_substituteOf_i26 fu a1 (fX14_substituteOf_h26 fu a1 f26) v1 v2 v3 M L = some (r0, M0, L0) := hD
      unfold fX14_substituteOf_i26 at hD
      refine lv_iload_n C.1.1 C.1.2.1 dX14_substituteOf_26 rfl (lv_at hl 2 rfl) ?_
      refine lv_iconst (v := 5) C.1.1 C.1.2.1 dX14_substituteOf_27 (by decide) ?_
      refine lv_icmp_ge (tgt := 54) C.1.1 C.1.2.1 dX14_substituteOf_28 (by decide) (fun c7 => ?_) (fun c7 => ?_)
      · replace hD := g_pos c7 hD
        refine lv_iload_n C.1.1 C.1.2.1 dX14_substituteOf_54 rfl (lv_at hl 1 rfl) ?_
        exact mr_iret C hr hlocks hw rfl (Option.some.inj hD) dX14_substituteOf_55
      · replace hD := g_neg c7 hD
        refine lv_iload_n C.1.1 C.1.2.1 dX14_substituteOf_31 rfl (lv_at hl 1 rfl) ?_
        refine lv_iload_n C.1.1 C.1.2.1 dX14_substituteOf_32 rfl (lv_at hl 0 rfl) ?_
        refine lv_iload_n C.1.1 C.1.2.1 dX14_substituteOf_33 rfl (lv_at hl 2 rfl) ?_
        refine lv_ishl C.1.1 C.1.2.1 dX14_substituteOf_34 ?_
        refine lv_iload_n C.1.1 C.1.2.1 dX14_substituteOf_35 rfl (lv_at hl 0 rfl) ?_
        refine lv_bipush (v := 8) C.1.1 C.1.2.1 dX14_substituteOf_36 (by decide) ?_
        refine lv_iload_n C.1.1 C.1.2.1 dX14_substituteOf_38 rfl (lv_at hl 2 rfl) ?_
        refine lv_isub C.1.1 C.1.2.1 dX14_substituteOf_39 ?_
        refine lv_ishr C.1.1 C.1.2.1 dX14_substituteOf_40 ?_
        refine lv_ior C.1.1 C.1.2.1 dX14_substituteOf_41 ?_
        refine lv_sipush (v := 255) C.1.1 C.1.2.1 dX14_substituteOf_42 (by decide) ?_
        refine lv_iand C.1.1 C.1.2.1 dX14_substituteOf_45 ?_
        refine lv_ixor C.1.1 C.1.2.1 dX14_substituteOf_46 ?_
        obtain ⟨x8, ex8, hD⟩ := g_let hD
        refine W.eq (g2 := F0 m 47 ls (.int x8 :: [])) (by rw [ex8]) ?_
        refine lv_istore_n (lv' := [(2, .int x8), (1, .int v1), (3, .int v3)]) C.1.1 C.1.2.1 dX14_substituteOf_47 rfl hl (by decide) rfl (fun ls hl => ?_)
        obtain ⟨x9, ex9, hD⟩ := g_let hD
        refine lv_iinc (v := x9) (lv' := [(3, .int x9), (2, .int x8), (1, .int v1)]) C.1.1 C.1.2.1 dX14_substituteOf_48 hl (k := 2) rfl (by rw [ex9]; rfl) (by decide) rfl (fun ls hl => ?_)
        refine lv_goto (tgt := 26) C.1.1 C.1.2.1 dX14_substituteOf_51 (by decide) ?_
        exact ih26 v1 x8 x9 M L _ _ ls hD hw (lv_sub hl [2, 1, 0] rfl)
  have hb21 : ∀ (v1 : Int32) (M : mwM) (L : mwL) (H : Heap) (locs : List Loc) (ls : Array Slot), fX14_substituteOf_b21 fu a1 v1 M L = some (r0, M0, L0) → mw_W G ad NF TF FF M L H locs → lv_has ls 4 [(1, .int v1)] → W p l e ({ frames := 1, cells := 0, slots := 0, locals := 24 }) s m [.int a1].toArray below meth c H locs 0 0 (MQ below (mw_Qi G ad NF TF FF (mw_eqI r0 M0 L0)) [.int a1].toArray s 0 0 (mw_fr G)) (F0 m 21 ls []) := by
    intro v1 M L H locs ls hD hw hl
    unfold fX14_substituteOf_b21 at hD
    refine lv_bipush (v := 99) C.1.1 C.1.2.1 dX14_substituteOf_21 (by decide) ?_
    refine lv_istore_n (lv' := [(2, .int 99), (1, .int v1)]) C.1.1 C.1.2.1 dX14_substituteOf_23 rfl hl (by decide) rfl (fun ls hl => ?_)
    refine lv_iconst (v := 0) C.1.1 C.1.2.1 dX14_substituteOf_24 (by decide) ?_
    refine lv_istore_n (lv' := [(3, .int 0), (2, .int 99), (1, .int v1)]) C.1.1 C.1.2.1 dX14_substituteOf_25 rfl hl (by decide) rfl (fun ls hl => ?_)
    exact hh26 fu v1 99 0 M L _ _ ls hD hw (lv_sub hl [2, 1, 0] rfl)
  have hh2 : ∀ (f : Nat) (v1 : Int32) (M : mwM) (L : mwL) (H : Heap) (locs : List Loc) (ls : Array Slot), fX14_substituteOf_h2 fu a1 f (v1, M, L) = some (r0, M0, L0) → mw_W G ad NF TF FF M L H locs → lv_has ls 4 [(0, .int a1), (1, .int v1)] → W p l e ({ frames := 1, cells := 0, slots := 0, locals := 24 }) s m [.int a1].toArray below meth c H locs 0 0 (MQ below (mw_Qi G ad NF TF FF (mw_eqI r0 M0 L0)) [.int a1].toArray s 0 0 (mw_fr G)) (F0 m 2 ls []) := by
    intro f
    induction f with
    | zero => intro v1 M L H locs ls hD; cases hD
    | succ f2 ih2 =>
      intro v1 M L H locs ls hD hw hl
      replace hD : fX14_substituteOf_i2 fu a1 (fX14_substituteOf_h2 fu a1 f2) v1 M L = some (r0, M0, L0) := hD
      unfold fX14_substituteOf_i2 at hD
      refine lv_iload_n C.1.1 C.1.2.1 dX14_substituteOf_2 rfl (lv_at hl 0 rfl) ?_
      refine lv_if_le (tgt := 21) C.1.1 C.1.2.1 dX14_substituteOf_3 (by decide) (fun c1 => ?_) (fun c1 => ?_)
      · replace hD := g_pos c1 hD
        exact hb21 v1 M L _ _ ls hD hw (lv_sub hl [1] rfl)
      · replace hD := g_neg c1 hD
        refine lv_iload_n C.1.1 C.1.2.1 dX14_substituteOf_6 rfl (lv_at hl 0 rfl) ?_
        refine lv_iload_n C.1.1 C.1.2.1 dX14_substituteOf_7 rfl (lv_at hl 1 rfl) ?_
        obtain ⟨r4, M2, L3, h1, hD⟩ := g_b3 hD
        refine md_csI (As := [.int a1, .int v1]) (rest := []) C hw (tX14_product l G ad fu a1 v1 M L h1) wd_2263 cwX14_product ⟨Nat.le_of_ble_eq_true rfl, Nat.le_of_ble_eq_true rfl⟩ rfl hl.1 (Nat.le_of_ble_eq_true rfl) dX14_substituteOf_8 rfl rfl ⟨Nat.zero_le _, Nat.zero_le _⟩ rfl (fun H locs hw => ?_)
        refine lv_iconst (v := 1) C.1.1 C.1.2.1 dX14_substituteOf_11 (by decide) ?_
        refine lv_icmp_eq (tgt := 21) C.1.1 C.1.2.1 dX14_substituteOf_12 (by decide) (fun c5 => ?_) (fun c5 => ?_)
        · replace hD := g_pos c5 hD
          exact hb21 v1 M2 L3 _ _ ls hD hw (lv_sub hl [1] rfl)
        · replace hD := g_neg c5 hD
          obtain ⟨x6, ex6, hD⟩ := g_let hD
          refine lv_iinc (v := x6) (lv' := [(1, .int x6), (0, .int a1)]) C.1.1 C.1.2.1 dX14_substituteOf_15 hl (k := 1) rfl (by rw [ex6]; rfl) (by decide) rfl (fun ls hl => ?_)
          refine lv_goto (tgt := 2) C.1.1 C.1.2.1 dX14_substituteOf_18 (by decide) ?_
          exact ih2 x6 M2 L3 _ _ ls hD hw (lv_sub hl [1, 0] rfl)
  unfold DX14_substituteOf at hD
  refine lv_iconst (v := 0) C.1.1 C.1.2.1 dX14_substituteOf_0 (by decide) ?_
  refine lv_istore_n (lv' := [(1, .int 0), (0, .int a1)]) C.1.1 C.1.2.1 dX14_substituteOf_1 rfl hl (by decide) rfl (fun ls hl => ?_)
  exact hh2 fu 0 M L _ _ ls hD hw (lv_sub hl [1, 0] rfl)
