theorem dX11_lettersIn_0 : decode cX11_lettersIn 0 = .ok (.iconst 0, 1) := by decide +kernel
theorem dX11_lettersIn_1 : decode cX11_lettersIn 1 = .ok (.istore_n 1, 1) := by decide +kernel
theorem dX11_lettersIn_2 : decode cX11_lettersIn 2 = .ok (.bipush 24, 2) := by decide +kernel
theorem dX11_lettersIn_4 : decode cX11_lettersIn 4 = .ok (.istore_n 2, 1) := by decide +kernel
theorem dX11_lettersIn_5 : decode cX11_lettersIn 5 = .ok (.iload_n 2, 1) := by decide +kernel
theorem dX11_lettersIn_6 : decode cX11_lettersIn 6 = .ok (.ifCond .lt 27, 3) := by decide +kernel
theorem dX11_lettersIn_9 : decode cX11_lettersIn 9 = .ok (.iload_n 1, 1) := by decide +kernel
theorem dX11_lettersIn_10 : decode cX11_lettersIn 10 = .ok (.iload_n 0, 1) := by decide +kernel
theorem dX11_lettersIn_11 : decode cX11_lettersIn 11 = .ok (.iload_n 2, 1) := by decide +kernel
theorem dX11_lettersIn_12 : decode cX11_lettersIn 12 = .ok (.iushr, 1) := by decide +kernel
theorem dX11_lettersIn_13 : decode cX11_lettersIn 13 = .ok (.sipush 255, 3) := by decide +kernel
theorem dX11_lettersIn_16 : decode cX11_lettersIn 16 = .ok (.iand, 1) := by decide +kernel
theorem dX11_lettersIn_17 : decode cX11_lettersIn 17 = .ok (.ifCond .eq 7, 3) := by decide +kernel
theorem dX11_lettersIn_20 : decode cX11_lettersIn 20 = .ok (.iconst 1, 1) := by decide +kernel
theorem dX11_lettersIn_21 : decode cX11_lettersIn 21 = .ok (.goto 4, 3) := by decide +kernel
theorem dX11_lettersIn_24 : decode cX11_lettersIn 24 = .ok (.iconst 0, 1) := by decide +kernel
theorem dX11_lettersIn_25 : decode cX11_lettersIn 25 = .ok (.iadd, 1) := by decide +kernel
theorem dX11_lettersIn_26 : decode cX11_lettersIn 26 = .ok (.istore_n 1, 1) := by decide +kernel
theorem dX11_lettersIn_27 : decode cX11_lettersIn 27 = .ok (.iinc 2 (-8), 3) := by decide +kernel
theorem dX11_lettersIn_30 : decode cX11_lettersIn 30 = .ok (.goto (-25), 3) := by decide +kernel
theorem dX11_lettersIn_33 : decode cX11_lettersIn 33 = .ok (.iload_n 1, 1) := by decide +kernel
theorem dX11_lettersIn_34 : decode cX11_lettersIn 34 = .ok (.ireturn, 1) := by decide +kernel
theorem cwX11_lettersIn : mw_cwS yX11_lettersIn cX11_lettersIn 3 ((some .int)) 1 := ⟨⟨wd_1, wd_693, by decide +kernel⟩, wd_692⟩
set_option maxHeartbeats 4000000 in
set_option maxRecDepth 100000 in
theorem tX11_lettersIn (l : Launch) (G : mwG) (ad : Nat → Nat) (fu : Nat) (a1 : Int32) (M : mwM) (L : mwL) {r0 : Int32} {M0 : mwM} {L0 : mwL} (hD : DX11_lettersIn fu a1 M L = some (r0, M0, L0)) : Met l yX11_lettersIn (Cond.code yX11_lettersIn cX11_lettersIn 3 ((some .int)) :: GT) ({ frames := 0, cells := 0, slots := 0, locals := 0 }) (mw_Pre G ad NF TF FF M L [.int a1]) (mw_Qi G ad NF TF FF (mw_eqI r0 M0 L0)) 0 0 (mw_fr G) := by
  refine mw_enter (by decide) (Nat.le_of_ble_eq_true rfl) ?_
  intro p e s m below meth c ls C hr hlocks hnm hw hl
  have hl : lv_has ls 3 [(0, .int a1)] := hl
  have hh5 : ∀ (f : Nat) (v1 : Int32) (v2 : Int32) (M : mwM) (L : mwL) (H : Heap) (locs : List Loc) (ls : Array Slot), fX11_lettersIn_h5 fu a1 f (v1, v2, M, L) = some (r0, M0, L0) → mw_W G ad NF TF FF M L H locs → lv_has ls 3 [(0, .int a1), (1, .int v1), (2, .int v2)] → W p l e ({ frames := 0, cells := 0, slots := 0, locals := 0 }) s m [.int a1].toArray below meth c H locs 0 0 (MQ below (mw_Qi G ad NF TF FF (mw_eqI r0 M0 L0)) [.int a1].toArray s 0 0 (mw_fr G)) (F0 m 5 ls []) := by
    intro f
    induction f with
    | zero => intro v1 v2 M L H locs ls hD; cases hD
    | succ f5 ih5 =>
      intro v1 v2 M L H locs ls hD hw hl
      replace hD : fX11_lettersIn_i5 fu a1 (fX11_lettersIn_h5 fu a1 f5) v1 v2 M L = some (r0, M0, L0) := hD
      have hb25 : ∀ (v2 : Int32) (s0 : Int32) (s1 : Int32) (M : mwM) (L : mwL) (H : Heap) (locs : List Loc) (ls : Array Slot), fX11_lettersIn_b25 fu a1 (fX11_lettersIn_h5 fu a1 f5) v2 s0 s1 M L = some (r0, M0, L0) → mw_W G ad NF TF FF M L H locs → lv_has ls 3 [(0, .int a1), (2, .int v2)] → W p l e ({ frames := 0, cells := 0, slots := 0, locals := 0 }) s m [.int a1].toArray below meth c H locs 0 0 (MQ below (mw_Qi G ad NF TF FF (mw_eqI r0 M0 L0)) [.int a1].toArray s 0 0 (mw_fr G)) (F0 m 25 ls [.int s1, .int s0]) := by
        intro v2 s0 s1 M L H locs ls hD hw hl
        unfold fX11_lettersIn_b25 at hD
        refine lv_iadd C.1.1 C.1.2.1 dX11_lettersIn_25 ?_
        obtain ⟨x3, ex3, hD⟩ := g_let hD
        refine W.eq (g2 := F0 m 26 ls (.int x3 :: [])) (by rw [ex3]) ?_
        refine lv_istore_n (lv' := [(1, .int x3), (0, .int a1), (2, .int v2)]) C.1.1 C.1.2.1 dX11_lettersIn_26 rfl hl (by decide) rfl (fun ls hl => ?_)
        obtain ⟨x4, ex4, hD⟩ := g_let hD
        refine lv_iinc (v := x4) (lv' := [(2, .int x4), (1, .int x3), (0, .int a1)]) C.1.1 C.1.2.1 dX11_lettersIn_27 hl (k := 2) rfl (by rw [ex4]; rfl) (by decide) rfl (fun ls hl => ?_)
        refine lv_goto (tgt := 5) C.1.1 C.1.2.1 dX11_lettersIn_30 (by decide) ?_
        exact ih5 x3 x4 M L _ _ ls hD hw (lv_sub hl [2, 1, 0] rfl)
      unfold fX11_lettersIn_i5 at hD
      refine lv_iload_n C.1.1 C.1.2.1 dX11_lettersIn_5 rfl (lv_at hl 2 rfl) ?_
      refine lv_if_lt (tgt := 33) C.1.1 C.1.2.1 dX11_lettersIn_6 (by decide) (fun c1 => ?_) (fun c1 => ?_)
      · replace hD := g_pos c1 hD
        refine lv_iload_n C.1.1 C.1.2.1 dX11_lettersIn_33 rfl (lv_at hl 1 rfl) ?_
        exact mr_iret C hr hlocks hw rfl (Option.some.inj hD) dX11_lettersIn_34
      · replace hD := g_neg c1 hD
        refine lv_iload_n C.1.1 C.1.2.1 dX11_lettersIn_9 rfl (lv_at hl 1 rfl) ?_
        refine lv_iload_n C.1.1 C.1.2.1 dX11_lettersIn_10 rfl (lv_at hl 0 rfl) ?_
        refine lv_iload_n C.1.1 C.1.2.1 dX11_lettersIn_11 rfl (lv_at hl 2 rfl) ?_
        refine lv_iushr C.1.1 C.1.2.1 dX11_lettersIn_12 rfl ?_
        refine lv_sipush (v := 255) C.1.1 C.1.2.1 dX11_lettersIn_13 (by decide) ?_
        refine lv_iand C.1.1 C.1.2.1 dX11_lettersIn_16 ?_
        refine lv_if_eq (tgt := 24) C.1.1 C.1.2.1 dX11_lettersIn_17 (by decide) (fun c2 => ?_) (fun c2 => ?_)
        · replace hD := g_pos c2 hD
          refine lv_iconst (v := 0) C.1.1 C.1.2.1 dX11_lettersIn_24 (by decide) ?_
          exact hb25 v2 v1 0 M L _ _ ls hD hw (lv_sub hl [0, 2] rfl)
        · replace hD := g_neg c2 hD
          refine lv_iconst (v := 1) C.1.1 C.1.2.1 dX11_lettersIn_20 (by decide) ?_
          refine lv_goto (tgt := 25) C.1.1 C.1.2.1 dX11_lettersIn_21 (by decide) ?_
          exact hb25 v2 v1 1 M L _ _ ls hD hw (lv_sub hl [0, 2] rfl)
  unfold DX11_lettersIn at hD
  refine lv_iconst (v := 0) C.1.1 C.1.2.1 dX11_lettersIn_0 (by decide) ?_
  refine lv_istore_n (lv' := [(1, .int 0), (0, .int a1)]) C.1.1 C.1.2.1 dX11_lettersIn_1 rfl hl (by decide) rfl (fun ls hl => ?_)
  refine lv_bipush (v := 24) C.1.1 C.1.2.1 dX11_lettersIn_2 (by decide) ?_
  refine lv_istore_n (lv' := [(2, .int 24), (1, .int 0), (0, .int a1)]) C.1.1 C.1.2.1 dX11_lettersIn_4 rfl hl (by decide) rfl (fun ls hl => ?_)
  exact hh5 fu 0 24 M L _ _ ls hD hw (lv_sub hl [2, 1, 0] rfl)

theorem dX11_place_0 : decode cX11_place 0 = .ok (.aload_n 0, 1) := by decide +kernel
theorem dX11_place_1 : decode cX11_place 1 = .ok (.getfield 10, 3) := by decide +kernel
theorem dX11_place_4 : decode cX11_place 4 = .ok (.getfield 72, 3) := by decide +kernel
theorem dX11_place_7 : decode cX11_place 7 = .ok (.ireturn, 1) := by decide +kernel
theorem cwX11_place : mw_cwV yX11_place cX11_place 1 ((some .int)) 0 := ⟨⟨wd_1, wd_662, by decide +kernel⟩, wd_660, wd_661⟩
set_option maxHeartbeats 4000000 in
set_option maxRecDepth 100000 in
theorem tX11_place (l : Launch) (G : mwG) (ad : Nat → Nat) (fu : Nat) (M : mwM) (L : mwL) {r0 : Int32} {M0 : mwM} {L0 : mwL} (hD : DX11_place fu M L = some (r0, M0, L0)) : Met l yX11_place (Cond.code yX11_place cX11_place 1 ((some .int)) :: GT) ({ frames := 0, cells := 0, slots := 0, locals := 0 }) (mw_Pre G ad NF TF FF M L [.ref (ad 0)]) (mw_Qi G ad NF TF FF (mw_eqI r0 M0 L0)) 0 0 (mw_fr G) := by
  refine mw_enter (by decide) (Nat.le_of_ble_eq_true rfl) ?_
  intro p e s m below meth c ls C hr hlocks hnm hw hl
  have hl : lv_has ls 1 [(0, .ref (ad 0))] := hl
  unfold DX11_place at hD
  refine lv_aload_n C.1.1 C.1.2.1 dX11_place_0 rfl (lv_at hl 0 rfl) ?_
  refine mr_getR C hw kc_11 0 (by decide) tf_0 ff_0_0 wd_640 dX11_place_1 (by decide) rfl ?_
  refine mr_getNI C hw kc_8 13 (by decide) tf_1 nd_610 dX11_place_4 (by decide) rfl ?_
  exact mr_iret C hr hlocks hw rfl (Option.some.inj hD) dX11_place_7

theorem dX11_time_0 : decode cX11_time 0 = .ok (.aload_n 0, 1) := by decide +kernel
theorem dX11_time_1 : decode cX11_time 1 = .ok (.getfield 65, 3) := by decide +kernel
theorem dX11_time_4 : decode cX11_time 4 = .ok (.ifCond .eq 13, 3) := by decide +kernel
theorem dX11_time_7 : decode cX11_time 7 = .ok (.aload_n 0, 1) := by decide +kernel
theorem dX11_time_8 : decode cX11_time 8 = .ok (.getfield 20, 3) := by decide +kernel
theorem dX11_time_11 : decode cX11_time 11 = .ok (.getfield 138, 3) := by decide +kernel
theorem dX11_time_14 : decode cX11_time 14 = .ok (.goto 4, 3) := by decide +kernel
theorem dX11_time_17 : decode cX11_time 17 = .ok (.iconst 0, 1) := by decide +kernel
theorem dX11_time_18 : decode cX11_time 18 = .ok (.ireturn, 1) := by decide +kernel
theorem cwX11_time : mw_cwV yX11_time cX11_time 1 ((some .int)) 0 := ⟨⟨wd_1, wd_666, by decide +kernel⟩, wd_664, wd_665⟩
set_option maxHeartbeats 4000000 in
set_option maxRecDepth 100000 in
theorem tX11_time (l : Launch) (G : mwG) (ad : Nat → Nat) (fu : Nat) (M : mwM) (L : mwL) {r0 : Int32} {M0 : mwM} {L0 : mwL} (hD : DX11_time fu M L = some (r0, M0, L0)) : Met l yX11_time (Cond.code yX11_time cX11_time 1 ((some .int)) :: GT) ({ frames := 0, cells := 0, slots := 0, locals := 0 }) (mw_Pre G ad NF TF FF M L [.ref (ad 0)]) (mw_Qi G ad NF TF FF (mw_eqI r0 M0 L0)) 0 0 (mw_fr G) := by
  refine mw_enter (by decide) (Nat.le_of_ble_eq_true rfl) ?_
  intro p e s m below meth c ls C hr hlocks hnm hw hl
  have hl : lv_has ls 1 [(0, .ref (ad 0))] := hl
  have hb18 : ∀ (s0 : Int32) (M : mwM) (L : mwL) (H : Heap) (locs : List Loc) (ls : Array Slot), fX11_time_b18 fu s0 M L = some (r0, M0, L0) → mw_W G ad NF TF FF M L H locs → lv_has ls 1 [] → W p l e ({ frames := 0, cells := 0, slots := 0, locals := 0 }) s m [.ref (ad 0)].toArray below meth c H locs 0 0 (MQ below (mw_Qi G ad NF TF FF (mw_eqI r0 M0 L0)) [.ref (ad 0)].toArray s 0 0 (mw_fr G)) (F0 m 18 ls [.int s0]) := by
    intro s0 M L H locs ls hD hw hl
    unfold fX11_time_b18 at hD
    exact mr_iret C hr hlocks hw rfl (Option.some.inj hD) dX11_time_18
  unfold DX11_time at hD
  refine lv_aload_n C.1.1 C.1.2.1 dX11_time_0 rfl (lv_at hl 0 rfl) ?_
  refine mr_getI C hw kc_11 5 (by decide) tf_0 wd_645 dX11_time_1 (by decide) rfl ?_
  refine lv_if_eq (tgt := 17) C.1.1 C.1.2.1 dX11_time_4 (by decide) (fun c1 => ?_) (fun c1 => ?_)
  · replace hD := g_pos c1 hD
    refine lv_iconst (v := 0) C.1.1 C.1.2.1 dX11_time_17 (by decide) ?_
    exact hb18 0 M L _ _ ls hD hw (lv_sub hl [] rfl)
  · replace hD := g_neg c1 hD
    refine lv_aload_n C.1.1 C.1.2.1 dX11_time_7 rfl (lv_at hl 0 rfl) ?_
    refine mr_getR C hw kc_11 1 (by decide) tf_0 ff_0_1 wd_641 dX11_time_8 (by decide) rfl ?_
    refine mr_getNI C hw kc_1 16 (by decide) tf_3 nd_548 dX11_time_11 (by decide) rfl ?_
    refine lv_goto (tgt := 18) C.1.1 C.1.2.1 dX11_time_14 (by decide) ?_
    exact hb18 (M 3 16) M L _ _ ls hD hw (lv_sub hl [] rfl)

theorem dX11_hasChart_0 : decode cX11_hasChart 0 = .ok (.aload_n 0, 1) := by decide +kernel
theorem dX11_hasChart_1 : decode cX11_hasChart 1 = .ok (.getfield 65, 3) := by decide +kernel
theorem dX11_hasChart_4 : decode cX11_hasChart 4 = .ok (.ifCond .eq 22, 3) := by decide +kernel
theorem dX11_hasChart_7 : decode cX11_hasChart 7 = .ok (.iload_n 1, 1) := by decide +kernel
theorem dX11_hasChart_8 : decode cX11_hasChart 8 = .ok (.ifCond .lt 18, 3) := by decide +kernel
theorem dX11_hasChart_11 : decode cX11_hasChart 11 = .ok (.iload_n 1, 1) := by decide +kernel
theorem dX11_hasChart_12 : decode cX11_hasChart 12 = .ok (.aload_n 0, 1) := by decide +kernel
theorem dX11_hasChart_13 : decode cX11_hasChart 13 = .ok (.getfield 20, 3) := by decide +kernel
theorem dX11_hasChart_16 : decode cX11_hasChart 16 = .ok (.getfield 91, 3) := by decide +kernel
theorem dX11_hasChart_19 : decode cX11_hasChart 19 = .ok (.if_icmp .ge 7, 3) := by decide +kernel
theorem dX11_hasChart_22 : decode cX11_hasChart 22 = .ok (.iconst 1, 1) := by decide +kernel
theorem dX11_hasChart_23 : decode cX11_hasChart 23 = .ok (.goto 4, 3) := by decide +kernel
theorem dX11_hasChart_26 : decode cX11_hasChart 26 = .ok (.iconst 0, 1) := by decide +kernel
theorem dX11_hasChart_27 : decode cX11_hasChart 27 = .ok (.ireturn, 1) := by decide +kernel
theorem cwX11_hasChart : mw_cwV yX11_hasChart cX11_hasChart 2 ((some .boolean)) 1 := ⟨⟨wd_1, wd_1862, by decide +kernel⟩, wd_1861, sl_145⟩
set_option maxHeartbeats 4000000 in
set_option maxRecDepth 100000 in
theorem tX11_hasChart (l : Launch) (G : mwG) (ad : Nat → Nat) (fu : Nat) (a1 : Int32) (M : mwM) (L : mwL) {r0 : Int32} {M0 : mwM} {L0 : mwL} (hD : DX11_hasChart fu a1 M L = some (r0, M0, L0)) : Met l yX11_hasChart (Cond.code yX11_hasChart cX11_hasChart 2 ((some .boolean)) :: GT) ({ frames := 0, cells := 0, slots := 0, locals := 0 }) (mw_Pre G ad NF TF FF M L [.ref (ad 0), .int a1]) (mw_Qi G ad NF TF FF (mw_eqI r0 M0 L0)) 0 0 (mw_fr G) := by
  refine mw_enter (by decide) (Nat.le_of_ble_eq_true rfl) ?_
  intro p e s m below meth c ls C hr hlocks hnm hw hl
  have hl : lv_has ls 2 [(0, .ref (ad 0)), (1, .int a1)] := hl
  have hb27 : ∀ (s0 : Int32) (M : mwM) (L : mwL) (H : Heap) (locs : List Loc) (ls : Array Slot), fX11_hasChart_b27 fu a1 s0 M L = some (r0, M0, L0) → mw_W G ad NF TF FF M L H locs → lv_has ls 2 [] → W p l e ({ frames := 0, cells := 0, slots := 0, locals := 0 }) s m [.ref (ad 0), .int a1].toArray below meth c H locs 0 0 (MQ below (mw_Qi G ad NF TF FF (mw_eqI r0 M0 L0)) [.ref (ad 0), .int a1].toArray s 0 0 (mw_fr G)) (F0 m 27 ls [.int s0]) := by
    intro s0 M L H locs ls hD hw hl
    unfold fX11_hasChart_b27 at hD
    obtain ⟨z1, hD⟩ := g_zz hD
    exact mr_iret C hr hlocks hw (nz_zz z1) (Option.some.inj hD) dX11_hasChart_27
  have hb26 : ∀ (M : mwM) (L : mwL) (H : Heap) (locs : List Loc) (ls : Array Slot), fX11_hasChart_b26 fu a1 M L = some (r0, M0, L0) → mw_W G ad NF TF FF M L H locs → lv_has ls 2 [] → W p l e ({ frames := 0, cells := 0, slots := 0, locals := 0 }) s m [.ref (ad 0), .int a1].toArray below meth c H locs 0 0 (MQ below (mw_Qi G ad NF TF FF (mw_eqI r0 M0 L0)) [.ref (ad 0), .int a1].toArray s 0 0 (mw_fr G)) (F0 m 26 ls []) := by
    intro M L H locs ls hD hw hl
    unfold fX11_hasChart_b26 at hD
    refine lv_iconst (v := 0) C.1.1 C.1.2.1 dX11_hasChart_26 (by decide) ?_
    exact hb27 0 M L _ _ ls hD hw (lv_sub hl [] rfl)
  unfold DX11_hasChart at hD
  refine lv_aload_n C.1.1 C.1.2.1 dX11_hasChart_0 rfl (lv_at hl 0 rfl) ?_
  refine mr_getI C hw kc_11 5 (by decide) tf_0 wd_645 dX11_hasChart_1 (by decide) rfl ?_
  refine lv_if_eq (tgt := 26) C.1.1 C.1.2.1 dX11_hasChart_4 (by decide) (fun c2 => ?_) (fun c2 => ?_)
  · replace hD := g_pos c2 hD
    exact hb26 M L _ _ ls hD hw (lv_sub hl [] rfl)
  · replace hD := g_neg c2 hD
    refine lv_iload_n C.1.1 C.1.2.1 dX11_hasChart_7 rfl (lv_at hl 1 rfl) ?_
    refine lv_if_lt (tgt := 26) C.1.1 C.1.2.1 dX11_hasChart_8 (by decide) (fun c3 => ?_) (fun c3 => ?_)
    · replace hD := g_pos c3 hD
      exact hb26 M L _ _ ls hD hw (lv_sub hl [] rfl)
    · replace hD := g_neg c3 hD
      refine lv_iload_n C.1.1 C.1.2.1 dX11_hasChart_11 rfl (lv_at hl 1 rfl) ?_
      refine lv_aload_n C.1.1 C.1.2.1 dX11_hasChart_12 rfl (lv_at hl 0 rfl) ?_
      refine mr_getR C hw kc_11 1 (by decide) tf_0 ff_0_1 wd_641 dX11_hasChart_13 (by decide) rfl ?_
      refine mr_getNI C hw kc_1 14 (by decide) tf_3 nd_543 dX11_hasChart_16 (by decide) rfl ?_
      refine lv_icmp_ge (tgt := 26) C.1.1 C.1.2.1 dX11_hasChart_19 (by decide) (fun c4 => ?_) (fun c4 => ?_)
      · replace hD := g_pos c4 hD
        exact hb26 M L _ _ ls hD hw (lv_sub hl [] rfl)
      · replace hD := g_neg c4 hD
        refine lv_iconst (v := 1) C.1.1 C.1.2.1 dX11_hasChart_22 (by decide) ?_
        refine lv_goto (tgt := 27) C.1.1 C.1.2.1 dX11_hasChart_23 (by decide) ?_
        exact hb27 1 M L _ _ ls hD hw (lv_sub hl [] rfl)

theorem dX11_say_0 : decode cX11_say 0 = .ok (.aload_n 0, 1) := by decide +kernel
theorem dX11_say_1 : decode cX11_say 1 = .ok (.getfield 261, 3) := by decide +kernel
theorem dX11_say_4 : decode cX11_say 4 = .ok (.bipush 100, 2) := by decide +kernel
theorem dX11_say_6 : decode cX11_say 6 = .ok (.if_icmp .ge 27, 3) := by decide +kernel
theorem dX11_say_9 : decode cX11_say 9 = .ok (.aload_n 0, 1) := by decide +kernel
theorem dX11_say_10 : decode cX11_say 10 = .ok (.getfield 21, 3) := by decide +kernel
theorem dX11_say_13 : decode cX11_say 13 = .ok (.aload_n 0, 1) := by decide +kernel
theorem dX11_say_14 : decode cX11_say 14 = .ok (.getfield 261, 3) := by decide +kernel
theorem dX11_say_17 : decode cX11_say 17 = .ok (.iload_n 1, 1) := by decide +kernel
theorem dX11_say_18 : decode cX11_say 18 = .ok (.sipush 255, 3) := by decide +kernel
theorem dX11_say_21 : decode cX11_say 21 = .ok (.iand, 1) := by decide +kernel
theorem dX11_say_22 : decode cX11_say 22 = .ok (.iastore, 1) := by decide +kernel
theorem dX11_say_23 : decode cX11_say 23 = .ok (.aload_n 0, 1) := by decide +kernel
theorem dX11_say_24 : decode cX11_say 24 = .ok (.dup, 1) := by decide +kernel
theorem dX11_say_25 : decode cX11_say 25 = .ok (.getfield 261, 3) := by decide +kernel
theorem dX11_say_28 : decode cX11_say 28 = .ok (.iconst 1, 1) := by decide +kernel
theorem dX11_say_29 : decode cX11_say 29 = .ok (.iadd, 1) := by decide +kernel
theorem dX11_say_30 : decode cX11_say 30 = .ok (.putfield 261, 3) := by decide +kernel
theorem dX11_say_33 : decode cX11_say 33 = .ok (.aload_n 0, 1) := by decide +kernel
theorem dX11_say_34 : decode cX11_say 34 = .ok (.getfield 261, 3) := by decide +kernel
theorem dX11_say_37 : decode cX11_say 37 = .ok (.ireturn, 1) := by decide +kernel
theorem cwX11_say : mw_cwV yX11_say cX11_say 2 ((some .int)) 1 := ⟨⟨wd_1, wd_670, by decide +kernel⟩, wd_668, wd_669⟩
set_option maxHeartbeats 4000000 in
set_option maxRecDepth 100000 in
theorem tX11_say (l : Launch) (G : mwG) (ad : Nat → Nat) (fu : Nat) (a1 : Int32) (M : mwM) (L : mwL) {r0 : Int32} {M0 : mwM} {L0 : mwL} (hD : DX11_say fu a1 M L = some (r0, M0, L0)) : Met l yX11_say (Cond.code yX11_say cX11_say 2 ((some .int)) :: GT) ({ frames := 0, cells := 0, slots := 0, locals := 0 }) (mw_Pre G ad NF TF FF M L [.ref (ad 0), .int a1]) (mw_Qi G ad NF TF FF (mw_eqI r0 M0 L0)) 0 0 (mw_fr G) := by
  refine mw_enter (by decide) (Nat.le_of_ble_eq_true rfl) ?_
  intro p e s m below meth c ls C hr hlocks hnm hw hl
  have hl : lv_has ls 2 [(0, .ref (ad 0)), (1, .int a1)] := hl
  have hb33 : ∀ (M : mwM) (L : mwL) (H : Heap) (locs : List Loc) (ls : Array Slot), fX11_say_b33 fu a1 M L = some (r0, M0, L0) → mw_W G ad NF TF FF M L H locs → lv_has ls 2 [(0, .ref (ad 0))] → W p l e ({ frames := 0, cells := 0, slots := 0, locals := 0 }) s m [.ref (ad 0), .int a1].toArray below meth c H locs 0 0 (MQ below (mw_Qi G ad NF TF FF (mw_eqI r0 M0 L0)) [.ref (ad 0), .int a1].toArray s 0 0 (mw_fr G)) (F0 m 33 ls []) := by
    intro M L H locs ls hD hw hl
    unfold fX11_say_b33 at hD
    refine lv_aload_n C.1.1 C.1.2.1 dX11_say_33 rfl (lv_at hl 0 rfl) ?_
    refine mr_getI C hw kc_11 3 (by decide) tf_0 wd_643 dX11_say_34 (by decide) rfl ?_
    exact mr_iret C hr hlocks hw rfl (Option.some.inj hD) dX11_say_37
  unfold DX11_say at hD
  refine lv_aload_n C.1.1 C.1.2.1 dX11_say_0 rfl (lv_at hl 0 rfl) ?_
  refine mr_getI C hw kc_11 3 (by decide) tf_0 wd_643 dX11_say_1 (by decide) rfl ?_
  refine lv_bipush (v := 100) C.1.1 C.1.2.1 dX11_say_4 (by decide) ?_
  refine lv_icmp_ge (tgt := 33) C.1.1 C.1.2.1 dX11_say_6 (by decide) (fun c1 => ?_) (fun c1 => ?_)
  · replace hD := g_pos c1 hD
    exact hb33 M L _ _ ls hD hw (lv_sub hl [0] rfl)
  · replace hD := g_neg c1 hD
    refine lv_aload_n C.1.1 C.1.2.1 dX11_say_9 rfl (lv_at hl 0 rfl) ?_
    refine mr_getR C hw kc_11 2 (by decide) tf_0 ff_0_2 wd_642 dX11_say_10 (by decide) rfl ?_
    refine lv_aload_n C.1.1 C.1.2.1 dX11_say_13 rfl (lv_at hl 0 rfl) ?_
    refine mr_getI C hw kc_11 3 (by decide) tf_0 wd_643 dX11_say_14 (by decide) rfl ?_
    refine lv_iload_n C.1.1 C.1.2.1 dX11_say_17 rfl (lv_at hl 1 rfl) ?_
    refine lv_sipush (v := 255) C.1.1 C.1.2.1 dX11_say_18 (by decide) ?_
    refine lv_iand C.1.1 C.1.2.1 dX11_say_21 ?_
    obtain ⟨q2, hD⟩ := g_ck hD
    obtain ⟨M3, eM3, hD⟩ := g_let hD
    refine mr_iast C hw (by decide) tf_731 q2 dX11_say_22 (fun H locs hw => ?_)
    replace hw : mw_W G ad NF TF FF M3 L H locs := by rw [eM3]; exact hw
    refine lv_aload_n C.1.1 C.1.2.1 dX11_say_23 rfl (lv_at hl 0 rfl) ?_
    refine lv_dup C.1.1 C.1.2.1 dX11_say_24 rfl ?_
    refine mr_getI C hw kc_11 3 (by decide) tf_0 wd_643 dX11_say_25 (by decide) rfl ?_
    refine lv_iconst (v := 1) C.1.1 C.1.2.1 dX11_say_28 (by decide) ?_
    refine lv_iadd C.1.1 C.1.2.1 dX11_say_29 ?_
    obtain ⟨M4, eM4, hD⟩ := g_let hD
    refine mr_putI C hw kc_11 3 (by decide) tf_0 wd_643 dX11_say_30 (by decide) rfl rfl rfl rfl (fun H locs hw => ?_)
    replace hw : mw_W G ad NF TF FF M4 L H locs := by rw [eM4]; exact hw
    exact hb33 M4 L _ _ ls hD hw (lv_sub hl [0] rfl)

theorem dX11_asking_0 : decode cX11_asking 0 = .ok (.aload_n 0, 1) := by decide +kernel
theorem dX11_asking_1 : decode cX11_asking 1 = .ok (.getfield 65, 3) := by decide +kernel
theorem dX11_asking_4 : decode cX11_asking 4 = .ok (.ifCond .eq 13, 3) := by decide +kernel
theorem dX11_asking_7 : decode cX11_asking 7 = .ok (.aload_n 0, 1) := by decide +kernel
theorem dX11_asking_8 : decode cX11_asking 8 = .ok (.getfield 20, 3) := by decide +kernel
theorem dX11_asking_11 : decode cX11_asking 11 = .ok (.getfield 264, 3) := by decide +kernel
theorem dX11_asking_14 : decode cX11_asking 14 = .ok (.goto 4, 3) := by decide +kernel
theorem dX11_asking_17 : decode cX11_asking 17 = .ok (.iconst (-1), 1) := by decide +kernel
theorem dX11_asking_18 : decode cX11_asking 18 = .ok (.ireturn, 1) := by decide +kernel
theorem cwX11_asking : mw_cwV yX11_asking cX11_asking 1 ((some .int)) 0 := ⟨⟨wd_1, wd_674, by decide +kernel⟩, wd_672, wd_673⟩
set_option maxHeartbeats 4000000 in
set_option maxRecDepth 100000 in
theorem tX11_asking (l : Launch) (G : mwG) (ad : Nat → Nat) (fu : Nat) (M : mwM) (L : mwL) {r0 : Int32} {M0 : mwM} {L0 : mwL} (hD : DX11_asking fu M L = some (r0, M0, L0)) : Met l yX11_asking (Cond.code yX11_asking cX11_asking 1 ((some .int)) :: GT) ({ frames := 0, cells := 0, slots := 0, locals := 0 }) (mw_Pre G ad NF TF FF M L [.ref (ad 0)]) (mw_Qi G ad NF TF FF (mw_eqI r0 M0 L0)) 0 0 (mw_fr G) := by
  refine mw_enter (by decide) (Nat.le_of_ble_eq_true rfl) ?_
  intro p e s m below meth c ls C hr hlocks hnm hw hl
  have hl : lv_has ls 1 [(0, .ref (ad 0))] := hl
  have hb18 : ∀ (s0 : Int32) (M : mwM) (L : mwL) (H : Heap) (locs : List Loc) (ls : Array Slot), fX11_asking_b18 fu s0 M L = some (r0, M0, L0) → mw_W G ad NF TF FF M L H locs → lv_has ls 1 [] → W p l e ({ frames := 0, cells := 0, slots := 0, locals := 0 }) s m [.ref (ad 0)].toArray below meth c H locs 0 0 (MQ below (mw_Qi G ad NF TF FF (mw_eqI r0 M0 L0)) [.ref (ad 0)].toArray s 0 0 (mw_fr G)) (F0 m 18 ls [.int s0]) := by
    intro s0 M L H locs ls hD hw hl
    unfold fX11_asking_b18 at hD
    exact mr_iret C hr hlocks hw rfl (Option.some.inj hD) dX11_asking_18
  unfold DX11_asking at hD
  refine lv_aload_n C.1.1 C.1.2.1 dX11_asking_0 rfl (lv_at hl 0 rfl) ?_
  refine mr_getI C hw kc_11 5 (by decide) tf_0 wd_645 dX11_asking_1 (by decide) rfl ?_
  refine lv_if_eq (tgt := 17) C.1.1 C.1.2.1 dX11_asking_4 (by decide) (fun c1 => ?_) (fun c1 => ?_)
  · replace hD := g_pos c1 hD
    refine lv_iconst (v := (-1)) C.1.1 C.1.2.1 dX11_asking_17 (by decide) ?_
    exact hb18 ((-1)) M L _ _ ls hD hw (lv_sub hl [] rfl)
  · replace hD := g_neg c1 hD
    refine lv_aload_n C.1.1 C.1.2.1 dX11_asking_7 rfl (lv_at hl 0 rfl) ?_
    refine mr_getR C hw kc_11 1 (by decide) tf_0 ff_0_1 wd_641 dX11_asking_8 (by decide) rfl ?_
    refine mr_getNI C hw kc_1 17 (by decide) tf_3 nd_550 dX11_asking_11 (by decide) rfl ?_
    refine lv_goto (tgt := 18) C.1.1 C.1.2.1 dX11_asking_14 (by decide) ?_
    exact hb18 (M 3 17) M L _ _ ls hD hw (lv_sub hl [] rfl)

theorem dX11_answerLength_0 : decode cX11_answerLength 0 = .ok (.aload_n 0, 1) := by decide +kernel
theorem dX11_answerLength_1 : decode cX11_answerLength 1 = .ok (.getfield 65, 3) := by decide +kernel
theorem dX11_answerLength_4 : decode cX11_answerLength 4 = .ok (.ifCond .eq 36, 3) := by decide +kernel
theorem dX11_answerLength_7 : decode cX11_answerLength 7 = .ok (.aload_n 0, 1) := by decide +kernel
theorem dX11_answerLength_8 : decode cX11_answerLength 8 = .ok (.getfield 20, 3) := by decide +kernel
theorem dX11_answerLength_11 : decode cX11_answerLength 11 = .ok (.getfield 282, 3) := by decide +kernel
theorem dX11_answerLength_14 : decode cX11_answerLength 14 = .ok (.ifCond .le 26, 3) := by decide +kernel
theorem dX11_answerLength_17 : decode cX11_answerLength 17 = .ok (.aload_n 0, 1) := by decide +kernel
theorem dX11_answerLength_18 : decode cX11_answerLength 18 = .ok (.getfield 20, 3) := by decide +kernel
theorem dX11_answerLength_21 : decode cX11_answerLength 21 = .ok (.getfield 267, 3) := by decide +kernel
theorem dX11_answerLength_24 : decode cX11_answerLength 24 = .ok (.getfield 294, 3) := by decide +kernel
theorem dX11_answerLength_27 : decode cX11_answerLength 27 = .ok (.iconst 2, 1) := by decide +kernel
theorem dX11_answerLength_28 : decode cX11_answerLength 28 = .ok (.aaload, 1) := by decide +kernel
theorem dX11_answerLength_29 : decode cX11_answerLength 29 = .ok (.aload_n 0, 1) := by decide +kernel
theorem dX11_answerLength_30 : decode cX11_answerLength 30 = .ok (.getfield 20, 3) := by decide +kernel
theorem dX11_answerLength_33 : decode cX11_answerLength 33 = .ok (.getfield 282, 3) := by decide +kernel
theorem dX11_answerLength_36 : decode cX11_answerLength 36 = .ok (.iaload, 1) := by decide +kernel
theorem dX11_answerLength_37 : decode cX11_answerLength 37 = .ok (.goto 4, 3) := by decide +kernel
theorem dX11_answerLength_40 : decode cX11_answerLength 40 = .ok (.iconst 0, 1) := by decide +kernel
theorem dX11_answerLength_41 : decode cX11_answerLength 41 = .ok (.ireturn, 1) := by decide +kernel
theorem cwX11_answerLength : mw_cwV yX11_answerLength cX11_answerLength 1 ((some .int)) 0 := ⟨⟨wd_1, wd_682, by decide +kernel⟩, wd_681, sl_0⟩
set_option maxHeartbeats 4000000 in
set_option maxRecDepth 100000 in
theorem tX11_answerLength (l : Launch) (G : mwG) (ad : Nat → Nat) (fu : Nat) (M : mwM) (L : mwL) {r0 : Int32} {M0 : mwM} {L0 : mwL} (hD : DX11_answerLength fu M L = some (r0, M0, L0)) : Met l yX11_answerLength (Cond.code yX11_answerLength cX11_answerLength 1 ((some .int)) :: GT) ({ frames := 0, cells := 0, slots := 0, locals := 0 }) (mw_Pre G ad NF TF FF M L [.ref (ad 0)]) (mw_Qi G ad NF TF FF (mw_eqI r0 M0 L0)) 0 0 (mw_fr G) := by
  refine mw_enter (by decide) (Nat.le_of_ble_eq_true rfl) ?_
  intro p e s m below meth c ls C hr hlocks hnm hw hl
  have hl : lv_has ls 1 [(0, .ref (ad 0))] := hl
  have hb41 : ∀ (s0 : Int32) (M : mwM) (L : mwL) (H : Heap) (locs : List Loc) (ls : Array Slot), fX11_answerLength_b41 fu s0 M L = some (r0, M0, L0) → mw_W G ad NF TF FF M L H locs → lv_has ls 1 [] → W p l e ({ frames := 0, cells := 0, slots := 0, locals := 0 }) s m [.ref (ad 0)].toArray below meth c H locs 0 0 (MQ below (mw_Qi G ad NF TF FF (mw_eqI r0 M0 L0)) [.ref (ad 0)].toArray s 0 0 (mw_fr G)) (F0 m 41 ls [.int s0]) := by
    intro s0 M L H locs ls hD hw hl
    unfold fX11_answerLength_b41 at hD
    exact mr_iret C hr hlocks hw rfl (Option.some.inj hD) dX11_answerLength_41
  have hb40 : ∀ (M : mwM) (L : mwL) (H : Heap) (locs : List Loc) (ls : Array Slot), fX11_answerLength_b40 fu M L = some (r0, M0, L0) → mw_W G ad NF TF FF M L H locs → lv_has ls 1 [] → W p l e ({ frames := 0, cells := 0, slots := 0, locals := 0 }) s m [.ref (ad 0)].toArray below meth c H locs 0 0 (MQ below (mw_Qi G ad NF TF FF (mw_eqI r0 M0 L0)) [.ref (ad 0)].toArray s 0 0 (mw_fr G)) (F0 m 40 ls []) := by
    intro M L H locs ls hD hw hl
    unfold fX11_answerLength_b40 at hD
    refine lv_iconst (v := 0) C.1.1 C.1.2.1 dX11_answerLength_40 (by decide) ?_
    exact hb41 0 M L _ _ ls hD hw (lv_sub hl [] rfl)
  unfold DX11_answerLength at hD
  refine lv_aload_n C.1.1 C.1.2.1 dX11_answerLength_0 rfl (lv_at hl 0 rfl) ?_
  refine mr_getI C hw kc_11 5 (by decide) tf_0 wd_645 dX11_answerLength_1 (by decide) rfl ?_
  refine lv_if_eq (tgt := 40) C.1.1 C.1.2.1 dX11_answerLength_4 (by decide) (fun c1 => ?_) (fun c1 => ?_)
  · replace hD := g_pos c1 hD
    exact hb40 M L _ _ ls hD hw (lv_sub hl [] rfl)
  · replace hD := g_neg c1 hD
    refine lv_aload_n C.1.1 C.1.2.1 dX11_answerLength_7 rfl (lv_at hl 0 rfl) ?_
    refine mr_getR C hw kc_11 1 (by decide) tf_0 ff_0_1 wd_641 dX11_answerLength_8 (by decide) rfl ?_
    refine mr_getNI C hw kc_1 18 (by decide) tf_3 nd_552 dX11_answerLength_11 (by decide) rfl ?_
    refine lv_if_le (tgt := 40) C.1.1 C.1.2.1 dX11_answerLength_14 (by decide) (fun c2 => ?_) (fun c2 => ?_)
    · replace hD := g_pos c2 hD
      exact hb40 M L _ _ ls hD hw (lv_sub hl [] rfl)
    · replace hD := g_neg c2 hD
      refine lv_aload_n C.1.1 C.1.2.1 dX11_answerLength_17 rfl (lv_at hl 0 rfl) ?_
      refine mr_getR C hw kc_11 1 (by decide) tf_0 ff_0_1 wd_641 dX11_answerLength_18 (by decide) rfl ?_
      refine mr_getNR C hw kc_1 6 (by decide) tf_3 ff_3_6 nd_529 dX11_answerLength_21 (by decide) rfl ?_
      refine mr_getNR C hw kc_9 0 (by decide) tf_154 ff_154_0 nd_360 dX11_answerLength_24 (by decide) rfl ?_
      refine lv_iconst (v := 2) C.1.1 C.1.2.1 dX11_answerLength_27 (by decide) ?_
      refine mr_aald C hw (by decide) tf_155 (by decide) (by decide) rfl rfl (show vp_in 2 5 from by unfold vp_in; decide) ff_155_2 dX11_answerLength_28 ?_
      refine lv_aload_n C.1.1 C.1.2.1 dX11_answerLength_29 rfl (lv_at hl 0 rfl) ?_
      refine mr_getR C hw kc_11 1 (by decide) tf_0 ff_0_1 wd_641 dX11_answerLength_30 (by decide) rfl ?_
      refine mr_getNI C hw kc_1 18 (by decide) tf_3 nd_552 dX11_answerLength_33 (by decide) rfl ?_
      obtain ⟨q4, hD⟩ := g_ck hD
      refine mr_iald C hw (by decide) tf_158 q4 dX11_answerLength_36 ?_
      refine lv_goto (tgt := 41) C.1.1 C.1.2.1 dX11_answerLength_37 (by decide) ?_
      exact hb41 (M 158 (M 3 18).toNatClampNeg) M L _ _ ls hD hw (lv_sub hl [] rfl)

theorem dX11_answers_0 : decode cX11_answers 0 = .ok (.aload_n 0, 1) := by decide +kernel
theorem dX11_answers_1 : decode cX11_answers 1 = .ok (.invokevirtual 285, 3) := by decide +kernel
theorem dX11_answers_4 : decode cX11_answers 4 = .ok (.ireturn, 1) := by decide +kernel
theorem cwX11_answers : mw_cwV yX11_answers cX11_answers 1 ((some .int)) 0 := ⟨⟨wd_1, wd_678, by decide +kernel⟩, wd_676, wd_677⟩
set_option maxHeartbeats 4000000 in
set_option maxRecDepth 100000 in
theorem tX11_answers (l : Launch) (G : mwG) (ad : Nat → Nat) (fu : Nat) (M : mwM) (L : mwL) {r0 : Int32} {M0 : mwM} {L0 : mwL} (hD : DX11_answers fu M L = some (r0, M0, L0)) : Met l yX11_answers (Cond.code yX11_answers cX11_answers 1 ((some .int)) :: GT) ({ frames := 1, cells := 0, slots := 0, locals := 20 }) (mw_Pre G ad NF TF FF M L [.ref (ad 0)]) (mw_Qi G ad NF TF FF (mw_eqI r0 M0 L0)) 0 0 (mw_fr G) := by
  refine mw_enter (by decide) (Nat.le_of_ble_eq_true rfl) ?_
  intro p e s m below meth c ls C hr hlocks hnm hw hl
  have hl : lv_has ls 1 [(0, .ref (ad 0))] := hl
  unfold DX11_answers at hD
  refine lv_aload_n C.1.1 C.1.2.1 dX11_answers_0 rfl (lv_at hl 0 rfl) ?_
  obtain ⟨r3, M1, L2, h1, hD⟩ := g_b3 hD
  refine md_cvI (As := []) (rest := []) C hw (tX11_answerLength l G ad fu M L h1) kc_11 (by decide) tf_0 wd_679 cwX11_answerLength ⟨Nat.le_of_ble_eq_true rfl, Nat.le_of_ble_eq_true rfl⟩ rfl hl.1 (Nat.le_of_ble_eq_true rfl) dX11_answers_1 rfl rfl ⟨Nat.zero_le _, Nat.zero_le _⟩ rfl (fun H locs hw => ?_)
  exact mr_iret C hr hlocks hw rfl (Option.some.inj hD) dX11_answers_4
