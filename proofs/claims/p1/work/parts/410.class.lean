theorem dX11_hasChart_0 : decode cX11_hasChart 0 = .ok (.aload_n 0, 1) := by decide +kernel
theorem dX11_hasChart_1 : decode cX11_hasChart 1 = .ok (.getfield 65, 3) := by decide +kernel
theorem dX11_hasChart_4 : decode cX11_hasChart 4 = .ok (.ifCond .eq 22, 3) := by decide +kernel
theorem dX11_hasChart_7 : decode cX11_hasChart 7 = .ok (.iload_n 1, 1) := by decide +kernel
theorem dX11_hasChart_8 : decode cX11_hasChart 8 = .ok (.ifCond .lt 18, 3) := by decide +kernel
theorem dX11_hasChart_11 : decode cX11_hasChart 11 = .ok (.iload_n 1, 1) := by decide +kernel
theorem dX11_hasChart_12 : decode cX11_hasChart 12 = .ok (.aload_n 0, 1) := by decide +kernel
theorem dX11_hasChart_13 : decode cX11_hasChart 13 = .ok (.getfield 20, 3) := by decide +kernel
theorem dX11_hasChart_16 : decode cX11_hasChart 16 = .ok (.getfield 91, 3) := by decide +kernel
theorem dX11_hasChart_19 : decode cX11_hasChart 19 = .ok (.if_icmp .ge 7, 3) := by decide +kernel
theorem dX11_hasChart_22 : decode cX11_hasChart 22 = .ok (.iconst 1, 1) := by decide +kernel
theorem dX11_hasChart_23 : decode cX11_hasChart 23 = .ok (.goto 4, 3) := by decide +kernel
theorem dX11_hasChart_26 : decode cX11_hasChart 26 = .ok (.iconst 0, 1) := by decide +kernel
theorem dX11_hasChart_27 : decode cX11_hasChart 27 = .ok (.ireturn, 1) := by decide +kernel
theorem cwX11_hasChart : mw_cwV yX11_hasChart cX11_hasChart 2 ((some .boolean)) 1 := ⟨⟨wd_1, wd_1862, by decide +kernel⟩, wd_1861, sl_145⟩
noncomputable def fX11_hasChart_b27 (fu : Nat) (a1 : Int32) (s0 : Int32) (M : mwM) (L : mwL) : Option (Int32 × mwM × mwL) :=
  mzz s0 (some (s0, M, L))
noncomputable def fX11_hasChart_b26 (fu : Nat) (a1 : Int32) (M : mwM) (L : mwL) : Option (Int32 × mwM × mwL) :=
  fX11_hasChart_b27 fu a1 0 M L
noncomputable def DX11_hasChart (fu : Nat) (a1 : Int32) (M : mwM) (L : mwL) : Option (Int32 × mwM × mwL) :=
  (if (M 0 5) = 0 then fX11_hasChart_b26 fu a1 M L else (if a1 < 0 then fX11_hasChart_b26 fu a1 M L else (if (M 3 14) ≤ a1 then fX11_hasChart_b26 fu a1 M L else fX11_hasChart_b27 fu a1 1 M L)))
set_option maxHeartbeats 4000000 in
set_option maxRecDepth 100000 in
theorem tX11_hasChart (l : Launch) (G : mwG) (ad : Nat → Nat) (fu : Nat) (a1 : Int32) (M : mwM) (L : mwL) {r0 : Int32} {M0 : mwM} {L0 : mwL} (hD : DX11_hasChart fu a1 M L = some (r0, M0, L0)) : Met l yX11_hasChart (Cond.code yX11_hasChart cX11_hasChart 2 ((some .boolean)) :: GT) ({ frames := 0, cells := 0, slots := 0, locals := 0 }) (mw_Pre G ad NF TF FF M L [.ref (ad 0), .int a1]) (mw_Qi G ad NF TF FF (mw_eqI r0 M0 L0)) 0 0 (mw_fr G) := by
  refine mw_enter (by decide) (Nat.le_of_ble_eq_true rfl) ?_
  intro p e s m below meth c ls C hr hlocks hnm hw hl
  have hl : lv_has ls 2 [(0, .ref (ad 0)), (1, .int a1)] := hl
  have hb27 : ∀ (s0 : Int32) (M : mwM) (L : mwL) (H : Heap) (locs : List Loc) (ls : Array Slot), fX11_hasChart_b27 fu a1 s0 M L = some (r0, M0, L0) → mw_W G ad NF TF FF M L H locs → lv_has ls 2 [] → W p l e ({ frames := 0, cells := 0, slots := 0, locals := 0 }) s m [.ref (ad 0), .int a1].toArray below meth c H locs 0 0 (MQ below (mw_Qi G ad NF TF FF (mw_eqI r0 M0 L0)) [.ref (ad 0), .int a1].toArray s 0 0 (mw_fr G)) (F0 m 27 ls [.int s0]) := by
    intro s0 M L H locs ls hD hw hl
    unfold fX11_hasChart_b27 at hD
    obtain ⟨z1, hD⟩ := g_zz hD
    exact mr_iret C hr hlocks hw (nz_zz z1) (Option.some.inj hD) dX11_hasChart_27
  have hb26 : ∀ (M : mwM) (L : mwL) (H : Heap) (locs : List Loc) (ls : Array Slot), fX11_hasChart_b26 fu a1 M L = some (r0, M0, L0) → mw_W G ad NF TF FF M L H locs → lv_has ls 2 [] → W p l e ({ frames := 0, cells := 0, slots := 0, locals := 0 }) s m [.ref (ad 0), .int a1].toArray below meth c H locs 0 0 (MQ below (mw_Qi G ad NF TF FF (mw_eqI r0 M0 L0)) [.ref (ad 0), .int a1].toArray s 0 0 (mw_fr G)) (F0 m 26 ls []) := by
    intro M L H locs ls hD hw hl
    unfold fX11_hasChart_b26 at hD
    refine lv_iconst (v := 0) C.1.1 C.1.2.1 dX11_hasChart_26 (by decide) ?_
    exact hb27 0 M L _ _ ls hD hw (lv_sub hl [] rfl)
  unfold DX11_hasChart at hD
  refine lv_aload_n C.1.1 C.1.2.1 dX11_hasChart_0 rfl (lv_at hl 0 rfl) ?_
  refine mr_getI C hw kc_11 5 (by decide) tf_0 wd_645 dX11_hasChart_1 (by decide) rfl ?_
  refine lv_if_eq (tgt := 26) C.1.1 C.1.2.1 dX11_hasChart_4 (by decide) (fun c2 => ?_) (fun c2 => ?_)
  · replace hD := g_pos c2 hD
    exact hb26 M L _ _ ls hD hw (lv_sub hl [] rfl)
  · replace hD := g_neg c2 hD
    refine lv_iload_n C.1.1 C.1.2.1 dX11_hasChart_7 rfl (lv_at hl 1 rfl) ?_
    refine lv_if_lt (tgt := 26) C.1.1 C.1.2.1 dX11_hasChart_8 (by decide) (fun c3 => ?_) (fun c3 => ?_)
    · replace hD := g_pos c3 hD
      exact hb26 M L _ _ ls hD hw (lv_sub hl [] rfl)
    · replace hD := g_neg c3 hD
      refine lv_iload_n C.1.1 C.1.2.1 dX11_hasChart_11 rfl (lv_at hl 1 rfl) ?_
      refine lv_aload_n C.1.1 C.1.2.1 dX11_hasChart_12 rfl (lv_at hl 0 rfl) ?_
      refine mr_getR C hw kc_11 1 (by decide) tf_0 ff_0_1 wd_641 dX11_hasChart_13 (by decide) rfl ?_
      refine mr_getNI C hw kc_1 14 (by decide) tf_3 nd_543 dX11_hasChart_16 (by decide) rfl ?_
      refine lv_icmp_ge (tgt := 26) C.1.1 C.1.2.1 dX11_hasChart_19 (by decide) (fun c4 => ?_) (fun c4 => ?_)
      · replace hD := g_pos c4 hD
        exact hb26 M L _ _ ls hD hw (lv_sub hl [] rfl)
      · replace hD := g_neg c4 hD
        refine lv_iconst (v := 1) C.1.1 C.1.2.1 dX11_hasChart_22 (by decide) ?_
        refine lv_goto (tgt := 27) C.1.1 C.1.2.1 dX11_hasChart_23 (by decide) ?_
        exact hb27 1 M L _ _ ls hD hw (lv_sub hl [] rfl)

theorem dX11_answerLength_0 : decode cX11_answerLength 0 = .ok (.aload_n 0, 1) := by decide +kernel
theorem dX11_answerLength_1 : decode cX11_answerLength 1 = .ok (.getfield 65, 3) := by decide +kernel
theorem dX11_answerLength_4 : decode cX11_answerLength 4 = .ok (.ifCond .eq 36, 3) := by decide +kernel
theorem dX11_answerLength_7 : decode cX11_answerLength 7 = .ok (.aload_n 0, 1) := by decide +kernel
theorem dX11_answerLength_8 : decode cX11_answerLength 8 = .ok (.getfield 20, 3) := by decide +kernel
theorem dX11_answerLength_11 : decode cX11_answerLength 11 = .ok (.getfield 282, 3) := by decide +kernel
theorem dX11_answerLength_14 : decode cX11_answerLength 14 = .ok (.ifCond .le 26, 3) := by decide +kernel
theorem dX11_answerLength_17 : decode cX11_answerLength 17 = .ok (.aload_n 0, 1) := by decide +kernel
theorem dX11_answerLength_18 : decode cX11_answerLength 18 = .ok (.getfield 20, 3) := by decide +kernel
theorem dX11_answerLength_21 : decode cX11_answerLength 21 = .ok (.getfield 267, 3) := by decide +kernel
theorem dX11_answerLength_24 : decode cX11_answerLength 24 = .ok (.getfield 294, 3) := by decide +kernel
theorem dX11_answerLength_27 : decode cX11_answerLength 27 = .ok (.iconst 2, 1) := by decide +kernel
theorem dX11_answerLength_28 : decode cX11_answerLength 28 = .ok (.aaload, 1) := by decide +kernel
theorem dX11_answerLength_29 : decode cX11_answerLength 29 = .ok (.aload_n 0, 1) := by decide +kernel
theorem dX11_answerLength_30 : decode cX11_answerLength 30 = .ok (.getfield 20, 3) := by decide +kernel
theorem dX11_answerLength_33 : decode cX11_answerLength 33 = .ok (.getfield 282, 3) := by decide +kernel
theorem dX11_answerLength_36 : decode cX11_answerLength 36 = .ok (.iaload, 1) := by decide +kernel
theorem dX11_answerLength_37 : decode cX11_answerLength 37 = .ok (.goto 4, 3) := by decide +kernel
theorem dX11_answerLength_40 : decode cX11_answerLength 40 = .ok (.iconst 0, 1) := by decide +kernel
theorem dX11_answerLength_41 : decode cX11_answerLength 41 = .ok (.ireturn, 1) := by decide +kernel
theorem cwX11_answerLength : mw_cwV yX11_answerLength cX11_answerLength 1 ((some .int)) 0 := ⟨⟨wd_1, wd_682, by decide +kernel⟩, wd_681, sl_0⟩
noncomputable def fX11_answerLength_b41 (fu : Nat) (s0 : Int32) (M : mwM) (L : mwL) : Option (Int32 × mwM × mwL) :=
  some (s0, M, L)
noncomputable def fX11_answerLength_b40 (fu : Nat) (M : mwM) (L : mwL) : Option (Int32 × mwM × mwL) :=
  fX11_answerLength_b41 fu 0 M L
noncomputable def DX11_answerLength (fu : Nat) (M : mwM) (L : mwL) : Option (Int32 × mwM × mwL) :=
  (if (M 0 5) = 0 then fX11_answerLength_b40 fu M L else (if (M 3 18) ≤ 0 then fX11_answerLength_b40 fu M L else mck (M 3 18) 101 (fX11_answerLength_b41 fu (M 158 (M 3 18).toNatClampNeg) M L)))
set_option maxHeartbeats 4000000 in
set_option maxRecDepth 100000 in
theorem tX11_answerLength (l : Launch) (G : mwG) (ad : Nat → Nat) (fu : Nat) (M : mwM) (L : mwL) {r0 : Int32} {M0 : mwM} {L0 : mwL} (hD : DX11_answerLength fu M L = some (r0, M0, L0)) : Met l yX11_answerLength (Cond.code yX11_answerLength cX11_answerLength 1 ((some .int)) :: GT) ({ frames := 0, cells := 0, slots := 0, locals := 0 }) (mw_Pre G ad NF TF FF M L [.ref (ad 0)]) (mw_Qi G ad NF TF FF (mw_eqI r0 M0 L0)) 0 0 (mw_fr G) := by
  refine mw_enter (by decide) (Nat.le_of_ble_eq_true rfl) ?_
  intro p e s m below meth c ls C hr hlocks hnm hw hl
  have hl : lv_has ls 1 [(0, .ref (ad 0))] := hl
  have hb41 : ∀ (s0 : Int32) (M : mwM) (L : mwL) (H : Heap) (locs : List Loc) (ls : Array Slot), fX11_answerLength_b41 fu s0 M L = some (r0, M0, L0) → mw_W G ad NF TF FF M L H locs → lv_has ls 1 [] → W p l e ({ frames := 0, cells := 0, slots := 0, locals := 0 }) s m [.ref (ad 0)].toArray below meth c H locs 0 0 (MQ below (mw_Qi G ad NF TF FF (mw_eqI r0 M0 L0)) [.ref (ad 0)].toArray s 0 0 (mw_fr G)) (F0 m 41 ls [.int s0]) := by
    intro s0 M L H locs ls hD hw hl
    unfold fX11_answerLength_b41 at hD
    exact mr_iret C hr hlocks hw rfl (Option.some.inj hD) dX11_answerLength_41
  have hb40 : ∀ (M : mwM) (L : mwL) (H : Heap) (locs : List Loc) (ls : Array Slot), fX11_answerLength_b40 fu M L = some (r0, M0, L0) → mw_W G ad NF TF FF M L H locs → lv_has ls 1 [] → W p l e ({ frames := 0, cells := 0, slots := 0, locals := 0 }) s m [.ref (ad 0)].toArray below meth c H locs 0 0 (MQ below (mw_Qi G ad NF TF FF (mw_eqI r0 M0 L0)) [.ref (ad 0)].toArray s 0 0 (mw_fr G)) (F0 m 40 ls []) := by
    intro M L H locs ls hD hw hl
    unfold fX11_answerLength_b40 at hD
    refine lv_iconst (v := 0) C.1.1 C.1.2.1 dX11_answerLength_40 (by decide) ?_
    exact hb41 0 M L _ _ ls hD hw (lv_sub hl [] rfl)
  unfold DX11_answerLength at hD
  refine lv_aload_n C.1.1 C.1.2.1 dX11_answerLength_0 rfl (lv_at hl 0 rfl) ?_
  refine mr_getI C hw kc_11 5 (by decide) tf_0 wd_645 dX11_answerLength_1 (by decide) rfl ?_
  refine lv_if_eq (tgt := 40) C.1.1 C.1.2.1 dX11_answerLength_4 (by decide) (fun c1 => ?_) (fun c1 => ?_)
  · replace hD := g_pos c1 hD
    exact hb40 M L _ _ ls hD hw (lv_sub hl [] rfl)
  · replace hD := g_neg c1 hD
    refine lv_aload_n C.1.1 C.1.2.1 dX11_answerLength_7 rfl (lv_at hl 0 rfl) ?_
    refine mr_getR C hw kc_11 1 (by decide) tf_0 ff_0_1 wd_641 dX11_answerLength_8 (by decide) rfl ?_
    refine mr_getNI C hw kc_1 18 (by decide) tf_3 nd_552 dX11_answerLength_11 (by decide) rfl ?_
    refine lv_if_le (tgt := 40) C.1.1 C.1.2.1 dX11_answerLength_14 (by decide) (fun c2 => ?_) (fun c2 => ?_)
    · replace hD := g_pos c2 hD
      exact hb40 M L _ _ ls hD hw (lv_sub hl [] rfl)
    · replace hD := g_neg c2 hD
      refine lv_aload_n C.1.1 C.1.2.1 dX11_answerLength_17 rfl (lv_at hl 0 rfl) ?_
      refine mr_getR C hw kc_11 1 (by decide) tf_0 ff_0_1 wd_641 dX11_answerLength_18 (by decide) rfl ?_
      refine mr_getNR C hw kc_1 6 (by decide) tf_3 ff_3_6 nd_529 dX11_answerLength_21 (by decide) rfl ?_
      refine mr_getNR C hw kc_9 0 (by decide) tf_154 ff_154_0 nd_360 dX11_answerLength_24 (by decide) rfl ?_
      refine lv_iconst (v := 2) C.1.1 C.1.2.1 dX11_answerLength_27 (by decide) ?_
      refine mr_aald C hw (by decide) tf_155 (by decide) (by decide) rfl rfl (show vp_in 2 5 from by unfold vp_in; decide) ff_155_2 dX11_answerLength_28 ?_
      refine lv_aload_n C.1.1 C.1.2.1 dX11_answerLength_29 rfl (lv_at hl 0 rfl) ?_
      refine mr_getR C hw kc_11 1 (by decide) tf_0 ff_0_1 wd_641 dX11_answerLength_30 (by decide) rfl ?_
      refine mr_getNI C hw kc_1 18 (by decide) tf_3 nd_552 dX11_answerLength_33 (by decide) rfl ?_
      obtain ⟨q4, hD⟩ := g_ck hD
      refine mr_iald C hw (by decide) tf_158 q4 dX11_answerLength_36 ?_
      refine lv_goto (tgt := 41) C.1.1 C.1.2.1 dX11_answerLength_37 (by decide) ?_
      exact hb41 (M 158 (M 3 18).toNatClampNeg) M L _ _ ls hD hw (lv_sub hl [] rfl)

theorem dX11_answers_0 : decode cX11_answers 0 = .ok (.aload_n 0, 1) := by decide +kernel
theorem dX11_answers_1 : decode cX11_answers 1 = .ok (.invokevirtual 285, 3) := by decide +kernel
theorem dX11_answers_4 : decode cX11_answers 4 = .ok (.ireturn, 1) := by decide +kernel
theorem cwX11_answers : mw_cwV yX11_answers cX11_answers 1 ((some .int)) 0 := ⟨⟨wd_1, wd_678, by decide +kernel⟩, wd_676, wd_677⟩
noncomputable def DX11_answers (fu : Nat) (M : mwM) (L : mwL) : Option (Int32 × mwM × mwL) :=
  mb3 (DX11_answerLength fu M L) (fun r3 M1 L2 => some (r3, M1, L2))
set_option maxHeartbeats 4000000 in
set_option maxRecDepth 100000 in
theorem tX11_answers (l : Launch) (G : mwG) (ad : Nat → Nat) (fu : Nat) (M : mwM) (L : mwL) {r0 : Int32} {M0 : mwM} {L0 : mwL} (hD : DX11_answers fu M L = some (r0, M0, L0)) : Met l yX11_answers (Cond.code yX11_answers cX11_answers 1 ((some .int)) :: GT) ({ frames := 1, cells := 0, slots := 0, locals := 20 }) (mw_Pre G ad NF TF FF M L [.ref (ad 0)]) (mw_Qi G ad NF TF FF (mw_eqI r0 M0 L0)) 0 0 (mw_fr G) := by
  refine mw_enter (by decide) (Nat.le_of_ble_eq_true rfl) ?_
  intro p e s m below meth c ls C hr hlocks hnm hw hl
  have hl : lv_has ls 1 [(0, .ref (ad 0))] := hl
  unfold DX11_answers at hD
  refine lv_aload_n C.1.1 C.1.2.1 dX11_answers_0 rfl (lv_at hl 0 rfl) ?_
  obtain ⟨r3, M1, L2, h1, hD⟩ := g_b3 hD
  refine md_cvI (As := []) (rest := []) C hw (tX11_answerLength l G ad fu M L h1) kc_11 (by decide) tf_0 wd_679 cwX11_answerLength ⟨Nat.le_of_ble_eq_true rfl, Nat.le_of_ble_eq_true rfl⟩ rfl hl.1 (Nat.le_of_ble_eq_true rfl) dX11_answers_1 rfl rfl ⟨Nat.zero_le _, Nat.zero_le _⟩ rfl (fun H locs hw => ?_)
  exact mr_iret C hr hlocks hw rfl (Option.some.inj hD) dX11_answers_4

theorem dX11_asking_0 : decode cX11_asking 0 = .ok (.aload_n 0, 1) := by decide +kernel
theorem dX11_asking_1 : decode cX11_asking 1 = .ok (.getfield 65, 3) := by decide +kernel
theorem dX11_asking_4 : decode cX11_asking 4 = .ok (.ifCond .eq 13, 3) := by decide +kernel
theorem dX11_asking_7 : decode cX11_asking 7 = .ok (.aload_n 0, 1) := by decide +kernel
theorem dX11_asking_8 : decode cX11_asking 8 = .ok (.getfield 20, 3) := by decide +kernel
theorem dX11_asking_11 : decode cX11_asking 11 = .ok (.getfield 264, 3) := by decide +kernel
theorem dX11_asking_14 : decode cX11_asking 14 = .ok (.goto 4, 3) := by decide +kernel
theorem dX11_asking_17 : decode cX11_asking 17 = .ok (.iconst (-1), 1) := by decide +kernel
theorem dX11_asking_18 : decode cX11_asking 18 = .ok (.ireturn, 1) := by decide +kernel
theorem cwX11_asking : mw_cwV yX11_asking cX11_asking 1 ((some .int)) 0 := ⟨⟨wd_1, wd_674, by decide +kernel⟩, wd_672, wd_673⟩
noncomputable def fX11_asking_b18 (fu : Nat) (s0 : Int32) (M : mwM) (L : mwL) : Option (Int32 × mwM × mwL) :=
  some (s0, M, L)
noncomputable def DX11_asking (fu : Nat) (M : mwM) (L : mwL) : Option (Int32 × mwM × mwL) :=
  (if (M 0 5) = 0 then fX11_asking_b18 fu ((-1)) M L else fX11_asking_b18 fu (M 3 17) M L)
set_option maxHeartbeats 4000000 in
set_option maxRecDepth 100000 in
theorem tX11_asking (l : Launch) (G : mwG) (ad : Nat → Nat) (fu : Nat) (M : mwM) (L : mwL) {r0 : Int32} {M0 : mwM} {L0 : mwL} (hD : DX11_asking fu M L = some (r0, M0, L0)) : Met l yX11_asking (Cond.code yX11_asking cX11_asking 1 ((some .int)) :: GT) ({ frames := 0, cells := 0, slots := 0, locals := 0 }) (mw_Pre G ad NF TF FF M L [.ref (ad 0)]) (mw_Qi G ad NF TF FF (mw_eqI r0 M0 L0)) 0 0 (mw_fr G) := by
  refine mw_enter (by decide) (Nat.le_of_ble_eq_true rfl) ?_
  intro p e s m below meth c ls C hr hlocks hnm hw hl
  have hl : lv_has ls 1 [(0, .ref (ad 0))] := hl
  have hb18 : ∀ (s0 : Int32) (M : mwM) (L : mwL) (H : Heap) (locs : List Loc) (ls : Array Slot), fX11_asking_b18 fu s0 M L = some (r0, M0, L0) → mw_W G ad NF TF FF M L H locs → lv_has ls 1 [] → W p l e ({ frames := 0, cells := 0, slots := 0, locals := 0 }) s m [.ref (ad 0)].toArray below meth c H locs 0 0 (MQ below (mw_Qi G ad NF TF FF (mw_eqI r0 M0 L0)) [.ref (ad 0)].toArray s 0 0 (mw_fr G)) (F0 m 18 ls [.int s0]) := by
    intro s0 M L H locs ls hD hw hl
    unfold fX11_asking_b18 at hD
    exact mr_iret C hr hlocks hw rfl (Option.some.inj hD) dX11_asking_18
  unfold DX11_asking at hD
  refine lv_aload_n C.1.1 C.1.2.1 dX11_asking_0 rfl (lv_at hl 0 rfl) ?_
  refine mr_getI C hw kc_11 5 (by decide) tf_0 wd_645 dX11_asking_1 (by decide) rfl ?_
  refine lv_if_eq (tgt := 17) C.1.1 C.1.2.1 dX11_asking_4 (by decide) (fun c1 => ?_) (fun c1 => ?_)
  · replace hD := g_pos c1 hD
    refine lv_iconst (v := (-1)) C.1.1 C.1.2.1 dX11_asking_17 (by decide) ?_
    exact hb18 ((-1)) M L _ _ ls hD hw (lv_sub hl [] rfl)
  · replace hD := g_neg c1 hD
    refine lv_aload_n C.1.1 C.1.2.1 dX11_asking_7 rfl (lv_at hl 0 rfl) ?_
    refine mr_getR C hw kc_11 1 (by decide) tf_0 ff_0_1 wd_641 dX11_asking_8 (by decide) rfl ?_
    refine mr_getNI C hw kc_1 17 (by decide) tf_3 nd_550 dX11_asking_11 (by decide) rfl ?_
    refine lv_goto (tgt := 18) C.1.1 C.1.2.1 dX11_asking_14 (by decide) ?_
    exact hb18 (M 3 17) M L _ _ ls hD hw (lv_sub hl [] rfl)

theorem dX11_lettersIn_0 : decode cX11_lettersIn 0 = .ok (.iconst 0, 1) := by decide +kernel
theorem dX11_lettersIn_1 : decode cX11_lettersIn 1 = .ok (.istore_n 1, 1) := by decide +kernel
theorem dX11_lettersIn_2 : decode cX11_lettersIn 2 = .ok (.bipush 24, 2) := by decide +kernel
theorem dX11_lettersIn_4 : decode cX11_lettersIn 4 = .ok (.istore_n 2, 1) := by decide +kernel
theorem dX11_lettersIn_5 : decode cX11_lettersIn 5 = .ok (.iload_n 2, 1) := by decide +kernel
theorem dX11_lettersIn_6 : decode cX11_lettersIn 6 = .ok (.ifCond .lt 27, 3) := by decide +kernel
theorem dX11_lettersIn_9 : decode cX11_lettersIn 9 = .ok (.iload_n 1, 1) := by decide +kernel
theorem dX11_lettersIn_10 : decode cX11_lettersIn 10 = .ok (.iload_n 0, 1) := by decide +kernel
theorem dX11_lettersIn_11 : decode cX11_lettersIn 11 = .ok (.iload_n 2, 1) := by decide +kernel
theorem dX11_lettersIn_12 : decode cX11_lettersIn 12 = .ok (.iushr, 1) := by decide +kernel
theorem dX11_lettersIn_13 : decode cX11_lettersIn 13 = .ok (.sipush 255, 3) := by decide +kernel
theorem dX11_lettersIn_16 : decode cX11_lettersIn 16 = .ok (.iand, 1) := by decide +kernel
theorem dX11_lettersIn_17 : decode cX11_lettersIn 17 = .ok (.ifCond .eq 7, 3) := by decide +kernel
theorem dX11_lettersIn_20 : decode cX11_lettersIn 20 = .ok (.iconst 1, 1) := by decide +kernel
theorem dX11_lettersIn_21 : decode cX11_lettersIn 21 = .ok (.goto 4, 3) := by decide +kernel
theorem dX11_lettersIn_24 : decode cX11_lettersIn 24 = .ok (.iconst 0, 1) := by decide +kernel
theorem dX11_lettersIn_25 : decode cX11_lettersIn 25 = .ok (.iadd, 1) := by decide +kernel
theorem dX11_lettersIn_26 : decode cX11_lettersIn 26 = .ok (.istore_n 1, 1) := by decide +kernel
theorem dX11_lettersIn_27 : decode cX11_lettersIn 27 = .ok (.iinc 2 (-8), 3) := by decide +kernel
theorem dX11_lettersIn_30 : decode cX11_lettersIn 30 = .ok (.goto (-25), 3) := by decide +kernel
theorem dX11_lettersIn_33 : decode cX11_lettersIn 33 = .ok (.iload_n 1, 1) := by decide +kernel
theorem dX11_lettersIn_34 : decode cX11_lettersIn 34 = .ok (.ireturn, 1) := by decide +kernel
theorem cwX11_lettersIn : mw_cwS yX11_lettersIn cX11_lettersIn 3 ((some .int)) 1 := ⟨⟨wd_1, wd_693, by decide +kernel⟩, wd_692⟩
noncomputable def fX11_lettersIn_b25 (fu : Nat) (a1 : Int32) (r5 : (Int32 × Int32 × mwM × mwL) → Option (Int32 × mwM × mwL)) (v2 : Int32) (s0 : Int32) (s1 : Int32) (M : mwM) (L : mwL) : Option (Int32 × mwM × mwL) :=
  mlet (s0 + s1) (fun x3 => mlet (v2 + (-8)) (fun x4 => r5 (x3, x4, M, L)))
noncomputable def fX11_lettersIn_i5 (fu : Nat) (a1 : Int32) (r5 : (Int32 × Int32 × mwM × mwL) → Option (Int32 × mwM × mwL)) (v1 : Int32) (v2 : Int32) (M : mwM) (L : mwL) : Option (Int32 × mwM × mwL) :=
  (if v2 < 0 then some (v1, M, L) else (if (((a1.toUInt32 >>> (v2.toUInt32 &&& Int32.toUInt32 31)).toInt32) &&& 255) = 0 then fX11_lettersIn_b25 fu a1 r5 v2 v1 0 M L else fX11_lettersIn_b25 fu a1 r5 v2 v1 1 M L))
noncomputable def fX11_lettersIn_h5 (fu : Nat) (a1 : Int32) : Nat → (Int32 × Int32 × mwM × mwL) → Option (Int32 × mwM × mwL) := mloop (fun r5 s => fX11_lettersIn_i5 fu a1 r5 s.1 s.2.1 s.2.2.1 s.2.2.2)
noncomputable def DX11_lettersIn (fu : Nat) (a1 : Int32) (M : mwM) (L : mwL) : Option (Int32 × mwM × mwL) :=
  fX11_lettersIn_h5 fu a1 fu (0, 24, M, L)
set_option maxHeartbeats 4000000 in
set_option maxRecDepth 100000 in
theorem tX11_lettersIn (l : Launch) (G : mwG) (ad : Nat → Nat) (fu : Nat) (a1 : Int32) (M : mwM) (L : mwL) {r0 : Int32} {M0 : mwM} {L0 : mwL} (hD : DX11_lettersIn fu a1 M L = some (r0, M0, L0)) : Met l yX11_lettersIn (Cond.code yX11_lettersIn cX11_lettersIn 3 ((some .int)) :: GT) ({ frames := 0, cells := 0, slots := 0, locals := 0 }) (mw_Pre G ad NF TF FF M L [.int a1]) (mw_Qi G ad NF TF FF (mw_eqI r0 M0 L0)) 0 0 (mw_fr G) := by
  refine mw_enter (by decide) (Nat.le_of_ble_eq_true rfl) ?_
  intro p e s m below meth c ls C hr hlocks hnm hw hl
  have hl : lv_has ls 3 [(0, .int a1)] := hl
  have hh5 : ∀ (f : Nat) (v1 : Int32) (v2 : Int32) (M : mwM) (L : mwL) (H : Heap) (locs : List Loc) (ls : Array Slot), fX11_lettersIn_h5 fu a1 f (v1, v2, M, L) = some (r0, M0, L0) → mw_W G ad NF TF FF M L H locs → lv_has ls 3 [(0, .int a1), (1, .int v1), (2, .int v2)] → W p l e ({ frames := 0, cells := 0, slots := 0, locals := 0 }) s m [.int a1].toArray below meth c H locs 0 0 (MQ below (mw_Qi G ad NF TF FF (mw_eqI r0 M0 L0)) [.int a1].toArray s 0 0 (mw_fr G)) (F0 m 5 ls []) := by
    intro f
    induction f with
    | zero => intro v1 v2 M L H locs ls hD; cases hD
    | succ f5 ih5 =>
      intro v1 v2 M L H locs ls hD hw hl
      replace hD : fX11_lettersIn_i5 fu a1 (fX11_lettersIn_h5 fu a1 f5) v1 v2 M L = some (r0, M0, L0) := hD
      have hb25 : ∀ (v2 : Int32) (s0 : Int32) (s1 : Int32) (M : mwM) (L : mwL) (H : Heap) (locs : List Loc) (ls : Array Slot), fX11_lettersIn_b25 fu a1 (fX11_lettersIn_h5 fu a1 f5) v2 s0 s1 M L = some (r0, M0, L0) → mw_W G ad NF TF FF M L H locs → lv_has ls 3 [(0, .int a1), (2, .int v2)] → W p l e ({ frames := 0, cells := 0, slots := 0, locals := 0 }) s m [.int a1].toArray below meth c H locs 0 0 (MQ below (mw_Qi G ad NF TF FF (mw_eqI r0 M0 L0)) [.int a1].toArray s 0 0 (mw_fr G)) (F0 m 25 ls [.int s1, .int s0]) := by
        intro v2 s0 s1 M L H locs ls hD hw hl
        unfold fX11_lettersIn_b25 at hD
        refine lv_iadd C.1.1 C.1.2.1 dX11_lettersIn_25 ?_
        obtain ⟨x3, ex3, hD⟩ := g_let hD
        refine W.eq (g2 := F0 m 26 ls (.int x3 :: [])) (by rw [ex3]) ?_
        refine lv_istore_n (lv' := [(1, .int x3), (0, .int a1), (2, .int v2)]) C.1.1 C.1.2.1 dX11_lettersIn_26 rfl hl (by decide) rfl (fun ls hl => ?_)
        obtain ⟨x4, ex4, hD⟩ := g_let hD
        refine lv_iinc (v := x4) (lv' := [(2, .int x4), (1, .int x3), (0, .int a1)]) C.1.1 C.1.2.1 dX11_lettersIn_27 hl (k := 2) rfl (by rw [ex4]; rfl) (by decide) rfl (fun ls hl => ?_)
        refine lv_goto (tgt := 5) C.1.1 C.1.2.1 dX11_lettersIn_30 (by decide) ?_
        exact ih5 x3 x4 M L _ _ ls hD hw (lv_sub hl [2, 1, 0] rfl)
      unfold fX11_lettersIn_i5 at hD
      refine lv_iload_n C.1.1 C.1.2.1 dX11_lettersIn_5 rfl (lv_at hl 2 rfl) ?_
      refine lv_if_lt (tgt := 33) C.1.1 C.1.2.1 dX11_lettersIn_6 (by decide) (fun c1 => ?_) (fun c1 => ?_)
      · replace hD := g_pos c1 hD
        refine lv_iload_n C.1.1 C.1.2.1 dX11_lettersIn_33 rfl (lv_at hl 1 rfl) ?_
        exact mr_iret C hr hlocks hw rfl (Option.some.inj hD) dX11_lettersIn_34
      · replace hD := g_neg c1 hD
        refine lv_iload_n C.1.1 C.1.2.1 dX11_lettersIn_9 rfl (lv_at hl 1 rfl) ?_
        refine lv_iload_n C.1.1 C.1.2.1 dX11_lettersIn_10 rfl (lv_at hl 0 rfl) ?_
        refine lv_iload_n C.1.1 C.1.2.1 dX11_lettersIn_11 rfl (lv_at hl 2 rfl) ?_
        refine lv_iushr C.1.1 C.1.2.1 dX11_lettersIn_12 rfl ?_
        refine lv_sipush (v := 255) C.1.1 C.1.2.1 dX11_lettersIn_13 (by decide) ?_
        refine lv_iand C.1.1 C.1.2.1 dX11_lettersIn_16 ?_
        refine lv_if_eq (tgt := 24) C.1.1 C.1.2.1 dX11_lettersIn_17 (by decide) (fun c2 => ?_) (fun c2 => ?_)
        · replace hD := g_pos c2 hD
          refine lv_iconst (v := 0) C.1.1 C.1.2.1 dX11_lettersIn_24 (by decide) ?_
          exact hb25 v2 v1 0 M L _ _ ls hD hw (lv_sub hl [0, 2] rfl)
        · replace hD := g_neg c2 hD
          refine lv_iconst (v := 1) C.1.1 C.1.2.1 dX11_lettersIn_20 (by decide) ?_
          refine lv_goto (tgt := 25) C.1.1 C.1.2.1 dX11_lettersIn_21 (by decide) ?_
          exact hb25 v2 v1 1 M L _ _ ls hD hw (lv_sub hl [0, 2] rfl)
  unfold DX11_lettersIn at hD
  refine lv_iconst (v := 0) C.1.1 C.1.2.1 dX11_lettersIn_0 (by decide) ?_
  refine lv_istore_n (lv' := [(1, .int 0), (0, .int a1)]) C.1.1 C.1.2.1 dX11_lettersIn_1 rfl hl (by decide) rfl (fun ls hl => ?_)
  refine lv_bipush (v := 24) C.1.1 C.1.2.1 dX11_lettersIn_2 (by decide) ?_
  refine lv_istore_n (lv' := [(2, .int 24), (1, .int 0), (0, .int a1)]) C.1.1 C.1.2.1 dX11_lettersIn_4 rfl hl (by decide) rfl (fun ls hl => ?_)
  exact hh5 fu 0 24 M L _ _ ls hD hw (lv_sub hl [2, 1, 0] rfl)

theorem dX11_place_0 : decode cX11_place 0 = .ok (.aload_n 0, 1) := by decide +kernel
theorem dX11_place_1 : decode cX11_place 1 = .ok (.getfield 10, 3) := by decide +kernel
theorem dX11_place_4 : decode cX11_place 4 = .ok (.getfield 72, 3) := by decide +kernel
theorem dX11_place_7 : decode cX11_place 7 = .ok (.ireturn, 1) := by decide +kernel
theorem cwX11_place : mw_cwV yX11_place cX11_place 1 ((some .int)) 0 := ⟨⟨wd_1, wd_662, by decide +kernel⟩, wd_660, wd_661⟩
noncomputable def DX11_place (fu : Nat) (M : mwM) (L : mwL) : Option (Int32 × mwM × mwL) :=
  some (M 1 13, M, L)
set_option maxHeartbeats 4000000 in
set_option maxRecDepth 100000 in
theorem tX11_place (l : Launch) (G : mwG) (ad : Nat → Nat) (fu : Nat) (M : mwM) (L : mwL) {r0 : Int32} {M0 : mwM} {L0 : mwL} (hD : DX11_place fu M L = some (r0, M0, L0)) : Met l yX11_place (Cond.code yX11_place cX11_place 1 ((some .int)) :: GT) ({ frames := 0, cells := 0, slots := 0, locals := 0 }) (mw_Pre G ad NF TF FF M L [.ref (ad 0)]) (mw_Qi G ad NF TF FF (mw_eqI r0 M0 L0)) 0 0 (mw_fr G) := by
  refine mw_enter (by decide) (Nat.le_of_ble_eq_true rfl) ?_
  intro p e s m below meth c ls C hr hlocks hnm hw hl
  have hl : lv_has ls 1 [(0, .ref (ad 0))] := hl
  unfold DX11_place at hD
  refine lv_aload_n C.1.1 C.1.2.1 dX11_place_0 rfl (lv_at hl 0 rfl) ?_
  refine mr_getR C hw kc_11 0 (by decide) tf_0 ff_0_0 wd_640 dX11_place_1 (by decide) rfl ?_
  refine mr_getNI C hw kc_8 13 (by decide) tf_1 nd_610 dX11_place_4 (by decide) rfl ?_
  exact mr_iret C hr hlocks hw rfl (Option.some.inj hD) dX11_place_7

theorem dX11_say_0 : decode cX11_say 0 = .ok (.aload_n 0, 1) := by decide +kernel
theorem dX11_say_1 : decode cX11_say 1 = .ok (.getfield 261, 3) := by decide +kernel
theorem dX11_say_4 : decode cX11_say 4 = .ok (.bipush 100, 2) := by decide +kernel
theorem dX11_say_6 : decode cX11_say 6 = .ok (.if_icmp .ge 27, 3) := by decide +kernel
theorem dX11_say_9 : decode cX11_say 9 = .ok (.aload_n 0, 1) := by decide +kernel
theorem dX11_say_10 : decode cX11_say 10 = .ok (.getfield 21, 3) := by decide +kernel
theorem dX11_say_13 : decode cX11_say 13 = .ok (.aload_n 0, 1) := by decide +kernel
theorem dX11_say_14 : decode cX11_say 14 = .ok (.getfield 261, 3) := by decide +kernel
theorem dX11_say_17 : decode cX11_say 17 = .ok (.iload_n 1, 1) := by decide +kernel
theorem dX11_say_18 : decode cX11_say 18 = .ok (.sipush 255, 3) := by decide +kernel
theorem dX11_say_21 : decode cX11_say 21 = .ok (.iand, 1) := by decide +kernel
theorem dX11_say_22 : decode cX11_say 22 = .ok (.iastore, 1) := by decide +kernel
theorem dX11_say_23 : decode cX11_say 23 = .ok (.aload_n 0, 1) := by decide +kernel
theorem dX11_say_24 : decode cX11_say 24 = .ok (.dup, 1) := by decide +kernel
theorem dX11_say_25 : decode cX11_say 25 = .ok (.getfield 261, 3) := by decide +kernel
theorem dX11_say_28 : decode cX11_say 28 = .ok (.iconst 1, 1) := by decide +kernel
theorem dX11_say_29 : decode cX11_say 29 = .ok (.iadd, 1) := by decide +kernel
theorem dX11_say_30 : decode cX11_say 30 = .ok (.putfield 261, 3) := by decide +kernel
theorem dX11_say_33 : decode cX11_say 33 = .ok (.aload_n 0, 1) := by decide +kernel
theorem dX11_say_34 : decode cX11_say 34 = .ok (.getfield 261, 3) := by decide +kernel
theorem dX11_say_37 : decode cX11_say 37 = .ok (.ireturn, 1) := by decide +kernel
theorem cwX11_say : mw_cwV yX11_say cX11_say 2 ((some .int)) 1 := ⟨⟨wd_1, wd_670, by decide +kernel⟩, wd_668, wd_669⟩
noncomputable def fX11_say_b33 (fu : Nat) (a1 : Int32) (M : mwM) (L : mwL) : Option (Int32 × mwM × mwL) :=
  some (M 0 3, M, L)
noncomputable def DX11_say (fu : Nat) (a1 : Int32) (M : mwM) (L : mwL) : Option (Int32 × mwM × mwL) :=
  (if 100 ≤ (M 0 3) then fX11_say_b33 fu a1 M L else mck (M 0 3) 100 (mlet (mset M 731 ((M 0 3).toNatClampNeg) (a1 &&& 255)) (fun M3 => mlet (mset M3 0 3 ((M3 0 3) + 1)) (fun M4 => fX11_say_b33 fu a1 M4 L))))
set_option maxHeartbeats 4000000 in
set_option maxRecDepth 100000 in
theorem tX11_say (l : Launch) (G : mwG) (ad : Nat → Nat) (fu : Nat) (a1 : Int32) (M : mwM) (L : mwL) {r0 : Int32} {M0 : mwM} {L0 : mwL} (hD : DX11_say fu a1 M L = some (r0, M0, L0)) : Met l yX11_say (Cond.code yX11_say cX11_say 2 ((some .int)) :: GT) ({ frames := 0, cells := 0, slots := 0, locals := 0 }) (mw_Pre G ad NF TF FF M L [.ref (ad 0), .int a1]) (mw_Qi G ad NF TF FF (mw_eqI r0 M0 L0)) 0 0 (mw_fr G) := by
  refine mw_enter (by decide) (Nat.le_of_ble_eq_true rfl) ?_
  intro p e s m below meth c ls C hr hlocks hnm hw hl
  have hl : lv_has ls 2 [(0, .ref (ad 0)), (1, .int a1)] := hl
  have hb33 : ∀ (M : mwM) (L : mwL) (H : Heap) (locs : List Loc) (ls : Array Slot), fX11_say_b33 fu a1 M L = some (r0, M0, L0) → mw_W G ad NF TF FF M L H locs → lv_has ls 2 [(0, .ref (ad 0))] → W p l e ({ frames := 0, cells := 0, slots := 0, locals := 0 }) s m [.ref (ad 0), .int a1].toArray below meth c H locs 0 0 (MQ below (mw_Qi G ad NF TF FF (mw_eqI r0 M0 L0)) [.ref (ad 0), .int a1].toArray s 0 0 (mw_fr G)) (F0 m 33 ls []) := by
    intro M L H locs ls hD hw hl
    unfold fX11_say_b33 at hD
    refine lv_aload_n C.1.1 C.1.2.1 dX11_say_33 rfl (lv_at hl 0 rfl) ?_
    refine mr_getI C hw kc_11 3 (by decide) tf_0 wd_643 dX11_say_34 (by decide) rfl ?_
    exact mr_iret C hr hlocks hw rfl (Option.some.inj hD) dX11_say_37
  unfold DX11_say at hD
  refine lv_aload_n C.1.1 C.1.2.1 dX11_say_0 rfl (lv_at hl 0 rfl) ?_
  refine mr_getI C hw kc_11 3 (by decide) tf_0 wd_643 dX11_say_1 (by decide) rfl ?_
  refine lv_bipush (v := 100) C.1.1 C.1.2.1 dX11_say_4 (by decide) ?_
  refine lv_icmp_ge (tgt := 33) C.1.1 C.1.2.1 dX11_say_6 (by decide) (fun c1 => ?_) (fun c1 => ?_)
  · replace hD := g_pos c1 hD
    exact hb33 M L _ _ ls hD hw (lv_sub hl [0] rfl)
  · replace hD := g_neg c1 hD
    refine lv_aload_n C.1.1 C.1.2.1 dX11_say_9 rfl (lv_at hl 0 rfl) ?_
    refine mr_getR C hw kc_11 2 (by decide) tf_0 ff_0_2 wd_642 dX11_say_10 (by decide) rfl ?_
    refine lv_aload_n C.1.1 C.1.2.1 dX11_say_13 rfl (lv_at hl 0 rfl) ?_
    refine mr_getI C hw kc_11 3 (by decide) tf_0 wd_643 dX11_say_14 (by decide) rfl ?_
    refine lv_iload_n C.1.1 C.1.2.1 dX11_say_17 rfl (lv_at hl 1 rfl) ?_
    refine lv_sipush (v := 255) C.1.1 C.1.2.1 dX11_say_18 (by decide) ?_
    refine lv_iand C.1.1 C.1.2.1 dX11_say_21 ?_
    obtain ⟨q2, hD⟩ := g_ck hD
    obtain ⟨M3, eM3, hD⟩ := g_let hD
    refine mr_iast C hw (by decide) tf_731 q2 dX11_say_22 (fun H locs hw => ?_)
    replace hw : mw_W G ad NF TF FF M3 L H locs := by rw [eM3]; exact hw
    refine lv_aload_n C.1.1 C.1.2.1 dX11_say_23 rfl (lv_at hl 0 rfl) ?_
    refine lv_dup C.1.1 C.1.2.1 dX11_say_24 rfl ?_
    refine mr_getI C hw kc_11 3 (by decide) tf_0 wd_643 dX11_say_25 (by decide) rfl ?_
    refine lv_iconst (v := 1) C.1.1 C.1.2.1 dX11_say_28 (by decide) ?_
    refine lv_iadd C.1.1 C.1.2.1 dX11_say_29 ?_
    obtain ⟨M4, eM4, hD⟩ := g_let hD
    refine mr_putI C hw kc_11 3 (by decide) tf_0 wd_643 dX11_say_30 (by decide) rfl rfl rfl rfl (fun H locs hw => ?_)
    replace hw : mw_W G ad NF TF FF M4 L H locs := by rw [eM4]; exact hw
    exact hb33 M4 L _ _ ls hD hw (lv_sub hl [0] rfl)

theorem dX4_clear_0 : decode cX4_clear 0 = .ok (.aload_n 0, 1) := by decide +kernel
theorem dX4_clear_1 : decode cX4_clear 1 = .ok (.iconst 0, 1) := by decide +kernel
theorem dX4_clear_2 : decode cX4_clear 2 = .ok (.putfield 23, 3) := by decide +kernel
theorem dX4_clear_5 : decode cX4_clear 5 = .ok (.aload_n 0, 1) := by decide +kernel
theorem dX4_clear_6 : decode cX4_clear 6 = .ok (.iconst 0, 1) := by decide +kernel
theorem dX4_clear_7 : decode cX4_clear 7 = .ok (.putfield 27, 3) := by decide +kernel
theorem dX4_clear_10 : decode cX4_clear 10 = .ok (.aload_n 0, 1) := by decide +kernel
theorem dX4_clear_11 : decode cX4_clear 11 = .ok (.iconst 0, 1) := by decide +kernel
theorem dX4_clear_12 : decode cX4_clear 12 = .ok (.putfield 30, 3) := by decide +kernel
theorem dX4_clear_15 : decode cX4_clear 15 = .ok (.aload_n 0, 1) := by decide +kernel
theorem dX4_clear_16 : decode cX4_clear 16 = .ok (.iconst 1, 1) := by decide +kernel
theorem dX4_clear_17 : decode cX4_clear 17 = .ok (.putfield 33, 3) := by decide +kernel
theorem dX4_clear_20 : decode cX4_clear 20 = .ok (.iconst 0, 1) := by decide +kernel
theorem dX4_clear_21 : decode cX4_clear 21 = .ok (.istore_n 1, 1) := by decide +kernel
theorem dX4_clear_22 : decode cX4_clear 22 = .ok (.iload_n 1, 1) := by decide +kernel
theorem dX4_clear_23 : decode cX4_clear 23 = .ok (.bipush 6, 2) := by decide +kernel
theorem dX4_clear_25 : decode cX4_clear 25 = .ok (.if_icmp .ge 16, 3) := by decide +kernel
theorem dX4_clear_28 : decode cX4_clear 28 = .ok (.aload_n 0, 1) := by decide +kernel
theorem dX4_clear_29 : decode cX4_clear 29 = .ok (.getfield 16, 3) := by decide +kernel
theorem dX4_clear_32 : decode cX4_clear 32 = .ok (.iload_n 1, 1) := by decide +kernel
theorem dX4_clear_33 : decode cX4_clear 33 = .ok (.iconst (-1), 1) := by decide +kernel
theorem dX4_clear_34 : decode cX4_clear 34 = .ok (.iastore, 1) := by decide +kernel
theorem dX4_clear_35 : decode cX4_clear 35 = .ok (.iinc 1 1, 3) := by decide +kernel
theorem dX4_clear_38 : decode cX4_clear 38 = .ok (.goto (-16), 3) := by decide +kernel
theorem dX4_clear_41 : decode cX4_clear 41 = .ok (.return_, 1) := by decide +kernel
theorem cwX4_clear : mw_cwV yX4_clear cX4_clear 2 (none) 0 := ⟨⟨wd_4, wd_804, by decide +kernel⟩, wd_802, wd_803⟩
noncomputable def fX4_clear_i22 (fu : Nat) (r22 : (Int32 × mwM × mwL) → Option (mwM × mwL)) (v1 : Int32) (M : mwM) (L : mwL) : Option (mwM × mwL) :=
  (if 6 ≤ v1 then some (M, L) else mck v1 6 (mlet (mset M 18 (v1.toNatClampNeg) ((-1))) (fun M3 => mlet (v1 + 1) (fun x4 => r22 (x4, M3, L)))))
noncomputable def fX4_clear_h22 (fu : Nat) : Nat → (Int32 × mwM × mwL) → Option (mwM × mwL) := mloop (fun r22 s => fX4_clear_i22 fu r22 s.1 s.2.1 s.2.2)
noncomputable def DX4_clear (fu : Nat) (M : mwM) (L : mwL) : Option (mwM × mwL) :=
  mlet (mset M 5 3 0) (fun M5 => mlet (mset M5 5 4 0) (fun M6 => mlet (mset M6 5 5 0) (fun M7 => mlet (mset M7 5 6 1) (fun M8 => fX4_clear_h22 fu fu (0, M8, L)))))
set_option maxHeartbeats 4000000 in
set_option maxRecDepth 100000 in
theorem tX4_clear (l : Launch) (G : mwG) (ad : Nat → Nat) (fu : Nat) (M : mwM) (L : mwL) {M0 : mwM} {L0 : mwL} (hD : DX4_clear fu M L = some (M0, L0)) : Met l yX4_clear (Cond.code yX4_clear cX4_clear 2 (none) :: GT) ({ frames := 0, cells := 0, slots := 0, locals := 0 }) (mw_Pre G ad NF TF FF M L [.ref (ad 5)]) (mw_Qv G ad NF TF FF (mw_eqV M0 L0)) 0 0 (mw_fr G) := by
  refine mw_enter (by decide) (Nat.le_of_ble_eq_true rfl) ?_
  intro p e s m below meth c ls C hr hlocks hnm hw hl
  have hl : lv_has ls 2 [(0, .ref (ad 5))] := hl
  have hh22 : ∀ (f : Nat) (v1 : Int32) (M : mwM) (L : mwL) (H : Heap) (locs : List Loc) (ls : Array Slot), fX4_clear_h22 fu f (v1, M, L) = some (M0, L0) → mw_W G ad NF TF FF M L H locs → lv_has ls 2 [(0, .ref (ad 5)), (1, .int v1)] → W p l e ({ frames := 0, cells := 0, slots := 0, locals := 0 }) s m [.ref (ad 5)].toArray below meth c H locs 0 0 (MQ below (mw_Qv G ad NF TF FF (mw_eqV M0 L0)) [.ref (ad 5)].toArray s 0 0 (mw_fr G)) (F0 m 22 ls []) := by
    intro f
    induction f with
    | zero => intro v1 M L H locs ls hD; cases hD
    | succ f22 ih22 =>
      intro v1 M L H locs ls hD hw hl
      replace hD : fX4_clear_i22 fu (fX4_clear_h22 fu f22) v1 M L = some (M0, L0) := hD
      unfold fX4_clear_i22 at hD
      refine lv_iload_n C.1.1 C.1.2.1 dX4_clear_22 rfl (lv_at hl 1 rfl) ?_
      refine lv_bipush (v := 6) C.1.1 C.1.2.1 dX4_clear_23 (by decide) ?_
      refine lv_icmp_ge (tgt := 41) C.1.1 C.1.2.1 dX4_clear_25 (by decide) (fun c1 => ?_) (fun c1 => ?_)
      · replace hD := g_pos c1 hD
        exact mr_vret C hr hlocks hw (Option.some.inj hD) dX4_clear_41
      · replace hD := g_neg c1 hD
        refine lv_aload_n C.1.1 C.1.2.1 dX4_clear_28 rfl (lv_at hl 0 rfl) ?_
        refine mr_getR C hw kc_4 1 (by decide) tf_5 ff_5_1 wd_66 dX4_clear_29 (by decide) rfl ?_
        refine lv_iload_n C.1.1 C.1.2.1 dX4_clear_32 rfl (lv_at hl 1 rfl) ?_
        refine lv_iconst (v := (-1)) C.1.1 C.1.2.1 dX4_clear_33 (by decide) ?_
        obtain ⟨q2, hD⟩ := g_ck hD
        obtain ⟨M3, eM3, hD⟩ := g_let hD
        refine mr_iast C hw (by decide) tf_18 q2 dX4_clear_34 (fun H locs hw => ?_)
        replace hw : mw_W G ad NF TF FF M3 L H locs := by rw [eM3]; exact hw
        obtain ⟨x4, ex4, hD⟩ := g_let hD
        refine lv_iinc (v := x4) (lv' := [(1, .int x4), (0, .ref (ad 5))]) C.1.1 C.1.2.1 dX4_clear_35 hl (k := 1) rfl (by rw [ex4]; rfl) (by decide) rfl (fun ls hl => ?_)
        refine lv_goto (tgt := 22) C.1.1 C.1.2.1 dX4_clear_38 (by decide) ?_
        exact ih22 x4 M3 L _ _ ls hD hw (lv_sub hl [1, 0] rfl)
  unfold DX4_clear at hD
  refine lv_aload_n C.1.1 C.1.2.1 dX4_clear_0 rfl (lv_at hl 0 rfl) ?_
  refine lv_iconst (v := 0) C.1.1 C.1.2.1 dX4_clear_1 (by decide) ?_
  obtain ⟨M5, eM5, hD⟩ := g_let hD
  refine mr_putI C hw kc_4 3 (by decide) tf_5 wd_68 dX4_clear_2 (by decide) rfl rfl rfl rfl (fun H locs hw => ?_)
  replace hw : mw_W G ad NF TF FF M5 L H locs := by rw [eM5]; exact hw
  refine lv_aload_n C.1.1 C.1.2.1 dX4_clear_5 rfl (lv_at hl 0 rfl) ?_
  refine lv_iconst (v := 0) C.1.1 C.1.2.1 dX4_clear_6 (by decide) ?_
  obtain ⟨M6, eM6, hD⟩ := g_let hD
  refine mr_putI C hw kc_4 4 (by decide) tf_5 wd_71 dX4_clear_7 (by decide) rfl rfl rfl rfl (fun H locs hw => ?_)
  replace hw : mw_W G ad NF TF FF M6 L H locs := by rw [eM6]; exact hw
  refine lv_aload_n C.1.1 C.1.2.1 dX4_clear_10 rfl (lv_at hl 0 rfl) ?_
  refine lv_iconst (v := 0) C.1.1 C.1.2.1 dX4_clear_11 (by decide) ?_
  obtain ⟨M7, eM7, hD⟩ := g_let hD
  refine mr_putI C hw kc_4 5 (by decide) tf_5 wd_72 dX4_clear_12 (by decide) rfl rfl rfl rfl (fun H locs hw => ?_)
  replace hw : mw_W G ad NF TF FF M7 L H locs := by rw [eM7]; exact hw
  refine lv_aload_n C.1.1 C.1.2.1 dX4_clear_15 rfl (lv_at hl 0 rfl) ?_
  refine lv_iconst (v := 1) C.1.1 C.1.2.1 dX4_clear_16 (by decide) ?_
  obtain ⟨M8, eM8, hD⟩ := g_let hD
  refine mr_putI C hw kc_4 6 (by decide) tf_5 wd_74 dX4_clear_17 (by decide) rfl rfl (by decide +kernel) (by decide +kernel) (fun H locs hw => ?_)
  replace hw : mw_W G ad NF TF FF M8 L H locs := by rw [eM8]; exact hw
  refine lv_iconst (v := 0) C.1.1 C.1.2.1 dX4_clear_20 (by decide) ?_
  refine lv_istore_n (lv' := [(1, .int 0), (0, .ref (ad 5))]) C.1.1 C.1.2.1 dX4_clear_21 rfl hl (by decide) rfl (fun ls hl => ?_)
  exact hh22 fu 0 M8 L _ _ ls hD hw (lv_sub hl [1, 0] rfl)

theorem dX6_clear_0 : decode cX6_clear 0 = .ok (.aload_n 0, 1) := by decide +kernel
theorem dX6_clear_1 : decode cX6_clear 1 = .ok (.iconst 0, 1) := by decide +kernel
theorem dX6_clear_2 : decode cX6_clear 2 = .ok (.putfield 44, 3) := by decide +kernel
theorem dX6_clear_5 : decode cX6_clear 5 = .ok (.aload_n 0, 1) := by decide +kernel
theorem dX6_clear_6 : decode cX6_clear 6 = .ok (.iconst 0, 1) := by decide +kernel
theorem dX6_clear_7 : decode cX6_clear 7 = .ok (.putfield 48, 3) := by decide +kernel
theorem dX6_clear_10 : decode cX6_clear 10 = .ok (.aload_n 0, 1) := by decide +kernel
theorem dX6_clear_11 : decode cX6_clear 11 = .ok (.iconst 0, 1) := by decide +kernel
theorem dX6_clear_12 : decode cX6_clear 12 = .ok (.putfield 51, 3) := by decide +kernel
theorem dX6_clear_15 : decode cX6_clear 15 = .ok (.aload_n 0, 1) := by decide +kernel
theorem dX6_clear_16 : decode cX6_clear 16 = .ok (.ldc 54, 2) := by decide +kernel
theorem dX6_clear_18 : decode cX6_clear 18 = .ok (.putfield 55, 3) := by decide +kernel
theorem dX6_clear_21 : decode cX6_clear 21 = .ok (.return_, 1) := by decide +kernel
theorem cwX6_clear : mw_cwV yX6_clear cX6_clear 1 (none) 0 := ⟨⟨wd_7, wd_808, by decide +kernel⟩, wd_806, wd_807⟩
noncomputable def DX6_clear (fu : Nat) (M : mwM) (L : mwL) : Option (mwM × mwL) :=
  mlet (mset M 61 10 0) (fun M1 => mlet (mset M1 61 11 0) (fun M2 => mlet (mset M2 61 12 0) (fun M3 => mlet (mset M3 61 14 1000000) (fun M4 => some (M4, L)))))
set_option maxHeartbeats 4000000 in
set_option maxRecDepth 100000 in
theorem tX6_clear (l : Launch) (G : mwG) (ad : Nat → Nat) (fu : Nat) (M : mwM) (L : mwL) {M0 : mwM} {L0 : mwL} (hD : DX6_clear fu M L = some (M0, L0)) : Met l yX6_clear (Cond.code yX6_clear cX6_clear 1 (none) :: GT) ({ frames := 0, cells := 0, slots := 0, locals := 0 }) (mw_Pre G ad NF TF FF M L [.ref (ad 61)]) (mw_Qv G ad NF TF FF (mw_eqV M0 L0)) 0 0 (mw_fr G) := by
  refine mw_enter (by decide) (Nat.le_of_ble_eq_true rfl) ?_
  intro p e s m below meth c ls C hr hlocks hnm hw hl
  have hl : lv_has ls 1 [(0, .ref (ad 61))] := hl
  unfold DX6_clear at hD
  refine lv_aload_n C.1.1 C.1.2.1 dX6_clear_0 rfl (lv_at hl 0 rfl) ?_
  refine lv_iconst (v := 0) C.1.1 C.1.2.1 dX6_clear_1 (by decide) ?_
  obtain ⟨M1, eM1, hD⟩ := g_let hD
  refine mr_putI C hw kc_6 10 (by decide) tf_61 wd_243 dX6_clear_2 (by decide) rfl rfl rfl rfl (fun H locs hw => ?_)
  replace hw : mw_W G ad NF TF FF M1 L H locs := by rw [eM1]; exact hw
  refine lv_aload_n C.1.1 C.1.2.1 dX6_clear_5 rfl (lv_at hl 0 rfl) ?_
  refine lv_iconst (v := 0) C.1.1 C.1.2.1 dX6_clear_6 (by decide) ?_
  obtain ⟨M2, eM2, hD⟩ := g_let hD
  refine mr_putI C hw kc_6 11 (by decide) tf_61 wd_246 dX6_clear_7 (by decide) rfl rfl rfl rfl (fun H locs hw => ?_)
  replace hw : mw_W G ad NF TF FF M2 L H locs := by rw [eM2]; exact hw
  refine lv_aload_n C.1.1 C.1.2.1 dX6_clear_10 rfl (lv_at hl 0 rfl) ?_
  refine lv_iconst (v := 0) C.1.1 C.1.2.1 dX6_clear_11 (by decide) ?_
  obtain ⟨M3, eM3, hD⟩ := g_let hD
  refine mr_putI C hw kc_6 12 (by decide) tf_61 wd_249 dX6_clear_12 (by decide) rfl rfl rfl rfl (fun H locs hw => ?_)
  replace hw : mw_W G ad NF TF FF M3 L H locs := by rw [eM3]; exact hw
  refine lv_aload_n C.1.1 C.1.2.1 dX6_clear_15 rfl (lv_at hl 0 rfl) ?_
  refine lv_ldc (v := 1000000) C.1.1 C.1.2.1 C.1.2.2.2.1 (C.1.2.2.2.2 _ wd_809) dX6_clear_16 ?_
  obtain ⟨M4, eM4, hD⟩ := g_let hD
  refine mr_putI C hw kc_6 14 (by decide) tf_61 wd_251 dX6_clear_18 (by decide) rfl rfl rfl rfl (fun H locs hw => ?_)
  replace hw : mw_W G ad NF TF FF M4 L H locs := by rw [eM4]; exact hw
  exact mr_vret C hr hlocks hw (Option.some.inj hD) dX6_clear_21

theorem dX10_clear_0 : decode cX10_clear 0 = .ok (.aload_n 0, 1) := by decide +kernel
theorem dX10_clear_1 : decode cX10_clear 1 = .ok (.iconst 0, 1) := by decide +kernel
theorem dX10_clear_2 : decode cX10_clear 2 = .ok (.putfield 20, 3) := by decide +kernel
theorem dX10_clear_5 : decode cX10_clear 5 = .ok (.aload_n 0, 1) := by decide +kernel
theorem dX10_clear_6 : decode cX10_clear 6 = .ok (.iconst 0, 1) := by decide +kernel
theorem dX10_clear_7 : decode cX10_clear 7 = .ok (.putfield 24, 3) := by decide +kernel
theorem dX10_clear_10 : decode cX10_clear 10 = .ok (.aload_n 0, 1) := by decide +kernel
theorem dX10_clear_11 : decode cX10_clear 11 = .ok (.iconst 0, 1) := by decide +kernel
theorem dX10_clear_12 : decode cX10_clear 12 = .ok (.putfield 27, 3) := by decide +kernel
theorem dX10_clear_15 : decode cX10_clear 15 = .ok (.aload_n 0, 1) := by decide +kernel
theorem dX10_clear_16 : decode cX10_clear 16 = .ok (.iconst 0, 1) := by decide +kernel
theorem dX10_clear_17 : decode cX10_clear 17 = .ok (.putfield 30, 3) := by decide +kernel
theorem dX10_clear_20 : decode cX10_clear 20 = .ok (.return_, 1) := by decide +kernel
theorem cwX10_clear : mw_cwV yX10_clear cX10_clear 1 (none) 0 := ⟨⟨wd_9, wd_813, by decide +kernel⟩, wd_811, wd_812⟩
noncomputable def DX10_clear (fu : Nat) (M : mwM) (L : mwL) : Option (mwM × mwL) :=
  mlet (mset M 139 2 0) (fun M1 => mlet (mset M1 139 3 0) (fun M2 => mlet (mset M2 139 4 0) (fun M3 => mlet (mset M3 139 5 0) (fun M4 => some (M4, L)))))
set_option maxHeartbeats 4000000 in
set_option maxRecDepth 100000 in
theorem tX10_clear (l : Launch) (G : mwG) (ad : Nat → Nat) (fu : Nat) (M : mwM) (L : mwL) {M0 : mwM} {L0 : mwL} (hD : DX10_clear fu M L = some (M0, L0)) : Met l yX10_clear (Cond.code yX10_clear cX10_clear 1 (none) :: GT) ({ frames := 0, cells := 0, slots := 0, locals := 0 }) (mw_Pre G ad NF TF FF M L [.ref (ad 139)]) (mw_Qv G ad NF TF FF (mw_eqV M0 L0)) 0 0 (mw_fr G) := by
  refine mw_enter (by decide) (Nat.le_of_ble_eq_true rfl) ?_
  intro p e s m below meth c ls C hr hlocks hnm hw hl
  have hl : lv_has ls 1 [(0, .ref (ad 139))] := hl
  unfold DX10_clear at hD
  refine lv_aload_n C.1.1 C.1.2.1 dX10_clear_0 rfl (lv_at hl 0 rfl) ?_
  refine lv_iconst (v := 0) C.1.1 C.1.2.1 dX10_clear_1 (by decide) ?_
  obtain ⟨M1, eM1, hD⟩ := g_let hD
  refine mr_putI C hw kc_10 2 (by decide) tf_139 wd_331 dX10_clear_2 (by decide) rfl rfl rfl rfl (fun H locs hw => ?_)
  replace hw : mw_W G ad NF TF FF M1 L H locs := by rw [eM1]; exact hw
  refine lv_aload_n C.1.1 C.1.2.1 dX10_clear_5 rfl (lv_at hl 0 rfl) ?_
  refine lv_iconst (v := 0) C.1.1 C.1.2.1 dX10_clear_6 (by decide) ?_
  obtain ⟨M2, eM2, hD⟩ := g_let hD
  refine mr_putI C hw kc_10 3 (by decide) tf_139 wd_334 dX10_clear_7 (by decide) rfl rfl rfl rfl (fun H locs hw => ?_)
  replace hw : mw_W G ad NF TF FF M2 L H locs := by rw [eM2]; exact hw
  refine lv_aload_n C.1.1 C.1.2.1 dX10_clear_10 rfl (lv_at hl 0 rfl) ?_
  refine lv_iconst (v := 0) C.1.1 C.1.2.1 dX10_clear_11 (by decide) ?_
  obtain ⟨M3, eM3, hD⟩ := g_let hD
  refine mr_putI C hw kc_10 4 (by decide) tf_139 wd_336 dX10_clear_12 (by decide) rfl rfl rfl rfl (fun H locs hw => ?_)
  replace hw : mw_W G ad NF TF FF M3 L H locs := by rw [eM3]; exact hw
  refine lv_aload_n C.1.1 C.1.2.1 dX10_clear_15 rfl (lv_at hl 0 rfl) ?_
  refine lv_iconst (v := 0) C.1.1 C.1.2.1 dX10_clear_16 (by decide) ?_
  obtain ⟨M4, eM4, hD⟩ := g_let hD
  refine mr_putI C hw kc_10 5 (by decide) tf_139 wd_337 dX10_clear_17 (by decide) rfl rfl rfl rfl (fun H locs hw => ?_)
  replace hw : mw_W G ad NF TF FF M4 L H locs := by rw [eM4]; exact hw
  exact mr_vret C hr hlocks hw (Option.some.inj hD) dX10_clear_20

theorem dX9_clear_0 : decode cX9_clear 0 = .ok (.aload_n 0, 1) := by decide +kernel
theorem dX9_clear_1 : decode cX9_clear 1 = .ok (.iconst 0, 1) := by decide +kernel
theorem dX9_clear_2 : decode cX9_clear 2 = .ok (.putfield 29, 3) := by decide +kernel
theorem dX9_clear_5 : decode cX9_clear 5 = .ok (.aload_n 0, 1) := by decide +kernel
theorem dX9_clear_6 : decode cX9_clear 6 = .ok (.iconst 0, 1) := by decide +kernel
theorem dX9_clear_7 : decode cX9_clear 7 = .ok (.putfield 33, 3) := by decide +kernel
theorem dX9_clear_10 : decode cX9_clear 10 = .ok (.aload_n 0, 1) := by decide +kernel
theorem dX9_clear_11 : decode cX9_clear 11 = .ok (.iconst 0, 1) := by decide +kernel
theorem dX9_clear_12 : decode cX9_clear 12 = .ok (.putfield 36, 3) := by decide +kernel
theorem dX9_clear_15 : decode cX9_clear 15 = .ok (.aload_n 0, 1) := by decide +kernel
theorem dX9_clear_16 : decode cX9_clear 16 = .ok (.iconst 0, 1) := by decide +kernel
theorem dX9_clear_17 : decode cX9_clear 17 = .ok (.putfield 39, 3) := by decide +kernel
theorem dX9_clear_20 : decode cX9_clear 20 = .ok (.aload_n 0, 1) := by decide +kernel
theorem dX9_clear_21 : decode cX9_clear 21 = .ok (.iconst 0, 1) := by decide +kernel
theorem dX9_clear_22 : decode cX9_clear 22 = .ok (.putfield 42, 3) := by decide +kernel
theorem dX9_clear_25 : decode cX9_clear 25 = .ok (.aload_n 0, 1) := by decide +kernel
theorem dX9_clear_26 : decode cX9_clear 26 = .ok (.iconst 0, 1) := by decide +kernel
theorem dX9_clear_27 : decode cX9_clear 27 = .ok (.putfield 45, 3) := by decide +kernel
theorem dX9_clear_30 : decode cX9_clear 30 = .ok (.iconst 0, 1) := by decide +kernel
theorem dX9_clear_31 : decode cX9_clear 31 = .ok (.istore_n 1, 1) := by decide +kernel
theorem dX9_clear_32 : decode cX9_clear 32 = .ok (.iload_n 1, 1) := by decide +kernel
theorem dX9_clear_33 : decode cX9_clear 33 = .ok (.iconst 4, 1) := by decide +kernel
theorem dX9_clear_34 : decode cX9_clear 34 = .ok (.if_icmp .ge 18, 3) := by decide +kernel
theorem dX9_clear_37 : decode cX9_clear 37 = .ok (.aload_n 0, 1) := by decide +kernel
theorem dX9_clear_38 : decode cX9_clear 38 = .ok (.getfield 19, 3) := by decide +kernel
theorem dX9_clear_41 : decode cX9_clear 41 = .ok (.iconst 0, 1) := by decide +kernel
theorem dX9_clear_42 : decode cX9_clear 42 = .ok (.aaload, 1) := by decide +kernel
theorem dX9_clear_43 : decode cX9_clear 43 = .ok (.iload_n 1, 1) := by decide +kernel
theorem dX9_clear_44 : decode cX9_clear 44 = .ok (.iconst 0, 1) := by decide +kernel
theorem dX9_clear_45 : decode cX9_clear 45 = .ok (.iastore, 1) := by decide +kernel
theorem dX9_clear_46 : decode cX9_clear 46 = .ok (.iinc 1 1, 3) := by decide +kernel
theorem dX9_clear_49 : decode cX9_clear 49 = .ok (.goto (-17), 3) := by decide +kernel
theorem dX9_clear_52 : decode cX9_clear 52 = .ok (.return_, 1) := by decide +kernel
theorem cwX9_clear : mw_cwV yX9_clear cX9_clear 2 (none) 0 := ⟨⟨wd_10, wd_817, by decide +kernel⟩, wd_815, wd_816⟩
noncomputable def fX9_clear_i32 (fu : Nat) (r32 : (Int32 × mwM × mwL) → Option (mwM × mwL)) (v1 : Int32) (M : mwM) (L : mwL) : Option (mwM × mwL) :=
  (if 4 ≤ v1 then some (M, L) else mck v1 4 (mlet (mset M 264 (v1.toNatClampNeg) 0) (fun M4 => mlet (v1 + 1) (fun x5 => r32 (x5, M4, L)))))
noncomputable def fX9_clear_h32 (fu : Nat) : Nat → (Int32 × mwM × mwL) → Option (mwM × mwL) := mloop (fun r32 s => fX9_clear_i32 fu r32 s.1 s.2.1 s.2.2)
noncomputable def DX9_clear (fu : Nat) (M : mwM) (L : mwL) : Option (mwM × mwL) :=
  mlet (mset M 154 5 0) (fun M6 => mlet (mset M6 154 6 0) (fun M7 => mlet (mset M7 154 7 0) (fun M8 => mlet (mset M8 154 8 0) (fun M9 => mlet (mset M9 154 9 0) (fun M10 => mlet (mset M10 154 10 0) (fun M11 => fX9_clear_h32 fu fu (0, M11, L)))))))
set_option maxHeartbeats 4000000 in
set_option maxRecDepth 100000 in
theorem tX9_clear (l : Launch) (G : mwG) (ad : Nat → Nat) (fu : Nat) (M : mwM) (L : mwL) {M0 : mwM} {L0 : mwL} (hD : DX9_clear fu M L = some (M0, L0)) : Met l yX9_clear (Cond.code yX9_clear cX9_clear 2 (none) :: GT) ({ frames := 0, cells := 0, slots := 0, locals := 0 }) (mw_Pre G ad NF TF FF M L [.ref (ad 154)]) (mw_Qv G ad NF TF FF (mw_eqV M0 L0)) 0 0 (mw_fr G) := by
  refine mw_enter (by decide) (Nat.le_of_ble_eq_true rfl) ?_
  intro p e s m below meth c ls C hr hlocks hnm hw hl
  have hl : lv_has ls 2 [(0, .ref (ad 154))] := hl
  have hh32 : ∀ (f : Nat) (v1 : Int32) (M : mwM) (L : mwL) (H : Heap) (locs : List Loc) (ls : Array Slot), fX9_clear_h32 fu f (v1, M, L) = some (M0, L0) → mw_W G ad NF TF FF M L H locs → lv_has ls 2 [(0, .ref (ad 154)), (1, .int v1)] → W p l e ({ frames := 0, cells := 0, slots := 0, locals := 0 }) s m [.ref (ad 154)].toArray below meth c H locs 0 0 (MQ below (mw_Qv G ad NF TF FF (mw_eqV M0 L0)) [.ref (ad 154)].toArray s 0 0 (mw_fr G)) (F0 m 32 ls []) := by
    intro f
    induction f with
    | zero => intro v1 M L H locs ls hD; cases hD
    | succ f32 ih32 =>
      intro v1 M L H locs ls hD hw hl
      replace hD : fX9_clear_i32 fu (fX9_clear_h32 fu f32) v1 M L = some (M0, L0) := hD
      unfold fX9_clear_i32 at hD
      refine lv_iload_n C.1.1 C.1.2.1 dX9_clear_32 rfl (lv_at hl 1 rfl) ?_
      refine lv_iconst (v := 4) C.1.1 C.1.2.1 dX9_clear_33 (by decide) ?_
      refine lv_icmp_ge (tgt := 52) C.1.1 C.1.2.1 dX9_clear_34 (by decide) (fun c1 => ?_) (fun c1 => ?_)
      · replace hD := g_pos c1 hD
        exact mr_vret C hr hlocks hw (Option.some.inj hD) dX9_clear_52
      · replace hD := g_neg c1 hD
        refine lv_aload_n C.1.1 C.1.2.1 dX9_clear_37 rfl (lv_at hl 0 rfl) ?_
        refine mr_getR C hw kc_9 2 (by decide) tf_154 ff_154_2 wd_364 dX9_clear_38 (by decide) rfl ?_
        refine lv_iconst (v := 0) C.1.1 C.1.2.1 dX9_clear_41 (by decide) ?_
        refine mr_aald C hw (by decide) tf_263 (by decide) (by decide) rfl rfl (show vp_in 0 5 from by unfold vp_in; decide) ff_263_0 dX9_clear_42 ?_
        refine lv_iload_n C.1.1 C.1.2.1 dX9_clear_43 rfl (lv_at hl 1 rfl) ?_
        refine lv_iconst (v := 0) C.1.1 C.1.2.1 dX9_clear_44 (by decide) ?_
        obtain ⟨q3, hD⟩ := g_ck hD
        obtain ⟨M4, eM4, hD⟩ := g_let hD
        refine mr_iast C hw (by decide) tf_264 q3 dX9_clear_45 (fun H locs hw => ?_)
        replace hw : mw_W G ad NF TF FF M4 L H locs := by rw [eM4]; exact hw
        obtain ⟨x5, ex5, hD⟩ := g_let hD
        refine lv_iinc (v := x5) (lv' := [(1, .int x5), (0, .ref (ad 154))]) C.1.1 C.1.2.1 dX9_clear_46 hl (k := 1) rfl (by rw [ex5]; rfl) (by decide) rfl (fun ls hl => ?_)
        refine lv_goto (tgt := 32) C.1.1 C.1.2.1 dX9_clear_49 (by decide) ?_
        exact ih32 x5 M4 L _ _ ls hD hw (lv_sub hl [1, 0] rfl)
  unfold DX9_clear at hD
  refine lv_aload_n C.1.1 C.1.2.1 dX9_clear_0 rfl (lv_at hl 0 rfl) ?_
  refine lv_iconst (v := 0) C.1.1 C.1.2.1 dX9_clear_1 (by decide) ?_
  obtain ⟨M6, eM6, hD⟩ := g_let hD
  refine mr_putI C hw kc_9 5 (by decide) tf_154 wd_368 dX9_clear_2 (by decide) rfl rfl rfl rfl (fun H locs hw => ?_)
  replace hw : mw_W G ad NF TF FF M6 L H locs := by rw [eM6]; exact hw
  refine lv_aload_n C.1.1 C.1.2.1 dX9_clear_5 rfl (lv_at hl 0 rfl) ?_
  refine lv_iconst (v := 0) C.1.1 C.1.2.1 dX9_clear_6 (by decide) ?_
  obtain ⟨M7, eM7, hD⟩ := g_let hD
  refine mr_putI C hw kc_9 6 (by decide) tf_154 wd_370 dX9_clear_7 (by decide) rfl rfl rfl rfl (fun H locs hw => ?_)
  replace hw : mw_W G ad NF TF FF M7 L H locs := by rw [eM7]; exact hw
  refine lv_aload_n C.1.1 C.1.2.1 dX9_clear_10 rfl (lv_at hl 0 rfl) ?_
  refine lv_iconst (v := 0) C.1.1 C.1.2.1 dX9_clear_11 (by decide) ?_
  obtain ⟨M8, eM8, hD⟩ := g_let hD
  refine mr_putI C hw kc_9 7 (by decide) tf_154 wd_372 dX9_clear_12 (by decide) rfl rfl rfl rfl (fun H locs hw => ?_)
  replace hw : mw_W G ad NF TF FF M8 L H locs := by rw [eM8]; exact hw
  refine lv_aload_n C.1.1 C.1.2.1 dX9_clear_15 rfl (lv_at hl 0 rfl) ?_
  refine lv_iconst (v := 0) C.1.1 C.1.2.1 dX9_clear_16 (by decide) ?_
  obtain ⟨M9, eM9, hD⟩ := g_let hD
  refine mr_putI C hw kc_9 8 (by decide) tf_154 wd_374 dX9_clear_17 (by decide) rfl rfl rfl rfl (fun H locs hw => ?_)
  replace hw : mw_W G ad NF TF FF M9 L H locs := by rw [eM9]; exact hw
  refine lv_aload_n C.1.1 C.1.2.1 dX9_clear_20 rfl (lv_at hl 0 rfl) ?_
  refine lv_iconst (v := 0) C.1.1 C.1.2.1 dX9_clear_21 (by decide) ?_
  obtain ⟨M10, eM10, hD⟩ := g_let hD
  refine mr_putI C hw kc_9 9 (by decide) tf_154 wd_375 dX9_clear_22 (by decide) rfl rfl rfl rfl (fun H locs hw => ?_)
  replace hw : mw_W G ad NF TF FF M10 L H locs := by rw [eM10]; exact hw
  refine lv_aload_n C.1.1 C.1.2.1 dX9_clear_25 rfl (lv_at hl 0 rfl) ?_
  refine lv_iconst (v := 0) C.1.1 C.1.2.1 dX9_clear_26 (by decide) ?_
  obtain ⟨M11, eM11, hD⟩ := g_let hD
  refine mr_putI C hw kc_9 10 (by decide) tf_154 wd_376 dX9_clear_27 (by decide) rfl rfl (by decide +kernel) (by decide +kernel) (fun H locs hw => ?_)
  replace hw : mw_W G ad NF TF FF M11 L H locs := by rw [eM11]; exact hw
  refine lv_iconst (v := 0) C.1.1 C.1.2.1 dX9_clear_30 (by decide) ?_
  refine lv_istore_n (lv' := [(1, .int 0), (0, .ref (ad 154))]) C.1.1 C.1.2.1 dX9_clear_31 rfl hl (by decide) rfl (fun ls hl => ?_)
  exact hh32 fu 0 M11 L _ _ ls hD hw (lv_sub hl [1, 0] rfl)

theorem dX7_clear_0 : decode cX7_clear 0 = .ok (.aload_n 0, 1) := by decide +kernel
theorem dX7_clear_1 : decode cX7_clear 1 = .ok (.iconst 0, 1) := by decide +kernel
theorem dX7_clear_2 : decode cX7_clear 2 = .ok (.putfield 34, 3) := by decide +kernel
theorem dX7_clear_5 : decode cX7_clear 5 = .ok (.iconst 0, 1) := by decide +kernel
theorem dX7_clear_6 : decode cX7_clear 6 = .ok (.istore_n 1, 1) := by decide +kernel
theorem dX7_clear_7 : decode cX7_clear 7 = .ok (.iload_n 1, 1) := by decide +kernel
theorem dX7_clear_8 : decode cX7_clear 8 = .ok (.bipush 6, 2) := by decide +kernel
theorem dX7_clear_10 : decode cX7_clear 10 = .ok (.if_icmp .ge 37, 3) := by decide +kernel
theorem dX7_clear_13 : decode cX7_clear 13 = .ok (.aload_n 0, 1) := by decide +kernel
theorem dX7_clear_14 : decode cX7_clear 14 = .ok (.getfield 9, 3) := by decide +kernel
theorem dX7_clear_17 : decode cX7_clear 17 = .ok (.iload_n 1, 1) := by decide +kernel
theorem dX7_clear_18 : decode cX7_clear 18 = .ok (.iconst 1, 1) := by decide +kernel
theorem dX7_clear_19 : decode cX7_clear 19 = .ok (.iastore, 1) := by decide +kernel
theorem dX7_clear_20 : decode cX7_clear 20 = .ok (.aload_n 0, 1) := by decide +kernel
theorem dX7_clear_21 : decode cX7_clear 21 = .ok (.getfield 15, 3) := by decide +kernel
theorem dX7_clear_24 : decode cX7_clear 24 = .ok (.iload_n 1, 1) := by decide +kernel
theorem dX7_clear_25 : decode cX7_clear 25 = .ok (.iconst 0, 1) := by decide +kernel
theorem dX7_clear_26 : decode cX7_clear 26 = .ok (.bastore, 1) := by decide +kernel
theorem dX7_clear_27 : decode cX7_clear 27 = .ok (.aload_n 0, 1) := by decide +kernel
theorem dX7_clear_28 : decode cX7_clear 28 = .ok (.getfield 19, 3) := by decide +kernel
theorem dX7_clear_31 : decode cX7_clear 31 = .ok (.iload_n 1, 1) := by decide +kernel
theorem dX7_clear_32 : decode cX7_clear 32 = .ok (.iconst 0, 1) := by decide +kernel
theorem dX7_clear_33 : decode cX7_clear 33 = .ok (.bastore, 1) := by decide +kernel
theorem dX7_clear_34 : decode cX7_clear 34 = .ok (.aload_n 0, 1) := by decide +kernel
theorem dX7_clear_35 : decode cX7_clear 35 = .ok (.getfield 25, 3) := by decide +kernel
theorem dX7_clear_38 : decode cX7_clear 38 = .ok (.iload_n 1, 1) := by decide +kernel
theorem dX7_clear_39 : decode cX7_clear 39 = .ok (.iconst 0, 1) := by decide +kernel
theorem dX7_clear_40 : decode cX7_clear 40 = .ok (.iastore, 1) := by decide +kernel
theorem dX7_clear_41 : decode cX7_clear 41 = .ok (.iinc 1 1, 3) := by decide +kernel
theorem dX7_clear_44 : decode cX7_clear 44 = .ok (.goto (-37), 3) := by decide +kernel
theorem dX7_clear_47 : decode cX7_clear 47 = .ok (.return_, 1) := by decide +kernel
theorem cwX7_clear : mw_cwV yX7_clear cX7_clear 2 (none) 0 := ⟨⟨wd_11, wd_821, by decide +kernel⟩, wd_819, wd_820⟩
noncomputable def fX7_clear_i7 (fu : Nat) (r7 : (Int32 × mwM × mwL) → Option (mwM × mwL)) (v1 : Int32) (M : mwM) (L : mwL) : Option (mwM × mwL) :=
  (if 6 ≤ v1 then some (M, L) else mck v1 6 (mlet (mset M 276 (v1.toNatClampNeg) 1) (fun M3 => mck v1 6 (mlet (mset M3 277 (v1.toNatClampNeg) (vp_nar .boolean 0)) (fun M5 => mck v1 6 (mlet (mset M5 278 (v1.toNatClampNeg) (vp_nar .boolean 0)) (fun M7 => mck v1 6 (mlet (mset M7 280 (v1.toNatClampNeg) 0) (fun M9 => mlet (v1 + 1) (fun x10 => r7 (x10, M9, L)))))))))))
noncomputable def fX7_clear_h7 (fu : Nat) : Nat → (Int32 × mwM × mwL) → Option (mwM × mwL) := mloop (fun r7 s => fX7_clear_i7 fu r7 s.1 s.2.1 s.2.2)
noncomputable def DX7_clear (fu : Nat) (M : mwM) (L : mwL) : Option (mwM × mwL) :=
  mlet (mset M 275 8 0) (fun M11 => fX7_clear_h7 fu fu (0, M11, L))
set_option maxHeartbeats 4000000 in
set_option maxRecDepth 100000 in
theorem tX7_clear (l : Launch) (G : mwG) (ad : Nat → Nat) (fu : Nat) (M : mwM) (L : mwL) {M0 : mwM} {L0 : mwL} (hD : DX7_clear fu M L = some (M0, L0)) : Met l yX7_clear (Cond.code yX7_clear cX7_clear 2 (none) :: GT) ({ frames := 0, cells := 0, slots := 0, locals := 0 }) (mw_Pre G ad NF TF FF M L [.ref (ad 275)]) (mw_Qv G ad NF TF FF (mw_eqV M0 L0)) 0 0 (mw_fr G) := by
  refine mw_enter (by decide) (Nat.le_of_ble_eq_true rfl) ?_
  intro p e s m below meth c ls C hr hlocks hnm hw hl
  have hl : lv_has ls 2 [(0, .ref (ad 275))] := hl
  have hh7 : ∀ (f : Nat) (v1 : Int32) (M : mwM) (L : mwL) (H : Heap) (locs : List Loc) (ls : Array Slot), fX7_clear_h7 fu f (v1, M, L) = some (M0, L0) → mw_W G ad NF TF FF M L H locs → lv_has ls 2 [(0, .ref (ad 275)), (1, .int v1)] → W p l e ({ frames := 0, cells := 0, slots := 0, locals := 0 }) s m [.ref (ad 275)].toArray below meth c H locs 0 0 (MQ below (mw_Qv G ad NF TF FF (mw_eqV M0 L0)) [.ref (ad 275)].toArray s 0 0 (mw_fr G)) (F0 m 7 ls []) := by
    intro f
    induction f with
    | zero => intro v1 M L H locs ls hD; cases hD
    | succ f7 ih7 =>
      intro v1 M L H locs ls hD hw hl
      replace hD : fX7_clear_i7 fu (fX7_clear_h7 fu f7) v1 M L = some (M0, L0) := hD
      unfold fX7_clear_i7 at hD
      refine lv_iload_n C.1.1 C.1.2.1 dX7_clear_7 rfl (lv_at hl 1 rfl) ?_
      refine lv_bipush (v := 6) C.1.1 C.1.2.1 dX7_clear_8 (by decide) ?_
      refine lv_icmp_ge (tgt := 47) C.1.1 C.1.2.1 dX7_clear_10 (by decide) (fun c1 => ?_) (fun c1 => ?_)
      · replace hD := g_pos c1 hD
        exact mr_vret C hr hlocks hw (Option.some.inj hD) dX7_clear_47
      · replace hD := g_neg c1 hD
        refine lv_aload_n C.1.1 C.1.2.1 dX7_clear_13 rfl (lv_at hl 0 rfl) ?_
        refine mr_getR C hw kc_7 0 (by decide) tf_275 ff_275_0 wd_407 dX7_clear_14 (by decide) rfl ?_
        refine lv_iload_n C.1.1 C.1.2.1 dX7_clear_17 rfl (lv_at hl 1 rfl) ?_
        refine lv_iconst (v := 1) C.1.1 C.1.2.1 dX7_clear_18 (by decide) ?_
        obtain ⟨q2, hD⟩ := g_ck hD
        obtain ⟨M3, eM3, hD⟩ := g_let hD
        refine mr_iast C hw (by decide) tf_276 q2 dX7_clear_19 (fun H locs hw => ?_)
        replace hw : mw_W G ad NF TF FF M3 L H locs := by rw [eM3]; exact hw
        refine lv_aload_n C.1.1 C.1.2.1 dX7_clear_20 rfl (lv_at hl 0 rfl) ?_
        refine mr_getR C hw kc_7 1 (by decide) tf_275 ff_275_1 wd_408 dX7_clear_21 (by decide) rfl ?_
        refine lv_iload_n C.1.1 C.1.2.1 dX7_clear_24 rfl (lv_at hl 1 rfl) ?_
        refine lv_iconst (v := 0) C.1.1 C.1.2.1 dX7_clear_25 (by decide) ?_
        obtain ⟨q4, hD⟩ := g_ck hD
        obtain ⟨M5, eM5, hD⟩ := g_let hD
        refine mr_zast C hw (by decide) tf_277 q4 dX7_clear_26 (fun H locs hw => ?_)
        replace hw : mw_W G ad NF TF FF M5 L H locs := by rw [eM5]; exact hw
        refine lv_aload_n C.1.1 C.1.2.1 dX7_clear_27 rfl (lv_at hl 0 rfl) ?_
        refine mr_getR C hw kc_7 2 (by decide) tf_275 ff_275_2 wd_409 dX7_clear_28 (by decide) rfl ?_
        refine lv_iload_n C.1.1 C.1.2.1 dX7_clear_31 rfl (lv_at hl 1 rfl) ?_
        refine lv_iconst (v := 0) C.1.1 C.1.2.1 dX7_clear_32 (by decide) ?_
        obtain ⟨q6, hD⟩ := g_ck hD
        obtain ⟨M7, eM7, hD⟩ := g_let hD
        refine mr_zast C hw (by decide) tf_278 q6 dX7_clear_33 (fun H locs hw => ?_)
        replace hw : mw_W G ad NF TF FF M7 L H locs := by rw [eM7]; exact hw
        refine lv_aload_n C.1.1 C.1.2.1 dX7_clear_34 rfl (lv_at hl 0 rfl) ?_
        refine mr_getR C hw kc_7 4 (by decide) tf_275 ff_275_4 wd_411 dX7_clear_35 (by decide) rfl ?_
        refine lv_iload_n C.1.1 C.1.2.1 dX7_clear_38 rfl (lv_at hl 1 rfl) ?_
        refine lv_iconst (v := 0) C.1.1 C.1.2.1 dX7_clear_39 (by decide) ?_
        obtain ⟨q8, hD⟩ := g_ck hD
        obtain ⟨M9, eM9, hD⟩ := g_let hD
        refine mr_iast C hw (by decide) tf_280 q8 dX7_clear_40 (fun H locs hw => ?_)
        replace hw : mw_W G ad NF TF FF M9 L H locs := by rw [eM9]; exact hw
        obtain ⟨x10, ex10, hD⟩ := g_let hD
        refine lv_iinc (v := x10) (lv' := [(1, .int x10), (0, .ref (ad 275))]) C.1.1 C.1.2.1 dX7_clear_41 hl (k := 1) rfl (by rw [ex10]; rfl) (by decide) rfl (fun ls hl => ?_)
        refine lv_goto (tgt := 7) C.1.1 C.1.2.1 dX7_clear_44 (by decide) ?_
        exact ih7 x10 M9 L _ _ ls hD hw (lv_sub hl [1, 0] rfl)
  unfold DX7_clear at hD
  refine lv_aload_n C.1.1 C.1.2.1 dX7_clear_0 rfl (lv_at hl 0 rfl) ?_
  refine lv_iconst (v := 0) C.1.1 C.1.2.1 dX7_clear_1 (by decide) ?_
  obtain ⟨M11, eM11, hD⟩ := g_let hD
  refine mr_putI C hw kc_7 8 (by decide) tf_275 wd_417 dX7_clear_2 (by decide) rfl rfl rfl rfl (fun H locs hw => ?_)
  replace hw : mw_W G ad NF TF FF M11 L H locs := by rw [eM11]; exact hw
  refine lv_iconst (v := 0) C.1.1 C.1.2.1 dX7_clear_5 (by decide) ?_
  refine lv_istore_n (lv' := [(1, .int 0), (0, .ref (ad 275))]) C.1.1 C.1.2.1 dX7_clear_6 rfl hl (by decide) rfl (fun ls hl => ?_)
  exact hh7 fu 0 M11 L _ _ ls hD hw (lv_sub hl [1, 0] rfl)

theorem dX1_clear_0 : decode cX1_clear 0 = .ok (.iconst 0, 1) := by decide +kernel
theorem dX1_clear_1 : decode cX1_clear 1 = .ok (.istore_n 1, 1) := by decide +kernel
theorem dX1_clear_2 : decode cX1_clear 2 = .ok (.iload_n 1, 1) := by decide +kernel
theorem dX1_clear_3 : decode cX1_clear 3 = .ok (.bipush 12, 2) := by decide +kernel
theorem dX1_clear_5 : decode cX1_clear 5 = .ok (.if_icmp .ge 16, 3) := by decide +kernel
theorem dX1_clear_8 : decode cX1_clear 8 = .ok (.aload_n 0, 1) := by decide +kernel
theorem dX1_clear_9 : decode cX1_clear 9 = .ok (.getfield 66, 3) := by decide +kernel
theorem dX1_clear_12 : decode cX1_clear 12 = .ok (.iload_n 1, 1) := by decide +kernel
theorem dX1_clear_13 : decode cX1_clear 13 = .ok (.iconst (-1), 1) := by decide +kernel
theorem dX1_clear_14 : decode cX1_clear 14 = .ok (.iastore, 1) := by decide +kernel
theorem dX1_clear_15 : decode cX1_clear 15 = .ok (.iinc 1 1, 3) := by decide +kernel
theorem dX1_clear_18 : decode cX1_clear 18 = .ok (.goto (-16), 3) := by decide +kernel
theorem dX1_clear_21 : decode cX1_clear 21 = .ok (.iconst 0, 1) := by decide +kernel
theorem dX1_clear_22 : decode cX1_clear 22 = .ok (.istore_n 1, 1) := by decide +kernel
theorem dX1_clear_23 : decode cX1_clear 23 = .ok (.iload_n 1, 1) := by decide +kernel
theorem dX1_clear_24 : decode cX1_clear 24 = .ok (.bipush 12, 2) := by decide +kernel
theorem dX1_clear_26 : decode cX1_clear 26 = .ok (.if_icmp .ge 19, 3) := by decide +kernel
theorem dX1_clear_29 : decode cX1_clear 29 = .ok (.aload_n 0, 1) := by decide +kernel
theorem dX1_clear_30 : decode cX1_clear 30 = .ok (.getfield 11, 3) := by decide +kernel
theorem dX1_clear_33 : decode cX1_clear 33 = .ok (.iload_n 1, 1) := by decide +kernel
theorem dX1_clear_34 : decode cX1_clear 34 = .ok (.aaload, 1) := by decide +kernel
theorem dX1_clear_35 : decode cX1_clear 35 = .ok (.iconst (-1), 1) := by decide +kernel
theorem dX1_clear_36 : decode cX1_clear 36 = .ok (.putfield 87, 3) := by decide +kernel
theorem dX1_clear_39 : decode cX1_clear 39 = .ok (.iinc 1 1, 3) := by decide +kernel
theorem dX1_clear_42 : decode cX1_clear 42 = .ok (.goto (-19), 3) := by decide +kernel
theorem dX1_clear_45 : decode cX1_clear 45 = .ok (.iconst 0, 1) := by decide +kernel
theorem dX1_clear_46 : decode cX1_clear 46 = .ok (.istore_n 1, 1) := by decide +kernel
theorem dX1_clear_47 : decode cX1_clear 47 = .ok (.iload_n 1, 1) := by decide +kernel
theorem dX1_clear_48 : decode cX1_clear 48 = .ok (.bipush 6, 2) := by decide +kernel
theorem dX1_clear_50 : decode cX1_clear 50 = .ok (.if_icmp .ge 16, 3) := by decide +kernel
theorem dX1_clear_53 : decode cX1_clear 53 = .ok (.aload_n 0, 1) := by decide +kernel
theorem dX1_clear_54 : decode cX1_clear 54 = .ok (.getfield 70, 3) := by decide +kernel
theorem dX1_clear_57 : decode cX1_clear 57 = .ok (.iload_n 1, 1) := by decide +kernel
theorem dX1_clear_58 : decode cX1_clear 58 = .ok (.iconst 0, 1) := by decide +kernel
theorem dX1_clear_59 : decode cX1_clear 59 = .ok (.bastore, 1) := by decide +kernel
theorem dX1_clear_60 : decode cX1_clear 60 = .ok (.iinc 1 1, 3) := by decide +kernel
theorem dX1_clear_63 : decode cX1_clear 63 = .ok (.goto (-16), 3) := by decide +kernel
theorem dX1_clear_66 : decode cX1_clear 66 = .ok (.iconst 0, 1) := by decide +kernel
theorem dX1_clear_67 : decode cX1_clear 67 = .ok (.istore_n 1, 1) := by decide +kernel
theorem dX1_clear_68 : decode cX1_clear 68 = .ok (.iload_n 1, 1) := by decide +kernel
theorem dX1_clear_69 : decode cX1_clear 69 = .ok (.aload_n 0, 1) := by decide +kernel
theorem dX1_clear_70 : decode cX1_clear 70 = .ok (.getfield 83, 3) := by decide +kernel
theorem dX1_clear_73 : decode cX1_clear 73 = .ok (.arraylength, 1) := by decide +kernel
theorem dX1_clear_74 : decode cX1_clear 74 = .ok (.if_icmp .ge 16, 3) := by decide +kernel
theorem dX1_clear_77 : decode cX1_clear 77 = .ok (.aload_n 0, 1) := by decide +kernel
theorem dX1_clear_78 : decode cX1_clear 78 = .ok (.getfield 83, 3) := by decide +kernel
theorem dX1_clear_81 : decode cX1_clear 81 = .ok (.iload_n 1, 1) := by decide +kernel
theorem dX1_clear_82 : decode cX1_clear 82 = .ok (.iconst 0, 1) := by decide +kernel
theorem dX1_clear_83 : decode cX1_clear 83 = .ok (.iastore, 1) := by decide +kernel
theorem dX1_clear_84 : decode cX1_clear 84 = .ok (.iinc 1 1, 3) := by decide +kernel
theorem dX1_clear_87 : decode cX1_clear 87 = .ok (.goto (-19), 3) := by decide +kernel
theorem dX1_clear_90 : decode cX1_clear 90 = .ok (.aload_n 0, 1) := by decide +kernel
theorem dX1_clear_91 : decode cX1_clear 91 = .ok (.iconst 0, 1) := by decide +kernel
theorem dX1_clear_92 : decode cX1_clear 92 = .ok (.putfield 91, 3) := by decide +kernel
theorem dX1_clear_95 : decode cX1_clear 95 = .ok (.aload_n 0, 1) := by decide +kernel
theorem dX1_clear_96 : decode cX1_clear 96 = .ok (.iconst 0, 1) := by decide +kernel
theorem dX1_clear_97 : decode cX1_clear 97 = .ok (.putfield 94, 3) := by decide +kernel
theorem dX1_clear_100 : decode cX1_clear 100 = .ok (.aload_n 0, 1) := by decide +kernel
theorem dX1_clear_101 : decode cX1_clear 101 = .ok (.iconst 0, 1) := by decide +kernel
theorem dX1_clear_102 : decode cX1_clear 102 = .ok (.putfield 97, 3) := by decide +kernel
theorem dX1_clear_105 : decode cX1_clear 105 = .ok (.aload_n 0, 1) := by decide +kernel
theorem dX1_clear_106 : decode cX1_clear 106 = .ok (.iconst 0, 1) := by decide +kernel
theorem dX1_clear_107 : decode cX1_clear 107 = .ok (.putfield 100, 3) := by decide +kernel
theorem dX1_clear_110 : decode cX1_clear 110 = .ok (.aload_n 0, 1) := by decide +kernel
theorem dX1_clear_111 : decode cX1_clear 111 = .ok (.iconst (-1), 1) := by decide +kernel
theorem dX1_clear_112 : decode cX1_clear 112 = .ok (.putfield 103, 3) := by decide +kernel
theorem dX1_clear_115 : decode cX1_clear 115 = .ok (.aload_n 0, 1) := by decide +kernel
theorem dX1_clear_116 : decode cX1_clear 116 = .ok (.iconst 0, 1) := by decide +kernel
theorem dX1_clear_117 : decode cX1_clear 117 = .ok (.putfield 106, 3) := by decide +kernel
theorem dX1_clear_120 : decode cX1_clear 120 = .ok (.aload_n 0, 1) := by decide +kernel
theorem dX1_clear_121 : decode cX1_clear 121 = .ok (.getfield 20, 3) := by decide +kernel
theorem dX1_clear_124 : decode cX1_clear 124 = .ok (.invokevirtual 109, 3) := by decide +kernel
theorem dX1_clear_127 : decode cX1_clear 127 = .ok (.aload_n 0, 1) := by decide +kernel
theorem dX1_clear_128 : decode cX1_clear 128 = .ok (.getfield 34, 3) := by decide +kernel
theorem dX1_clear_131 : decode cX1_clear 131 = .ok (.invokevirtual 112, 3) := by decide +kernel
theorem dX1_clear_134 : decode cX1_clear 134 = .ok (.aload_n 0, 1) := by decide +kernel
theorem dX1_clear_135 : decode cX1_clear 135 = .ok (.getfield 48, 3) := by decide +kernel
theorem dX1_clear_138 : decode cX1_clear 138 = .ok (.invokevirtual 113, 3) := by decide +kernel
theorem dX1_clear_141 : decode cX1_clear 141 = .ok (.aload_n 0, 1) := by decide +kernel
theorem dX1_clear_142 : decode cX1_clear 142 = .ok (.getfield 55, 3) := by decide +kernel
theorem dX1_clear_145 : decode cX1_clear 145 = .ok (.invokevirtual 114, 3) := by decide +kernel
theorem dX1_clear_148 : decode cX1_clear 148 = .ok (.aload_n 0, 1) := by decide +kernel
theorem dX1_clear_149 : decode cX1_clear 149 = .ok (.getfield 62, 3) := by decide +kernel
theorem dX1_clear_152 : decode cX1_clear 152 = .ok (.invokevirtual 115, 3) := by decide +kernel
theorem dX1_clear_155 : decode cX1_clear 155 = .ok (.return_, 1) := by decide +kernel
theorem cwX1_clear : mw_cwV yX1_clear cX1_clear 2 (none) 0 := ⟨⟨wd_3, wd_800, by decide +kernel⟩, wd_798, wd_799⟩
noncomputable def fX1_clear_i68 (fu : Nat) (r68 : (Int32 × mwM × mwL) → Option (mwM × mwL)) (v1 : Int32) (M : mwM) (L : mwL) : Option (mwM × mwL) :=
  (if 5 ≤ v1 then mlet (mset M 3 13 0) (fun M14 => mlet (mset M14 3 14 0) (fun M15 => mlet (mset M15 3 15 0) (fun M16 => mlet (mset M16 3 16 0) (fun M17 => mlet (mset M17 3 17 ((-1))) (fun M18 => mlet (mset M18 3 18 0) (fun M19 => mb2 (DX4_clear fu M19 L) (fun M20 L21 => mb2 (DX6_clear fu M20 L21) (fun M22 L23 => mb2 (DX10_clear fu M22 L23) (fun M24 L25 => mb2 (DX9_clear fu M24 L25) (fun M26 L27 => mb2 (DX7_clear fu M26 L27) (fun M28 L29 => some (M28, L29)))))))))))) else mck v1 5 (mlet (mset M 292 (v1.toNatClampNeg) 0) (fun M31 => mlet (v1 + 1) (fun x32 => r68 (x32, M31, L)))))
noncomputable def fX1_clear_h68 (fu : Nat) : Nat → (Int32 × mwM × mwL) → Option (mwM × mwL) := mloop (fun r68 s => fX1_clear_i68 fu r68 s.1 s.2.1 s.2.2)
noncomputable def fX1_clear_i47 (fu : Nat) (r47 : (Int32 × mwM × mwL) → Option (mwM × mwL)) (v1 : Int32) (M : mwM) (L : mwL) : Option (mwM × mwL) :=
  (if 6 ≤ v1 then fX1_clear_h68 fu fu (0, M, L) else mck v1 6 (mlet (mset M 284 (v1.toNatClampNeg) (vp_nar .boolean 0)) (fun M11 => mlet (v1 + 1) (fun x12 => r47 (x12, M11, L)))))
noncomputable def fX1_clear_h47 (fu : Nat) : Nat → (Int32 × mwM × mwL) → Option (mwM × mwL) := mloop (fun r47 s => fX1_clear_i47 fu r47 s.1 s.2.1 s.2.2)
noncomputable def fX1_clear_i23 (fu : Nat) (r23 : (Int32 × mwM × mwL) → Option (mwM × mwL)) (v1 : Int32) (M : mwM) (L : mwL) : Option (mwM × mwL) :=
  (if 12 ≤ v1 then fX1_clear_h47 fu fu (0, M, L) else mck v1 12 (mlet (mset M ((293 + 36 * v1.toNatClampNeg) + 0) 5 ((-1))) (fun M7 => mlet (v1 + 1) (fun x8 => r23 (x8, M7, L)))))
noncomputable def fX1_clear_h23 (fu : Nat) : Nat → (Int32 × mwM × mwL) → Option (mwM × mwL) := mloop (fun r23 s => fX1_clear_i23 fu r23 s.1 s.2.1 s.2.2)
noncomputable def fX1_clear_i2 (fu : Nat) (r2 : (Int32 × mwM × mwL) → Option (mwM × mwL)) (v1 : Int32) (M : mwM) (L : mwL) : Option (mwM × mwL) :=
  (if 12 ≤ v1 then fX1_clear_h23 fu fu (0, M, L) else mck v1 12 (mlet (mset M 283 (v1.toNatClampNeg) ((-1))) (fun M3 => mlet (v1 + 1) (fun x4 => r2 (x4, M3, L)))))
noncomputable def fX1_clear_h2 (fu : Nat) : Nat → (Int32 × mwM × mwL) → Option (mwM × mwL) := mloop (fun r2 s => fX1_clear_i2 fu r2 s.1 s.2.1 s.2.2)
noncomputable def DX1_clear (fu : Nat) (M : mwM) (L : mwL) : Option (mwM × mwL) :=
  fX1_clear_h2 fu fu (0, M, L)
set_option maxHeartbeats 4000000 in
set_option maxRecDepth 100000 in
theorem tX1_clear (l : Launch) (G : mwG) (ad : Nat → Nat) (fu : Nat) (M : mwM) (L : mwL) {M0 : mwM} {L0 : mwL} (hD : DX1_clear fu M L = some (M0, L0)) : Met l yX1_clear (Cond.code yX1_clear cX1_clear 2 (none) :: GT) ({ frames := 1, cells := 0, slots := 0, locals := 21 }) (mw_Pre G ad NF TF FF M L [.ref (ad 3)]) (mw_Qv G ad NF TF FF (mw_eqV M0 L0)) 0 0 (mw_fr G) := by
  refine mw_enter (by decide) (Nat.le_of_ble_eq_true rfl) ?_
  intro p e s m below meth c ls C hr hlocks hnm hw hl
  have hl : lv_has ls 2 [(0, .ref (ad 3))] := hl
  have hh68 : ∀ (f : Nat) (v1 : Int32) (M : mwM) (L : mwL) (H : Heap) (locs : List Loc) (ls : Array Slot), fX1_clear_h68 fu f (v1, M, L) = some (M0, L0) → mw_W G ad NF TF FF M L H locs → lv_has ls 2 [(0, .ref (ad 3)), (1, .int v1)] → W p l e ({ frames := 1, cells := 0, slots := 0, locals := 21 }) s m [.ref (ad 3)].toArray below meth c H locs 0 0 (MQ below (mw_Qv G ad NF TF FF (mw_eqV M0 L0)) [.ref (ad 3)].toArray s 0 0 (mw_fr G)) (F0 m 68 ls []) := by
    intro f
    induction f with
    | zero => intro v1 M L H locs ls hD; cases hD
    | succ f68 ih68 =>
      intro v1 M L H locs ls hD hw hl
      replace hD : fX1_clear_i68 fu (fX1_clear_h68 fu f68) v1 M L = some (M0, L0) := hD
      unfold fX1_clear_i68 at hD
      refine lv_iload_n C.1.1 C.1.2.1 dX1_clear_68 rfl (lv_at hl 1 rfl) ?_
      refine lv_aload_n C.1.1 C.1.2.1 dX1_clear_69 rfl (lv_at hl 0 rfl) ?_
      refine mr_getR C hw kc_1 12 (by decide) tf_3 ff_3_12 wd_537 dX1_clear_70 (by decide) rfl ?_
      refine mr_alen (v := 5) C hw (by decide) tf_292 (by decide) rfl (by decide) dX1_clear_73 ?_
      refine lv_icmp_ge (tgt := 90) C.1.1 C.1.2.1 dX1_clear_74 (by decide) (fun c13 => ?_) (fun c13 => ?_)
      · replace hD := g_pos c13 hD
        refine lv_aload_n C.1.1 C.1.2.1 dX1_clear_90 rfl (lv_at hl 0 rfl) ?_
        refine lv_iconst (v := 0) C.1.1 C.1.2.1 dX1_clear_91 (by decide) ?_
        obtain ⟨M14, eM14, hD⟩ := g_let hD
        refine mr_putI C hw kc_1 13 (by decide) tf_3 wd_539 dX1_clear_92 (by decide) rfl rfl rfl rfl (fun H locs hw => ?_)
        replace hw : mw_W G ad NF TF FF M14 L H locs := by rw [eM14]; exact hw
        refine lv_aload_n C.1.1 C.1.2.1 dX1_clear_95 rfl (lv_at hl 0 rfl) ?_
        refine lv_iconst (v := 0) C.1.1 C.1.2.1 dX1_clear_96 (by decide) ?_
        obtain ⟨M15, eM15, hD⟩ := g_let hD
        refine mr_putI C hw kc_1 14 (by decide) tf_3 wd_542 dX1_clear_97 (by decide) rfl rfl rfl rfl (fun H locs hw => ?_)
        replace hw : mw_W G ad NF TF FF M15 L H locs := by rw [eM15]; exact hw
        refine lv_aload_n C.1.1 C.1.2.1 dX1_clear_100 rfl (lv_at hl 0 rfl) ?_
        refine lv_iconst (v := 0) C.1.1 C.1.2.1 dX1_clear_101 (by decide) ?_
        obtain ⟨M16, eM16, hD⟩ := g_let hD
        refine mr_putI C hw kc_1 15 (by decide) tf_3 wd_545 dX1_clear_102 (by decide) rfl rfl rfl rfl (fun H locs hw => ?_)
        replace hw : mw_W G ad NF TF FF M16 L H locs := by rw [eM16]; exact hw
        refine lv_aload_n C.1.1 C.1.2.1 dX1_clear_105 rfl (lv_at hl 0 rfl) ?_
        refine lv_iconst (v := 0) C.1.1 C.1.2.1 dX1_clear_106 (by decide) ?_
        obtain ⟨M17, eM17, hD⟩ := g_let hD
        refine mr_putI C hw kc_1 16 (by decide) tf_3 wd_547 dX1_clear_107 (by decide) rfl rfl rfl rfl (fun H locs hw => ?_)
        replace hw : mw_W G ad NF TF FF M17 L H locs := by rw [eM17]; exact hw
        refine lv_aload_n C.1.1 C.1.2.1 dX1_clear_110 rfl (lv_at hl 0 rfl) ?_
        refine lv_iconst (v := (-1)) C.1.1 C.1.2.1 dX1_clear_111 (by decide) ?_
        obtain ⟨M18, eM18, hD⟩ := g_let hD
        refine mr_putI C hw kc_1 17 (by decide) tf_3 wd_549 dX1_clear_112 (by decide) rfl rfl rfl rfl (fun H locs hw => ?_)
        replace hw : mw_W G ad NF TF FF M18 L H locs := by rw [eM18]; exact hw
        refine lv_aload_n C.1.1 C.1.2.1 dX1_clear_115 rfl (lv_at hl 0 rfl) ?_
        refine lv_iconst (v := 0) C.1.1 C.1.2.1 dX1_clear_116 (by decide) ?_
        obtain ⟨M19, eM19, hD⟩ := g_let hD
        refine mr_putI C hw kc_1 18 (by decide) tf_3 wd_551 dX1_clear_117 (by decide) rfl rfl rfl rfl (fun H locs hw => ?_)
        replace hw : mw_W G ad NF TF FF M19 L H locs := by rw [eM19]; exact hw
        refine lv_aload_n C.1.1 C.1.2.1 dX1_clear_120 rfl (lv_at hl 0 rfl) ?_
        refine mr_getR C hw kc_1 1 (by decide) tf_3 ff_3_1 wd_514 dX1_clear_121 (by decide) rfl ?_
        obtain ⟨M20, L21, h1, hD⟩ := g_b2 hD
        refine md_cvV (As := []) (rest := []) C hw (tX4_clear l G ad fu M19 L h1) kc_4 (by decide) tf_5 wd_801 cwX4_clear ⟨Nat.le_of_ble_eq_true rfl, Nat.le_of_ble_eq_true rfl⟩ rfl hl.1 (Nat.le_of_ble_eq_true rfl) dX1_clear_124 rfl rfl ⟨Nat.zero_le _, Nat.zero_le _⟩ rfl (fun H locs hw => ?_)
        refine lv_aload_n C.1.1 C.1.2.1 dX1_clear_127 rfl (lv_at hl 0 rfl) ?_
        refine mr_getR C hw kc_1 3 (by decide) tf_3 ff_3_3 wd_519 dX1_clear_128 (by decide) rfl ?_
        obtain ⟨M22, L23, h1, hD⟩ := g_b2 hD
        refine md_cvV (As := []) (rest := []) C hw (tX6_clear l G ad fu M20 L21 h1) kc_6 (by decide) tf_61 wd_805 cwX6_clear ⟨Nat.le_of_ble_eq_true rfl, Nat.le_of_ble_eq_true rfl⟩ rfl hl.1 (Nat.le_of_ble_eq_true rfl) dX1_clear_131 rfl rfl ⟨Nat.zero_le _, Nat.zero_le _⟩ rfl (fun H locs hw => ?_)
        refine lv_aload_n C.1.1 C.1.2.1 dX1_clear_134 rfl (lv_at hl 0 rfl) ?_
        refine mr_getR C hw kc_1 5 (by decide) tf_3 ff_3_5 wd_524 dX1_clear_135 (by decide) rfl ?_
        obtain ⟨M24, L25, h1, hD⟩ := g_b2 hD
        refine md_cvV (As := []) (rest := []) C hw (tX10_clear l G ad fu M22 L23 h1) kc_10 (by decide) tf_139 wd_810 cwX10_clear ⟨Nat.le_of_ble_eq_true rfl, Nat.le_of_ble_eq_true rfl⟩ rfl hl.1 (Nat.le_of_ble_eq_true rfl) dX1_clear_138 rfl rfl ⟨Nat.zero_le _, Nat.zero_le _⟩ rfl (fun H locs hw => ?_)
        refine lv_aload_n C.1.1 C.1.2.1 dX1_clear_141 rfl (lv_at hl 0 rfl) ?_
        refine mr_getR C hw kc_1 6 (by decide) tf_3 ff_3_6 wd_528 dX1_clear_142 (by decide) rfl ?_
        obtain ⟨M26, L27, h1, hD⟩ := g_b2 hD
        refine md_cvV (As := []) (rest := []) C hw (tX9_clear l G ad fu M24 L25 h1) kc_9 (by decide) tf_154 wd_814 cwX9_clear ⟨Nat.le_of_ble_eq_true rfl, Nat.le_of_ble_eq_true rfl⟩ rfl hl.1 (Nat.le_of_ble_eq_true rfl) dX1_clear_145 rfl rfl ⟨Nat.zero_le _, Nat.zero_le _⟩ rfl (fun H locs hw => ?_)
        refine lv_aload_n C.1.1 C.1.2.1 dX1_clear_148 rfl (lv_at hl 0 rfl) ?_
        refine mr_getR C hw kc_1 7 (by decide) tf_3 ff_3_7 wd_530 dX1_clear_149 (by decide) rfl ?_
        obtain ⟨M28, L29, h1, hD⟩ := g_b2 hD
        refine md_cvV (As := []) (rest := []) C hw (tX7_clear l G ad fu M26 L27 h1) kc_7 (by decide) tf_275 wd_818 cwX7_clear ⟨Nat.le_of_ble_eq_true rfl, Nat.le_of_ble_eq_true rfl⟩ rfl hl.1 (Nat.le_of_ble_eq_true rfl) dX1_clear_152 rfl rfl ⟨Nat.zero_le _, Nat.zero_le _⟩ rfl (fun H locs hw => ?_)
        exact mr_vret C hr hlocks hw (Option.some.inj hD) dX1_clear_155
      · replace hD := g_neg c13 hD
        refine lv_aload_n C.1.1 C.1.2.1 dX1_clear_77 rfl (lv_at hl 0 rfl) ?_
        refine mr_getR C hw kc_1 12 (by decide) tf_3 ff_3_12 wd_537 dX1_clear_78 (by decide) rfl ?_
        refine lv_iload_n C.1.1 C.1.2.1 dX1_clear_81 rfl (lv_at hl 1 rfl) ?_
        refine lv_iconst (v := 0) C.1.1 C.1.2.1 dX1_clear_82 (by decide) ?_
        obtain ⟨q30, hD⟩ := g_ck hD
        obtain ⟨M31, eM31, hD⟩ := g_let hD
        refine mr_iast C hw (by decide) tf_292 q30 dX1_clear_83 (fun H locs hw => ?_)
        replace hw : mw_W G ad NF TF FF M31 L H locs := by rw [eM31]; exact hw
        obtain ⟨x32, ex32, hD⟩ := g_let hD
        refine lv_iinc (v := x32) (lv' := [(1, .int x32), (0, .ref (ad 3))]) C.1.1 C.1.2.1 dX1_clear_84 hl (k := 1) rfl (by rw [ex32]; rfl) (by decide) rfl (fun ls hl => ?_)
        refine lv_goto (tgt := 68) C.1.1 C.1.2.1 dX1_clear_87 (by decide) ?_
        exact ih68 x32 M31 L _ _ ls hD hw (lv_sub hl [1, 0] rfl)
  have hh47 : ∀ (f : Nat) (v1 : Int32) (M : mwM) (L : mwL) (H : Heap) (locs : List Loc) (ls : Array Slot), fX1_clear_h47 fu f (v1, M, L) = some (M0, L0) → mw_W G ad NF TF FF M L H locs → lv_has ls 2 [(0, .ref (ad 3)), (1, .int v1)] → W p l e ({ frames := 1, cells := 0, slots := 0, locals := 21 }) s m [.ref (ad 3)].toArray below meth c H locs 0 0 (MQ below (mw_Qv G ad NF TF FF (mw_eqV M0 L0)) [.ref (ad 3)].toArray s 0 0 (mw_fr G)) (F0 m 47 ls []) := by
    intro f
    induction f with
    | zero => intro v1 M L H locs ls hD; cases hD
    | succ f47 ih47 =>
      intro v1 M L H locs ls hD hw hl
      replace hD : fX1_clear_i47 fu (fX1_clear_h47 fu f47) v1 M L = some (M0, L0) := hD
      unfold fX1_clear_i47 at hD
      refine lv_iload_n C.1.1 C.1.2.1 dX1_clear_47 rfl (lv_at hl 1 rfl) ?_
      refine lv_bipush (v := 6) C.1.1 C.1.2.1 dX1_clear_48 (by decide) ?_
      refine lv_icmp_ge (tgt := 66) C.1.1 C.1.2.1 dX1_clear_50 (by decide) (fun c9 => ?_) (fun c9 => ?_)
      · replace hD := g_pos c9 hD
        refine lv_iconst (v := 0) C.1.1 C.1.2.1 dX1_clear_66 (by decide) ?_
        refine lv_istore_n (lv' := [(1, .int 0), (0, .ref (ad 3))]) C.1.1 C.1.2.1 dX1_clear_67 rfl hl (by decide) rfl (fun ls hl => ?_)
        exact hh68 fu 0 M L _ _ ls hD hw (lv_sub hl [1, 0] rfl)
      · replace hD := g_neg c9 hD
        refine lv_aload_n C.1.1 C.1.2.1 dX1_clear_53 rfl (lv_at hl 0 rfl) ?_
        refine mr_getR C hw kc_1 9 (by decide) tf_3 ff_3_9 wd_533 dX1_clear_54 (by decide) rfl ?_
        refine lv_iload_n C.1.1 C.1.2.1 dX1_clear_57 rfl (lv_at hl 1 rfl) ?_
        refine lv_iconst (v := 0) C.1.1 C.1.2.1 dX1_clear_58 (by decide) ?_
        obtain ⟨q10, hD⟩ := g_ck hD
        obtain ⟨M11, eM11, hD⟩ := g_let hD
        refine mr_zast C hw (by decide) tf_284 q10 dX1_clear_59 (fun H locs hw => ?_)
        replace hw : mw_W G ad NF TF FF M11 L H locs := by rw [eM11]; exact hw
        obtain ⟨x12, ex12, hD⟩ := g_let hD
        refine lv_iinc (v := x12) (lv' := [(1, .int x12), (0, .ref (ad 3))]) C.1.1 C.1.2.1 dX1_clear_60 hl (k := 1) rfl (by rw [ex12]; rfl) (by decide) rfl (fun ls hl => ?_)
        refine lv_goto (tgt := 47) C.1.1 C.1.2.1 dX1_clear_63 (by decide) ?_
        exact ih47 x12 M11 L _ _ ls hD hw (lv_sub hl [1, 0] rfl)
  have hh23 : ∀ (f : Nat) (v1 : Int32) (M : mwM) (L : mwL) (H : Heap) (locs : List Loc) (ls : Array Slot), fX1_clear_h23 fu f (v1, M, L) = some (M0, L0) → mw_W G ad NF TF FF M L H locs → lv_has ls 2 [(0, .ref (ad 3)), (1, .int v1)] → W p l e ({ frames := 1, cells := 0, slots := 0, locals := 21 }) s m [.ref (ad 3)].toArray below meth c H locs 0 0 (MQ below (mw_Qv G ad NF TF FF (mw_eqV M0 L0)) [.ref (ad 3)].toArray s 0 0 (mw_fr G)) (F0 m 23 ls []) := by
    intro f
    induction f with
    | zero => intro v1 M L H locs ls hD; cases hD
    | succ f23 ih23 =>
      intro v1 M L H locs ls hD hw hl
      replace hD : fX1_clear_i23 fu (fX1_clear_h23 fu f23) v1 M L = some (M0, L0) := hD
      unfold fX1_clear_i23 at hD
      refine lv_iload_n C.1.1 C.1.2.1 dX1_clear_23 rfl (lv_at hl 1 rfl) ?_
      refine lv_bipush (v := 12) C.1.1 C.1.2.1 dX1_clear_24 (by decide) ?_
      refine lv_icmp_ge (tgt := 45) C.1.1 C.1.2.1 dX1_clear_26 (by decide) (fun c5 => ?_) (fun c5 => ?_)
      · replace hD := g_pos c5 hD
        refine lv_iconst (v := 0) C.1.1 C.1.2.1 dX1_clear_45 (by decide) ?_
        refine lv_istore_n (lv' := [(1, .int 0), (0, .ref (ad 3))]) C.1.1 C.1.2.1 dX1_clear_46 rfl hl (by decide) rfl (fun ls hl => ?_)
        exact hh47 fu 0 M L _ _ ls hD hw (lv_sub hl [1, 0] rfl)
      · replace hD := g_neg c5 hD
        refine lv_aload_n C.1.1 C.1.2.1 dX1_clear_29 rfl (lv_at hl 0 rfl) ?_
        refine mr_getR C hw kc_1 0 (by decide) tf_3 ff_3_0 wd_510 dX1_clear_30 (by decide) rfl ?_
        refine lv_iload_n C.1.1 C.1.2.1 dX1_clear_33 rfl (lv_at hl 1 rfl) ?_
        obtain ⟨q6, hD⟩ := g_ck hD
        refine mr_aald C hw (by decide) tf_4 (by decide) (by decide) rfl rfl q6 (fr_4 _ (g_lt q6)) dX1_clear_34 ?_
        refine lv_iconst (v := (-1)) C.1.1 C.1.2.1 dX1_clear_35 (by decide) ?_
        obtain ⟨M7, eM7, hD⟩ := g_let hD
        refine mr_putNI C hw kc_2 5 (Ch_N0 (isCh_of (g_lt q6))) (Ch_T0 (isCh_of (g_lt q6))) nd_454 dX1_clear_36 (by decide) rfl rfl rfl rfl (fun H locs hw => ?_)
        replace hw : mw_W G ad NF TF FF M7 L H locs := by rw [eM7]; exact hw
        obtain ⟨x8, ex8, hD⟩ := g_let hD
        refine lv_iinc (v := x8) (lv' := [(1, .int x8), (0, .ref (ad 3))]) C.1.1 C.1.2.1 dX1_clear_39 hl (k := 1) rfl (by rw [ex8]; rfl) (by decide) rfl (fun ls hl => ?_)
        refine lv_goto (tgt := 23) C.1.1 C.1.2.1 dX1_clear_42 (by decide) ?_
        exact ih23 x8 M7 L _ _ ls hD hw (lv_sub hl [1, 0] rfl)
  have hh2 : ∀ (f : Nat) (v1 : Int32) (M : mwM) (L : mwL) (H : Heap) (locs : List Loc) (ls : Array Slot), fX1_clear_h2 fu f (v1, M, L) = some (M0, L0) → mw_W G ad NF TF FF M L H locs → lv_has ls 2 [(0, .ref (ad 3)), (1, .int v1)] → W p l e ({ frames := 1, cells := 0, slots := 0, locals := 21 }) s m [.ref (ad 3)].toArray below meth c H locs 0 0 (MQ below (mw_Qv G ad NF TF FF (mw_eqV M0 L0)) [.ref (ad 3)].toArray s 0 0 (mw_fr G)) (F0 m 2 ls []) := by
    intro f
    induction f with
    | zero => intro v1 M L H locs ls hD; cases hD
    | succ f2 ih2 =>
      intro v1 M L H locs ls hD hw hl
      replace hD : fX1_clear_i2 fu (fX1_clear_h2 fu f2) v1 M L = some (M0, L0) := hD
      unfold fX1_clear_i2 at hD
      refine lv_iload_n C.1.1 C.1.2.1 dX1_clear_2 rfl (lv_at hl 1 rfl) ?_
      refine lv_bipush (v := 12) C.1.1 C.1.2.1 dX1_clear_3 (by decide) ?_
      refine lv_icmp_ge (tgt := 21) C.1.1 C.1.2.1 dX1_clear_5 (by decide) (fun c1 => ?_) (fun c1 => ?_)
      · replace hD := g_pos c1 hD
        refine lv_iconst (v := 0) C.1.1 C.1.2.1 dX1_clear_21 (by decide) ?_
        refine lv_istore_n (lv' := [(1, .int 0), (0, .ref (ad 3))]) C.1.1 C.1.2.1 dX1_clear_22 rfl hl (by decide) rfl (fun ls hl => ?_)
        exact hh23 fu 0 M L _ _ ls hD hw (lv_sub hl [1, 0] rfl)
      · replace hD := g_neg c1 hD
        refine lv_aload_n C.1.1 C.1.2.1 dX1_clear_8 rfl (lv_at hl 0 rfl) ?_
        refine mr_getR C hw kc_1 8 (by decide) tf_3 ff_3_8 wd_531 dX1_clear_9 (by decide) rfl ?_
        refine lv_iload_n C.1.1 C.1.2.1 dX1_clear_12 rfl (lv_at hl 1 rfl) ?_
        refine lv_iconst (v := (-1)) C.1.1 C.1.2.1 dX1_clear_13 (by decide) ?_
        obtain ⟨q2, hD⟩ := g_ck hD
        obtain ⟨M3, eM3, hD⟩ := g_let hD
        refine mr_iast C hw (by decide) tf_283 q2 dX1_clear_14 (fun H locs hw => ?_)
        replace hw : mw_W G ad NF TF FF M3 L H locs := by rw [eM3]; exact hw
        obtain ⟨x4, ex4, hD⟩ := g_let hD
        refine lv_iinc (v := x4) (lv' := [(1, .int x4), (0, .ref (ad 3))]) C.1.1 C.1.2.1 dX1_clear_15 hl (k := 1) rfl (by rw [ex4]; rfl) (by decide) rfl (fun ls hl => ?_)
        refine lv_goto (tgt := 2) C.1.1 C.1.2.1 dX1_clear_18 (by decide) ?_
        exact ih2 x4 M3 L _ _ ls hD hw (lv_sub hl [1, 0] rfl)
  unfold DX1_clear at hD
  refine lv_iconst (v := 0) C.1.1 C.1.2.1 dX1_clear_0 (by decide) ?_
  refine lv_istore_n (lv' := [(1, .int 0), (0, .ref (ad 3))]) C.1.1 C.1.2.1 dX1_clear_1 rfl hl (by decide) rfl (fun ls hl => ?_)
  exact hh2 fu 0 M L _ _ ls hD hw (lv_sub hl [1, 0] rfl)

theorem dX8_fail_0 : decode cX8_fail 0 = .ok (.aload_n 0, 1) := by decide +kernel
theorem dX8_fail_1 : decode cX8_fail 1 = .ok (.getfield 34, 3) := by decide +kernel
theorem dX8_fail_4 : decode cX8_fail 4 = .ok (.ifCond .ne 13, 3) := by decide +kernel
theorem dX8_fail_7 : decode cX8_fail 7 = .ok (.aload_n 0, 1) := by decide +kernel
theorem dX8_fail_8 : decode cX8_fail 8 = .ok (.iload_n 1, 1) := by decide +kernel
theorem dX8_fail_9 : decode cX8_fail 9 = .ok (.putfield 34, 3) := by decide +kernel
theorem dX8_fail_12 : decode cX8_fail 12 = .ok (.aload_n 0, 1) := by decide +kernel
theorem dX8_fail_13 : decode cX8_fail 13 = .ok (.iload_n 2, 1) := by decide +kernel
theorem dX8_fail_14 : decode cX8_fail 14 = .ok (.putfield 37, 3) := by decide +kernel
theorem dX8_fail_17 : decode cX8_fail 17 = .ok (.return_, 1) := by decide +kernel
theorem cwX8_fail : mw_cwV yX8_fail cX8_fail 3 (none) 2 := ⟨⟨wd_2, wd_921, by decide +kernel⟩, wd_920, sl_11⟩
noncomputable def fX8_fail_b17 (fu : Nat) (a1 : Int32) (a2 : Int32) (M : mwM) (L : mwL) : Option (mwM × mwL) :=
  some (M, L)
noncomputable def DX8_fail (fu : Nat) (a1 : Int32) (a2 : Int32) (M : mwM) (L : mwL) : Option (mwM × mwL) :=
  (if (M 1 12) = 0 then mlet (mset M 1 12 a1) (fun M2 => mlet (mset M2 1 13 a2) (fun M3 => fX8_fail_b17 fu a1 a2 M3 L)) else fX8_fail_b17 fu a1 a2 M L)
set_option maxHeartbeats 4000000 in
set_option maxRecDepth 100000 in
theorem tX8_fail (l : Launch) (G : mwG) (ad : Nat → Nat) (fu : Nat) (a1 : Int32) (a2 : Int32) (M : mwM) (L : mwL) {M0 : mwM} {L0 : mwL} (hD : DX8_fail fu a1 a2 M L = some (M0, L0)) : Met l yX8_fail (Cond.code yX8_fail cX8_fail 3 (none) :: GT) ({ frames := 0, cells := 0, slots := 0, locals := 0 }) (mw_Pre G ad NF TF FF M L [.ref (ad 1), .int a1, .int a2]) (mw_Qv G ad NF TF FF (mw_eqV M0 L0)) 0 0 (mw_fr G) := by
  refine mw_enter (by decide) (Nat.le_of_ble_eq_true rfl) ?_
  intro p e s m below meth c ls C hr hlocks hnm hw hl
  have hl : lv_has ls 3 [(0, .ref (ad 1)), (1, .int a1), (2, .int a2)] := hl
  have hb17 : ∀ (M : mwM) (L : mwL) (H : Heap) (locs : List Loc) (ls : Array Slot), fX8_fail_b17 fu a1 a2 M L = some (M0, L0) → mw_W G ad NF TF FF M L H locs → lv_has ls 3 [] → W p l e ({ frames := 0, cells := 0, slots := 0, locals := 0 }) s m [.ref (ad 1), .int a1, .int a2].toArray below meth c H locs 0 0 (MQ below (mw_Qv G ad NF TF FF (mw_eqV M0 L0)) [.ref (ad 1), .int a1, .int a2].toArray s 0 0 (mw_fr G)) (F0 m 17 ls []) := by
    intro M L H locs ls hD hw hl
    unfold fX8_fail_b17 at hD
    exact mr_vret C hr hlocks hw (Option.some.inj hD) dX8_fail_17
  unfold DX8_fail at hD
  refine lv_aload_n C.1.1 C.1.2.1 dX8_fail_0 rfl (lv_at hl 0 rfl) ?_
  refine mr_getI C hw kc_8 12 (by decide) tf_1 wd_607 dX8_fail_1 (by decide) rfl ?_
  refine lv_if_ne (tgt := 17) C.1.1 C.1.2.1 dX8_fail_4 (by decide) (fun c1 => ?_) (fun c1 => ?_)
  · replace hD := g_neg c1 hD
    exact hb17 M L _ _ ls hD hw (lv_sub hl [] rfl)
  · replace hD := g_pos c1 hD
    refine lv_aload_n C.1.1 C.1.2.1 dX8_fail_7 rfl (lv_at hl 0 rfl) ?_
    refine lv_iload_n C.1.1 C.1.2.1 dX8_fail_8 rfl (lv_at hl 1 rfl) ?_
    obtain ⟨M2, eM2, hD⟩ := g_let hD
    refine mr_putI C hw kc_8 12 (by decide) tf_1 wd_607 dX8_fail_9 (by decide) rfl rfl rfl rfl (fun H locs hw => ?_)
    replace hw : mw_W G ad NF TF FF M2 L H locs := by rw [eM2]; exact hw
    refine lv_aload_n C.1.1 C.1.2.1 dX8_fail_12 rfl (lv_at hl 0 rfl) ?_
    refine lv_iload_n C.1.1 C.1.2.1 dX8_fail_13 rfl (lv_at hl 2 rfl) ?_
    obtain ⟨M3, eM3, hD⟩ := g_let hD
    refine mr_putI C hw kc_8 13 (by decide) tf_1 wd_609 dX8_fail_14 (by decide) rfl rfl rfl rfl (fun H locs hw => ?_)
    replace hw : mw_W G ad NF TF FF M3 L H locs := by rw [eM3]; exact hw
    exact hb17 M3 L _ _ ls hD hw (lv_sub hl [] rfl)

theorem dX8_judgeWhole_0 : decode cX8_judgeWhole 0 = .ok (.aload_n 0, 1) := by decide +kernel
theorem dX8_judgeWhole_1 : decode cX8_judgeWhole 1 = .ok (.getfield 18, 3) := by decide +kernel
theorem dX8_judgeWhole_4 : decode cX8_judgeWhole 4 = .ok (.getfield 68, 3) := by decide +kernel
theorem dX8_judgeWhole_7 : decode cX8_judgeWhole 7 = .ok (.ifCond .ne 13, 3) := by decide +kernel
theorem dX8_judgeWhole_10 : decode cX8_judgeWhole 10 = .ok (.aload_n 0, 1) := by decide +kernel
theorem dX8_judgeWhole_11 : decode cX8_judgeWhole 11 = .ok (.iconst 4, 1) := by decide +kernel
theorem dX8_judgeWhole_12 : decode cX8_judgeWhole 12 = .ok (.aload_n 0, 1) := by decide +kernel
theorem dX8_judgeWhole_13 : decode cX8_judgeWhole 13 = .ok (.getfield 27, 3) := by decide +kernel
theorem dX8_judgeWhole_16 : decode cX8_judgeWhole 16 = .ok (.invokevirtual 71, 3) := by decide +kernel
theorem dX8_judgeWhole_19 : decode cX8_judgeWhole 19 = .ok (.return_, 1) := by decide +kernel
theorem dX8_judgeWhole_20 : decode cX8_judgeWhole 20 = .ok (.aload_n 0, 1) := by decide +kernel
theorem dX8_judgeWhole_21 : decode cX8_judgeWhole 21 = .ok (.getfield 18, 3) := by decide +kernel
theorem dX8_judgeWhole_24 : decode cX8_judgeWhole 24 = .ok (.getfield 75, 3) := by decide +kernel
theorem dX8_judgeWhole_27 : decode cX8_judgeWhole 27 = .ok (.aload_n 0, 1) := by decide +kernel
theorem dX8_judgeWhole_28 : decode cX8_judgeWhole 28 = .ok (.getfield 18, 3) := by decide +kernel
theorem dX8_judgeWhole_31 : decode cX8_judgeWhole 31 = .ok (.getfield 68, 3) := by decide +kernel
theorem dX8_judgeWhole_34 : decode cX8_judgeWhole 34 = .ok (.invokevirtual 79, 3) := by decide +kernel
theorem dX8_judgeWhole_37 : decode cX8_judgeWhole 37 = .ok (.istore_n 1, 1) := by decide +kernel
theorem dX8_judgeWhole_38 : decode cX8_judgeWhole 38 = .ok (.iload_n 1, 1) := by decide +kernel
theorem dX8_judgeWhole_39 : decode cX8_judgeWhole 39 = .ok (.ifCond .lt 24, 3) := by decide +kernel
theorem dX8_judgeWhole_42 : decode cX8_judgeWhole 42 = .ok (.aload_n 0, 1) := by decide +kernel
theorem dX8_judgeWhole_43 : decode cX8_judgeWhole 43 = .ok (.bipush 8, 2) := by decide +kernel
theorem dX8_judgeWhole_45 : decode cX8_judgeWhole 45 = .ok (.aload_n 0, 1) := by decide +kernel
theorem dX8_judgeWhole_46 : decode cX8_judgeWhole 46 = .ok (.getfield 18, 3) := by decide +kernel
theorem dX8_judgeWhole_49 : decode cX8_judgeWhole 49 = .ok (.getfield 75, 3) := by decide +kernel
theorem dX8_judgeWhole_52 : decode cX8_judgeWhole 52 = .ok (.getfield 85, 3) := by decide +kernel
theorem dX8_judgeWhole_55 : decode cX8_judgeWhole 55 = .ok (.bipush 6, 2) := by decide +kernel
theorem dX8_judgeWhole_57 : decode cX8_judgeWhole 57 = .ok (.aaload, 1) := by decide +kernel
theorem dX8_judgeWhole_58 : decode cX8_judgeWhole 58 = .ok (.iload_n 1, 1) := by decide +kernel
theorem dX8_judgeWhole_59 : decode cX8_judgeWhole 59 = .ok (.iaload, 1) := by decide +kernel
theorem dX8_judgeWhole_60 : decode cX8_judgeWhole 60 = .ok (.invokevirtual 71, 3) := by decide +kernel
theorem dX8_judgeWhole_63 : decode cX8_judgeWhole 63 = .ok (.return_, 1) := by decide +kernel
theorem cwX8_judgeWhole : mw_cwV yX8_judgeWhole cX8_judgeWhole 2 (none) 0 := ⟨⟨wd_2, wd_1119, by decide +kernel⟩, wd_1118, sl_44⟩
noncomputable def DX8_judgeWhole (fu : Nat) (M : mwM) (L : mwL) : Option (mwM × mwL) :=
  (if (M 3 13) = 0 then mb2 (DX8_fail fu 4 (M 1 4) M L) (fun M2 L3 => some (M2, L3)) else none)
set_option maxHeartbeats 4000000 in
set_option maxRecDepth 100000 in
theorem tX8_judgeWhole (l : Launch) (G : mwG) (ad : Nat → Nat) (fu : Nat) (M : mwM) (L : mwL) {M0 : mwM} {L0 : mwL} (hD : DX8_judgeWhole fu M L = some (M0, L0)) : Met l yX8_judgeWhole (Cond.code yX8_judgeWhole cX8_judgeWhole 2 (none) :: GT) ({ frames := 1, cells := 0, slots := 0, locals := 22 }) (mw_Pre G ad NF TF FF M L [.ref (ad 1)]) (mw_Qv G ad NF TF FF (mw_eqV M0 L0)) 0 0 (mw_fr G) := by
  refine mw_enter (by decide) (Nat.le_of_ble_eq_true rfl) ?_
  intro p e s m below meth c ls C hr hlocks hnm hw hl
  have hl : lv_has ls 2 [(0, .ref (ad 1))] := hl
  unfold DX8_judgeWhole at hD
  refine lv_aload_n C.1.1 C.1.2.1 dX8_judgeWhole_0 rfl (lv_at hl 0 rfl) ?_
  refine mr_getR C hw kc_8 1 (by decide) tf_1 ff_1_1 wd_595 dX8_judgeWhole_1 (by decide) rfl ?_
  refine mr_getNI C hw kc_1 13 (by decide) tf_3 nd_540 dX8_judgeWhole_4 (by decide) rfl ?_
  refine lv_if_ne (tgt := 20) C.1.1 C.1.2.1 dX8_judgeWhole_7 (by decide) (fun c1 => ?_) (fun c1 => ?_)
  · replace hD := g_neg c1 hD
    refine lv_aload_n C.1.1 C.1.2.1 dX8_judgeWhole_20 rfl (lv_at hl 0 rfl) ?_
    refine mr_getR C hw kc_8 1 (by decide) tf_1 ff_1_1 wd_595 dX8_judgeWhole_21 (by decide) rfl ?_
    refine mr_getNR C hw kc_1 3 (by decide) tf_3 ff_3_3 nd_520 dX8_judgeWhole_24 (by decide) rfl ?_
    refine lv_aload_n C.1.1 C.1.2.1 dX8_judgeWhole_27 rfl (lv_at hl 0 rfl) ?_
    refine mr_getR C hw kc_8 1 (by decide) tf_1 ff_1_1 wd_595 dX8_judgeWhole_28 (by decide) rfl ?_
    refine mr_getNI C hw kc_1 13 (by decide) tf_3 nd_540 dX8_judgeWhole_31 (by decide) rfl ?_
    cases hD
  · replace hD := g_pos c1 hD
    refine lv_aload_n C.1.1 C.1.2.1 dX8_judgeWhole_10 rfl (lv_at hl 0 rfl) ?_
    refine lv_iconst (v := 4) C.1.1 C.1.2.1 dX8_judgeWhole_11 (by decide) ?_
    refine lv_aload_n C.1.1 C.1.2.1 dX8_judgeWhole_12 rfl (lv_at hl 0 rfl) ?_
    refine mr_getI C hw kc_8 4 (by decide) tf_1 wd_599 dX8_judgeWhole_13 (by decide) rfl ?_
    obtain ⟨M2, L3, h1, hD⟩ := g_b2 hD
    refine md_cvV (As := [.int 4, .int (M 1 4)]) (rest := []) C hw (tX8_fail l G ad fu 4 (M 1 4) M L h1) kc_8 (by decide) tf_1 wd_918 cwX8_fail ⟨Nat.le_of_ble_eq_true rfl, Nat.le_of_ble_eq_true rfl⟩ rfl hl.1 (Nat.le_of_ble_eq_true rfl) dX8_judgeWhole_16 rfl rfl ⟨Nat.zero_le _, Nat.zero_le _⟩ rfl (fun H locs hw => ?_)
    exact mr_vret C hr hlocks hw (Option.some.inj hD) dX8_judgeWhole_19

theorem dX8_readText_0 : decode cX8_readText 0 = .ok (.aload_n 0, 1) := by decide +kernel
theorem dX8_readText_1 : decode cX8_readText 1 = .ok (.iconst 0, 1) := by decide +kernel
theorem dX8_readText_2 : decode cX8_readText 2 = .ok (.putfield 31, 3) := by decide +kernel
theorem dX8_readText_5 : decode cX8_readText 5 = .ok (.aload_n 0, 1) := by decide +kernel
theorem dX8_readText_6 : decode cX8_readText 6 = .ok (.iconst 0, 1) := by decide +kernel
theorem dX8_readText_7 : decode cX8_readText 7 = .ok (.putfield 34, 3) := by decide +kernel
theorem dX8_readText_10 : decode cX8_readText 10 = .ok (.aload_n 0, 1) := by decide +kernel
theorem dX8_readText_11 : decode cX8_readText 11 = .ok (.iconst 0, 1) := by decide +kernel
theorem dX8_readText_12 : decode cX8_readText 12 = .ok (.putfield 37, 3) := by decide +kernel
theorem dX8_readText_15 : decode cX8_readText 15 = .ok (.iconst 0, 1) := by decide +kernel
theorem dX8_readText_16 : decode cX8_readText 16 = .ok (.istore_n 1, 1) := by decide +kernel
theorem dX8_readText_17 : decode cX8_readText 17 = .ok (.iconst 0, 1) := by decide +kernel
theorem dX8_readText_18 : decode cX8_readText 18 = .ok (.istore_n 2, 1) := by decide +kernel
theorem dX8_readText_19 : decode cX8_readText 19 = .ok (.iload_n 2, 1) := by decide +kernel
theorem dX8_readText_20 : decode cX8_readText 20 = .ok (.sipush 6000, 3) := by decide +kernel
theorem dX8_readText_23 : decode cX8_readText 23 = .ok (.if_icmp .ge 64, 3) := by decide +kernel
theorem dX8_readText_26 : decode cX8_readText 26 = .ok (.iload_n 1, 1) := by decide +kernel
theorem dX8_readText_27 : decode cX8_readText 27 = .ok (.aload_n 0, 1) := by decide +kernel
theorem dX8_readText_28 : decode cX8_readText 28 = .ok (.getfield 27, 3) := by decide +kernel
theorem dX8_readText_31 : decode cX8_readText 31 = .ok (.if_icmp .ge 56, 3) := by decide +kernel
theorem dX8_readText_34 : decode cX8_readText 34 = .ok (.aload_n 0, 1) := by decide +kernel
theorem dX8_readText_35 : decode cX8_readText 35 = .ok (.getfield 34, 3) := by decide +kernel
theorem dX8_readText_38 : decode cX8_readText 38 = .ok (.ifCond .ne 49, 3) := by decide +kernel
theorem dX8_readText_41 : decode cX8_readText 41 = .ok (.aload_n 0, 1) := by decide +kernel
theorem dX8_readText_42 : decode cX8_readText 42 = .ok (.iload_n 1, 1) := by decide +kernel
theorem dX8_readText_43 : decode cX8_readText 43 = .ok (.invokevirtual 40, 3) := by decide +kernel
theorem dX8_readText_46 : decode cX8_readText 46 = .ok (.aload_n 0, 1) := by decide +kernel
theorem dX8_readText_47 : decode cX8_readText 47 = .ok (.iload_n 1, 1) := by decide +kernel
theorem dX8_readText_48 : decode cX8_readText 48 = .ok (.putfield 44, 3) := by decide +kernel
theorem dX8_readText_51 : decode cX8_readText 51 = .ok (.aload_n 0, 1) := by decide +kernel
theorem dX8_readText_52 : decode cX8_readText 52 = .ok (.invokevirtual 47, 3) := by decide +kernel
theorem dX8_readText_55 : decode cX8_readText 55 = .ok (.aload_n 0, 1) := by decide +kernel
theorem dX8_readText_56 : decode cX8_readText 56 = .ok (.aload_n 0, 1) := by decide +kernel
theorem dX8_readText_57 : decode cX8_readText 57 = .ok (.getfield 50, 3) := by decide +kernel
theorem dX8_readText_60 : decode cX8_readText 60 = .ok (.putfield 53, 3) := by decide +kernel
theorem dX8_readText_63 : decode cX8_readText 63 = .ok (.aload_n 0, 1) := by decide +kernel
theorem dX8_readText_64 : decode cX8_readText 64 = .ok (.getfield 56, 3) := by decide +kernel
theorem dX8_readText_67 : decode cX8_readText 67 = .ok (.ifCond .le 7, 3) := by decide +kernel
theorem dX8_readText_70 : decode cX8_readText 70 = .ok (.aload_n 0, 1) := by decide +kernel
theorem dX8_readText_71 : decode cX8_readText 71 = .ok (.invokevirtual 59, 3) := by decide +kernel
theorem dX8_readText_74 : decode cX8_readText 74 = .ok (.aload_n 0, 1) := by decide +kernel
theorem dX8_readText_75 : decode cX8_readText 75 = .ok (.getfield 62, 3) := by decide +kernel
theorem dX8_readText_78 : decode cX8_readText 78 = .ok (.iconst 1, 1) := by decide +kernel
theorem dX8_readText_79 : decode cX8_readText 79 = .ok (.iadd, 1) := by decide +kernel
theorem dX8_readText_80 : decode cX8_readText 80 = .ok (.istore_n 1, 1) := by decide +kernel
theorem dX8_readText_81 : decode cX8_readText 81 = .ok (.iinc 2 1, 3) := by decide +kernel
theorem dX8_readText_84 : decode cX8_readText 84 = .ok (.goto (-65), 3) := by decide +kernel
theorem dX8_readText_87 : decode cX8_readText 87 = .ok (.aload_n 0, 1) := by decide +kernel
theorem dX8_readText_88 : decode cX8_readText 88 = .ok (.getfield 34, 3) := by decide +kernel
theorem dX8_readText_91 : decode cX8_readText 91 = .ok (.ifCond .ne 7, 3) := by decide +kernel
theorem dX8_readText_94 : decode cX8_readText 94 = .ok (.aload_n 0, 1) := by decide +kernel
theorem dX8_readText_95 : decode cX8_readText 95 = .ok (.invokevirtual 65, 3) := by decide +kernel
theorem dX8_readText_98 : decode cX8_readText 98 = .ok (.return_, 1) := by decide +kernel
theorem cwX8_readText : mw_cwV yX8_readText cX8_readText 3 (none) 0 := ⟨⟨wd_2, wd_825, by decide +kernel⟩, wd_823, wd_824⟩
noncomputable def fX8_readText_b98 (fu : Nat) (M : mwM) (L : mwL) : Option (mwM × mwL) :=
  some (M, L)
noncomputable def fX8_readText_b87 (fu : Nat) (M : mwM) (L : mwL) : Option (mwM × mwL) :=
  (if (M 1 12) = 0 then mb2 (DX8_judgeWhole fu M L) (fun M5 L6 => fX8_readText_b98 fu M5 L6) else fX8_readText_b98 fu M L)
noncomputable def fX8_readText_i19 (fu : Nat) (r19 : (Int32 × Int32 × mwM × mwL) → Option (mwM × mwL)) (v1 : Int32) (v2 : Int32) (M : mwM) (L : mwL) : Option (mwM × mwL) :=
  (if 6000 ≤ v2 then fX8_readText_b87 fu M L else (if (M 1 4) ≤ v1 then fX8_readText_b87 fu M L else (if (M 1 12) = 0 then none else fX8_readText_b87 fu M L)))
noncomputable def fX8_readText_h19 (fu : Nat) : Nat → (Int32 × Int32 × mwM × mwL) → Option (mwM × mwL) := mloop (fun r19 s => fX8_readText_i19 fu r19 s.1 s.2.1 s.2.2.1 s.2.2.2)
noncomputable def DX8_readText (fu : Nat) (M : mwM) (L : mwL) : Option (mwM × mwL) :=
  mlet (mset M 1 3 0) (fun M7 => mlet (mset M7 1 12 0) (fun M8 => mlet (mset M8 1 13 0) (fun M9 => fX8_readText_h19 fu fu (0, 0, M9, L))))
set_option maxHeartbeats 4000000 in
set_option maxRecDepth 100000 in
theorem tX8_readText (l : Launch) (G : mwG) (ad : Nat → Nat) (fu : Nat) (M : mwM) (L : mwL) {M0 : mwM} {L0 : mwL} (hD : DX8_readText fu M L = some (M0, L0)) : Met l yX8_readText (Cond.code yX8_readText cX8_readText 3 (none) :: GT) ({ frames := 2, cells := 0, slots := 0, locals := 43 }) (mw_Pre G ad NF TF FF M L [.ref (ad 1)]) (mw_Qv G ad NF TF FF (mw_eqV M0 L0)) 0 0 (mw_fr G) := by
  refine mw_enter (by decide) (Nat.le_of_ble_eq_true rfl) ?_
  intro p e s m below meth c ls C hr hlocks hnm hw hl
  have hl : lv_has ls 3 [(0, .ref (ad 1))] := hl
  have hb98 : ∀ (M : mwM) (L : mwL) (H : Heap) (locs : List Loc) (ls : Array Slot), fX8_readText_b98 fu M L = some (M0, L0) → mw_W G ad NF TF FF M L H locs → lv_has ls 3 [] → W p l e ({ frames := 2, cells := 0, slots := 0, locals := 43 }) s m [.ref (ad 1)].toArray below meth c H locs 0 0 (MQ below (mw_Qv G ad NF TF FF (mw_eqV M0 L0)) [.ref (ad 1)].toArray s 0 0 (mw_fr G)) (F0 m 98 ls []) := by
    intro M L H locs ls hD hw hl
    unfold fX8_readText_b98 at hD
    exact mr_vret C hr hlocks hw (Option.some.inj hD) dX8_readText_98
  have hb87 : ∀ (M : mwM) (L : mwL) (H : Heap) (locs : List Loc) (ls : Array Slot), fX8_readText_b87 fu M L = some (M0, L0) → mw_W G ad NF TF FF M L H locs → lv_has ls 3 [(0, .ref (ad 1))] → W p l e ({ frames := 2, cells := 0, slots := 0, locals := 43 }) s m [.ref (ad 1)].toArray below meth c H locs 0 0 (MQ below (mw_Qv G ad NF TF FF (mw_eqV M0 L0)) [.ref (ad 1)].toArray s 0 0 (mw_fr G)) (F0 m 87 ls []) := by
    intro M L H locs ls hD hw hl
    unfold fX8_readText_b87 at hD
    refine lv_aload_n C.1.1 C.1.2.1 dX8_readText_87 rfl (lv_at hl 0 rfl) ?_
    refine mr_getI C hw kc_8 12 (by decide) tf_1 wd_607 dX8_readText_88 (by decide) rfl ?_
    refine lv_if_ne (tgt := 98) C.1.1 C.1.2.1 dX8_readText_91 (by decide) (fun c4 => ?_) (fun c4 => ?_)
    · replace hD := g_neg c4 hD
      exact hb98 M L _ _ ls hD hw (lv_sub hl [] rfl)
    · replace hD := g_pos c4 hD
      refine lv_aload_n C.1.1 C.1.2.1 dX8_readText_94 rfl (lv_at hl 0 rfl) ?_
      obtain ⟨M5, L6, h1, hD⟩ := g_b2 hD
      refine md_cvV (As := []) (rest := []) C hw (tX8_judgeWhole l G ad fu M L h1) kc_8 (by decide) tf_1 wd_1116 cwX8_judgeWhole ⟨Nat.le_of_ble_eq_true rfl, Nat.le_of_ble_eq_true rfl⟩ rfl hl.1 (Nat.le_of_ble_eq_true rfl) dX8_readText_95 rfl rfl ⟨Nat.zero_le _, Nat.zero_le _⟩ rfl (fun H locs hw => ?_)
      exact hb98 M5 L6 _ _ ls hD hw (lv_sub hl [] rfl)
  have hh19 : ∀ (f : Nat) (v1 : Int32) (v2 : Int32) (M : mwM) (L : mwL) (H : Heap) (locs : List Loc) (ls : Array Slot), fX8_readText_h19 fu f (v1, v2, M, L) = some (M0, L0) → mw_W G ad NF TF FF M L H locs → lv_has ls 3 [(0, .ref (ad 1)), (1, .int v1), (2, .int v2)] → W p l e ({ frames := 2, cells := 0, slots := 0, locals := 43 }) s m [.ref (ad 1)].toArray below meth c H locs 0 0 (MQ below (mw_Qv G ad NF TF FF (mw_eqV M0 L0)) [.ref (ad 1)].toArray s 0 0 (mw_fr G)) (F0 m 19 ls []) := by
    intro f
    induction f with
    | zero => intro v1 v2 M L H locs ls hD; cases hD
    | succ f19 ih19 =>
      intro v1 v2 M L H locs ls hD hw hl
      replace hD : fX8_readText_i19 fu (fX8_readText_h19 fu f19) v1 v2 M L = some (M0, L0) := hD
      unfold fX8_readText_i19 at hD
      refine lv_iload_n C.1.1 C.1.2.1 dX8_readText_19 rfl (lv_at hl 2 rfl) ?_
      refine lv_sipush (v := 6000) C.1.1 C.1.2.1 dX8_readText_20 (by decide) ?_
      refine lv_icmp_ge (tgt := 87) C.1.1 C.1.2.1 dX8_readText_23 (by decide) (fun c1 => ?_) (fun c1 => ?_)
      · replace hD := g_pos c1 hD
        exact hb87 M L _ _ ls hD hw (lv_sub hl [0] rfl)
      · replace hD := g_neg c1 hD
        refine lv_iload_n C.1.1 C.1.2.1 dX8_readText_26 rfl (lv_at hl 1 rfl) ?_
        refine lv_aload_n C.1.1 C.1.2.1 dX8_readText_27 rfl (lv_at hl 0 rfl) ?_
        refine mr_getI C hw kc_8 4 (by decide) tf_1 wd_599 dX8_readText_28 (by decide) rfl ?_
        refine lv_icmp_ge (tgt := 87) C.1.1 C.1.2.1 dX8_readText_31 (by decide) (fun c2 => ?_) (fun c2 => ?_)
        · replace hD := g_pos c2 hD
          exact hb87 M L _ _ ls hD hw (lv_sub hl [0] rfl)
        · replace hD := g_neg c2 hD
          refine lv_aload_n C.1.1 C.1.2.1 dX8_readText_34 rfl (lv_at hl 0 rfl) ?_
          refine mr_getI C hw kc_8 12 (by decide) tf_1 wd_607 dX8_readText_35 (by decide) rfl ?_
          refine lv_if_ne (tgt := 87) C.1.1 C.1.2.1 dX8_readText_38 (by decide) (fun c3 => ?_) (fun c3 => ?_)
          · replace hD := g_neg c3 hD
            exact hb87 M L _ _ ls hD hw (lv_sub hl [0] rfl)
          · replace hD := g_pos c3 hD
            refine lv_aload_n C.1.1 C.1.2.1 dX8_readText_41 rfl (lv_at hl 0 rfl) ?_
            refine lv_iload_n C.1.1 C.1.2.1 dX8_readText_42 rfl (lv_at hl 1 rfl) ?_
            cases hD
  unfold DX8_readText at hD
  refine lv_aload_n C.1.1 C.1.2.1 dX8_readText_0 rfl (lv_at hl 0 rfl) ?_
  refine lv_iconst (v := 0) C.1.1 C.1.2.1 dX8_readText_1 (by decide) ?_
  obtain ⟨M7, eM7, hD⟩ := g_let hD
  refine mr_putI C hw kc_8 3 (by decide) tf_1 wd_597 dX8_readText_2 (by decide) rfl rfl rfl rfl (fun H locs hw => ?_)
  replace hw : mw_W G ad NF TF FF M7 L H locs := by rw [eM7]; exact hw
  refine lv_aload_n C.1.1 C.1.2.1 dX8_readText_5 rfl (lv_at hl 0 rfl) ?_
  refine lv_iconst (v := 0) C.1.1 C.1.2.1 dX8_readText_6 (by decide) ?_
  obtain ⟨M8, eM8, hD⟩ := g_let hD
  refine mr_putI C hw kc_8 12 (by decide) tf_1 wd_607 dX8_readText_7 (by decide) rfl rfl rfl rfl (fun H locs hw => ?_)
  replace hw : mw_W G ad NF TF FF M8 L H locs := by rw [eM8]; exact hw
  refine lv_aload_n C.1.1 C.1.2.1 dX8_readText_10 rfl (lv_at hl 0 rfl) ?_
  refine lv_iconst (v := 0) C.1.1 C.1.2.1 dX8_readText_11 (by decide) ?_
  obtain ⟨M9, eM9, hD⟩ := g_let hD
  refine mr_putI C hw kc_8 13 (by decide) tf_1 wd_609 dX8_readText_12 (by decide) rfl rfl rfl rfl (fun H locs hw => ?_)
  replace hw : mw_W G ad NF TF FF M9 L H locs := by rw [eM9]; exact hw
  refine lv_iconst (v := 0) C.1.1 C.1.2.1 dX8_readText_15 (by decide) ?_
  refine lv_istore_n (lv' := [(1, .int 0), (0, .ref (ad 1))]) C.1.1 C.1.2.1 dX8_readText_16 rfl hl (by decide) rfl (fun ls hl => ?_)
  refine lv_iconst (v := 0) C.1.1 C.1.2.1 dX8_readText_17 (by decide) ?_
  refine lv_istore_n (lv' := [(2, .int 0), (1, .int 0), (0, .ref (ad 1))]) C.1.1 C.1.2.1 dX8_readText_18 rfl hl (by decide) rfl (fun ls hl => ?_)
  exact hh19 fu 0 0 M9 L _ _ ls hD hw (lv_sub hl [2, 1, 0] rfl)

theorem dX8_append_0 : decode cX8_append 0 = .ok (.bipush 24, 2) := by decide +kernel
theorem dX8_append_2 : decode cX8_append 2 = .ok (.istore_n 2, 1) := by decide +kernel
theorem dX8_append_3 : decode cX8_append 3 = .ok (.iload_n 2, 1) := by decide +kernel
theorem dX8_append_4 : decode cX8_append 4 = .ok (.ifCond .lt 52, 3) := by decide +kernel
theorem dX8_append_7 : decode cX8_append 7 = .ok (.iload_n 1, 1) := by decide +kernel
theorem dX8_append_8 : decode cX8_append 8 = .ok (.iload_n 2, 1) := by decide +kernel
theorem dX8_append_9 : decode cX8_append 9 = .ok (.iushr, 1) := by decide +kernel
theorem dX8_append_10 : decode cX8_append 10 = .ok (.sipush 255, 3) := by decide +kernel
theorem dX8_append_13 : decode cX8_append 13 = .ok (.iand, 1) := by decide +kernel
theorem dX8_append_14 : decode cX8_append 14 = .ok (.istore_n 3, 1) := by decide +kernel
theorem dX8_append_15 : decode cX8_append 15 = .ok (.iload_n 3, 1) := by decide +kernel
theorem dX8_append_16 : decode cX8_append 16 = .ok (.ifCond .eq 34, 3) := by decide +kernel
theorem dX8_append_19 : decode cX8_append 19 = .ok (.aload_n 0, 1) := by decide +kernel
theorem dX8_append_20 : decode cX8_append 20 = .ok (.getfield 27, 3) := by decide +kernel
theorem dX8_append_23 : decode cX8_append 23 = .ok (.sipush 6000, 3) := by decide +kernel
theorem dX8_append_26 : decode cX8_append 26 = .ok (.if_icmp .ge 24, 3) := by decide +kernel
theorem dX8_append_29 : decode cX8_append 29 = .ok (.aload_n 0, 1) := by decide +kernel
theorem dX8_append_30 : decode cX8_append 30 = .ok (.getfield 9, 3) := by decide +kernel
theorem dX8_append_33 : decode cX8_append 33 = .ok (.aload_n 0, 1) := by decide +kernel
theorem dX8_append_34 : decode cX8_append 34 = .ok (.getfield 27, 3) := by decide +kernel
theorem dX8_append_37 : decode cX8_append 37 = .ok (.iload_n 3, 1) := by decide +kernel
theorem dX8_append_38 : decode cX8_append 38 = .ok (.i2c, 1) := by decide +kernel
theorem dX8_append_39 : decode cX8_append 39 = .ok (.castore, 1) := by decide +kernel
theorem dX8_append_40 : decode cX8_append 40 = .ok (.aload_n 0, 1) := by decide +kernel
theorem dX8_append_41 : decode cX8_append 41 = .ok (.dup, 1) := by decide +kernel
theorem dX8_append_42 : decode cX8_append 42 = .ok (.getfield 27, 3) := by decide +kernel
theorem dX8_append_45 : decode cX8_append 45 = .ok (.iconst 1, 1) := by decide +kernel
theorem dX8_append_46 : decode cX8_append 46 = .ok (.iadd, 1) := by decide +kernel
theorem dX8_append_47 : decode cX8_append 47 = .ok (.putfield 27, 3) := by decide +kernel
theorem dX8_append_50 : decode cX8_append 50 = .ok (.iinc 2 (-8), 3) := by decide +kernel
theorem dX8_append_53 : decode cX8_append 53 = .ok (.goto (-50), 3) := by decide +kernel
theorem dX8_append_56 : decode cX8_append 56 = .ok (.return_, 1) := by decide +kernel
theorem cwX8_append : mw_cwV yX8_append cX8_append 4 (none) 1 := ⟨⟨wd_2, wd_764, by decide +kernel⟩, wd_762, wd_763⟩
noncomputable def fX8_append_b50 (fu : Nat) (a1 : Int32) (r3 : (Int32 × mwM × mwL) → Option (mwM × mwL)) (v2 : Int32) (M : mwM) (L : mwL) : Option (mwM × mwL) :=
  mlet (v2 + (-8)) (fun x8 => r3 (x8, M, L))
noncomputable def fX8_append_i3 (fu : Nat) (a1 : Int32) (r3 : (Int32 × mwM × mwL) → Option (mwM × mwL)) (v2 : Int32) (M : mwM) (L : mwL) : Option (mwM × mwL) :=
  (if v2 < 0 then some (M, L) else mlet (((a1.toUInt32 >>> (v2.toUInt32 &&& Int32.toUInt32 31)).toInt32) &&& 255) (fun x2 => (if x2 = 0 then fX8_append_b50 fu a1 r3 v2 M L else (if 6000 ≤ (M 1 4) then fX8_append_b50 fu a1 r3 v2 M L else mck (M 1 4) 6000 (mlet (mset M 2 ((M 1 4).toNatClampNeg) (vp_nar .char ((x2.toUInt32 % 65536).toInt32))) (fun M6 => mlet (mset M6 1 4 ((M6 1 4) + 1)) (fun M7 => fX8_append_b50 fu a1 r3 v2 M7 L)))))))
noncomputable def fX8_append_h3 (fu : Nat) (a1 : Int32) : Nat → (Int32 × mwM × mwL) → Option (mwM × mwL) := mloop (fun r3 s => fX8_append_i3 fu a1 r3 s.1 s.2.1 s.2.2)
noncomputable def DX8_append (fu : Nat) (a1 : Int32) (M : mwM) (L : mwL) : Option (mwM × mwL) :=
  fX8_append_h3 fu a1 fu (24, M, L)
set_option maxHeartbeats 4000000 in
set_option maxRecDepth 100000 in
theorem tX8_append (l : Launch) (G : mwG) (ad : Nat → Nat) (fu : Nat) (a1 : Int32) (M : mwM) (L : mwL) {M0 : mwM} {L0 : mwL} (hD : DX8_append fu a1 M L = some (M0, L0)) : Met l yX8_append (Cond.code yX8_append cX8_append 4 (none) :: GT) ({ frames := 0, cells := 0, slots := 0, locals := 0 }) (mw_Pre G ad NF TF FF M L [.ref (ad 1), .int a1]) (mw_Qv G ad NF TF FF (mw_eqV M0 L0)) 0 0 (mw_fr G) := by
  refine mw_enter (by decide) (Nat.le_of_ble_eq_true rfl) ?_
  intro p e s m below meth c ls C hr hlocks hnm hw hl
  have hl : lv_has ls 4 [(0, .ref (ad 1)), (1, .int a1)] := hl
  have hh3 : ∀ (f : Nat) (v2 : Int32) (M : mwM) (L : mwL) (H : Heap) (locs : List Loc) (ls : Array Slot), fX8_append_h3 fu a1 f (v2, M, L) = some (M0, L0) → mw_W G ad NF TF FF M L H locs → lv_has ls 4 [(0, .ref (ad 1)), (1, .int a1), (2, .int v2)] → W p l e ({ frames := 0, cells := 0, slots := 0, locals := 0 }) s m [.ref (ad 1), .int a1].toArray below meth c H locs 0 0 (MQ below (mw_Qv G ad NF TF FF (mw_eqV M0 L0)) [.ref (ad 1), .int a1].toArray s 0 0 (mw_fr G)) (F0 m 3 ls []) := by
    intro f
    induction f with
    | zero => intro v2 M L H locs ls hD; cases hD
    | succ f3 ih3 =>
      intro v2 M L H locs ls hD hw hl
      replace hD : fX8_append_i3 fu a1 (fX8_append_h3 fu a1 f3) v2 M L = some (M0, L0) := hD
      have hb50 : ∀ (v2 : Int32) (M : mwM) (L : mwL) (H : Heap) (locs : List Loc) (ls : Array Slot), fX8_append_b50 fu a1 (fX8_append_h3 fu a1 f3) v2 M L = some (M0, L0) → mw_W G ad NF TF FF M L H locs → lv_has ls 4 [(0, .ref (ad 1)), (1, .int a1), (2, .int v2)] → W p l e ({ frames := 0, cells := 0, slots := 0, locals := 0 }) s m [.ref (ad 1), .int a1].toArray below meth c H locs 0 0 (MQ below (mw_Qv G ad NF TF FF (mw_eqV M0 L0)) [.ref (ad 1), .int a1].toArray s 0 0 (mw_fr G)) (F0 m 50 ls []) := by
        intro v2 M L H locs ls hD hw hl
        unfold fX8_append_b50 at hD
        obtain ⟨x8, ex8, hD⟩ := g_let hD
        refine lv_iinc (v := x8) (lv' := [(2, .int x8), (0, .ref (ad 1)), (1, .int a1)]) C.1.1 C.1.2.1 dX8_append_50 hl (k := 2) rfl (by rw [ex8]; rfl) (by decide) rfl (fun ls hl => ?_)
        refine lv_goto (tgt := 3) C.1.1 C.1.2.1 dX8_append_53 (by decide) ?_
        exact ih3 x8 M L _ _ ls hD hw (lv_sub hl [1, 2, 0] rfl)
      unfold fX8_append_i3 at hD
      refine lv_iload_n C.1.1 C.1.2.1 dX8_append_3 rfl (lv_at hl 2 rfl) ?_
      refine lv_if_lt (tgt := 56) C.1.1 C.1.2.1 dX8_append_4 (by decide) (fun c1 => ?_) (fun c1 => ?_)
      · replace hD := g_pos c1 hD
        exact mr_vret C hr hlocks hw (Option.some.inj hD) dX8_append_56
      · replace hD := g_neg c1 hD
        refine lv_iload_n C.1.1 C.1.2.1 dX8_append_7 rfl (lv_at hl 1 rfl) ?_
        refine lv_iload_n C.1.1 C.1.2.1 dX8_append_8 rfl (lv_at hl 2 rfl) ?_
        refine lv_iushr C.1.1 C.1.2.1 dX8_append_9 rfl ?_
        refine lv_sipush (v := 255) C.1.1 C.1.2.1 dX8_append_10 (by decide) ?_
        refine lv_iand C.1.1 C.1.2.1 dX8_append_13 ?_
        obtain ⟨x2, ex2, hD⟩ := g_let hD
        refine W.eq (g2 := F0 m 14 ls (.int x2 :: [])) (by rw [ex2]) ?_
        refine lv_istore_n (lv' := [(3, .int x2), (0, .ref (ad 1)), (1, .int a1), (2, .int v2)]) C.1.1 C.1.2.1 dX8_append_14 rfl hl (by decide) rfl (fun ls hl => ?_)
        refine lv_iload_n C.1.1 C.1.2.1 dX8_append_15 rfl (lv_at hl 0 rfl) ?_
        refine lv_if_eq (tgt := 50) C.1.1 C.1.2.1 dX8_append_16 (by decide) (fun c3 => ?_) (fun c3 => ?_)
        · replace hD := g_pos c3 hD
          exact hb50 v2 M L _ _ ls hD hw (lv_sub hl [1, 2, 3] rfl)
        · replace hD := g_neg c3 hD
          refine lv_aload_n C.1.1 C.1.2.1 dX8_append_19 rfl (lv_at hl 1 rfl) ?_
          refine mr_getI C hw kc_8 4 (by decide) tf_1 wd_599 dX8_append_20 (by decide) rfl ?_
          refine lv_sipush (v := 6000) C.1.1 C.1.2.1 dX8_append_23 (by decide) ?_
          refine lv_icmp_ge (tgt := 50) C.1.1 C.1.2.1 dX8_append_26 (by decide) (fun c4 => ?_) (fun c4 => ?_)
          · replace hD := g_pos c4 hD
            exact hb50 v2 M L _ _ ls hD hw (lv_sub hl [1, 2, 3] rfl)
          · replace hD := g_neg c4 hD
            refine lv_aload_n C.1.1 C.1.2.1 dX8_append_29 rfl (lv_at hl 1 rfl) ?_
            refine mr_getR C hw kc_8 0 (by decide) tf_1 ff_1_0 wd_593 dX8_append_30 (by decide) rfl ?_
            refine lv_aload_n C.1.1 C.1.2.1 dX8_append_33 rfl (lv_at hl 1 rfl) ?_
            refine mr_getI C hw kc_8 4 (by decide) tf_1 wd_599 dX8_append_34 (by decide) rfl ?_
            refine lv_iload_n C.1.1 C.1.2.1 dX8_append_37 rfl (lv_at hl 0 rfl) ?_
            refine lv_i2c C.1.1 C.1.2.1 dX8_append_38 rfl ?_
            obtain ⟨q5, hD⟩ := g_ck hD
            obtain ⟨M6, eM6, hD⟩ := g_let hD
            refine mr_cast C hw (by decide) tf_2 q5 dX8_append_39 (fun H locs hw => ?_)
            replace hw : mw_W G ad NF TF FF M6 L H locs := by rw [eM6]; exact hw
            refine lv_aload_n C.1.1 C.1.2.1 dX8_append_40 rfl (lv_at hl 1 rfl) ?_
            refine lv_dup C.1.1 C.1.2.1 dX8_append_41 rfl ?_
            refine mr_getI C hw kc_8 4 (by decide) tf_1 wd_599 dX8_append_42 (by decide) rfl ?_
            refine lv_iconst (v := 1) C.1.1 C.1.2.1 dX8_append_45 (by decide) ?_
            refine lv_iadd C.1.1 C.1.2.1 dX8_append_46 ?_
            obtain ⟨M7, eM7, hD⟩ := g_let hD
            refine mr_putI C hw kc_8 4 (by decide) tf_1 wd_599 dX8_append_47 (by decide) rfl rfl rfl rfl (fun H locs hw => ?_)
            replace hw : mw_W G ad NF TF FF M7 L H locs := by rw [eM7]; exact hw
            exact hb50 v2 M7 L _ _ ls hD hw (lv_sub hl [1, 2, 3] rfl)
  unfold DX8_append at hD
  refine lv_bipush (v := 24) C.1.1 C.1.2.1 dX8_append_0 (by decide) ?_
  refine lv_istore_n (lv' := [(2, .int 24), (0, .ref (ad 1)), (1, .int a1)]) C.1.1 C.1.2.1 dX8_append_2 rfl hl (by decide) rfl (fun ls hl => ?_)
  exact hh3 fu 24 M L _ _ ls hD hw (lv_sub hl [1, 2, 0] rfl)

theorem dX11_time_0 : decode cX11_time 0 = .ok (.aload_n 0, 1) := by decide +kernel
theorem dX11_time_1 : decode cX11_time 1 = .ok (.getfield 65, 3) := by decide +kernel
theorem dX11_time_4 : decode cX11_time 4 = .ok (.ifCond .eq 13, 3) := by decide +kernel
theorem dX11_time_7 : decode cX11_time 7 = .ok (.aload_n 0, 1) := by decide +kernel
theorem dX11_time_8 : decode cX11_time 8 = .ok (.getfield 20, 3) := by decide +kernel
theorem dX11_time_11 : decode cX11_time 11 = .ok (.getfield 138, 3) := by decide +kernel
theorem dX11_time_14 : decode cX11_time 14 = .ok (.goto 4, 3) := by decide +kernel
theorem dX11_time_17 : decode cX11_time 17 = .ok (.iconst 0, 1) := by decide +kernel
theorem dX11_time_18 : decode cX11_time 18 = .ok (.ireturn, 1) := by decide +kernel
theorem cwX11_time : mw_cwV yX11_time cX11_time 1 ((some .int)) 0 := ⟨⟨wd_1, wd_666, by decide +kernel⟩, wd_664, wd_665⟩
noncomputable def fX11_time_b18 (fu : Nat) (s0 : Int32) (M : mwM) (L : mwL) : Option (Int32 × mwM × mwL) :=
  some (s0, M, L)
noncomputable def DX11_time (fu : Nat) (M : mwM) (L : mwL) : Option (Int32 × mwM × mwL) :=
  (if (M 0 5) = 0 then fX11_time_b18 fu 0 M L else fX11_time_b18 fu (M 3 16) M L)
set_option maxHeartbeats 4000000 in
set_option maxRecDepth 100000 in
theorem tX11_time (l : Launch) (G : mwG) (ad : Nat → Nat) (fu : Nat) (M : mwM) (L : mwL) {r0 : Int32} {M0 : mwM} {L0 : mwL} (hD : DX11_time fu M L = some (r0, M0, L0)) : Met l yX11_time (Cond.code yX11_time cX11_time 1 ((some .int)) :: GT) ({ frames := 0, cells := 0, slots := 0, locals := 0 }) (mw_Pre G ad NF TF FF M L [.ref (ad 0)]) (mw_Qi G ad NF TF FF (mw_eqI r0 M0 L0)) 0 0 (mw_fr G) := by
  refine mw_enter (by decide) (Nat.le_of_ble_eq_true rfl) ?_
  intro p e s m below meth c ls C hr hlocks hnm hw hl
  have hl : lv_has ls 1 [(0, .ref (ad 0))] := hl
  have hb18 : ∀ (s0 : Int32) (M : mwM) (L : mwL) (H : Heap) (locs : List Loc) (ls : Array Slot), fX11_time_b18 fu s0 M L = some (r0, M0, L0) → mw_W G ad NF TF FF M L H locs → lv_has ls 1 [] → W p l e ({ frames := 0, cells := 0, slots := 0, locals := 0 }) s m [.ref (ad 0)].toArray below meth c H locs 0 0 (MQ below (mw_Qi G ad NF TF FF (mw_eqI r0 M0 L0)) [.ref (ad 0)].toArray s 0 0 (mw_fr G)) (F0 m 18 ls [.int s0]) := by
    intro s0 M L H locs ls hD hw hl
    unfold fX11_time_b18 at hD
    exact mr_iret C hr hlocks hw rfl (Option.some.inj hD) dX11_time_18
  unfold DX11_time at hD
  refine lv_aload_n C.1.1 C.1.2.1 dX11_time_0 rfl (lv_at hl 0 rfl) ?_
  refine mr_getI C hw kc_11 5 (by decide) tf_0 wd_645 dX11_time_1 (by decide) rfl ?_
  refine lv_if_eq (tgt := 17) C.1.1 C.1.2.1 dX11_time_4 (by decide) (fun c1 => ?_) (fun c1 => ?_)
  · replace hD := g_pos c1 hD
    refine lv_iconst (v := 0) C.1.1 C.1.2.1 dX11_time_17 (by decide) ?_
    exact hb18 0 M L _ _ ls hD hw (lv_sub hl [] rfl)
  · replace hD := g_neg c1 hD
    refine lv_aload_n C.1.1 C.1.2.1 dX11_time_7 rfl (lv_at hl 0 rfl) ?_
    refine mr_getR C hw kc_11 1 (by decide) tf_0 ff_0_1 wd_641 dX11_time_8 (by decide) rfl ?_
    refine mr_getNI C hw kc_1 16 (by decide) tf_3 nd_548 dX11_time_11 (by decide) rfl ?_
    refine lv_goto (tgt := 18) C.1.1 C.1.2.1 dX11_time_14 (by decide) ?_
    exact hb18 (M 3 16) M L _ _ ls hD hw (lv_sub hl [] rfl)
