theorem dX19_noChart_0 : decode cX19_noChart 0 = .ok (.aload_n 0, 1) := by decide +kernel
theorem dX19_noChart_1 : decode cX19_noChart 1 = .ok (.getfield 630, 3) := by decide +kernel
theorem dX19_noChart_4 : decode cX19_noChart 4 = .ok (.ifCond .eq 15, 3) := by decide +kernel
theorem dX19_noChart_7 : decode cX19_noChart 7 = .ok (.iload_n 1, 1) := by decide +kernel
theorem dX19_noChart_8 : decode cX19_noChart 8 = .ok (.ifCond .lt 11, 3) := by decide +kernel
theorem dX19_noChart_11 : decode cX19_noChart 11 = .ok (.iload_n 1, 1) := by decide +kernel
theorem dX19_noChart_12 : decode cX19_noChart 12 = .ok (.aload_n 0, 1) := by decide +kernel
theorem dX19_noChart_13 : decode cX19_noChart 13 = .ok (.getfield 456, 3) := by decide +kernel
theorem dX19_noChart_16 : decode cX19_noChart 16 = .ok (.if_icmp .lt 7, 3) := by decide +kernel
theorem dX19_noChart_19 : decode cX19_noChart 19 = .ok (.iconst 1, 1) := by decide +kernel
theorem dX19_noChart_20 : decode cX19_noChart 20 = .ok (.goto 4, 3) := by decide +kernel
theorem dX19_noChart_23 : decode cX19_noChart 23 = .ok (.iconst 0, 1) := by decide +kernel
theorem dX19_noChart_24 : decode cX19_noChart 24 = .ok (.ireturn, 1) := by decide +kernel
theorem cwX19_noChart : mw_cwV yX19_noChart cX19_noChart 2 ((some .boolean)) 1 := ⟨⟨wd_13, wd_4273, by decide +kernel⟩, wd_4272, sl_341⟩
noncomputable def fX19_noChart_b24 (fu : Nat) (a1 : Int32) (s0 : Int32) (M : mwM) (L : mwL) : Option (Int32 × mwM × mwL) :=
  mzz s0 (some (s0, M, L))
noncomputable def fX19_noChart_b19 (fu : Nat) (a1 : Int32) (M : mwM) (L : mwL) : Option (Int32 × mwM × mwL) :=
  fX19_noChart_b24 fu a1 1 M L
noncomputable def DX19_noChart (fu : Nat) (a1 : Int32) (M : mwM) (L : mwL) : Option (Int32 × mwM × mwL) :=
  (if (M 732 4) = 0 then fX19_noChart_b19 fu a1 M L else (if a1 < 0 then fX19_noChart_b19 fu a1 M L else (if a1 < (M 732 33) then fX19_noChart_b24 fu a1 0 M L else fX19_noChart_b19 fu a1 M L)))
set_option maxHeartbeats 4000000 in
set_option maxRecDepth 100000 in
theorem tX19_noChart (l : Launch) (G : mwG) (ad : Nat → Nat) (fu : Nat) (a1 : Int32) (M : mwM) (L : mwL) {r0 : Int32} {M0 : mwM} {L0 : mwL} (hD : DX19_noChart fu a1 M L = some (r0, M0, L0)) : Met l yX19_noChart (Cond.code yX19_noChart cX19_noChart 2 ((some .boolean)) :: GT) ({ frames := 0, cells := 0, slots := 0, locals := 0 }) (mw_Pre G ad NF TF FF M L [.ref (ad 732), .int a1]) (mw_Qi G ad NF TF FF (mw_eqI r0 M0 L0)) 0 0 (mw_fr G) := by
  refine mw_enter (by decide) (Nat.le_of_ble_eq_true rfl) ?_
  intro p e s m below meth c ls C hr hlocks hnm hw hl
  have hl : lv_has ls 2 [(0, .ref (ad 732)), (1, .int a1)] := hl
  have hb24 : ∀ (s0 : Int32) (M : mwM) (L : mwL) (H : Heap) (locs : List Loc) (ls : Array Slot), fX19_noChart_b24 fu a1 s0 M L = some (r0, M0, L0) → mw_W G ad NF TF FF M L H locs → lv_has ls 2 [] → W p l e ({ frames := 0, cells := 0, slots := 0, locals := 0 }) s m [.ref (ad 732), .int a1].toArray below meth c H locs 0 0 (MQ below (mw_Qi G ad NF TF FF (mw_eqI r0 M0 L0)) [.ref (ad 732), .int a1].toArray s 0 0 (mw_fr G)) (F0 m 24 ls [.int s0]) := by
    intro s0 M L H locs ls hD hw hl
    unfold fX19_noChart_b24 at hD
    obtain ⟨z1, hD⟩ := g_zz hD
    exact mr_iret C hr hlocks hw (nz_zz z1) (Option.some.inj hD) dX19_noChart_24
  have hb19 : ∀ (M : mwM) (L : mwL) (H : Heap) (locs : List Loc) (ls : Array Slot), fX19_noChart_b19 fu a1 M L = some (r0, M0, L0) → mw_W G ad NF TF FF M L H locs → lv_has ls 2 [] → W p l e ({ frames := 0, cells := 0, slots := 0, locals := 0 }) s m [.ref (ad 732), .int a1].toArray below meth c H locs 0 0 (MQ below (mw_Qi G ad NF TF FF (mw_eqI r0 M0 L0)) [.ref (ad 732), .int a1].toArray s 0 0 (mw_fr G)) (F0 m 19 ls []) := by
    intro M L H locs ls hD hw hl
    unfold fX19_noChart_b19 at hD
    refine lv_iconst (v := 1) C.1.1 C.1.2.1 dX19_noChart_19 (by decide) ?_
    refine lv_goto (tgt := 24) C.1.1 C.1.2.1 dX19_noChart_20 (by decide) ?_
    exact hb24 1 M L _ _ ls hD hw (lv_sub hl [] rfl)
  unfold DX19_noChart at hD
  refine lv_aload_n C.1.1 C.1.2.1 dX19_noChart_0 rfl (lv_at hl 0 rfl) ?_
  refine mr_getI C hw kc_19 4 (by decide) tf_732 wd_2785 dX19_noChart_1 (by decide) rfl ?_
  refine lv_if_eq (tgt := 19) C.1.1 C.1.2.1 dX19_noChart_4 (by decide) (fun c2 => ?_) (fun c2 => ?_)
  · replace hD := g_pos c2 hD
    exact hb19 M L _ _ ls hD hw (lv_sub hl [] rfl)
  · replace hD := g_neg c2 hD
    refine lv_iload_n C.1.1 C.1.2.1 dX19_noChart_7 rfl (lv_at hl 1 rfl) ?_
    refine lv_if_lt (tgt := 19) C.1.1 C.1.2.1 dX19_noChart_8 (by decide) (fun c3 => ?_) (fun c3 => ?_)
    · replace hD := g_pos c3 hD
      exact hb19 M L _ _ ls hD hw (lv_sub hl [] rfl)
    · replace hD := g_neg c3 hD
      refine lv_iload_n C.1.1 C.1.2.1 dX19_noChart_11 rfl (lv_at hl 1 rfl) ?_
      refine lv_aload_n C.1.1 C.1.2.1 dX19_noChart_12 rfl (lv_at hl 0 rfl) ?_
      refine mr_getI C hw kc_19 33 (by decide) tf_732 wd_2814 dX19_noChart_13 (by decide) rfl ?_
      refine lv_icmp_lt (tgt := 23) C.1.1 C.1.2.1 dX19_noChart_16 (by decide) (fun c4 => ?_) (fun c4 => ?_)
      · replace hD := g_pos c4 hD
        refine lv_iconst (v := 0) C.1.1 C.1.2.1 dX19_noChart_23 (by decide) ?_
        exact hb24 0 M L _ _ ls hD hw (lv_sub hl [] rfl)
      · replace hD := g_neg c4 hD
        exact hb19 M L _ _ ls hD hw (lv_sub hl [] rfl)

theorem dX19_active_0 : decode cX19_active 0 = .ok (.aload_n 0, 1) := by decide +kernel
theorem dX19_active_1 : decode cX19_active 1 = .ok (.aload_n 0, 1) := by decide +kernel
theorem dX19_active_2 : decode cX19_active 2 = .ok (.iload_n 1, 1) := by decide +kernel
theorem dX19_active_3 : decode cX19_active 3 = .ok (.invokevirtual 832, 3) := by decide +kernel
theorem dX19_active_6 : decode cX19_active 6 = .ok (.ifCond .ne 17, 3) := by decide +kernel
theorem dX19_active_9 : decode cX19_active 9 = .ok (.iload_n 2, 1) := by decide +kernel
theorem dX19_active_10 : decode cX19_active 10 = .ok (.ifCond .lt 13, 3) := by decide +kernel
theorem dX19_active_13 : decode cX19_active 13 = .ok (.iload_n 2, 1) := by decide +kernel
theorem dX19_active_14 : decode cX19_active 14 = .ok (.aload_n 0, 1) := by decide +kernel
theorem dX19_active_15 : decode cX19_active 15 = .ok (.getfield 73, 3) := by decide +kernel
theorem dX19_active_18 : decode cX19_active 18 = .ok (.iload_n 1, 1) := by decide +kernel
theorem dX19_active_19 : decode cX19_active 19 = .ok (.iaload, 1) := by decide +kernel
theorem dX19_active_20 : decode cX19_active 20 = .ok (.if_icmp .le 7, 3) := by decide +kernel
theorem dX19_active_23 : decode cX19_active 23 = .ok (.iconst 1, 1) := by decide +kernel
theorem dX19_active_24 : decode cX19_active 24 = .ok (.goto 4, 3) := by decide +kernel
theorem dX19_active_27 : decode cX19_active 27 = .ok (.iconst 0, 1) := by decide +kernel
theorem dX19_active_28 : decode cX19_active 28 = .ok (.putfield 289, 3) := by decide +kernel
theorem dX19_active_31 : decode cX19_active 31 = .ok (.aload_n 0, 1) := by decide +kernel
theorem dX19_active_32 : decode cX19_active 32 = .ok (.getfield 289, 3) := by decide +kernel
theorem dX19_active_35 : decode cX19_active 35 = .ok (.ifCond .le 7, 3) := by decide +kernel
theorem dX19_active_38 : decode cX19_active 38 = .ok (.iconst 0, 1) := by decide +kernel
theorem dX19_active_39 : decode cX19_active 39 = .ok (.goto 13, 3) := by decide +kernel
theorem dX19_active_42 : decode cX19_active 42 = .ok (.aload_n 0, 1) := by decide +kernel
theorem dX19_active_43 : decode cX19_active 43 = .ok (.getfield 217, 3) := by decide +kernel
theorem dX19_active_46 : decode cX19_active 46 = .ok (.iload_n 1, 1) := by decide +kernel
theorem dX19_active_47 : decode cX19_active 47 = .ok (.aaload, 1) := by decide +kernel
theorem dX19_active_48 : decode cX19_active 48 = .ok (.iload_n 2, 1) := by decide +kernel
theorem dX19_active_49 : decode cX19_active 49 = .ok (.invokevirtual 835, 3) := by decide +kernel
theorem dX19_active_52 : decode cX19_active 52 = .ok (.ireturn, 1) := by decide +kernel
theorem cwX19_active : mw_cwV yX19_active cX19_active 3 ((some .int)) 2 := ⟨⟨wd_13, wd_4269, by decide +kernel⟩, wd_4267, wd_4268⟩
noncomputable def fX19_active_b52 (fu : Nat) (a1 : Int32) (a2 : Int32) (s0 : Int32) (M : mwM) (L : mwL) : Option (Int32 × mwM × mwL) :=
  some (s0, M, L)
noncomputable def fX19_active_b28 (fu : Nat) (a1 : Int32) (a2 : Int32) (s1 : Int32) (M : mwM) (L : mwL) : Option (Int32 × mwM × mwL) :=
  mlet (mset M 732 0 s1) (fun M1 => (if (M1 732 0) ≤ 0 then mck a1 12 (none) else fX19_active_b52 fu a1 a2 0 M1 L))
noncomputable def fX19_active_b23 (fu : Nat) (a1 : Int32) (a2 : Int32) (M : mwM) (L : mwL) : Option (Int32 × mwM × mwL) :=
  fX19_active_b28 fu a1 a2 1 M L
noncomputable def DX19_active (fu : Nat) (a1 : Int32) (a2 : Int32) (M : mwM) (L : mwL) : Option (Int32 × mwM × mwL) :=
  mb3 (DX19_noChart fu a1 M L) (fun r6 M4 L5 => (if r6 = 0 then (if a2 < 0 then fX19_active_b23 fu a1 a2 M4 L5 else mck a1 12 ((if a2 ≤ (M4 754 a1.toNatClampNeg) then fX19_active_b28 fu a1 a2 0 M4 L5 else fX19_active_b23 fu a1 a2 M4 L5))) else fX19_active_b23 fu a1 a2 M4 L5))
set_option maxHeartbeats 4000000 in
set_option maxRecDepth 100000 in
theorem tX19_active (l : Launch) (G : mwG) (ad : Nat → Nat) (fu : Nat) (a1 : Int32) (a2 : Int32) (M : mwM) (L : mwL) {r0 : Int32} {M0 : mwM} {L0 : mwL} (hD : DX19_active fu a1 a2 M L = some (r0, M0, L0)) : Met l yX19_active (Cond.code yX19_active cX19_active 3 ((some .int)) :: GT) ({ frames := 1, cells := 0, slots := 0, locals := 21 }) (mw_Pre G ad NF TF FF M L [.ref (ad 732), .int a1, .int a2]) (mw_Qi G ad NF TF FF (mw_eqI r0 M0 L0)) 0 0 (mw_fr G) := by
  refine mw_enter (by decide) (Nat.le_of_ble_eq_true rfl) ?_
  intro p e s m below meth c ls C hr hlocks hnm hw hl
  have hl : lv_has ls 3 [(0, .ref (ad 732)), (1, .int a1), (2, .int a2)] := hl
  have hb52 : ∀ (s0 : Int32) (M : mwM) (L : mwL) (H : Heap) (locs : List Loc) (ls : Array Slot), fX19_active_b52 fu a1 a2 s0 M L = some (r0, M0, L0) → mw_W G ad NF TF FF M L H locs → lv_has ls 3 [] → W p l e ({ frames := 1, cells := 0, slots := 0, locals := 21 }) s m [.ref (ad 732), .int a1, .int a2].toArray below meth c H locs 0 0 (MQ below (mw_Qi G ad NF TF FF (mw_eqI r0 M0 L0)) [.ref (ad 732), .int a1, .int a2].toArray s 0 0 (mw_fr G)) (F0 m 52 ls [.int s0]) := by
    intro s0 M L H locs ls hD hw hl
    unfold fX19_active_b52 at hD
    exact mr_iret C hr hlocks hw rfl (Option.some.inj hD) dX19_active_52
  have hb28 : ∀ (s1 : Int32) (M : mwM) (L : mwL) (H : Heap) (locs : List Loc) (ls : Array Slot), fX19_active_b28 fu a1 a2 s1 M L = some (r0, M0, L0) → mw_W G ad NF TF FF M L H locs → lv_has ls 3 [(0, .ref (ad 732)), (1, .int a1), (2, .int a2)] → W p l e ({ frames := 1, cells := 0, slots := 0, locals := 21 }) s m [.ref (ad 732), .int a1, .int a2].toArray below meth c H locs 0 0 (MQ below (mw_Qi G ad NF TF FF (mw_eqI r0 M0 L0)) [.ref (ad 732), .int a1, .int a2].toArray s 0 0 (mw_fr G)) (F0 m 28 ls [.int s1, .ref (ad 732)]) := by
    intro s1 M L H locs ls hD hw hl
    unfold fX19_active_b28 at hD
    obtain ⟨M1, eM1, hD⟩ := g_let hD
    refine mr_putI C hw kc_19 0 (by decide) tf_732 wd_2781 dX19_active_28 (by decide) rfl rfl rfl rfl (fun H locs hw => ?_)
    replace hw : mw_W G ad NF TF FF M1 L H locs := by rw [eM1]; exact hw
    refine lv_aload_n C.1.1 C.1.2.1 dX19_active_31 rfl (lv_at hl 0 rfl) ?_
    refine mr_getI C hw kc_19 0 (by decide) tf_732 wd_2781 dX19_active_32 (by decide) rfl ?_
    refine lv_if_le (tgt := 42) C.1.1 C.1.2.1 dX19_active_35 (by decide) (fun c2 => ?_) (fun c2 => ?_)
    · replace hD := g_pos c2 hD
      refine lv_aload_n C.1.1 C.1.2.1 dX19_active_42 rfl (lv_at hl 0 rfl) ?_
      refine mr_getR C hw kc_19 82 (by decide) tf_732 ff_732_82 wd_2863 dX19_active_43 (by decide) rfl ?_
      refine lv_iload_n C.1.1 C.1.2.1 dX19_active_46 rfl (lv_at hl 1 rfl) ?_
      obtain ⟨q3, hD⟩ := g_ck hD
      refine mr_aald C hw (by decide) tf_922 (by decide) (by decide) rfl rfl q3 (fr_922 _ (g_lt q3)) dX19_active_47 ?_
      refine lv_iload_n C.1.1 C.1.2.1 dX19_active_48 rfl (lv_at hl 2 rfl) ?_
      cases hD
    · replace hD := g_neg c2 hD
      refine lv_iconst (v := 0) C.1.1 C.1.2.1 dX19_active_38 (by decide) ?_
      refine lv_goto (tgt := 52) C.1.1 C.1.2.1 dX19_active_39 (by decide) ?_
      exact hb52 0 M1 L _ _ ls hD hw (lv_sub hl [] rfl)
  have hb23 : ∀ (M : mwM) (L : mwL) (H : Heap) (locs : List Loc) (ls : Array Slot), fX19_active_b23 fu a1 a2 M L = some (r0, M0, L0) → mw_W G ad NF TF FF M L H locs → lv_has ls 3 [(0, .ref (ad 732)), (1, .int a1), (2, .int a2)] → W p l e ({ frames := 1, cells := 0, slots := 0, locals := 21 }) s m [.ref (ad 732), .int a1, .int a2].toArray below meth c H locs 0 0 (MQ below (mw_Qi G ad NF TF FF (mw_eqI r0 M0 L0)) [.ref (ad 732), .int a1, .int a2].toArray s 0 0 (mw_fr G)) (F0 m 23 ls [.ref (ad 732)]) := by
    intro M L H locs ls hD hw hl
    unfold fX19_active_b23 at hD
    refine lv_iconst (v := 1) C.1.1 C.1.2.1 dX19_active_23 (by decide) ?_
    refine lv_goto (tgt := 28) C.1.1 C.1.2.1 dX19_active_24 (by decide) ?_
    exact hb28 1 M L _ _ ls hD hw (lv_sub hl [0, 1, 2] rfl)
  unfold DX19_active at hD
  refine lv_aload_n C.1.1 C.1.2.1 dX19_active_0 rfl (lv_at hl 0 rfl) ?_
  refine lv_aload_n C.1.1 C.1.2.1 dX19_active_1 rfl (lv_at hl 0 rfl) ?_
  refine lv_iload_n C.1.1 C.1.2.1 dX19_active_2 rfl (lv_at hl 1 rfl) ?_
  obtain ⟨r6, M4, L5, h1, hD⟩ := g_b3 hD
  refine md_cvI (As := [.int a1]) (rest := [.ref (ad 732)]) C hw (tX19_noChart l G ad fu a1 M L h1) kc_19 (by decide) tf_732 wd_4270 cwX19_noChart ⟨Nat.le_of_ble_eq_true rfl, Nat.le_of_ble_eq_true rfl⟩ rfl hl.1 (Nat.le_of_ble_eq_true rfl) dX19_active_3 rfl rfl ⟨Nat.zero_le _, Nat.zero_le _⟩ rfl (fun H locs hw => ?_)
  refine lv_if_ne (tgt := 23) C.1.1 C.1.2.1 dX19_active_6 (by decide) (fun c7 => ?_) (fun c7 => ?_)
  · replace hD := g_neg c7 hD
    exact hb23 M4 L5 _ _ ls hD hw (lv_sub hl [0, 1, 2] rfl)
  · replace hD := g_pos c7 hD
    refine lv_iload_n C.1.1 C.1.2.1 dX19_active_9 rfl (lv_at hl 2 rfl) ?_
    refine lv_if_lt (tgt := 23) C.1.1 C.1.2.1 dX19_active_10 (by decide) (fun c8 => ?_) (fun c8 => ?_)
    · replace hD := g_pos c8 hD
      exact hb23 M4 L5 _ _ ls hD hw (lv_sub hl [0, 1, 2] rfl)
    · replace hD := g_neg c8 hD
      refine lv_iload_n C.1.1 C.1.2.1 dX19_active_13 rfl (lv_at hl 2 rfl) ?_
      refine lv_aload_n C.1.1 C.1.2.1 dX19_active_14 rfl (lv_at hl 0 rfl) ?_
      refine mr_getR C hw kc_19 39 (by decide) tf_732 ff_732_39 wd_2820 dX19_active_15 (by decide) rfl ?_
      refine lv_iload_n C.1.1 C.1.2.1 dX19_active_18 rfl (lv_at hl 1 rfl) ?_
      obtain ⟨q9, hD⟩ := g_ck hD
      refine mr_iald C hw (by decide) tf_754 q9 dX19_active_19 ?_
      refine lv_icmp_le (tgt := 27) C.1.1 C.1.2.1 dX19_active_20 (by decide) (fun c10 => ?_) (fun c10 => ?_)
      · replace hD := g_pos c10 hD
        refine lv_iconst (v := 0) C.1.1 C.1.2.1 dX19_active_27 (by decide) ?_
        exact hb28 0 M4 L5 _ _ ls hD hw (lv_sub hl [0, 1, 2] rfl)
      · replace hD := g_neg c10 hD
        exact hb23 M4 L5 _ _ ls hD hw (lv_sub hl [0, 1, 2] rfl)

theorem dX19_answer_0 : decode cX19_answer 0 = .ok (.aload_n 0, 1) := by decide +kernel
theorem dX19_answer_1 : decode cX19_answer 1 = .ok (.aload_n 0, 1) := by decide +kernel
theorem dX19_answer_2 : decode cX19_answer 2 = .ok (.getfield 630, 3) := by decide +kernel
theorem dX19_answer_5 : decode cX19_answer 5 = .ok (.ifCond .eq 15, 3) := by decide +kernel
theorem dX19_answer_8 : decode cX19_answer 8 = .ok (.iload_n 1, 1) := by decide +kernel
theorem dX19_answer_9 : decode cX19_answer 9 = .ok (.ifCond .lt 11, 3) := by decide +kernel
theorem dX19_answer_12 : decode cX19_answer 12 = .ok (.iload_n 1, 1) := by decide +kernel
theorem dX19_answer_13 : decode cX19_answer 13 = .ok (.aload_n 0, 1) := by decide +kernel
theorem dX19_answer_14 : decode cX19_answer 14 = .ok (.getfield 618, 3) := by decide +kernel
theorem dX19_answer_17 : decode cX19_answer 17 = .ok (.if_icmp .lt 7, 3) := by decide +kernel
theorem dX19_answer_20 : decode cX19_answer 20 = .ok (.iconst 1, 1) := by decide +kernel
theorem dX19_answer_21 : decode cX19_answer 21 = .ok (.goto 4, 3) := by decide +kernel
theorem dX19_answer_24 : decode cX19_answer 24 = .ok (.iconst 0, 1) := by decide +kernel
theorem dX19_answer_25 : decode cX19_answer 25 = .ok (.putfield 289, 3) := by decide +kernel
theorem dX19_answer_28 : decode cX19_answer 28 = .ok (.aload_n 0, 1) := by decide +kernel
theorem dX19_answer_29 : decode cX19_answer 29 = .ok (.getfield 289, 3) := by decide +kernel
theorem dX19_answer_32 : decode cX19_answer 32 = .ok (.ifCond .le 7, 3) := by decide +kernel
theorem dX19_answer_35 : decode cX19_answer 35 = .ok (.iconst 0, 1) := by decide +kernel
theorem dX19_answer_36 : decode cX19_answer 36 = .ok (.goto 9, 3) := by decide +kernel
theorem dX19_answer_39 : decode cX19_answer 39 = .ok (.aload_n 0, 1) := by decide +kernel
theorem dX19_answer_40 : decode cX19_answer 40 = .ok (.getfield 249, 3) := by decide +kernel
theorem dX19_answer_43 : decode cX19_answer 43 = .ok (.iload_n 1, 1) := by decide +kernel
theorem dX19_answer_44 : decode cX19_answer 44 = .ok (.iaload, 1) := by decide +kernel
theorem dX19_answer_45 : decode cX19_answer 45 = .ok (.ireturn, 1) := by decide +kernel
theorem cwX19_answer : mw_cwV yX19_answer cX19_answer 2 ((some .int)) 1 := ⟨⟨wd_13, wd_4333, by decide +kernel⟩, wd_4331, wd_4332⟩
noncomputable def fX19_answer_b45 (fu : Nat) (a1 : Int32) (s0 : Int32) (M : mwM) (L : mwL) : Option (Int32 × mwM × mwL) :=
  some (s0, M, L)
noncomputable def fX19_answer_b25 (fu : Nat) (a1 : Int32) (s1 : Int32) (M : mwM) (L : mwL) : Option (Int32 × mwM × mwL) :=
  mlet (mset M 732 0 s1) (fun M1 => (if (M1 732 0) ≤ 0 then mck a1 128 (fX19_answer_b45 fu a1 (M1 931 a1.toNatClampNeg) M1 L) else fX19_answer_b45 fu a1 0 M1 L))
noncomputable def fX19_answer_b20 (fu : Nat) (a1 : Int32) (M : mwM) (L : mwL) : Option (Int32 × mwM × mwL) :=
  fX19_answer_b25 fu a1 1 M L
noncomputable def DX19_answer (fu : Nat) (a1 : Int32) (M : mwM) (L : mwL) : Option (Int32 × mwM × mwL) :=
  (if (M 732 4) = 0 then fX19_answer_b20 fu a1 M L else (if a1 < 0 then fX19_answer_b20 fu a1 M L else (if a1 < (M 732 98) then fX19_answer_b25 fu a1 0 M L else fX19_answer_b20 fu a1 M L)))
set_option maxHeartbeats 4000000 in
set_option maxRecDepth 100000 in
theorem tX19_answer (l : Launch) (G : mwG) (ad : Nat → Nat) (fu : Nat) (a1 : Int32) (M : mwM) (L : mwL) {r0 : Int32} {M0 : mwM} {L0 : mwL} (hD : DX19_answer fu a1 M L = some (r0, M0, L0)) : Met l yX19_answer (Cond.code yX19_answer cX19_answer 2 ((some .int)) :: GT) ({ frames := 0, cells := 0, slots := 0, locals := 0 }) (mw_Pre G ad NF TF FF M L [.ref (ad 732), .int a1]) (mw_Qi G ad NF TF FF (mw_eqI r0 M0 L0)) 0 0 (mw_fr G) := by
  refine mw_enter (by decide) (Nat.le_of_ble_eq_true rfl) ?_
  intro p e s m below meth c ls C hr hlocks hnm hw hl
  have hl : lv_has ls 2 [(0, .ref (ad 732)), (1, .int a1)] := hl
  have hb45 : ∀ (s0 : Int32) (M : mwM) (L : mwL) (H : Heap) (locs : List Loc) (ls : Array Slot), fX19_answer_b45 fu a1 s0 M L = some (r0, M0, L0) → mw_W G ad NF TF FF M L H locs → lv_has ls 2 [] → W p l e ({ frames := 0, cells := 0, slots := 0, locals := 0 }) s m [.ref (ad 732), .int a1].toArray below meth c H locs 0 0 (MQ below (mw_Qi G ad NF TF FF (mw_eqI r0 M0 L0)) [.ref (ad 732), .int a1].toArray s 0 0 (mw_fr G)) (F0 m 45 ls [.int s0]) := by
    intro s0 M L H locs ls hD hw hl
    unfold fX19_answer_b45 at hD
    exact mr_iret C hr hlocks hw rfl (Option.some.inj hD) dX19_answer_45
  have hb25 : ∀ (s1 : Int32) (M : mwM) (L : mwL) (H : Heap) (locs : List Loc) (ls : Array Slot), fX19_answer_b25 fu a1 s1 M L = some (r0, M0, L0) → mw_W G ad NF TF FF M L H locs → lv_has ls 2 [(0, .ref (ad 732)), (1, .int a1)] → W p l e ({ frames := 0, cells := 0, slots := 0, locals := 0 }) s m [.ref (ad 732), .int a1].toArray below meth c H locs 0 0 (MQ below (mw_Qi G ad NF TF FF (mw_eqI r0 M0 L0)) [.ref (ad 732), .int a1].toArray s 0 0 (mw_fr G)) (F0 m 25 ls [.int s1, .ref (ad 732)]) := by
    intro s1 M L H locs ls hD hw hl
    unfold fX19_answer_b25 at hD
    obtain ⟨M1, eM1, hD⟩ := g_let hD
    refine mr_putI C hw kc_19 0 (by decide) tf_732 wd_2781 dX19_answer_25 (by decide) rfl rfl rfl rfl (fun H locs hw => ?_)
    replace hw : mw_W G ad NF TF FF M1 L H locs := by rw [eM1]; exact hw
    refine lv_aload_n C.1.1 C.1.2.1 dX19_answer_28 rfl (lv_at hl 0 rfl) ?_
    refine mr_getI C hw kc_19 0 (by decide) tf_732 wd_2781 dX19_answer_29 (by decide) rfl ?_
    refine lv_if_le (tgt := 39) C.1.1 C.1.2.1 dX19_answer_32 (by decide) (fun c2 => ?_) (fun c2 => ?_)
    · replace hD := g_pos c2 hD
      refine lv_aload_n C.1.1 C.1.2.1 dX19_answer_39 rfl (lv_at hl 0 rfl) ?_
      refine mr_getR C hw kc_19 99 (by decide) tf_732 ff_732_99 wd_2880 dX19_answer_40 (by decide) rfl ?_
      refine lv_iload_n C.1.1 C.1.2.1 dX19_answer_43 rfl (lv_at hl 1 rfl) ?_
      obtain ⟨q3, hD⟩ := g_ck hD
      refine mr_iald C hw (by decide) tf_931 q3 dX19_answer_44 ?_
      exact hb45 (M1 931 a1.toNatClampNeg) M1 L _ _ ls hD hw (lv_sub hl [] rfl)
    · replace hD := g_neg c2 hD
      refine lv_iconst (v := 0) C.1.1 C.1.2.1 dX19_answer_35 (by decide) ?_
      refine lv_goto (tgt := 45) C.1.1 C.1.2.1 dX19_answer_36 (by decide) ?_
      exact hb45 0 M1 L _ _ ls hD hw (lv_sub hl [] rfl)
  have hb20 : ∀ (M : mwM) (L : mwL) (H : Heap) (locs : List Loc) (ls : Array Slot), fX19_answer_b20 fu a1 M L = some (r0, M0, L0) → mw_W G ad NF TF FF M L H locs → lv_has ls 2 [(0, .ref (ad 732)), (1, .int a1)] → W p l e ({ frames := 0, cells := 0, slots := 0, locals := 0 }) s m [.ref (ad 732), .int a1].toArray below meth c H locs 0 0 (MQ below (mw_Qi G ad NF TF FF (mw_eqI r0 M0 L0)) [.ref (ad 732), .int a1].toArray s 0 0 (mw_fr G)) (F0 m 20 ls [.ref (ad 732)]) := by
    intro M L H locs ls hD hw hl
    unfold fX19_answer_b20 at hD
    refine lv_iconst (v := 1) C.1.1 C.1.2.1 dX19_answer_20 (by decide) ?_
    refine lv_goto (tgt := 25) C.1.1 C.1.2.1 dX19_answer_21 (by decide) ?_
    exact hb25 1 M L _ _ ls hD hw (lv_sub hl [0, 1] rfl)
  unfold DX19_answer at hD
  refine lv_aload_n C.1.1 C.1.2.1 dX19_answer_0 rfl (lv_at hl 0 rfl) ?_
  refine lv_aload_n C.1.1 C.1.2.1 dX19_answer_1 rfl (lv_at hl 0 rfl) ?_
  refine mr_getI C hw kc_19 4 (by decide) tf_732 wd_2785 dX19_answer_2 (by decide) rfl ?_
  refine lv_if_eq (tgt := 20) C.1.1 C.1.2.1 dX19_answer_5 (by decide) (fun c4 => ?_) (fun c4 => ?_)
  · replace hD := g_pos c4 hD
    exact hb20 M L _ _ ls hD hw (lv_sub hl [0, 1] rfl)
  · replace hD := g_neg c4 hD
    refine lv_iload_n C.1.1 C.1.2.1 dX19_answer_8 rfl (lv_at hl 1 rfl) ?_
    refine lv_if_lt (tgt := 20) C.1.1 C.1.2.1 dX19_answer_9 (by decide) (fun c5 => ?_) (fun c5 => ?_)
    · replace hD := g_pos c5 hD
      exact hb20 M L _ _ ls hD hw (lv_sub hl [0, 1] rfl)
    · replace hD := g_neg c5 hD
      refine lv_iload_n C.1.1 C.1.2.1 dX19_answer_12 rfl (lv_at hl 1 rfl) ?_
      refine lv_aload_n C.1.1 C.1.2.1 dX19_answer_13 rfl (lv_at hl 0 rfl) ?_
      refine mr_getI C hw kc_19 98 (by decide) tf_732 wd_2879 dX19_answer_14 (by decide) rfl ?_
      refine lv_icmp_lt (tgt := 24) C.1.1 C.1.2.1 dX19_answer_17 (by decide) (fun c6 => ?_) (fun c6 => ?_)
      · replace hD := g_pos c6 hD
        refine lv_iconst (v := 0) C.1.1 C.1.2.1 dX19_answer_24 (by decide) ?_
        exact hb25 0 M L _ _ ls hD hw (lv_sub hl [0, 1] rfl)
      · replace hD := g_neg c6 hD
        exact hb20 M L _ _ ls hD hw (lv_sub hl [0, 1] rfl)

theorem dX19_answers_0 : decode cX19_answers 0 = .ok (.aload_n 0, 1) := by decide +kernel
theorem dX19_answers_1 : decode cX19_answers 1 = .ok (.iconst 0, 1) := by decide +kernel
theorem dX19_answers_2 : decode cX19_answers 2 = .ok (.putfield 289, 3) := by decide +kernel
theorem dX19_answers_5 : decode cX19_answers 5 = .ok (.aload_n 0, 1) := by decide +kernel
theorem dX19_answers_6 : decode cX19_answers 6 = .ok (.getfield 630, 3) := by decide +kernel
theorem dX19_answers_9 : decode cX19_answers 9 = .ok (.ifCond .eq 10, 3) := by decide +kernel
theorem dX19_answers_12 : decode cX19_answers 12 = .ok (.aload_n 0, 1) := by decide +kernel
theorem dX19_answers_13 : decode cX19_answers 13 = .ok (.getfield 618, 3) := by decide +kernel
theorem dX19_answers_16 : decode cX19_answers 16 = .ok (.goto 4, 3) := by decide +kernel
theorem dX19_answers_19 : decode cX19_answers 19 = .ok (.iconst 0, 1) := by decide +kernel
theorem dX19_answers_20 : decode cX19_answers 20 = .ok (.ireturn, 1) := by decide +kernel
theorem cwX19_answers : mw_cwV yX19_answers cX19_answers 1 ((some .int)) 0 := ⟨⟨wd_13, wd_4337, by decide +kernel⟩, wd_4335, wd_4336⟩
noncomputable def fX19_answers_b20 (fu : Nat) (s0 : Int32) (M : mwM) (L : mwL) : Option (Int32 × mwM × mwL) :=
  some (s0, M, L)
noncomputable def DX19_answers (fu : Nat) (M : mwM) (L : mwL) : Option (Int32 × mwM × mwL) :=
  mlet (mset M 732 0 0) (fun M1 => (if (M1 732 4) = 0 then fX19_answers_b20 fu 0 M1 L else fX19_answers_b20 fu (M1 732 98) M1 L))
set_option maxHeartbeats 4000000 in
set_option maxRecDepth 100000 in
theorem tX19_answers (l : Launch) (G : mwG) (ad : Nat → Nat) (fu : Nat) (M : mwM) (L : mwL) {r0 : Int32} {M0 : mwM} {L0 : mwL} (hD : DX19_answers fu M L = some (r0, M0, L0)) : Met l yX19_answers (Cond.code yX19_answers cX19_answers 1 ((some .int)) :: GT) ({ frames := 0, cells := 0, slots := 0, locals := 0 }) (mw_Pre G ad NF TF FF M L [.ref (ad 732)]) (mw_Qi G ad NF TF FF (mw_eqI r0 M0 L0)) 0 0 (mw_fr G) := by
  refine mw_enter (by decide) (Nat.le_of_ble_eq_true rfl) ?_
  intro p e s m below meth c ls C hr hlocks hnm hw hl
  have hl : lv_has ls 1 [(0, .ref (ad 732))] := hl
  have hb20 : ∀ (s0 : Int32) (M : mwM) (L : mwL) (H : Heap) (locs : List Loc) (ls : Array Slot), fX19_answers_b20 fu s0 M L = some (r0, M0, L0) → mw_W G ad NF TF FF M L H locs → lv_has ls 1 [] → W p l e ({ frames := 0, cells := 0, slots := 0, locals := 0 }) s m [.ref (ad 732)].toArray below meth c H locs 0 0 (MQ below (mw_Qi G ad NF TF FF (mw_eqI r0 M0 L0)) [.ref (ad 732)].toArray s 0 0 (mw_fr G)) (F0 m 20 ls [.int s0]) := by
    intro s0 M L H locs ls hD hw hl
    unfold fX19_answers_b20 at hD
    exact mr_iret C hr hlocks hw rfl (Option.some.inj hD) dX19_answers_20
  unfold DX19_answers at hD
  refine lv_aload_n C.1.1 C.1.2.1 dX19_answers_0 rfl (lv_at hl 0 rfl) ?_
  refine lv_iconst (v := 0) C.1.1 C.1.2.1 dX19_answers_1 (by decide) ?_
  obtain ⟨M1, eM1, hD⟩ := g_let hD
  refine mr_putI C hw kc_19 0 (by decide) tf_732 wd_2781 dX19_answers_2 (by decide) rfl rfl rfl rfl (fun H locs hw => ?_)
  replace hw : mw_W G ad NF TF FF M1 L H locs := by rw [eM1]; exact hw
  refine lv_aload_n C.1.1 C.1.2.1 dX19_answers_5 rfl (lv_at hl 0 rfl) ?_
  refine mr_getI C hw kc_19 4 (by decide) tf_732 wd_2785 dX19_answers_6 (by decide) rfl ?_
  refine lv_if_eq (tgt := 19) C.1.1 C.1.2.1 dX19_answers_9 (by decide) (fun c2 => ?_) (fun c2 => ?_)
  · replace hD := g_pos c2 hD
    refine lv_iconst (v := 0) C.1.1 C.1.2.1 dX19_answers_19 (by decide) ?_
    exact hb20 0 M1 L _ _ ls hD hw (lv_sub hl [] rfl)
  · replace hD := g_neg c2 hD
    refine lv_aload_n C.1.1 C.1.2.1 dX19_answers_12 rfl (lv_at hl 0 rfl) ?_
    refine mr_getI C hw kc_19 98 (by decide) tf_732 wd_2879 dX19_answers_13 (by decide) rfl ?_
    refine lv_goto (tgt := 20) C.1.1 C.1.2.1 dX19_answers_16 (by decide) ?_
    exact hb20 (M1 732 98) M1 L _ _ ls hD hw (lv_sub hl [] rfl)

theorem dX19_noController_0 : decode cX19_noController 0 = .ok (.aload_n 0, 1) := by decide +kernel
theorem dX19_noController_1 : decode cX19_noController 1 = .ok (.getfield 630, 3) := by decide +kernel
theorem dX19_noController_4 : decode cX19_noController 4 = .ok (.ifCond .eq 15, 3) := by decide +kernel
theorem dX19_noController_7 : decode cX19_noController 7 = .ok (.iload_n 1, 1) := by decide +kernel
theorem dX19_noController_8 : decode cX19_noController 8 = .ok (.ifCond .lt 11, 3) := by decide +kernel
theorem dX19_noController_11 : decode cX19_noController 11 = .ok (.iload_n 1, 1) := by decide +kernel
theorem dX19_noController_12 : decode cX19_noController 12 = .ok (.aload_n 0, 1) := by decide +kernel
theorem dX19_noController_13 : decode cX19_noController 13 = .ok (.getfield 435, 3) := by decide +kernel
theorem dX19_noController_16 : decode cX19_noController 16 = .ok (.if_icmp .lt 7, 3) := by decide +kernel
theorem dX19_noController_19 : decode cX19_noController 19 = .ok (.iconst 1, 1) := by decide +kernel
theorem dX19_noController_20 : decode cX19_noController 20 = .ok (.goto 4, 3) := by decide +kernel
theorem dX19_noController_23 : decode cX19_noController 23 = .ok (.iconst 0, 1) := by decide +kernel
theorem dX19_noController_24 : decode cX19_noController 24 = .ok (.ireturn, 1) := by decide +kernel
theorem cwX19_noController : mw_cwV yX19_noController cX19_noController 2 ((some .boolean)) 1 := ⟨⟨wd_13, wd_4249, by decide +kernel⟩, wd_4248, sl_340⟩
noncomputable def fX19_noController_b24 (fu : Nat) (a1 : Int32) (s0 : Int32) (M : mwM) (L : mwL) : Option (Int32 × mwM × mwL) :=
  mzz s0 (some (s0, M, L))
noncomputable def fX19_noController_b19 (fu : Nat) (a1 : Int32) (M : mwM) (L : mwL) : Option (Int32 × mwM × mwL) :=
  fX19_noController_b24 fu a1 1 M L
noncomputable def DX19_noController (fu : Nat) (a1 : Int32) (M : mwM) (L : mwL) : Option (Int32 × mwM × mwL) :=
  (if (M 732 4) = 0 then fX19_noController_b19 fu a1 M L else (if a1 < 0 then fX19_noController_b19 fu a1 M L else (if a1 < (M 732 19) then fX19_noController_b24 fu a1 0 M L else fX19_noController_b19 fu a1 M L)))
set_option maxHeartbeats 4000000 in
set_option maxRecDepth 100000 in
theorem tX19_noController (l : Launch) (G : mwG) (ad : Nat → Nat) (fu : Nat) (a1 : Int32) (M : mwM) (L : mwL) {r0 : Int32} {M0 : mwM} {L0 : mwL} (hD : DX19_noController fu a1 M L = some (r0, M0, L0)) : Met l yX19_noController (Cond.code yX19_noController cX19_noController 2 ((some .boolean)) :: GT) ({ frames := 0, cells := 0, slots := 0, locals := 0 }) (mw_Pre G ad NF TF FF M L [.ref (ad 732), .int a1]) (mw_Qi G ad NF TF FF (mw_eqI r0 M0 L0)) 0 0 (mw_fr G) := by
  refine mw_enter (by decide) (Nat.le_of_ble_eq_true rfl) ?_
  intro p e s m below meth c ls C hr hlocks hnm hw hl
  have hl : lv_has ls 2 [(0, .ref (ad 732)), (1, .int a1)] := hl
  have hb24 : ∀ (s0 : Int32) (M : mwM) (L : mwL) (H : Heap) (locs : List Loc) (ls : Array Slot), fX19_noController_b24 fu a1 s0 M L = some (r0, M0, L0) → mw_W G ad NF TF FF M L H locs → lv_has ls 2 [] → W p l e ({ frames := 0, cells := 0, slots := 0, locals := 0 }) s m [.ref (ad 732), .int a1].toArray below meth c H locs 0 0 (MQ below (mw_Qi G ad NF TF FF (mw_eqI r0 M0 L0)) [.ref (ad 732), .int a1].toArray s 0 0 (mw_fr G)) (F0 m 24 ls [.int s0]) := by
    intro s0 M L H locs ls hD hw hl
    unfold fX19_noController_b24 at hD
    obtain ⟨z1, hD⟩ := g_zz hD
    exact mr_iret C hr hlocks hw (nz_zz z1) (Option.some.inj hD) dX19_noController_24
  have hb19 : ∀ (M : mwM) (L : mwL) (H : Heap) (locs : List Loc) (ls : Array Slot), fX19_noController_b19 fu a1 M L = some (r0, M0, L0) → mw_W G ad NF TF FF M L H locs → lv_has ls 2 [] → W p l e ({ frames := 0, cells := 0, slots := 0, locals := 0 }) s m [.ref (ad 732), .int a1].toArray below meth c H locs 0 0 (MQ below (mw_Qi G ad NF TF FF (mw_eqI r0 M0 L0)) [.ref (ad 732), .int a1].toArray s 0 0 (mw_fr G)) (F0 m 19 ls []) := by
    intro M L H locs ls hD hw hl
    unfold fX19_noController_b19 at hD
    refine lv_iconst (v := 1) C.1.1 C.1.2.1 dX19_noController_19 (by decide) ?_
    refine lv_goto (tgt := 24) C.1.1 C.1.2.1 dX19_noController_20 (by decide) ?_
    exact hb24 1 M L _ _ ls hD hw (lv_sub hl [] rfl)
  unfold DX19_noController at hD
  refine lv_aload_n C.1.1 C.1.2.1 dX19_noController_0 rfl (lv_at hl 0 rfl) ?_
  refine mr_getI C hw kc_19 4 (by decide) tf_732 wd_2785 dX19_noController_1 (by decide) rfl ?_
  refine lv_if_eq (tgt := 19) C.1.1 C.1.2.1 dX19_noController_4 (by decide) (fun c2 => ?_) (fun c2 => ?_)
  · replace hD := g_pos c2 hD
    exact hb19 M L _ _ ls hD hw (lv_sub hl [] rfl)
  · replace hD := g_neg c2 hD
    refine lv_iload_n C.1.1 C.1.2.1 dX19_noController_7 rfl (lv_at hl 1 rfl) ?_
    refine lv_if_lt (tgt := 19) C.1.1 C.1.2.1 dX19_noController_8 (by decide) (fun c3 => ?_) (fun c3 => ?_)
    · replace hD := g_pos c3 hD
      exact hb19 M L _ _ ls hD hw (lv_sub hl [] rfl)
    · replace hD := g_neg c3 hD
      refine lv_iload_n C.1.1 C.1.2.1 dX19_noController_11 rfl (lv_at hl 1 rfl) ?_
      refine lv_aload_n C.1.1 C.1.2.1 dX19_noController_12 rfl (lv_at hl 0 rfl) ?_
      refine mr_getI C hw kc_19 19 (by decide) tf_732 wd_2800 dX19_noController_13 (by decide) rfl ?_
      refine lv_icmp_lt (tgt := 23) C.1.1 C.1.2.1 dX19_noController_16 (by decide) (fun c4 => ?_) (fun c4 => ?_)
      · replace hD := g_pos c4 hD
        refine lv_iconst (v := 0) C.1.1 C.1.2.1 dX19_noController_23 (by decide) ?_
        exact hb24 0 M L _ _ ls hD hw (lv_sub hl [] rfl)
      · replace hD := g_neg c4 hD
        exact hb19 M L _ _ ls hD hw (lv_sub hl [] rfl)

theorem dX19_ask_0 : decode cX19_ask 0 = .ok (.aload_n 0, 1) := by decide +kernel
theorem dX19_ask_1 : decode cX19_ask 1 = .ok (.aload_n 0, 1) := by decide +kernel
theorem dX19_ask_2 : decode cX19_ask 2 = .ok (.iload_n 1, 1) := by decide +kernel
theorem dX19_ask_3 : decode cX19_ask 3 = .ok (.invokevirtual 825, 3) := by decide +kernel
theorem dX19_ask_6 : decode cX19_ask 6 = .ok (.ifCond .eq 7, 3) := by decide +kernel
theorem dX19_ask_9 : decode cX19_ask 9 = .ok (.iconst 1, 1) := by decide +kernel
theorem dX19_ask_10 : decode cX19_ask 10 = .ok (.goto 31, 3) := by decide +kernel
theorem dX19_ask_13 : decode cX19_ask 13 = .ok (.aload_n 0, 1) := by decide +kernel
theorem dX19_ask_14 : decode cX19_ask 14 = .ok (.getfield 854, 3) := by decide +kernel
theorem dX19_ask_17 : decode cX19_ask 17 = .ok (.ifCond .eq 19, 3) := by decide +kernel
theorem dX19_ask_20 : decode cX19_ask 20 = .ok (.aload_n 0, 1) := by decide +kernel
theorem dX19_ask_21 : decode cX19_ask 21 = .ok (.getfield 245, 3) := by decide +kernel
theorem dX19_ask_24 : decode cX19_ask 24 = .ok (.ifCond .ge 12, 3) := by decide +kernel
theorem dX19_ask_27 : decode cX19_ask 27 = .ok (.aload_n 0, 1) := by decide +kernel
theorem dX19_ask_28 : decode cX19_ask 28 = .ok (.getfield 603, 3) := by decide +kernel
theorem dX19_ask_31 : decode cX19_ask 31 = .ok (.bipush 98, 2) := by decide +kernel
theorem dX19_ask_33 : decode cX19_ask 33 = .ok (.if_icmp .le 7, 3) := by decide +kernel
theorem dX19_ask_36 : decode cX19_ask 36 = .ok (.iconst 2, 1) := by decide +kernel
theorem dX19_ask_37 : decode cX19_ask 37 = .ok (.goto 4, 3) := by decide +kernel
theorem dX19_ask_40 : decode cX19_ask 40 = .ok (.iconst 0, 1) := by decide +kernel
theorem dX19_ask_41 : decode cX19_ask 41 = .ok (.putfield 289, 3) := by decide +kernel
theorem dX19_ask_44 : decode cX19_ask 44 = .ok (.aload_n 0, 1) := by decide +kernel
theorem dX19_ask_45 : decode cX19_ask 45 = .ok (.getfield 289, 3) := by decide +kernel
theorem dX19_ask_48 : decode cX19_ask 48 = .ok (.ifCond .le 5, 3) := by decide +kernel
theorem dX19_ask_51 : decode cX19_ask 51 = .ok (.iconst 0, 1) := by decide +kernel
theorem dX19_ask_52 : decode cX19_ask 52 = .ok (.ireturn, 1) := by decide +kernel
theorem dX19_ask_53 : decode cX19_ask 53 = .ok (.aload_n 0, 1) := by decide +kernel
theorem dX19_ask_54 : decode cX19_ask 54 = .ok (.getfield 854, 3) := by decide +kernel
theorem dX19_ask_57 : decode cX19_ask 57 = .ok (.istore_n 2, 1) := by decide +kernel
theorem dX19_ask_58 : decode cX19_ask 58 = .ok (.iconst 0, 1) := by decide +kernel
theorem dX19_ask_59 : decode cX19_ask 59 = .ok (.istore_n 3, 1) := by decide +kernel
theorem dX19_ask_60 : decode cX19_ask 60 = .ok (.iload_n 3, 1) := by decide +kernel
theorem dX19_ask_61 : decode cX19_ask 61 = .ok (.iload_n 2, 1) := by decide +kernel
theorem dX19_ask_62 : decode cX19_ask 62 = .ok (.if_icmp .ge 21, 3) := by decide +kernel
theorem dX19_ask_65 : decode cX19_ask 65 = .ok (.aload_n 0, 1) := by decide +kernel
theorem dX19_ask_66 : decode cX19_ask 66 = .ok (.getfield 255, 3) := by decide +kernel
theorem dX19_ask_69 : decode cX19_ask 69 = .ok (.iload_n 3, 1) := by decide +kernel
theorem dX19_ask_70 : decode cX19_ask 70 = .ok (.aload_n 0, 1) := by decide +kernel
theorem dX19_ask_71 : decode cX19_ask 71 = .ok (.getfield 276, 3) := by decide +kernel
theorem dX19_ask_74 : decode cX19_ask 74 = .ok (.iload_n 3, 1) := by decide +kernel
theorem dX19_ask_75 : decode cX19_ask 75 = .ok (.iaload, 1) := by decide +kernel
theorem dX19_ask_76 : decode cX19_ask 76 = .ok (.iastore, 1) := by decide +kernel
theorem dX19_ask_77 : decode cX19_ask 77 = .ok (.iinc 3 1, 3) := by decide +kernel
theorem dX19_ask_80 : decode cX19_ask 80 = .ok (.goto (-20), 3) := by decide +kernel
theorem dX19_ask_83 : decode cX19_ask 83 = .ok (.aload_n 0, 1) := by decide +kernel
theorem dX19_ask_84 : decode cX19_ask 84 = .ok (.iload_n 2, 1) := by decide +kernel
theorem dX19_ask_85 : decode cX19_ask 85 = .ok (.putfield 730, 3) := by decide +kernel
theorem dX19_ask_88 : decode cX19_ask 88 = .ok (.aload_n 0, 1) := by decide +kernel
theorem dX19_ask_89 : decode cX19_ask 89 = .ok (.iconst 0, 1) := by decide +kernel
theorem dX19_ask_90 : decode cX19_ask 90 = .ok (.putfield 854, 3) := by decide +kernel
theorem dX19_ask_93 : decode cX19_ask 93 = .ok (.aload_n 0, 1) := by decide +kernel
theorem dX19_ask_94 : decode cX19_ask 94 = .ok (.iload_n 1, 1) := by decide +kernel
theorem dX19_ask_95 : decode cX19_ask 95 = .ok (.putfield 245, 3) := by decide +kernel
theorem dX19_ask_98 : decode cX19_ask 98 = .ok (.aload_n 0, 1) := by decide +kernel
theorem dX19_ask_99 : decode cX19_ask 99 = .ok (.iconst 0, 1) := by decide +kernel
theorem dX19_ask_100 : decode cX19_ask 100 = .ok (.putfield 618, 3) := by decide +kernel
theorem dX19_ask_103 : decode cX19_ask 103 = .ok (.aload_n 0, 1) := by decide +kernel
theorem dX19_ask_104 : decode cX19_ask 104 = .ok (.iload_n 1, 1) := by decide +kernel
theorem dX19_ask_105 : decode cX19_ask 105 = .ok (.iconst 1, 1) := by decide +kernel
theorem dX19_ask_106 : decode cX19_ask 106 = .ok (.invokevirtual 726, 3) := by decide +kernel
theorem dX19_ask_109 : decode cX19_ask 109 = .ok (.iload_n 2, 1) := by decide +kernel
theorem dX19_ask_110 : decode cX19_ask 110 = .ok (.ireturn, 1) := by decide +kernel
theorem cwX19_ask : mw_cwV yX19_ask cX19_ask 4 ((some .int)) 1 := ⟨⟨wd_13, wd_4325, by decide +kernel⟩, wd_4323, wd_4324⟩
noncomputable def fX19_ask_i60 (fu : Nat) (a1 : Int32) (r60 : (Int32 × Int32 × mwM × mwL) → Option (Int32 × mwM × mwL)) (v2 : Int32) (v3 : Int32) (M : mwM) (L : mwL) : Option (Int32 × mwM × mwL) :=
  (if v2 ≤ v3 then mlet (mset M 732 102 v2) (fun M5 => mlet (mset M5 732 110 0) (fun M6 => mlet (mset M6 732 97 a1) (fun M7 => mlet (mset M7 732 98 0) (fun M8 => none)))) else mck v3 100 (mck v3 128 (mlet (mset M 933 (v3.toNatClampNeg) (M 940 v3.toNatClampNeg)) (fun M11 => mlet (v3 + 1) (fun x12 => r60 (v2, x12, M11, L))))))
noncomputable def fX19_ask_h60 (fu : Nat) (a1 : Int32) : Nat → (Int32 × Int32 × mwM × mwL) → Option (Int32 × mwM × mwL) := mloop (fun r60 s => fX19_ask_i60 fu a1 r60 s.1 s.2.1 s.2.2.1 s.2.2.2)
noncomputable def fX19_ask_b41 (fu : Nat) (a1 : Int32) (s1 : Int32) (M : mwM) (L : mwL) : Option (Int32 × mwM × mwL) :=
  mlet (mset M 732 0 s1) (fun M1 => (if (M1 732 0) ≤ 0 then mlet (M1 732 110) (fun x3 => fX19_ask_h60 fu a1 fu (x3, 0, M1, L)) else some (0, M1, L)))
noncomputable def fX19_ask_b36 (fu : Nat) (a1 : Int32) (M : mwM) (L : mwL) : Option (Int32 × mwM × mwL) :=
  fX19_ask_b41 fu a1 2 M L
noncomputable def DX19_ask (fu : Nat) (a1 : Int32) (M : mwM) (L : mwL) : Option (Int32 × mwM × mwL) :=
  mb3 (DX19_noController fu a1 M L) (fun r15 M13 L14 => (if r15 = 0 then (if (M13 732 110) = 0 then fX19_ask_b36 fu a1 M13 L14 else (if 0 ≤ (M13 732 97) then fX19_ask_b36 fu a1 M13 L14 else (if (M13 732 88) ≤ 98 then fX19_ask_b41 fu a1 0 M13 L14 else fX19_ask_b36 fu a1 M13 L14))) else fX19_ask_b41 fu a1 1 M13 L14))
set_option maxHeartbeats 4000000 in
set_option maxRecDepth 100000 in
theorem tX19_ask (l : Launch) (G : mwG) (ad : Nat → Nat) (fu : Nat) (a1 : Int32) (M : mwM) (L : mwL) {r0 : Int32} {M0 : mwM} {L0 : mwL} (hD : DX19_ask fu a1 M L = some (r0, M0, L0)) : Met l yX19_ask (Cond.code yX19_ask cX19_ask 4 ((some .int)) :: GT) ({ frames := 1, cells := 0, slots := 0, locals := 21 }) (mw_Pre G ad NF TF FF M L [.ref (ad 732), .int a1]) (mw_Qi G ad NF TF FF (mw_eqI r0 M0 L0)) 0 0 (mw_fr G) := by
  refine mw_enter (by decide) (Nat.le_of_ble_eq_true rfl) ?_
  intro p e s m below meth c ls C hr hlocks hnm hw hl
  have hl : lv_has ls 4 [(0, .ref (ad 732)), (1, .int a1)] := hl
  have hh60 : ∀ (f : Nat) (v2 : Int32) (v3 : Int32) (M : mwM) (L : mwL) (H : Heap) (locs : List Loc) (ls : Array Slot), fX19_ask_h60 fu a1 f (v2, v3, M, L) = some (r0, M0, L0) → mw_W G ad NF TF FF M L H locs → lv_has ls 4 [(0, .ref (ad 732)), (1, .int a1), (2, .int v2), (3, .int v3)] → W p l e ({ frames := 1, cells := 0, slots := 0, locals := 21 }) s m [.ref (ad 732), .int a1].toArray below meth c H locs 0 0 (MQ below (mw_Qi G ad NF TF FF (mw_eqI r0 M0 L0)) [.ref (ad 732), .int a1].toArray s 0 0 (mw_fr G)) (F0 m 60 ls []) := by
    intro f
    induction f with
    | zero => intro v2 v3 M L H locs ls hD; cases hD
    | succ f60 ih60 =>
      intro v2 v3 M L H locs ls hD hw hl
      replace hD : fX19_ask_i60 fu a1 (fX19_ask_h60 fu a1 f60) v2 v3 M L = some (r0, M0, L0) := hD
      unfold fX19_ask_i60 at hD
      refine lv_iload_n C.1.1 C.1.2.1 dX19_ask_60 rfl (lv_at hl 3 rfl) ?_
      refine lv_iload_n C.1.1 C.1.2.1 dX19_ask_61 rfl (lv_at hl 2 rfl) ?_
      refine lv_icmp_ge (tgt := 83) C.1.1 C.1.2.1 dX19_ask_62 (by decide) (fun c4 => ?_) (fun c4 => ?_)
      · replace hD := g_pos c4 hD
        refine lv_aload_n C.1.1 C.1.2.1 dX19_ask_83 rfl (lv_at hl 0 rfl) ?_
        refine lv_iload_n C.1.1 C.1.2.1 dX19_ask_84 rfl (lv_at hl 2 rfl) ?_
        obtain ⟨M5, eM5, hD⟩ := g_let hD
        refine mr_putI C hw kc_19 102 (by decide) tf_732 wd_2883 dX19_ask_85 (by decide) rfl rfl rfl rfl (fun H locs hw => ?_)
        replace hw : mw_W G ad NF TF FF M5 L H locs := by rw [eM5]; exact hw
        refine lv_aload_n C.1.1 C.1.2.1 dX19_ask_88 rfl (lv_at hl 0 rfl) ?_
        refine lv_iconst (v := 0) C.1.1 C.1.2.1 dX19_ask_89 (by decide) ?_
        obtain ⟨M6, eM6, hD⟩ := g_let hD
        refine mr_putI C hw kc_19 110 (by decide) tf_732 wd_2891 dX19_ask_90 (by decide) rfl rfl rfl rfl (fun H locs hw => ?_)
        replace hw : mw_W G ad NF TF FF M6 L H locs := by rw [eM6]; exact hw
        refine lv_aload_n C.1.1 C.1.2.1 dX19_ask_93 rfl (lv_at hl 0 rfl) ?_
        refine lv_iload_n C.1.1 C.1.2.1 dX19_ask_94 rfl (lv_at hl 1 rfl) ?_
        obtain ⟨M7, eM7, hD⟩ := g_let hD
        refine mr_putI C hw kc_19 97 (by decide) tf_732 wd_2878 dX19_ask_95 (by decide) rfl rfl rfl rfl (fun H locs hw => ?_)
        replace hw : mw_W G ad NF TF FF M7 L H locs := by rw [eM7]; exact hw
        refine lv_aload_n C.1.1 C.1.2.1 dX19_ask_98 rfl (lv_at hl 0 rfl) ?_
        refine lv_iconst (v := 0) C.1.1 C.1.2.1 dX19_ask_99 (by decide) ?_
        obtain ⟨M8, eM8, hD⟩ := g_let hD
        refine mr_putI C hw kc_19 98 (by decide) tf_732 wd_2879 dX19_ask_100 (by decide) rfl rfl rfl rfl (fun H locs hw => ?_)
        replace hw : mw_W G ad NF TF FF M8 L H locs := by rw [eM8]; exact hw
        refine lv_aload_n C.1.1 C.1.2.1 dX19_ask_103 rfl (lv_at hl 0 rfl) ?_
        refine lv_iload_n C.1.1 C.1.2.1 dX19_ask_104 rfl (lv_at hl 1 rfl) ?_
        refine lv_iconst (v := 1) C.1.1 C.1.2.1 dX19_ask_105 (by decide) ?_
        cases hD
      · replace hD := g_neg c4 hD
        refine lv_aload_n C.1.1 C.1.2.1 dX19_ask_65 rfl (lv_at hl 0 rfl) ?_
        refine mr_getR C hw kc_19 101 (by decide) tf_732 ff_732_101 wd_2882 dX19_ask_66 (by decide) rfl ?_
        refine lv_iload_n C.1.1 C.1.2.1 dX19_ask_69 rfl (lv_at hl 3 rfl) ?_
        refine lv_aload_n C.1.1 C.1.2.1 dX19_ask_70 rfl (lv_at hl 0 rfl) ?_
        refine mr_getR C hw kc_19 111 (by decide) tf_732 ff_732_111 wd_2892 dX19_ask_71 (by decide) rfl ?_
        refine lv_iload_n C.1.1 C.1.2.1 dX19_ask_74 rfl (lv_at hl 3 rfl) ?_
        obtain ⟨q9, hD⟩ := g_ck hD
        refine mr_iald C hw (by decide) tf_940 q9 dX19_ask_75 ?_
        obtain ⟨q10, hD⟩ := g_ck hD
        obtain ⟨M11, eM11, hD⟩ := g_let hD
        refine mr_iast C hw (by decide) tf_933 q10 dX19_ask_76 (fun H locs hw => ?_)
        replace hw : mw_W G ad NF TF FF M11 L H locs := by rw [eM11]; exact hw
        obtain ⟨x12, ex12, hD⟩ := g_let hD
        refine lv_iinc (v := x12) (lv' := [(3, .int x12), (0, .ref (ad 732)), (1, .int a1), (2, .int v2)]) C.1.1 C.1.2.1 dX19_ask_77 hl (k := 3) rfl (by rw [ex12]; rfl) (by decide) rfl (fun ls hl => ?_)
        refine lv_goto (tgt := 60) C.1.1 C.1.2.1 dX19_ask_80 (by decide) ?_
        exact ih60 v2 x12 M11 L _ _ ls hD hw (lv_sub hl [1, 2, 3, 0] rfl)
  have hb41 : ∀ (s1 : Int32) (M : mwM) (L : mwL) (H : Heap) (locs : List Loc) (ls : Array Slot), fX19_ask_b41 fu a1 s1 M L = some (r0, M0, L0) → mw_W G ad NF TF FF M L H locs → lv_has ls 4 [(0, .ref (ad 732)), (1, .int a1)] → W p l e ({ frames := 1, cells := 0, slots := 0, locals := 21 }) s m [.ref (ad 732), .int a1].toArray below meth c H locs 0 0 (MQ below (mw_Qi G ad NF TF FF (mw_eqI r0 M0 L0)) [.ref (ad 732), .int a1].toArray s 0 0 (mw_fr G)) (F0 m 41 ls [.int s1, .ref (ad 732)]) := by
    intro s1 M L H locs ls hD hw hl
    unfold fX19_ask_b41 at hD
    obtain ⟨M1, eM1, hD⟩ := g_let hD
    refine mr_putI C hw kc_19 0 (by decide) tf_732 wd_2781 dX19_ask_41 (by decide) rfl rfl rfl rfl (fun H locs hw => ?_)
    replace hw : mw_W G ad NF TF FF M1 L H locs := by rw [eM1]; exact hw
    refine lv_aload_n C.1.1 C.1.2.1 dX19_ask_44 rfl (lv_at hl 0 rfl) ?_
    refine mr_getI C hw kc_19 0 (by decide) tf_732 wd_2781 dX19_ask_45 (by decide) rfl ?_
    refine lv_if_le (tgt := 53) C.1.1 C.1.2.1 dX19_ask_48 (by decide) (fun c2 => ?_) (fun c2 => ?_)
    · replace hD := g_pos c2 hD
      refine lv_aload_n C.1.1 C.1.2.1 dX19_ask_53 rfl (lv_at hl 0 rfl) ?_
      refine mr_getI C hw kc_19 110 (by decide) tf_732 wd_2891 dX19_ask_54 (by decide) rfl ?_
      obtain ⟨x3, ex3, hD⟩ := g_let hD
      refine W.eq (g2 := F0 m 57 ls (.int x3 :: [])) (by rw [ex3]) ?_
      refine lv_istore_n (lv' := [(2, .int x3), (0, .ref (ad 732)), (1, .int a1)]) C.1.1 C.1.2.1 dX19_ask_57 rfl hl (by decide) rfl (fun ls hl => ?_)
      refine lv_iconst (v := 0) C.1.1 C.1.2.1 dX19_ask_58 (by decide) ?_
      refine lv_istore_n (lv' := [(3, .int 0), (2, .int x3), (0, .ref (ad 732)), (1, .int a1)]) C.1.1 C.1.2.1 dX19_ask_59 rfl hl (by decide) rfl (fun ls hl => ?_)
      exact hh60 fu x3 0 M1 L _ _ ls hD hw (lv_sub hl [2, 3, 1, 0] rfl)
    · replace hD := g_neg c2 hD
      refine lv_iconst (v := 0) C.1.1 C.1.2.1 dX19_ask_51 (by decide) ?_
      exact mr_iret C hr hlocks hw rfl (Option.some.inj hD) dX19_ask_52
  have hb36 : ∀ (M : mwM) (L : mwL) (H : Heap) (locs : List Loc) (ls : Array Slot), fX19_ask_b36 fu a1 M L = some (r0, M0, L0) → mw_W G ad NF TF FF M L H locs → lv_has ls 4 [(0, .ref (ad 732)), (1, .int a1)] → W p l e ({ frames := 1, cells := 0, slots := 0, locals := 21 }) s m [.ref (ad 732), .int a1].toArray below meth c H locs 0 0 (MQ below (mw_Qi G ad NF TF FF (mw_eqI r0 M0 L0)) [.ref (ad 732), .int a1].toArray s 0 0 (mw_fr G)) (F0 m 36 ls [.ref (ad 732)]) := by
    intro M L H locs ls hD hw hl
    unfold fX19_ask_b36 at hD
    refine lv_iconst (v := 2) C.1.1 C.1.2.1 dX19_ask_36 (by decide) ?_
    refine lv_goto (tgt := 41) C.1.1 C.1.2.1 dX19_ask_37 (by decide) ?_
    exact hb41 2 M L _ _ ls hD hw (lv_sub hl [0, 1] rfl)
  unfold DX19_ask at hD
  refine lv_aload_n C.1.1 C.1.2.1 dX19_ask_0 rfl (lv_at hl 0 rfl) ?_
  refine lv_aload_n C.1.1 C.1.2.1 dX19_ask_1 rfl (lv_at hl 0 rfl) ?_
  refine lv_iload_n C.1.1 C.1.2.1 dX19_ask_2 rfl (lv_at hl 1 rfl) ?_
  obtain ⟨r15, M13, L14, h1, hD⟩ := g_b3 hD
  refine md_cvI (As := [.int a1]) (rest := [.ref (ad 732)]) C hw (tX19_noController l G ad fu a1 M L h1) kc_19 (by decide) tf_732 wd_4246 cwX19_noController ⟨Nat.le_of_ble_eq_true rfl, Nat.le_of_ble_eq_true rfl⟩ rfl hl.1 (Nat.le_of_ble_eq_true rfl) dX19_ask_3 rfl rfl ⟨Nat.zero_le _, Nat.zero_le _⟩ rfl (fun H locs hw => ?_)
  refine lv_if_eq (tgt := 13) C.1.1 C.1.2.1 dX19_ask_6 (by decide) (fun c16 => ?_) (fun c16 => ?_)
  · replace hD := g_pos c16 hD
    refine lv_aload_n C.1.1 C.1.2.1 dX19_ask_13 rfl (lv_at hl 0 rfl) ?_
    refine mr_getI C hw kc_19 110 (by decide) tf_732 wd_2891 dX19_ask_14 (by decide) rfl ?_
    refine lv_if_eq (tgt := 36) C.1.1 C.1.2.1 dX19_ask_17 (by decide) (fun c17 => ?_) (fun c17 => ?_)
    · replace hD := g_pos c17 hD
      exact hb36 M13 L14 _ _ ls hD hw (lv_sub hl [0, 1] rfl)
    · replace hD := g_neg c17 hD
      refine lv_aload_n C.1.1 C.1.2.1 dX19_ask_20 rfl (lv_at hl 0 rfl) ?_
      refine mr_getI C hw kc_19 97 (by decide) tf_732 wd_2878 dX19_ask_21 (by decide) rfl ?_
      refine lv_if_ge (tgt := 36) C.1.1 C.1.2.1 dX19_ask_24 (by decide) (fun c18 => ?_) (fun c18 => ?_)
      · replace hD := g_pos c18 hD
        exact hb36 M13 L14 _ _ ls hD hw (lv_sub hl [0, 1] rfl)
      · replace hD := g_neg c18 hD
        refine lv_aload_n C.1.1 C.1.2.1 dX19_ask_27 rfl (lv_at hl 0 rfl) ?_
        refine mr_getI C hw kc_19 88 (by decide) tf_732 wd_2869 dX19_ask_28 (by decide) rfl ?_
        refine lv_bipush (v := 98) C.1.1 C.1.2.1 dX19_ask_31 (by decide) ?_
        refine lv_icmp_le (tgt := 40) C.1.1 C.1.2.1 dX19_ask_33 (by decide) (fun c19 => ?_) (fun c19 => ?_)
        · replace hD := g_pos c19 hD
          refine lv_iconst (v := 0) C.1.1 C.1.2.1 dX19_ask_40 (by decide) ?_
          exact hb41 0 M13 L14 _ _ ls hD hw (lv_sub hl [0, 1] rfl)
        · replace hD := g_neg c19 hD
          exact hb36 M13 L14 _ _ ls hD hw (lv_sub hl [0, 1] rfl)
  · replace hD := g_neg c16 hD
    refine lv_iconst (v := 1) C.1.1 C.1.2.1 dX19_ask_9 (by decide) ?_
    refine lv_goto (tgt := 41) C.1.1 C.1.2.1 dX19_ask_10 (by decide) ?_
    exact hb41 1 M13 L14 _ _ ls hD hw (lv_sub hl [0, 1] rfl)

theorem dX19_asking_0 : decode cX19_asking 0 = .ok (.aload_n 0, 1) := by decide +kernel
theorem dX19_asking_1 : decode cX19_asking 1 = .ok (.iconst 0, 1) := by decide +kernel
theorem dX19_asking_2 : decode cX19_asking 2 = .ok (.putfield 289, 3) := by decide +kernel
theorem dX19_asking_5 : decode cX19_asking 5 = .ok (.aload_n 0, 1) := by decide +kernel
theorem dX19_asking_6 : decode cX19_asking 6 = .ok (.getfield 630, 3) := by decide +kernel
theorem dX19_asking_9 : decode cX19_asking 9 = .ok (.ifCond .eq 10, 3) := by decide +kernel
theorem dX19_asking_12 : decode cX19_asking 12 = .ok (.aload_n 0, 1) := by decide +kernel
theorem dX19_asking_13 : decode cX19_asking 13 = .ok (.getfield 245, 3) := by decide +kernel
theorem dX19_asking_16 : decode cX19_asking 16 = .ok (.goto 4, 3) := by decide +kernel
theorem dX19_asking_19 : decode cX19_asking 19 = .ok (.iconst (-1), 1) := by decide +kernel
theorem dX19_asking_20 : decode cX19_asking 20 = .ok (.ireturn, 1) := by decide +kernel
theorem cwX19_asking : mw_cwV yX19_asking cX19_asking 1 ((some .int)) 0 := ⟨⟨wd_13, wd_4329, by decide +kernel⟩, wd_4327, wd_4328⟩
noncomputable def fX19_asking_b20 (fu : Nat) (s0 : Int32) (M : mwM) (L : mwL) : Option (Int32 × mwM × mwL) :=
  some (s0, M, L)
noncomputable def DX19_asking (fu : Nat) (M : mwM) (L : mwL) : Option (Int32 × mwM × mwL) :=
  mlet (mset M 732 0 0) (fun M1 => (if (M1 732 4) = 0 then fX19_asking_b20 fu ((-1)) M1 L else fX19_asking_b20 fu (M1 732 97) M1 L))
set_option maxHeartbeats 4000000 in
set_option maxRecDepth 100000 in
theorem tX19_asking (l : Launch) (G : mwG) (ad : Nat → Nat) (fu : Nat) (M : mwM) (L : mwL) {r0 : Int32} {M0 : mwM} {L0 : mwL} (hD : DX19_asking fu M L = some (r0, M0, L0)) : Met l yX19_asking (Cond.code yX19_asking cX19_asking 1 ((some .int)) :: GT) ({ frames := 0, cells := 0, slots := 0, locals := 0 }) (mw_Pre G ad NF TF FF M L [.ref (ad 732)]) (mw_Qi G ad NF TF FF (mw_eqI r0 M0 L0)) 0 0 (mw_fr G) := by
  refine mw_enter (by decide) (Nat.le_of_ble_eq_true rfl) ?_
  intro p e s m below meth c ls C hr hlocks hnm hw hl
  have hl : lv_has ls 1 [(0, .ref (ad 732))] := hl
  have hb20 : ∀ (s0 : Int32) (M : mwM) (L : mwL) (H : Heap) (locs : List Loc) (ls : Array Slot), fX19_asking_b20 fu s0 M L = some (r0, M0, L0) → mw_W G ad NF TF FF M L H locs → lv_has ls 1 [] → W p l e ({ frames := 0, cells := 0, slots := 0, locals := 0 }) s m [.ref (ad 732)].toArray below meth c H locs 0 0 (MQ below (mw_Qi G ad NF TF FF (mw_eqI r0 M0 L0)) [.ref (ad 732)].toArray s 0 0 (mw_fr G)) (F0 m 20 ls [.int s0]) := by
    intro s0 M L H locs ls hD hw hl
    unfold fX19_asking_b20 at hD
    exact mr_iret C hr hlocks hw rfl (Option.some.inj hD) dX19_asking_20
  unfold DX19_asking at hD
  refine lv_aload_n C.1.1 C.1.2.1 dX19_asking_0 rfl (lv_at hl 0 rfl) ?_
  refine lv_iconst (v := 0) C.1.1 C.1.2.1 dX19_asking_1 (by decide) ?_
  obtain ⟨M1, eM1, hD⟩ := g_let hD
  refine mr_putI C hw kc_19 0 (by decide) tf_732 wd_2781 dX19_asking_2 (by decide) rfl rfl rfl rfl (fun H locs hw => ?_)
  replace hw : mw_W G ad NF TF FF M1 L H locs := by rw [eM1]; exact hw
  refine lv_aload_n C.1.1 C.1.2.1 dX19_asking_5 rfl (lv_at hl 0 rfl) ?_
  refine mr_getI C hw kc_19 4 (by decide) tf_732 wd_2785 dX19_asking_6 (by decide) rfl ?_
  refine lv_if_eq (tgt := 19) C.1.1 C.1.2.1 dX19_asking_9 (by decide) (fun c2 => ?_) (fun c2 => ?_)
  · replace hD := g_pos c2 hD
    refine lv_iconst (v := (-1)) C.1.1 C.1.2.1 dX19_asking_19 (by decide) ?_
    exact hb20 ((-1)) M1 L _ _ ls hD hw (lv_sub hl [] rfl)
  · replace hD := g_neg c2 hD
    refine lv_aload_n C.1.1 C.1.2.1 dX19_asking_12 rfl (lv_at hl 0 rfl) ?_
    refine mr_getI C hw kc_19 97 (by decide) tf_732 wd_2878 dX19_asking_13 (by decide) rfl ?_
    refine lv_goto (tgt := 20) C.1.1 C.1.2.1 dX19_asking_16 (by decide) ?_
    exact hb20 (M1 732 97) M1 L _ _ ls hD hw (lv_sub hl [] rfl)

theorem dX19_bit_0 : decode cX19_bit 0 = .ok (.aload_n 0, 1) := by decide +kernel
theorem dX19_bit_1 : decode cX19_bit 1 = .ok (.aload_n 0, 1) := by decide +kernel
theorem dX19_bit_2 : decode cX19_bit 2 = .ok (.getfield 630, 3) := by decide +kernel
theorem dX19_bit_5 : decode cX19_bit 5 = .ok (.ifCond .eq 15, 3) := by decide +kernel
theorem dX19_bit_8 : decode cX19_bit 8 = .ok (.iload_n 1, 1) := by decide +kernel
theorem dX19_bit_9 : decode cX19_bit 9 = .ok (.ifCond .lt 11, 3) := by decide +kernel
theorem dX19_bit_12 : decode cX19_bit 12 = .ok (.iload_n 1, 1) := by decide +kernel
theorem dX19_bit_13 : decode cX19_bit 13 = .ok (.aload_n 0, 1) := by decide +kernel
theorem dX19_bit_14 : decode cX19_bit 14 = .ok (.getfield 600, 3) := by decide +kernel
theorem dX19_bit_17 : decode cX19_bit 17 = .ok (.if_icmp .lt 7, 3) := by decide +kernel
theorem dX19_bit_20 : decode cX19_bit 20 = .ok (.iconst 1, 1) := by decide +kernel
theorem dX19_bit_21 : decode cX19_bit 21 = .ok (.goto 4, 3) := by decide +kernel
theorem dX19_bit_24 : decode cX19_bit 24 = .ok (.iconst 0, 1) := by decide +kernel
theorem dX19_bit_25 : decode cX19_bit 25 = .ok (.putfield 289, 3) := by decide +kernel
theorem dX19_bit_28 : decode cX19_bit 28 = .ok (.aload_n 0, 1) := by decide +kernel
theorem dX19_bit_29 : decode cX19_bit 29 = .ok (.getfield 289, 3) := by decide +kernel
theorem dX19_bit_32 : decode cX19_bit 32 = .ok (.ifCond .le 7, 3) := by decide +kernel
theorem dX19_bit_35 : decode cX19_bit 35 = .ok (.iconst 0, 1) := by decide +kernel
theorem dX19_bit_36 : decode cX19_bit 36 = .ok (.goto 11, 3) := by decide +kernel
theorem dX19_bit_39 : decode cX19_bit 39 = .ok (.aload_n 0, 1) := by decide +kernel
theorem dX19_bit_40 : decode cX19_bit 40 = .ok (.getfield 184, 3) := by decide +kernel
theorem dX19_bit_43 : decode cX19_bit 43 = .ok (.iload_n 1, 1) := by decide +kernel
theorem dX19_bit_44 : decode cX19_bit 44 = .ok (.invokevirtual 812, 3) := by decide +kernel
theorem dX19_bit_47 : decode cX19_bit 47 = .ok (.ireturn, 1) := by decide +kernel
theorem cwX19_bit : mw_cwV yX19_bit cX19_bit 2 ((some .int)) 1 := ⟨⟨wd_13, wd_4209, by decide +kernel⟩, wd_4207, wd_4208⟩
noncomputable def fX19_bit_b47 (fu : Nat) (a1 : Int32) (s0 : Int32) (M : mwM) (L : mwL) : Option (Int32 × mwM × mwL) :=
  some (s0, M, L)
noncomputable def fX19_bit_b25 (fu : Nat) (a1 : Int32) (s1 : Int32) (M : mwM) (L : mwL) : Option (Int32 × mwM × mwL) :=
  mlet (mset M 732 0 s1) (fun M1 => (if (M1 732 0) ≤ 0 then none else fX19_bit_b47 fu a1 0 M1 L))
noncomputable def fX19_bit_b20 (fu : Nat) (a1 : Int32) (M : mwM) (L : mwL) : Option (Int32 × mwM × mwL) :=
  fX19_bit_b25 fu a1 1 M L
noncomputable def DX19_bit (fu : Nat) (a1 : Int32) (M : mwM) (L : mwL) : Option (Int32 × mwM × mwL) :=
  (if (M 732 4) = 0 then fX19_bit_b20 fu a1 M L else (if a1 < 0 then fX19_bit_b20 fu a1 M L else (if a1 < (M 732 83) then fX19_bit_b25 fu a1 0 M L else fX19_bit_b20 fu a1 M L)))
set_option maxHeartbeats 4000000 in
set_option maxRecDepth 100000 in
theorem tX19_bit (l : Launch) (G : mwG) (ad : Nat → Nat) (fu : Nat) (a1 : Int32) (M : mwM) (L : mwL) {r0 : Int32} {M0 : mwM} {L0 : mwL} (hD : DX19_bit fu a1 M L = some (r0, M0, L0)) : Met l yX19_bit (Cond.code yX19_bit cX19_bit 2 ((some .int)) :: GT) ({ frames := 0, cells := 0, slots := 0, locals := 0 }) (mw_Pre G ad NF TF FF M L [.ref (ad 732), .int a1]) (mw_Qi G ad NF TF FF (mw_eqI r0 M0 L0)) 0 0 (mw_fr G) := by
  refine mw_enter (by decide) (Nat.le_of_ble_eq_true rfl) ?_
  intro p e s m below meth c ls C hr hlocks hnm hw hl
  have hl : lv_has ls 2 [(0, .ref (ad 732)), (1, .int a1)] := hl
  have hb47 : ∀ (s0 : Int32) (M : mwM) (L : mwL) (H : Heap) (locs : List Loc) (ls : Array Slot), fX19_bit_b47 fu a1 s0 M L = some (r0, M0, L0) → mw_W G ad NF TF FF M L H locs → lv_has ls 2 [] → W p l e ({ frames := 0, cells := 0, slots := 0, locals := 0 }) s m [.ref (ad 732), .int a1].toArray below meth c H locs 0 0 (MQ below (mw_Qi G ad NF TF FF (mw_eqI r0 M0 L0)) [.ref (ad 732), .int a1].toArray s 0 0 (mw_fr G)) (F0 m 47 ls [.int s0]) := by
    intro s0 M L H locs ls hD hw hl
    unfold fX19_bit_b47 at hD
    exact mr_iret C hr hlocks hw rfl (Option.some.inj hD) dX19_bit_47
  have hb25 : ∀ (s1 : Int32) (M : mwM) (L : mwL) (H : Heap) (locs : List Loc) (ls : Array Slot), fX19_bit_b25 fu a1 s1 M L = some (r0, M0, L0) → mw_W G ad NF TF FF M L H locs → lv_has ls 2 [(0, .ref (ad 732)), (1, .int a1)] → W p l e ({ frames := 0, cells := 0, slots := 0, locals := 0 }) s m [.ref (ad 732), .int a1].toArray below meth c H locs 0 0 (MQ below (mw_Qi G ad NF TF FF (mw_eqI r0 M0 L0)) [.ref (ad 732), .int a1].toArray s 0 0 (mw_fr G)) (F0 m 25 ls [.int s1, .ref (ad 732)]) := by
    intro s1 M L H locs ls hD hw hl
    unfold fX19_bit_b25 at hD
    obtain ⟨M1, eM1, hD⟩ := g_let hD
    refine mr_putI C hw kc_19 0 (by decide) tf_732 wd_2781 dX19_bit_25 (by decide) rfl rfl rfl rfl (fun H locs hw => ?_)
    replace hw : mw_W G ad NF TF FF M1 L H locs := by rw [eM1]; exact hw
    refine lv_aload_n C.1.1 C.1.2.1 dX19_bit_28 rfl (lv_at hl 0 rfl) ?_
    refine mr_getI C hw kc_19 0 (by decide) tf_732 wd_2781 dX19_bit_29 (by decide) rfl ?_
    refine lv_if_le (tgt := 39) C.1.1 C.1.2.1 dX19_bit_32 (by decide) (fun c2 => ?_) (fun c2 => ?_)
    · replace hD := g_pos c2 hD
      refine lv_aload_n C.1.1 C.1.2.1 dX19_bit_39 rfl (lv_at hl 0 rfl) ?_
      refine mr_getR C hw kc_19 77 (by decide) tf_732 ff_732_77 wd_2858 dX19_bit_40 (by decide) rfl ?_
      refine lv_iload_n C.1.1 C.1.2.1 dX19_bit_43 rfl (lv_at hl 1 rfl) ?_
      cases hD
    · replace hD := g_neg c2 hD
      refine lv_iconst (v := 0) C.1.1 C.1.2.1 dX19_bit_35 (by decide) ?_
      refine lv_goto (tgt := 47) C.1.1 C.1.2.1 dX19_bit_36 (by decide) ?_
      exact hb47 0 M1 L _ _ ls hD hw (lv_sub hl [] rfl)
  have hb20 : ∀ (M : mwM) (L : mwL) (H : Heap) (locs : List Loc) (ls : Array Slot), fX19_bit_b20 fu a1 M L = some (r0, M0, L0) → mw_W G ad NF TF FF M L H locs → lv_has ls 2 [(0, .ref (ad 732)), (1, .int a1)] → W p l e ({ frames := 0, cells := 0, slots := 0, locals := 0 }) s m [.ref (ad 732), .int a1].toArray below meth c H locs 0 0 (MQ below (mw_Qi G ad NF TF FF (mw_eqI r0 M0 L0)) [.ref (ad 732), .int a1].toArray s 0 0 (mw_fr G)) (F0 m 20 ls [.ref (ad 732)]) := by
    intro M L H locs ls hD hw hl
    unfold fX19_bit_b20 at hD
    refine lv_iconst (v := 1) C.1.1 C.1.2.1 dX19_bit_20 (by decide) ?_
    refine lv_goto (tgt := 25) C.1.1 C.1.2.1 dX19_bit_21 (by decide) ?_
    exact hb25 1 M L _ _ ls hD hw (lv_sub hl [0, 1] rfl)
  unfold DX19_bit at hD
  refine lv_aload_n C.1.1 C.1.2.1 dX19_bit_0 rfl (lv_at hl 0 rfl) ?_
  refine lv_aload_n C.1.1 C.1.2.1 dX19_bit_1 rfl (lv_at hl 0 rfl) ?_
  refine mr_getI C hw kc_19 4 (by decide) tf_732 wd_2785 dX19_bit_2 (by decide) rfl ?_
  refine lv_if_eq (tgt := 20) C.1.1 C.1.2.1 dX19_bit_5 (by decide) (fun c3 => ?_) (fun c3 => ?_)
  · replace hD := g_pos c3 hD
    exact hb20 M L _ _ ls hD hw (lv_sub hl [0, 1] rfl)
  · replace hD := g_neg c3 hD
    refine lv_iload_n C.1.1 C.1.2.1 dX19_bit_8 rfl (lv_at hl 1 rfl) ?_
    refine lv_if_lt (tgt := 20) C.1.1 C.1.2.1 dX19_bit_9 (by decide) (fun c4 => ?_) (fun c4 => ?_)
    · replace hD := g_pos c4 hD
      exact hb20 M L _ _ ls hD hw (lv_sub hl [0, 1] rfl)
    · replace hD := g_neg c4 hD
      refine lv_iload_n C.1.1 C.1.2.1 dX19_bit_12 rfl (lv_at hl 1 rfl) ?_
      refine lv_aload_n C.1.1 C.1.2.1 dX19_bit_13 rfl (lv_at hl 0 rfl) ?_
      refine mr_getI C hw kc_19 83 (by decide) tf_732 wd_2864 dX19_bit_14 (by decide) rfl ?_
      refine lv_icmp_lt (tgt := 24) C.1.1 C.1.2.1 dX19_bit_17 (by decide) (fun c5 => ?_) (fun c5 => ?_)
      · replace hD := g_pos c5 hD
        refine lv_iconst (v := 0) C.1.1 C.1.2.1 dX19_bit_24 (by decide) ?_
        exact hb25 0 M L _ _ ls hD hw (lv_sub hl [0, 1] rfl)
      · replace hD := g_neg c5 hD
        exact hb20 M L _ _ ls hD hw (lv_sub hl [0, 1] rfl)

theorem dX19_character_0 : decode cX19_character 0 = .ok (.iload 4, 2) := by decide +kernel
theorem dX19_character_2 : decode cX19_character 2 = .ok (.iconst 4, 1) := by decide +kernel
theorem dX19_character_3 : decode cX19_character 3 = .ok (.if_icmp .ge 7, 3) := by decide +kernel
theorem dX19_character_6 : decode cX19_character 6 = .ok (.iload_n 0, 1) := by decide +kernel
theorem dX19_character_7 : decode cX19_character 7 = .ok (.goto 26, 3) := by decide +kernel
theorem dX19_character_10 : decode cX19_character 10 = .ok (.iload 4, 2) := by decide +kernel
theorem dX19_character_12 : decode cX19_character 12 = .ok (.bipush 8, 2) := by decide +kernel
theorem dX19_character_14 : decode cX19_character 14 = .ok (.if_icmp .ge 7, 3) := by decide +kernel
theorem dX19_character_17 : decode cX19_character 17 = .ok (.iload_n 1, 1) := by decide +kernel
theorem dX19_character_18 : decode cX19_character 18 = .ok (.goto 15, 3) := by decide +kernel
theorem dX19_character_21 : decode cX19_character 21 = .ok (.iload 4, 2) := by decide +kernel
theorem dX19_character_23 : decode cX19_character 23 = .ok (.bipush 12, 2) := by decide +kernel
theorem dX19_character_25 : decode cX19_character 25 = .ok (.if_icmp .ge 7, 3) := by decide +kernel
theorem dX19_character_28 : decode cX19_character 28 = .ok (.iload_n 2, 1) := by decide +kernel
theorem dX19_character_29 : decode cX19_character 29 = .ok (.goto 4, 3) := by decide +kernel
theorem dX19_character_32 : decode cX19_character 32 = .ok (.iload_n 3, 1) := by decide +kernel
theorem dX19_character_33 : decode cX19_character 33 = .ok (.istore 5, 2) := by decide +kernel
theorem dX19_character_35 : decode cX19_character 35 = .ok (.iload 5, 2) := by decide +kernel
theorem dX19_character_37 : decode cX19_character 37 = .ok (.bipush 24, 2) := by decide +kernel
theorem dX19_character_39 : decode cX19_character 39 = .ok (.bipush 8, 2) := by decide +kernel
theorem dX19_character_41 : decode cX19_character 41 = .ok (.iload 4, 2) := by decide +kernel
theorem dX19_character_43 : decode cX19_character 43 = .ok (.iconst 4, 1) := by decide +kernel
theorem dX19_character_44 : decode cX19_character 44 = .ok (.irem, 1) := by decide +kernel
theorem dX19_character_45 : decode cX19_character 45 = .ok (.imul, 1) := by decide +kernel
theorem dX19_character_46 : decode cX19_character 46 = .ok (.isub, 1) := by decide +kernel
theorem dX19_character_47 : decode cX19_character 47 = .ok (.ishr, 1) := by decide +kernel
theorem dX19_character_48 : decode cX19_character 48 = .ok (.sipush 255, 3) := by decide +kernel
theorem dX19_character_51 : decode cX19_character 51 = .ok (.iand, 1) := by decide +kernel
theorem dX19_character_52 : decode cX19_character 52 = .ok (.ireturn, 1) := by decide +kernel
theorem cwX19_character : mw_cwS yX19_character cX19_character 6 ((some .int)) 5 := ⟨⟨wd_13, wd_3128, by decide +kernel⟩, wd_3127⟩
noncomputable def fX19_character_b33 (fu : Nat) (a1 : Int32) (a2 : Int32) (a3 : Int32) (a4 : Int32) (a5 : Int32) (s0 : Int32) (M : mwM) (L : mwL) : Option (Int32 × mwM × mwL) :=
  some ((s0 >>> ((24 - (8 * (a5 - a5 / 4 * 4))) &&& 31)) &&& 255, M, L)
noncomputable def DX19_character (fu : Nat) (a1 : Int32) (a2 : Int32) (a3 : Int32) (a4 : Int32) (a5 : Int32) (M : mwM) (L : mwL) : Option (Int32 × mwM × mwL) :=
  (if 4 ≤ a5 then (if 8 ≤ a5 then (if 12 ≤ a5 then fX19_character_b33 fu a1 a2 a3 a4 a5 a4 M L else fX19_character_b33 fu a1 a2 a3 a4 a5 a3 M L) else fX19_character_b33 fu a1 a2 a3 a4 a5 a2 M L) else fX19_character_b33 fu a1 a2 a3 a4 a5 a1 M L)
set_option maxHeartbeats 4000000 in
set_option maxRecDepth 100000 in
theorem tX19_character (l : Launch) (G : mwG) (ad : Nat → Nat) (fu : Nat) (a1 : Int32) (a2 : Int32) (a3 : Int32) (a4 : Int32) (a5 : Int32) (M : mwM) (L : mwL) {r0 : Int32} {M0 : mwM} {L0 : mwL} (hD : DX19_character fu a1 a2 a3 a4 a5 M L = some (r0, M0, L0)) : Met l yX19_character (Cond.code yX19_character cX19_character 6 ((some .int)) :: GT) ({ frames := 0, cells := 0, slots := 0, locals := 0 }) (mw_Pre G ad NF TF FF M L [.int a1, .int a2, .int a3, .int a4, .int a5]) (mw_Qi G ad NF TF FF (mw_eqI r0 M0 L0)) 0 0 (mw_fr G) := by
  refine mw_enter (by decide) (Nat.le_of_ble_eq_true rfl) ?_
  intro p e s m below meth c ls C hr hlocks hnm hw hl
  have hl : lv_has ls 6 [(0, .int a1), (1, .int a2), (2, .int a3), (3, .int a4), (4, .int a5)] := hl
  have hb33 : ∀ (s0 : Int32) (M : mwM) (L : mwL) (H : Heap) (locs : List Loc) (ls : Array Slot), fX19_character_b33 fu a1 a2 a3 a4 a5 s0 M L = some (r0, M0, L0) → mw_W G ad NF TF FF M L H locs → lv_has ls 6 [(4, .int a5)] → W p l e ({ frames := 0, cells := 0, slots := 0, locals := 0 }) s m [.int a1, .int a2, .int a3, .int a4, .int a5].toArray below meth c H locs 0 0 (MQ below (mw_Qi G ad NF TF FF (mw_eqI r0 M0 L0)) [.int a1, .int a2, .int a3, .int a4, .int a5].toArray s 0 0 (mw_fr G)) (F0 m 33 ls [.int s0]) := by
    intro s0 M L H locs ls hD hw hl
    unfold fX19_character_b33 at hD
    refine lv_istore (lv' := [(5, .int s0), (4, .int a5)]) C.1.1 C.1.2.1 dX19_character_33 hl (by decide) rfl (fun ls hl => ?_)
    refine lv_iload C.1.1 C.1.2.1 dX19_character_35 (lv_at hl 0 rfl) ?_
    refine lv_bipush (v := 24) C.1.1 C.1.2.1 dX19_character_37 (by decide) ?_
    refine lv_bipush (v := 8) C.1.1 C.1.2.1 dX19_character_39 (by decide) ?_
    refine lv_iload C.1.1 C.1.2.1 dX19_character_41 (lv_at hl 1 rfl) ?_
    refine lv_iconst (v := 4) C.1.1 C.1.2.1 dX19_character_43 (by decide) ?_
    refine lv_irem C.1.1 C.1.2.1 dX19_character_44 (by decide) ?_
    refine lv_imul C.1.1 C.1.2.1 dX19_character_45 ?_
    refine lv_isub C.1.1 C.1.2.1 dX19_character_46 ?_
    refine lv_ishr C.1.1 C.1.2.1 dX19_character_47 ?_
    refine lv_sipush (v := 255) C.1.1 C.1.2.1 dX19_character_48 (by decide) ?_
    refine lv_iand C.1.1 C.1.2.1 dX19_character_51 ?_
    exact mr_iret C hr hlocks hw rfl (Option.some.inj hD) dX19_character_52
  unfold DX19_character at hD
  refine lv_iload C.1.1 C.1.2.1 dX19_character_0 (lv_at hl 4 rfl) ?_
  refine lv_iconst (v := 4) C.1.1 C.1.2.1 dX19_character_2 (by decide) ?_
  refine lv_icmp_ge (tgt := 10) C.1.1 C.1.2.1 dX19_character_3 (by decide) (fun c2 => ?_) (fun c2 => ?_)
  · replace hD := g_pos c2 hD
    refine lv_iload C.1.1 C.1.2.1 dX19_character_10 (lv_at hl 4 rfl) ?_
    refine lv_bipush (v := 8) C.1.1 C.1.2.1 dX19_character_12 (by decide) ?_
    refine lv_icmp_ge (tgt := 21) C.1.1 C.1.2.1 dX19_character_14 (by decide) (fun c3 => ?_) (fun c3 => ?_)
    · replace hD := g_pos c3 hD
      refine lv_iload C.1.1 C.1.2.1 dX19_character_21 (lv_at hl 4 rfl) ?_
      refine lv_bipush (v := 12) C.1.1 C.1.2.1 dX19_character_23 (by decide) ?_
      refine lv_icmp_ge (tgt := 32) C.1.1 C.1.2.1 dX19_character_25 (by decide) (fun c4 => ?_) (fun c4 => ?_)
      · replace hD := g_pos c4 hD
        refine lv_iload_n C.1.1 C.1.2.1 dX19_character_32 rfl (lv_at hl 3 rfl) ?_
        exact hb33 a4 M L _ _ ls hD hw (lv_sub hl [4] rfl)
      · replace hD := g_neg c4 hD
        refine lv_iload_n C.1.1 C.1.2.1 dX19_character_28 rfl (lv_at hl 2 rfl) ?_
        refine lv_goto (tgt := 33) C.1.1 C.1.2.1 dX19_character_29 (by decide) ?_
        exact hb33 a3 M L _ _ ls hD hw (lv_sub hl [4] rfl)
    · replace hD := g_neg c3 hD
      refine lv_iload_n C.1.1 C.1.2.1 dX19_character_17 rfl (lv_at hl 1 rfl) ?_
      refine lv_goto (tgt := 33) C.1.1 C.1.2.1 dX19_character_18 (by decide) ?_
      exact hb33 a2 M L _ _ ls hD hw (lv_sub hl [4] rfl)
  · replace hD := g_neg c2 hD
    refine lv_iload_n C.1.1 C.1.2.1 dX19_character_6 rfl (lv_at hl 0 rfl) ?_
    refine lv_goto (tgt := 33) C.1.1 C.1.2.1 dX19_character_7 (by decide) ?_
    exact hb33 a1 M L _ _ ls hD hw (lv_sub hl [4] rfl)

theorem dX19_chart_0 : decode cX19_chart 0 = .ok (.aload_n 0, 1) := by decide +kernel
theorem dX19_chart_1 : decode cX19_chart 1 = .ok (.aload_n 0, 1) := by decide +kernel
theorem dX19_chart_2 : decode cX19_chart 2 = .ok (.iload_n 1, 1) := by decide +kernel
theorem dX19_chart_3 : decode cX19_chart 3 = .ok (.invokevirtual 832, 3) := by decide +kernel
theorem dX19_chart_6 : decode cX19_chart 6 = .ok (.ifCond .eq 7, 3) := by decide +kernel
theorem dX19_chart_9 : decode cX19_chart 9 = .ok (.iconst 1, 1) := by decide +kernel
theorem dX19_chart_10 : decode cX19_chart 10 = .ok (.goto 18, 3) := by decide +kernel
theorem dX19_chart_13 : decode cX19_chart 13 = .ok (.iload_n 2, 1) := by decide +kernel
theorem dX19_chart_14 : decode cX19_chart 14 = .ok (.ifCond .lt 9, 3) := by decide +kernel
theorem dX19_chart_17 : decode cX19_chart 17 = .ok (.iload_n 2, 1) := by decide +kernel
theorem dX19_chart_18 : decode cX19_chart 18 = .ok (.bipush 7, 2) := by decide +kernel
theorem dX19_chart_20 : decode cX19_chart 20 = .ok (.if_icmp .le 7, 3) := by decide +kernel
theorem dX19_chart_23 : decode cX19_chart 23 = .ok (.iconst 2, 1) := by decide +kernel
theorem dX19_chart_24 : decode cX19_chart 24 = .ok (.goto 4, 3) := by decide +kernel
theorem dX19_chart_27 : decode cX19_chart 27 = .ok (.iconst 0, 1) := by decide +kernel
theorem dX19_chart_28 : decode cX19_chart 28 = .ok (.putfield 289, 3) := by decide +kernel
theorem dX19_chart_31 : decode cX19_chart 31 = .ok (.aload_n 0, 1) := by decide +kernel
theorem dX19_chart_32 : decode cX19_chart 32 = .ok (.getfield 289, 3) := by decide +kernel
theorem dX19_chart_35 : decode cX19_chart 35 = .ok (.ifCond .le 5, 3) := by decide +kernel
theorem dX19_chart_38 : decode cX19_chart 38 = .ok (.iconst 0, 1) := by decide +kernel
theorem dX19_chart_39 : decode cX19_chart 39 = .ok (.ireturn, 1) := by decide +kernel
theorem dX19_chart_40 : decode cX19_chart 40 = .ok (.iload_n 2, 1) := by decide +kernel
theorem dX19_chart_41 : decode cX19_chart 41 = .ok (.iconst 3, 1) := by decide +kernel
theorem dX19_chart_42 : decode cX19_chart 42 = .ok (.if_icmp .ge 40, 3) := by decide +kernel
theorem dX19_chart_45 : decode cX19_chart 45 = .ok (.iload_n 2, 1) := by decide +kernel
theorem dX19_chart_46 : decode cX19_chart 46 = .ok (.ifCond .ne 15, 3) := by decide +kernel
theorem dX19_chart_49 : decode cX19_chart 49 = .ok (.aload_n 0, 1) := by decide +kernel
theorem dX19_chart_50 : decode cX19_chart 50 = .ok (.getfield 217, 3) := by decide +kernel
theorem dX19_chart_53 : decode cX19_chart 53 = .ok (.iload_n 1, 1) := by decide +kernel
theorem dX19_chart_54 : decode cX19_chart 54 = .ok (.aaload, 1) := by decide +kernel
theorem dX19_chart_55 : decode cX19_chart 55 = .ok (.invokevirtual 838, 3) := by decide +kernel
theorem dX19_chart_58 : decode cX19_chart 58 = .ok (.goto 23, 3) := by decide +kernel
theorem dX19_chart_61 : decode cX19_chart 61 = .ok (.iload_n 2, 1) := by decide +kernel
theorem dX19_chart_62 : decode cX19_chart 62 = .ok (.iconst 1, 1) := by decide +kernel
theorem dX19_chart_63 : decode cX19_chart 63 = .ok (.if_icmp .ne 12, 3) := by decide +kernel
theorem dX19_chart_66 : decode cX19_chart 66 = .ok (.aload_n 0, 1) := by decide +kernel
theorem dX19_chart_67 : decode cX19_chart 67 = .ok (.getfield 67, 3) := by decide +kernel
theorem dX19_chart_70 : decode cX19_chart 70 = .ok (.iload_n 1, 1) := by decide +kernel
theorem dX19_chart_71 : decode cX19_chart 71 = .ok (.iaload, 1) := by decide +kernel
theorem dX19_chart_72 : decode cX19_chart 72 = .ok (.goto 9, 3) := by decide +kernel
theorem dX19_chart_75 : decode cX19_chart 75 = .ok (.aload_n 0, 1) := by decide +kernel
theorem dX19_chart_76 : decode cX19_chart 76 = .ok (.getfield 64, 3) := by decide +kernel
theorem dX19_chart_79 : decode cX19_chart 79 = .ok (.iload_n 1, 1) := by decide +kernel
theorem dX19_chart_80 : decode cX19_chart 80 = .ok (.iaload, 1) := by decide +kernel
theorem dX19_chart_81 : decode cX19_chart 81 = .ok (.ireturn, 1) := by decide +kernel
theorem dX19_chart_82 : decode cX19_chart 82 = .ok (.aload_n 0, 1) := by decide +kernel
theorem dX19_chart_83 : decode cX19_chart 83 = .ok (.getfield 217, 3) := by decide +kernel
theorem dX19_chart_86 : decode cX19_chart 86 = .ok (.iload_n 1, 1) := by decide +kernel
theorem dX19_chart_87 : decode cX19_chart 87 = .ok (.aaload, 1) := by decide +kernel
theorem dX19_chart_88 : decode cX19_chart 88 = .ok (.iload_n 2, 1) := by decide +kernel
theorem dX19_chart_89 : decode cX19_chart 89 = .ok (.iconst 3, 1) := by decide +kernel
theorem dX19_chart_90 : decode cX19_chart 90 = .ok (.isub, 1) := by decide +kernel
theorem dX19_chart_91 : decode cX19_chart 91 = .ok (.invokevirtual 841, 3) := by decide +kernel
theorem dX19_chart_94 : decode cX19_chart 94 = .ok (.ireturn, 1) := by decide +kernel
theorem cwX19_chart : mw_cwV yX19_chart cX19_chart 3 ((some .int)) 2 := ⟨⟨wd_13, wd_4285, by decide +kernel⟩, wd_4283, wd_4284⟩
noncomputable def fX19_chart_b81 (fu : Nat) (a1 : Int32) (a2 : Int32) (s0 : Int32) (M : mwM) (L : mwL) : Option (Int32 × mwM × mwL) :=
  some (s0, M, L)
noncomputable def fX19_chart_b28 (fu : Nat) (a1 : Int32) (a2 : Int32) (s1 : Int32) (M : mwM) (L : mwL) : Option (Int32 × mwM × mwL) :=
  mlet (mset M 732 0 s1) (fun M1 => (if (M1 732 0) ≤ 0 then (if 3 ≤ a2 then mck a1 12 (none) else (if a2 = 0 then mck a1 12 (none) else (if a2 = 1 then mck a1 12 (fX19_chart_b81 fu a1 a2 (M1 752 a1.toNatClampNeg) M1 L) else mck a1 12 (fX19_chart_b81 fu a1 a2 (M1 751 a1.toNatClampNeg) M1 L)))) else some (0, M1, L)))
noncomputable def fX19_chart_b23 (fu : Nat) (a1 : Int32) (a2 : Int32) (M : mwM) (L : mwL) : Option (Int32 × mwM × mwL) :=
  fX19_chart_b28 fu a1 a2 2 M L
noncomputable def DX19_chart (fu : Nat) (a1 : Int32) (a2 : Int32) (M : mwM) (L : mwL) : Option (Int32 × mwM × mwL) :=
  mb3 (DX19_noChart fu a1 M L) (fun r12 M10 L11 => (if r12 = 0 then (if a2 < 0 then fX19_chart_b23 fu a1 a2 M10 L11 else (if a2 ≤ 7 then fX19_chart_b28 fu a1 a2 0 M10 L11 else fX19_chart_b23 fu a1 a2 M10 L11)) else fX19_chart_b28 fu a1 a2 1 M10 L11))
set_option maxHeartbeats 4000000 in
set_option maxRecDepth 100000 in
theorem tX19_chart (l : Launch) (G : mwG) (ad : Nat → Nat) (fu : Nat) (a1 : Int32) (a2 : Int32) (M : mwM) (L : mwL) {r0 : Int32} {M0 : mwM} {L0 : mwL} (hD : DX19_chart fu a1 a2 M L = some (r0, M0, L0)) : Met l yX19_chart (Cond.code yX19_chart cX19_chart 3 ((some .int)) :: GT) ({ frames := 1, cells := 0, slots := 0, locals := 21 }) (mw_Pre G ad NF TF FF M L [.ref (ad 732), .int a1, .int a2]) (mw_Qi G ad NF TF FF (mw_eqI r0 M0 L0)) 0 0 (mw_fr G) := by
  refine mw_enter (by decide) (Nat.le_of_ble_eq_true rfl) ?_
  intro p e s m below meth c ls C hr hlocks hnm hw hl
  have hl : lv_has ls 3 [(0, .ref (ad 732)), (1, .int a1), (2, .int a2)] := hl
  have hb81 : ∀ (s0 : Int32) (M : mwM) (L : mwL) (H : Heap) (locs : List Loc) (ls : Array Slot), fX19_chart_b81 fu a1 a2 s0 M L = some (r0, M0, L0) → mw_W G ad NF TF FF M L H locs → lv_has ls 3 [] → W p l e ({ frames := 1, cells := 0, slots := 0, locals := 21 }) s m [.ref (ad 732), .int a1, .int a2].toArray below meth c H locs 0 0 (MQ below (mw_Qi G ad NF TF FF (mw_eqI r0 M0 L0)) [.ref (ad 732), .int a1, .int a2].toArray s 0 0 (mw_fr G)) (F0 m 81 ls [.int s0]) := by
    intro s0 M L H locs ls hD hw hl
    unfold fX19_chart_b81 at hD
    exact mr_iret C hr hlocks hw rfl (Option.some.inj hD) dX19_chart_81
  have hb28 : ∀ (s1 : Int32) (M : mwM) (L : mwL) (H : Heap) (locs : List Loc) (ls : Array Slot), fX19_chart_b28 fu a1 a2 s1 M L = some (r0, M0, L0) → mw_W G ad NF TF FF M L H locs → lv_has ls 3 [(0, .ref (ad 732)), (1, .int a1), (2, .int a2)] → W p l e ({ frames := 1, cells := 0, slots := 0, locals := 21 }) s m [.ref (ad 732), .int a1, .int a2].toArray below meth c H locs 0 0 (MQ below (mw_Qi G ad NF TF FF (mw_eqI r0 M0 L0)) [.ref (ad 732), .int a1, .int a2].toArray s 0 0 (mw_fr G)) (F0 m 28 ls [.int s1, .ref (ad 732)]) := by
    intro s1 M L H locs ls hD hw hl
    unfold fX19_chart_b28 at hD
    obtain ⟨M1, eM1, hD⟩ := g_let hD
    refine mr_putI C hw kc_19 0 (by decide) tf_732 wd_2781 dX19_chart_28 (by decide) rfl rfl rfl rfl (fun H locs hw => ?_)
    replace hw : mw_W G ad NF TF FF M1 L H locs := by rw [eM1]; exact hw
    refine lv_aload_n C.1.1 C.1.2.1 dX19_chart_31 rfl (lv_at hl 0 rfl) ?_
    refine mr_getI C hw kc_19 0 (by decide) tf_732 wd_2781 dX19_chart_32 (by decide) rfl ?_
    refine lv_if_le (tgt := 40) C.1.1 C.1.2.1 dX19_chart_35 (by decide) (fun c2 => ?_) (fun c2 => ?_)
    · replace hD := g_pos c2 hD
      refine lv_iload_n C.1.1 C.1.2.1 dX19_chart_40 rfl (lv_at hl 2 rfl) ?_
      refine lv_iconst (v := 3) C.1.1 C.1.2.1 dX19_chart_41 (by decide) ?_
      refine lv_icmp_ge (tgt := 82) C.1.1 C.1.2.1 dX19_chart_42 (by decide) (fun c3 => ?_) (fun c3 => ?_)
      · replace hD := g_pos c3 hD
        refine lv_aload_n C.1.1 C.1.2.1 dX19_chart_82 rfl (lv_at hl 0 rfl) ?_
        refine mr_getR C hw kc_19 82 (by decide) tf_732 ff_732_82 wd_2863 dX19_chart_83 (by decide) rfl ?_
        refine lv_iload_n C.1.1 C.1.2.1 dX19_chart_86 rfl (lv_at hl 1 rfl) ?_
        obtain ⟨q4, hD⟩ := g_ck hD
        refine mr_aald C hw (by decide) tf_922 (by decide) (by decide) rfl rfl q4 (fr_922 _ (g_lt q4)) dX19_chart_87 ?_
        refine lv_iload_n C.1.1 C.1.2.1 dX19_chart_88 rfl (lv_at hl 2 rfl) ?_
        refine lv_iconst (v := 3) C.1.1 C.1.2.1 dX19_chart_89 (by decide) ?_
        refine lv_isub C.1.1 C.1.2.1 dX19_chart_90 ?_
        cases hD
      · replace hD := g_neg c3 hD
        refine lv_iload_n C.1.1 C.1.2.1 dX19_chart_45 rfl (lv_at hl 2 rfl) ?_
        refine lv_if_ne (tgt := 61) C.1.1 C.1.2.1 dX19_chart_46 (by decide) (fun c5 => ?_) (fun c5 => ?_)
        · replace hD := g_neg c5 hD
          refine lv_iload_n C.1.1 C.1.2.1 dX19_chart_61 rfl (lv_at hl 2 rfl) ?_
          refine lv_iconst (v := 1) C.1.1 C.1.2.1 dX19_chart_62 (by decide) ?_
          refine lv_icmp_ne (tgt := 75) C.1.1 C.1.2.1 dX19_chart_63 (by decide) (fun c6 => ?_) (fun c6 => ?_)
          · replace hD := g_neg c6 hD
            refine lv_aload_n C.1.1 C.1.2.1 dX19_chart_75 rfl (lv_at hl 0 rfl) ?_
            refine mr_getR C hw kc_19 36 (by decide) tf_732 ff_732_36 wd_2817 dX19_chart_76 (by decide) rfl ?_
            refine lv_iload_n C.1.1 C.1.2.1 dX19_chart_79 rfl (lv_at hl 1 rfl) ?_
            obtain ⟨q7, hD⟩ := g_ck hD
            refine mr_iald C hw (by decide) tf_751 q7 dX19_chart_80 ?_
            exact hb81 (M1 751 a1.toNatClampNeg) M1 L _ _ ls hD hw (lv_sub hl [] rfl)
          · replace hD := g_pos c6 hD
            refine lv_aload_n C.1.1 C.1.2.1 dX19_chart_66 rfl (lv_at hl 0 rfl) ?_
            refine mr_getR C hw kc_19 37 (by decide) tf_732 ff_732_37 wd_2818 dX19_chart_67 (by decide) rfl ?_
            refine lv_iload_n C.1.1 C.1.2.1 dX19_chart_70 rfl (lv_at hl 1 rfl) ?_
            obtain ⟨q8, hD⟩ := g_ck hD
            refine mr_iald C hw (by decide) tf_752 q8 dX19_chart_71 ?_
            refine lv_goto (tgt := 81) C.1.1 C.1.2.1 dX19_chart_72 (by decide) ?_
            exact hb81 (M1 752 a1.toNatClampNeg) M1 L _ _ ls hD hw (lv_sub hl [] rfl)
        · replace hD := g_pos c5 hD
          refine lv_aload_n C.1.1 C.1.2.1 dX19_chart_49 rfl (lv_at hl 0 rfl) ?_
          refine mr_getR C hw kc_19 82 (by decide) tf_732 ff_732_82 wd_2863 dX19_chart_50 (by decide) rfl ?_
          refine lv_iload_n C.1.1 C.1.2.1 dX19_chart_53 rfl (lv_at hl 1 rfl) ?_
          obtain ⟨q9, hD⟩ := g_ck hD
          refine mr_aald C hw (by decide) tf_922 (by decide) (by decide) rfl rfl q9 (fr_922 _ (g_lt q9)) dX19_chart_54 ?_
          cases hD
    · replace hD := g_neg c2 hD
      refine lv_iconst (v := 0) C.1.1 C.1.2.1 dX19_chart_38 (by decide) ?_
      exact mr_iret C hr hlocks hw rfl (Option.some.inj hD) dX19_chart_39
  have hb23 : ∀ (M : mwM) (L : mwL) (H : Heap) (locs : List Loc) (ls : Array Slot), fX19_chart_b23 fu a1 a2 M L = some (r0, M0, L0) → mw_W G ad NF TF FF M L H locs → lv_has ls 3 [(0, .ref (ad 732)), (1, .int a1), (2, .int a2)] → W p l e ({ frames := 1, cells := 0, slots := 0, locals := 21 }) s m [.ref (ad 732), .int a1, .int a2].toArray below meth c H locs 0 0 (MQ below (mw_Qi G ad NF TF FF (mw_eqI r0 M0 L0)) [.ref (ad 732), .int a1, .int a2].toArray s 0 0 (mw_fr G)) (F0 m 23 ls [.ref (ad 732)]) := by
    intro M L H locs ls hD hw hl
    unfold fX19_chart_b23 at hD
    refine lv_iconst (v := 2) C.1.1 C.1.2.1 dX19_chart_23 (by decide) ?_
    refine lv_goto (tgt := 28) C.1.1 C.1.2.1 dX19_chart_24 (by decide) ?_
    exact hb28 2 M L _ _ ls hD hw (lv_sub hl [0, 1, 2] rfl)
  unfold DX19_chart at hD
  refine lv_aload_n C.1.1 C.1.2.1 dX19_chart_0 rfl (lv_at hl 0 rfl) ?_
  refine lv_aload_n C.1.1 C.1.2.1 dX19_chart_1 rfl (lv_at hl 0 rfl) ?_
  refine lv_iload_n C.1.1 C.1.2.1 dX19_chart_2 rfl (lv_at hl 1 rfl) ?_
  obtain ⟨r12, M10, L11, h1, hD⟩ := g_b3 hD
  refine md_cvI (As := [.int a1]) (rest := [.ref (ad 732)]) C hw (tX19_noChart l G ad fu a1 M L h1) kc_19 (by decide) tf_732 wd_4270 cwX19_noChart ⟨Nat.le_of_ble_eq_true rfl, Nat.le_of_ble_eq_true rfl⟩ rfl hl.1 (Nat.le_of_ble_eq_true rfl) dX19_chart_3 rfl rfl ⟨Nat.zero_le _, Nat.zero_le _⟩ rfl (fun H locs hw => ?_)
  refine lv_if_eq (tgt := 13) C.1.1 C.1.2.1 dX19_chart_6 (by decide) (fun c13 => ?_) (fun c13 => ?_)
  · replace hD := g_pos c13 hD
    refine lv_iload_n C.1.1 C.1.2.1 dX19_chart_13 rfl (lv_at hl 2 rfl) ?_
    refine lv_if_lt (tgt := 23) C.1.1 C.1.2.1 dX19_chart_14 (by decide) (fun c14 => ?_) (fun c14 => ?_)
    · replace hD := g_pos c14 hD
      exact hb23 M10 L11 _ _ ls hD hw (lv_sub hl [0, 1, 2] rfl)
    · replace hD := g_neg c14 hD
      refine lv_iload_n C.1.1 C.1.2.1 dX19_chart_17 rfl (lv_at hl 2 rfl) ?_
      refine lv_bipush (v := 7) C.1.1 C.1.2.1 dX19_chart_18 (by decide) ?_
      refine lv_icmp_le (tgt := 27) C.1.1 C.1.2.1 dX19_chart_20 (by decide) (fun c15 => ?_) (fun c15 => ?_)
      · replace hD := g_pos c15 hD
        refine lv_iconst (v := 0) C.1.1 C.1.2.1 dX19_chart_27 (by decide) ?_
        exact hb28 0 M10 L11 _ _ ls hD hw (lv_sub hl [0, 1, 2] rfl)
      · replace hD := g_neg c15 hD
        exact hb23 M10 L11 _ _ ls hD hw (lv_sub hl [0, 1, 2] rfl)
  · replace hD := g_neg c13 hD
    refine lv_iconst (v := 1) C.1.1 C.1.2.1 dX19_chart_9 (by decide) ?_
    refine lv_goto (tgt := 28) C.1.1 C.1.2.1 dX19_chart_10 (by decide) ?_
    exact hb28 1 M10 L11 _ _ ls hD hw (lv_sub hl [0, 1, 2] rfl)

theorem dX19_count_0 : decode cX19_count 0 = .ok (.aload_n 0, 1) := by decide +kernel
theorem dX19_count_1 : decode cX19_count 1 = .ok (.iload_n 1, 1) := by decide +kernel
theorem dX19_count_2 : decode cX19_count 2 = .ok (.ifCond .lt 9, 3) := by decide +kernel
theorem dX19_count_5 : decode cX19_count 5 = .ok (.iload_n 1, 1) := by decide +kernel
theorem dX19_count_6 : decode cX19_count 6 = .ok (.bipush 6, 2) := by decide +kernel
theorem dX19_count_8 : decode cX19_count 8 = .ok (.if_icmp .le 7, 3) := by decide +kernel
theorem dX19_count_11 : decode cX19_count 11 = .ok (.iconst 1, 1) := by decide +kernel
theorem dX19_count_12 : decode cX19_count 12 = .ok (.goto 15, 3) := by decide +kernel
theorem dX19_count_15 : decode cX19_count 15 = .ok (.aload_n 0, 1) := by decide +kernel
theorem dX19_count_16 : decode cX19_count 16 = .ok (.getfield 630, 3) := by decide +kernel
theorem dX19_count_19 : decode cX19_count 19 = .ok (.ifCond .ne 7, 3) := by decide +kernel
theorem dX19_count_22 : decode cX19_count 22 = .ok (.iconst 2, 1) := by decide +kernel
theorem dX19_count_23 : decode cX19_count 23 = .ok (.goto 4, 3) := by decide +kernel
theorem dX19_count_26 : decode cX19_count 26 = .ok (.iconst 0, 1) := by decide +kernel
theorem dX19_count_27 : decode cX19_count 27 = .ok (.putfield 289, 3) := by decide +kernel
theorem dX19_count_30 : decode cX19_count 30 = .ok (.aload_n 0, 1) := by decide +kernel
theorem dX19_count_31 : decode cX19_count 31 = .ok (.getfield 289, 3) := by decide +kernel
theorem dX19_count_34 : decode cX19_count 34 = .ok (.ifCond .le 5, 3) := by decide +kernel
theorem dX19_count_37 : decode cX19_count 37 = .ok (.iconst 0, 1) := by decide +kernel
theorem dX19_count_38 : decode cX19_count 38 = .ok (.ireturn, 1) := by decide +kernel
theorem dX19_count_39 : decode cX19_count 39 = .ok (.iload_n 1, 1) := by decide +kernel
theorem dX19_count_40 : decode cX19_count 40 = .ok (.iconst 2, 1) := by decide +kernel
theorem dX19_count_41 : decode cX19_count 41 = .ok (.if_icmp .ge 19, 3) := by decide +kernel
theorem dX19_count_44 : decode cX19_count 44 = .ok (.iload_n 1, 1) := by decide +kernel
theorem dX19_count_45 : decode cX19_count 45 = .ok (.ifCond .ne 10, 3) := by decide +kernel
theorem dX19_count_48 : decode cX19_count 48 = .ok (.aload_n 0, 1) := by decide +kernel
theorem dX19_count_49 : decode cX19_count 49 = .ok (.getfield 435, 3) := by decide +kernel
theorem dX19_count_52 : decode cX19_count 52 = .ok (.goto 7, 3) := by decide +kernel
theorem dX19_count_55 : decode cX19_count 55 = .ok (.aload_n 0, 1) := by decide +kernel
theorem dX19_count_56 : decode cX19_count 56 = .ok (.getfield 448, 3) := by decide +kernel
theorem dX19_count_59 : decode cX19_count 59 = .ok (.ireturn, 1) := by decide +kernel
theorem dX19_count_60 : decode cX19_count 60 = .ok (.iload_n 1, 1) := by decide +kernel
theorem dX19_count_61 : decode cX19_count 61 = .ok (.iconst 4, 1) := by decide +kernel
theorem dX19_count_62 : decode cX19_count 62 = .ok (.if_icmp .ge 20, 3) := by decide +kernel
theorem dX19_count_65 : decode cX19_count 65 = .ok (.iload_n 1, 1) := by decide +kernel
theorem dX19_count_66 : decode cX19_count 66 = .ok (.iconst 2, 1) := by decide +kernel
theorem dX19_count_67 : decode cX19_count 67 = .ok (.if_icmp .ne 10, 3) := by decide +kernel
theorem dX19_count_70 : decode cX19_count 70 = .ok (.aload_n 0, 1) := by decide +kernel
theorem dX19_count_71 : decode cX19_count 71 = .ok (.getfield 456, 3) := by decide +kernel
theorem dX19_count_74 : decode cX19_count 74 = .ok (.goto 7, 3) := by decide +kernel
theorem dX19_count_77 : decode cX19_count 77 = .ok (.aload_n 0, 1) := by decide +kernel
theorem dX19_count_78 : decode cX19_count 78 = .ok (.getfield 541, 3) := by decide +kernel
theorem dX19_count_81 : decode cX19_count 81 = .ok (.ireturn, 1) := by decide +kernel
theorem dX19_count_82 : decode cX19_count 82 = .ok (.iload_n 1, 1) := by decide +kernel
theorem dX19_count_83 : decode cX19_count 83 = .ok (.iconst 4, 1) := by decide +kernel
theorem dX19_count_84 : decode cX19_count 84 = .ok (.if_icmp .ne 10, 3) := by decide +kernel
theorem dX19_count_87 : decode cX19_count 87 = .ok (.aload_n 0, 1) := by decide +kernel
theorem dX19_count_88 : decode cX19_count 88 = .ok (.getfield 568, 3) := by decide +kernel
theorem dX19_count_91 : decode cX19_count 91 = .ok (.goto 19, 3) := by decide +kernel
theorem dX19_count_94 : decode cX19_count 94 = .ok (.iload_n 1, 1) := by decide +kernel
theorem dX19_count_95 : decode cX19_count 95 = .ok (.iconst 5, 1) := by decide +kernel
theorem dX19_count_96 : decode cX19_count 96 = .ok (.if_icmp .ne 10, 3) := by decide +kernel
theorem dX19_count_99 : decode cX19_count 99 = .ok (.aload_n 0, 1) := by decide +kernel
theorem dX19_count_100 : decode cX19_count 100 = .ok (.getfield 555, 3) := by decide +kernel
theorem dX19_count_103 : decode cX19_count 103 = .ok (.goto 7, 3) := by decide +kernel
theorem dX19_count_106 : decode cX19_count 106 = .ok (.aload_n 0, 1) := by decide +kernel
theorem dX19_count_107 : decode cX19_count 107 = .ok (.getfield 558, 3) := by decide +kernel
theorem dX19_count_110 : decode cX19_count 110 = .ok (.ireturn, 1) := by decide +kernel
theorem cwX19_count : mw_cwV yX19_count cX19_count 2 ((some .int)) 1 := ⟨⟨wd_13, wd_4193, by decide +kernel⟩, wd_4191, wd_4192⟩
noncomputable def fX19_count_b110 (fu : Nat) (a1 : Int32) (s0 : Int32) (M : mwM) (L : mwL) : Option (Int32 × mwM × mwL) :=
  some (s0, M, L)
noncomputable def fX19_count_b81 (fu : Nat) (a1 : Int32) (s0 : Int32) (M : mwM) (L : mwL) : Option (Int32 × mwM × mwL) :=
  some (s0, M, L)
noncomputable def fX19_count_b59 (fu : Nat) (a1 : Int32) (s0 : Int32) (M : mwM) (L : mwL) : Option (Int32 × mwM × mwL) :=
  some (s0, M, L)
noncomputable def fX19_count_b27 (fu : Nat) (a1 : Int32) (s1 : Int32) (M : mwM) (L : mwL) : Option (Int32 × mwM × mwL) :=
  mlet (mset M 732 0 s1) (fun M1 => (if (M1 732 0) ≤ 0 then (if 2 ≤ a1 then (if 4 ≤ a1 then (if a1 = 4 then fX19_count_b110 fu a1 (M1 732 67) M1 L else (if a1 = 5 then fX19_count_b110 fu a1 (M1 732 55) M1 L else fX19_count_b110 fu a1 (M1 732 62) M1 L)) else (if a1 = 2 then fX19_count_b81 fu a1 (M1 732 33) M1 L else fX19_count_b81 fu a1 (M1 732 45) M1 L)) else (if a1 = 0 then fX19_count_b59 fu a1 (M1 732 19) M1 L else fX19_count_b59 fu a1 (M1 732 24) M1 L)) else some (0, M1, L)))
noncomputable def fX19_count_b11 (fu : Nat) (a1 : Int32) (M : mwM) (L : mwL) : Option (Int32 × mwM × mwL) :=
  fX19_count_b27 fu a1 1 M L
noncomputable def DX19_count (fu : Nat) (a1 : Int32) (M : mwM) (L : mwL) : Option (Int32 × mwM × mwL) :=
  (if a1 < 0 then fX19_count_b11 fu a1 M L else (if a1 ≤ 6 then (if (M 732 4) = 0 then fX19_count_b27 fu a1 2 M L else fX19_count_b27 fu a1 0 M L) else fX19_count_b11 fu a1 M L))
set_option maxHeartbeats 4000000 in
set_option maxRecDepth 100000 in
theorem tX19_count (l : Launch) (G : mwG) (ad : Nat → Nat) (fu : Nat) (a1 : Int32) (M : mwM) (L : mwL) {r0 : Int32} {M0 : mwM} {L0 : mwL} (hD : DX19_count fu a1 M L = some (r0, M0, L0)) : Met l yX19_count (Cond.code yX19_count cX19_count 2 ((some .int)) :: GT) ({ frames := 0, cells := 0, slots := 0, locals := 0 }) (mw_Pre G ad NF TF FF M L [.ref (ad 732), .int a1]) (mw_Qi G ad NF TF FF (mw_eqI r0 M0 L0)) 0 0 (mw_fr G) := by
  refine mw_enter (by decide) (Nat.le_of_ble_eq_true rfl) ?_
  intro p e s m below meth c ls C hr hlocks hnm hw hl
  have hl : lv_has ls 2 [(0, .ref (ad 732)), (1, .int a1)] := hl
  have hb110 : ∀ (s0 : Int32) (M : mwM) (L : mwL) (H : Heap) (locs : List Loc) (ls : Array Slot), fX19_count_b110 fu a1 s0 M L = some (r0, M0, L0) → mw_W G ad NF TF FF M L H locs → lv_has ls 2 [] → W p l e ({ frames := 0, cells := 0, slots := 0, locals := 0 }) s m [.ref (ad 732), .int a1].toArray below meth c H locs 0 0 (MQ below (mw_Qi G ad NF TF FF (mw_eqI r0 M0 L0)) [.ref (ad 732), .int a1].toArray s 0 0 (mw_fr G)) (F0 m 110 ls [.int s0]) := by
    intro s0 M L H locs ls hD hw hl
    unfold fX19_count_b110 at hD
    exact mr_iret C hr hlocks hw rfl (Option.some.inj hD) dX19_count_110
  have hb81 : ∀ (s0 : Int32) (M : mwM) (L : mwL) (H : Heap) (locs : List Loc) (ls : Array Slot), fX19_count_b81 fu a1 s0 M L = some (r0, M0, L0) → mw_W G ad NF TF FF M L H locs → lv_has ls 2 [] → W p l e ({ frames := 0, cells := 0, slots := 0, locals := 0 }) s m [.ref (ad 732), .int a1].toArray below meth c H locs 0 0 (MQ below (mw_Qi G ad NF TF FF (mw_eqI r0 M0 L0)) [.ref (ad 732), .int a1].toArray s 0 0 (mw_fr G)) (F0 m 81 ls [.int s0]) := by
    intro s0 M L H locs ls hD hw hl
    unfold fX19_count_b81 at hD
    exact mr_iret C hr hlocks hw rfl (Option.some.inj hD) dX19_count_81
  have hb59 : ∀ (s0 : Int32) (M : mwM) (L : mwL) (H : Heap) (locs : List Loc) (ls : Array Slot), fX19_count_b59 fu a1 s0 M L = some (r0, M0, L0) → mw_W G ad NF TF FF M L H locs → lv_has ls 2 [] → W p l e ({ frames := 0, cells := 0, slots := 0, locals := 0 }) s m [.ref (ad 732), .int a1].toArray below meth c H locs 0 0 (MQ below (mw_Qi G ad NF TF FF (mw_eqI r0 M0 L0)) [.ref (ad 732), .int a1].toArray s 0 0 (mw_fr G)) (F0 m 59 ls [.int s0]) := by
    intro s0 M L H locs ls hD hw hl
    unfold fX19_count_b59 at hD
    exact mr_iret C hr hlocks hw rfl (Option.some.inj hD) dX19_count_59
  have hb27 : ∀ (s1 : Int32) (M : mwM) (L : mwL) (H : Heap) (locs : List Loc) (ls : Array Slot), fX19_count_b27 fu a1 s1 M L = some (r0, M0, L0) → mw_W G ad NF TF FF M L H locs → lv_has ls 2 [(0, .ref (ad 732)), (1, .int a1)] → W p l e ({ frames := 0, cells := 0, slots := 0, locals := 0 }) s m [.ref (ad 732), .int a1].toArray below meth c H locs 0 0 (MQ below (mw_Qi G ad NF TF FF (mw_eqI r0 M0 L0)) [.ref (ad 732), .int a1].toArray s 0 0 (mw_fr G)) (F0 m 27 ls [.int s1, .ref (ad 732)]) := by
    intro s1 M L H locs ls hD hw hl
    unfold fX19_count_b27 at hD
    obtain ⟨M1, eM1, hD⟩ := g_let hD
    refine mr_putI C hw kc_19 0 (by decide) tf_732 wd_2781 dX19_count_27 (by decide) rfl rfl rfl rfl (fun H locs hw => ?_)
    replace hw : mw_W G ad NF TF FF M1 L H locs := by rw [eM1]; exact hw
    refine lv_aload_n C.1.1 C.1.2.1 dX19_count_30 rfl (lv_at hl 0 rfl) ?_
    refine mr_getI C hw kc_19 0 (by decide) tf_732 wd_2781 dX19_count_31 (by decide) rfl ?_
    refine lv_if_le (tgt := 39) C.1.1 C.1.2.1 dX19_count_34 (by decide) (fun c2 => ?_) (fun c2 => ?_)
    · replace hD := g_pos c2 hD
      refine lv_iload_n C.1.1 C.1.2.1 dX19_count_39 rfl (lv_at hl 1 rfl) ?_
      refine lv_iconst (v := 2) C.1.1 C.1.2.1 dX19_count_40 (by decide) ?_
      refine lv_icmp_ge (tgt := 60) C.1.1 C.1.2.1 dX19_count_41 (by decide) (fun c3 => ?_) (fun c3 => ?_)
      · replace hD := g_pos c3 hD
        refine lv_iload_n C.1.1 C.1.2.1 dX19_count_60 rfl (lv_at hl 1 rfl) ?_
        refine lv_iconst (v := 4) C.1.1 C.1.2.1 dX19_count_61 (by decide) ?_
        refine lv_icmp_ge (tgt := 82) C.1.1 C.1.2.1 dX19_count_62 (by decide) (fun c4 => ?_) (fun c4 => ?_)
        · replace hD := g_pos c4 hD
          refine lv_iload_n C.1.1 C.1.2.1 dX19_count_82 rfl (lv_at hl 1 rfl) ?_
          refine lv_iconst (v := 4) C.1.1 C.1.2.1 dX19_count_83 (by decide) ?_
          refine lv_icmp_ne (tgt := 94) C.1.1 C.1.2.1 dX19_count_84 (by decide) (fun c5 => ?_) (fun c5 => ?_)
          · replace hD := g_neg c5 hD
            refine lv_iload_n C.1.1 C.1.2.1 dX19_count_94 rfl (lv_at hl 1 rfl) ?_
            refine lv_iconst (v := 5) C.1.1 C.1.2.1 dX19_count_95 (by decide) ?_
            refine lv_icmp_ne (tgt := 106) C.1.1 C.1.2.1 dX19_count_96 (by decide) (fun c6 => ?_) (fun c6 => ?_)
            · replace hD := g_neg c6 hD
              refine lv_aload_n C.1.1 C.1.2.1 dX19_count_106 rfl (lv_at hl 0 rfl) ?_
              refine mr_getI C hw kc_19 62 (by decide) tf_732 wd_2843 dX19_count_107 (by decide) rfl ?_
              exact hb110 (M1 732 62) M1 L _ _ ls hD hw (lv_sub hl [] rfl)
            · replace hD := g_pos c6 hD
              refine lv_aload_n C.1.1 C.1.2.1 dX19_count_99 rfl (lv_at hl 0 rfl) ?_
              refine mr_getI C hw kc_19 55 (by decide) tf_732 wd_2836 dX19_count_100 (by decide) rfl ?_
              refine lv_goto (tgt := 110) C.1.1 C.1.2.1 dX19_count_103 (by decide) ?_
              exact hb110 (M1 732 55) M1 L _ _ ls hD hw (lv_sub hl [] rfl)
          · replace hD := g_pos c5 hD
            refine lv_aload_n C.1.1 C.1.2.1 dX19_count_87 rfl (lv_at hl 0 rfl) ?_
            refine mr_getI C hw kc_19 67 (by decide) tf_732 wd_2848 dX19_count_88 (by decide) rfl ?_
            refine lv_goto (tgt := 110) C.1.1 C.1.2.1 dX19_count_91 (by decide) ?_
            exact hb110 (M1 732 67) M1 L _ _ ls hD hw (lv_sub hl [] rfl)
        · replace hD := g_neg c4 hD
          refine lv_iload_n C.1.1 C.1.2.1 dX19_count_65 rfl (lv_at hl 1 rfl) ?_
          refine lv_iconst (v := 2) C.1.1 C.1.2.1 dX19_count_66 (by decide) ?_
          refine lv_icmp_ne (tgt := 77) C.1.1 C.1.2.1 dX19_count_67 (by decide) (fun c7 => ?_) (fun c7 => ?_)
          · replace hD := g_neg c7 hD
            refine lv_aload_n C.1.1 C.1.2.1 dX19_count_77 rfl (lv_at hl 0 rfl) ?_
            refine mr_getI C hw kc_19 45 (by decide) tf_732 wd_2826 dX19_count_78 (by decide) rfl ?_
            exact hb81 (M1 732 45) M1 L _ _ ls hD hw (lv_sub hl [] rfl)
          · replace hD := g_pos c7 hD
            refine lv_aload_n C.1.1 C.1.2.1 dX19_count_70 rfl (lv_at hl 0 rfl) ?_
            refine mr_getI C hw kc_19 33 (by decide) tf_732 wd_2814 dX19_count_71 (by decide) rfl ?_
            refine lv_goto (tgt := 81) C.1.1 C.1.2.1 dX19_count_74 (by decide) ?_
            exact hb81 (M1 732 33) M1 L _ _ ls hD hw (lv_sub hl [] rfl)
      · replace hD := g_neg c3 hD
        refine lv_iload_n C.1.1 C.1.2.1 dX19_count_44 rfl (lv_at hl 1 rfl) ?_
        refine lv_if_ne (tgt := 55) C.1.1 C.1.2.1 dX19_count_45 (by decide) (fun c8 => ?_) (fun c8 => ?_)
        · replace hD := g_neg c8 hD
          refine lv_aload_n C.1.1 C.1.2.1 dX19_count_55 rfl (lv_at hl 0 rfl) ?_
          refine mr_getI C hw kc_19 24 (by decide) tf_732 wd_2805 dX19_count_56 (by decide) rfl ?_
          exact hb59 (M1 732 24) M1 L _ _ ls hD hw (lv_sub hl [] rfl)
        · replace hD := g_pos c8 hD
          refine lv_aload_n C.1.1 C.1.2.1 dX19_count_48 rfl (lv_at hl 0 rfl) ?_
          refine mr_getI C hw kc_19 19 (by decide) tf_732 wd_2800 dX19_count_49 (by decide) rfl ?_
          refine lv_goto (tgt := 59) C.1.1 C.1.2.1 dX19_count_52 (by decide) ?_
          exact hb59 (M1 732 19) M1 L _ _ ls hD hw (lv_sub hl [] rfl)
    · replace hD := g_neg c2 hD
      refine lv_iconst (v := 0) C.1.1 C.1.2.1 dX19_count_37 (by decide) ?_
      exact mr_iret C hr hlocks hw rfl (Option.some.inj hD) dX19_count_38
  have hb11 : ∀ (M : mwM) (L : mwL) (H : Heap) (locs : List Loc) (ls : Array Slot), fX19_count_b11 fu a1 M L = some (r0, M0, L0) → mw_W G ad NF TF FF M L H locs → lv_has ls 2 [(0, .ref (ad 732)), (1, .int a1)] → W p l e ({ frames := 0, cells := 0, slots := 0, locals := 0 }) s m [.ref (ad 732), .int a1].toArray below meth c H locs 0 0 (MQ below (mw_Qi G ad NF TF FF (mw_eqI r0 M0 L0)) [.ref (ad 732), .int a1].toArray s 0 0 (mw_fr G)) (F0 m 11 ls [.ref (ad 732)]) := by
    intro M L H locs ls hD hw hl
    unfold fX19_count_b11 at hD
    refine lv_iconst (v := 1) C.1.1 C.1.2.1 dX19_count_11 (by decide) ?_
    refine lv_goto (tgt := 27) C.1.1 C.1.2.1 dX19_count_12 (by decide) ?_
    exact hb27 1 M L _ _ ls hD hw (lv_sub hl [0, 1] rfl)
  unfold DX19_count at hD
  refine lv_aload_n C.1.1 C.1.2.1 dX19_count_0 rfl (lv_at hl 0 rfl) ?_
  refine lv_iload_n C.1.1 C.1.2.1 dX19_count_1 rfl (lv_at hl 1 rfl) ?_
  refine lv_if_lt (tgt := 11) C.1.1 C.1.2.1 dX19_count_2 (by decide) (fun c9 => ?_) (fun c9 => ?_)
  · replace hD := g_pos c9 hD
    exact hb11 M L _ _ ls hD hw (lv_sub hl [0, 1] rfl)
  · replace hD := g_neg c9 hD
    refine lv_iload_n C.1.1 C.1.2.1 dX19_count_5 rfl (lv_at hl 1 rfl) ?_
    refine lv_bipush (v := 6) C.1.1 C.1.2.1 dX19_count_6 (by decide) ?_
    refine lv_icmp_le (tgt := 15) C.1.1 C.1.2.1 dX19_count_8 (by decide) (fun c10 => ?_) (fun c10 => ?_)
    · replace hD := g_pos c10 hD
      refine lv_aload_n C.1.1 C.1.2.1 dX19_count_15 rfl (lv_at hl 0 rfl) ?_
      refine mr_getI C hw kc_19 4 (by decide) tf_732 wd_2785 dX19_count_16 (by decide) rfl ?_
      refine lv_if_ne (tgt := 26) C.1.1 C.1.2.1 dX19_count_19 (by decide) (fun c11 => ?_) (fun c11 => ?_)
      · replace hD := g_neg c11 hD
        refine lv_iconst (v := 0) C.1.1 C.1.2.1 dX19_count_26 (by decide) ?_
        exact hb27 0 M L _ _ ls hD hw (lv_sub hl [0, 1] rfl)
      · replace hD := g_pos c11 hD
        refine lv_iconst (v := 2) C.1.1 C.1.2.1 dX19_count_22 (by decide) ?_
        refine lv_goto (tgt := 27) C.1.1 C.1.2.1 dX19_count_23 (by decide) ?_
        exact hb27 2 M L _ _ ls hD hw (lv_sub hl [0, 1] rfl)
    · replace hD := g_neg c10 hD
      exact hb11 M L _ _ ls hD hw (lv_sub hl [0, 1] rfl)

theorem dX19_counted_0 : decode cX19_counted 0 = .ok (.aload_n 0, 1) := by decide +kernel
theorem dX19_counted_1 : decode cX19_counted 1 = .ok (.iload_n 1, 1) := by decide +kernel
theorem dX19_counted_2 : decode cX19_counted 2 = .ok (.ifCond .lt 8, 3) := by decide +kernel
theorem dX19_counted_5 : decode cX19_counted 5 = .ok (.iload_n 1, 1) := by decide +kernel
theorem dX19_counted_6 : decode cX19_counted 6 = .ok (.iconst 4, 1) := by decide +kernel
theorem dX19_counted_7 : decode cX19_counted 7 = .ok (.if_icmp .le 7, 3) := by decide +kernel
theorem dX19_counted_10 : decode cX19_counted 10 = .ok (.iconst 1, 1) := by decide +kernel
theorem dX19_counted_11 : decode cX19_counted 11 = .ok (.goto 4, 3) := by decide +kernel
theorem dX19_counted_14 : decode cX19_counted 14 = .ok (.iconst 0, 1) := by decide +kernel
theorem dX19_counted_15 : decode cX19_counted 15 = .ok (.putfield 289, 3) := by decide +kernel
theorem dX19_counted_18 : decode cX19_counted 18 = .ok (.aload_n 0, 1) := by decide +kernel
theorem dX19_counted_19 : decode cX19_counted 19 = .ok (.getfield 289, 3) := by decide +kernel
theorem dX19_counted_22 : decode cX19_counted 22 = .ok (.ifCond .gt 10, 3) := by decide +kernel
theorem dX19_counted_25 : decode cX19_counted 25 = .ok (.aload_n 0, 1) := by decide +kernel
theorem dX19_counted_26 : decode cX19_counted 26 = .ok (.getfield 630, 3) := by decide +kernel
theorem dX19_counted_29 : decode cX19_counted 29 = .ok (.ifCond .ne 7, 3) := by decide +kernel
theorem dX19_counted_32 : decode cX19_counted 32 = .ok (.iconst 0, 1) := by decide +kernel
theorem dX19_counted_33 : decode cX19_counted 33 = .ok (.goto 9, 3) := by decide +kernel
theorem dX19_counted_36 : decode cX19_counted 36 = .ok (.aload_n 0, 1) := by decide +kernel
theorem dX19_counted_37 : decode cX19_counted 37 = .ok (.getfield 273, 3) := by decide +kernel
theorem dX19_counted_40 : decode cX19_counted 40 = .ok (.iload_n 1, 1) := by decide +kernel
theorem dX19_counted_41 : decode cX19_counted 41 = .ok (.iaload, 1) := by decide +kernel
theorem dX19_counted_42 : decode cX19_counted 42 = .ok (.ireturn, 1) := by decide +kernel
theorem cwX19_counted : mw_cwV yX19_counted cX19_counted 2 ((some .int)) 1 := ⟨⟨wd_13, wd_4317, by decide +kernel⟩, wd_4315, wd_4316⟩
noncomputable def fX19_counted_b42 (fu : Nat) (a1 : Int32) (s0 : Int32) (M : mwM) (L : mwL) : Option (Int32 × mwM × mwL) :=
  some (s0, M, L)
noncomputable def fX19_counted_b32 (fu : Nat) (a1 : Int32) (M : mwM) (L : mwL) : Option (Int32 × mwM × mwL) :=
  fX19_counted_b42 fu a1 0 M L
noncomputable def fX19_counted_b15 (fu : Nat) (a1 : Int32) (s1 : Int32) (M : mwM) (L : mwL) : Option (Int32 × mwM × mwL) :=
  mlet (mset M 732 0 s1) (fun M1 => (if 0 < (M1 732 0) then fX19_counted_b32 fu a1 M1 L else (if (M1 732 4) = 0 then fX19_counted_b32 fu a1 M1 L else mck a1 5 (fX19_counted_b42 fu a1 (M1 939 a1.toNatClampNeg) M1 L))))
noncomputable def fX19_counted_b10 (fu : Nat) (a1 : Int32) (M : mwM) (L : mwL) : Option (Int32 × mwM × mwL) :=
  fX19_counted_b15 fu a1 1 M L
noncomputable def DX19_counted (fu : Nat) (a1 : Int32) (M : mwM) (L : mwL) : Option (Int32 × mwM × mwL) :=
  (if a1 < 0 then fX19_counted_b10 fu a1 M L else (if a1 ≤ 4 then fX19_counted_b15 fu a1 0 M L else fX19_counted_b10 fu a1 M L))
set_option maxHeartbeats 4000000 in
set_option maxRecDepth 100000 in
theorem tX19_counted (l : Launch) (G : mwG) (ad : Nat → Nat) (fu : Nat) (a1 : Int32) (M : mwM) (L : mwL) {r0 : Int32} {M0 : mwM} {L0 : mwL} (hD : DX19_counted fu a1 M L = some (r0, M0, L0)) : Met l yX19_counted (Cond.code yX19_counted cX19_counted 2 ((some .int)) :: GT) ({ frames := 0, cells := 0, slots := 0, locals := 0 }) (mw_Pre G ad NF TF FF M L [.ref (ad 732), .int a1]) (mw_Qi G ad NF TF FF (mw_eqI r0 M0 L0)) 0 0 (mw_fr G) := by
  refine mw_enter (by decide) (Nat.le_of_ble_eq_true rfl) ?_
  intro p e s m below meth c ls C hr hlocks hnm hw hl
  have hl : lv_has ls 2 [(0, .ref (ad 732)), (1, .int a1)] := hl
  have hb42 : ∀ (s0 : Int32) (M : mwM) (L : mwL) (H : Heap) (locs : List Loc) (ls : Array Slot), fX19_counted_b42 fu a1 s0 M L = some (r0, M0, L0) → mw_W G ad NF TF FF M L H locs → lv_has ls 2 [] → W p l e ({ frames := 0, cells := 0, slots := 0, locals := 0 }) s m [.ref (ad 732), .int a1].toArray below meth c H locs 0 0 (MQ below (mw_Qi G ad NF TF FF (mw_eqI r0 M0 L0)) [.ref (ad 732), .int a1].toArray s 0 0 (mw_fr G)) (F0 m 42 ls [.int s0]) := by
    intro s0 M L H locs ls hD hw hl
    unfold fX19_counted_b42 at hD
    exact mr_iret C hr hlocks hw rfl (Option.some.inj hD) dX19_counted_42
  have hb32 : ∀ (M : mwM) (L : mwL) (H : Heap) (locs : List Loc) (ls : Array Slot), fX19_counted_b32 fu a1 M L = some (r0, M0, L0) → mw_W G ad NF TF FF M L H locs → lv_has ls 2 [] → W p l e ({ frames := 0, cells := 0, slots := 0, locals := 0 }) s m [.ref (ad 732), .int a1].toArray below meth c H locs 0 0 (MQ below (mw_Qi G ad NF TF FF (mw_eqI r0 M0 L0)) [.ref (ad 732), .int a1].toArray s 0 0 (mw_fr G)) (F0 m 32 ls []) := by
    intro M L H locs ls hD hw hl
    unfold fX19_counted_b32 at hD
    refine lv_iconst (v := 0) C.1.1 C.1.2.1 dX19_counted_32 (by decide) ?_
    refine lv_goto (tgt := 42) C.1.1 C.1.2.1 dX19_counted_33 (by decide) ?_
    exact hb42 0 M L _ _ ls hD hw (lv_sub hl [] rfl)
  have hb15 : ∀ (s1 : Int32) (M : mwM) (L : mwL) (H : Heap) (locs : List Loc) (ls : Array Slot), fX19_counted_b15 fu a1 s1 M L = some (r0, M0, L0) → mw_W G ad NF TF FF M L H locs → lv_has ls 2 [(0, .ref (ad 732)), (1, .int a1)] → W p l e ({ frames := 0, cells := 0, slots := 0, locals := 0 }) s m [.ref (ad 732), .int a1].toArray below meth c H locs 0 0 (MQ below (mw_Qi G ad NF TF FF (mw_eqI r0 M0 L0)) [.ref (ad 732), .int a1].toArray s 0 0 (mw_fr G)) (F0 m 15 ls [.int s1, .ref (ad 732)]) := by
    intro s1 M L H locs ls hD hw hl
    unfold fX19_counted_b15 at hD
    obtain ⟨M1, eM1, hD⟩ := g_let hD
    refine mr_putI C hw kc_19 0 (by decide) tf_732 wd_2781 dX19_counted_15 (by decide) rfl rfl rfl rfl (fun H locs hw => ?_)
    replace hw : mw_W G ad NF TF FF M1 L H locs := by rw [eM1]; exact hw
    refine lv_aload_n C.1.1 C.1.2.1 dX19_counted_18 rfl (lv_at hl 0 rfl) ?_
    refine mr_getI C hw kc_19 0 (by decide) tf_732 wd_2781 dX19_counted_19 (by decide) rfl ?_
    refine lv_if_gt (tgt := 32) C.1.1 C.1.2.1 dX19_counted_22 (by decide) (fun c2 => ?_) (fun c2 => ?_)
    · replace hD := g_pos c2 hD
      exact hb32 M1 L _ _ ls hD hw (lv_sub hl [] rfl)
    · replace hD := g_neg c2 hD
      refine lv_aload_n C.1.1 C.1.2.1 dX19_counted_25 rfl (lv_at hl 0 rfl) ?_
      refine mr_getI C hw kc_19 4 (by decide) tf_732 wd_2785 dX19_counted_26 (by decide) rfl ?_
      refine lv_if_ne (tgt := 36) C.1.1 C.1.2.1 dX19_counted_29 (by decide) (fun c3 => ?_) (fun c3 => ?_)
      · replace hD := g_neg c3 hD
        refine lv_aload_n C.1.1 C.1.2.1 dX19_counted_36 rfl (lv_at hl 0 rfl) ?_
        refine mr_getR C hw kc_19 109 (by decide) tf_732 ff_732_109 wd_2890 dX19_counted_37 (by decide) rfl ?_
        refine lv_iload_n C.1.1 C.1.2.1 dX19_counted_40 rfl (lv_at hl 1 rfl) ?_
        obtain ⟨q4, hD⟩ := g_ck hD
        refine mr_iald C hw (by decide) tf_939 q4 dX19_counted_41 ?_
        exact hb42 (M1 939 a1.toNatClampNeg) M1 L _ _ ls hD hw (lv_sub hl [] rfl)
      · replace hD := g_pos c3 hD
        exact hb32 M1 L _ _ ls hD hw (lv_sub hl [] rfl)
  have hb10 : ∀ (M : mwM) (L : mwL) (H : Heap) (locs : List Loc) (ls : Array Slot), fX19_counted_b10 fu a1 M L = some (r0, M0, L0) → mw_W G ad NF TF FF M L H locs → lv_has ls 2 [(0, .ref (ad 732)), (1, .int a1)] → W p l e ({ frames := 0, cells := 0, slots := 0, locals := 0 }) s m [.ref (ad 732), .int a1].toArray below meth c H locs 0 0 (MQ below (mw_Qi G ad NF TF FF (mw_eqI r0 M0 L0)) [.ref (ad 732), .int a1].toArray s 0 0 (mw_fr G)) (F0 m 10 ls [.ref (ad 732)]) := by
    intro M L H locs ls hD hw hl
    unfold fX19_counted_b10 at hD
    refine lv_iconst (v := 1) C.1.1 C.1.2.1 dX19_counted_10 (by decide) ?_
    refine lv_goto (tgt := 15) C.1.1 C.1.2.1 dX19_counted_11 (by decide) ?_
    exact hb15 1 M L _ _ ls hD hw (lv_sub hl [0, 1] rfl)
  unfold DX19_counted at hD
  refine lv_aload_n C.1.1 C.1.2.1 dX19_counted_0 rfl (lv_at hl 0 rfl) ?_
  refine lv_iload_n C.1.1 C.1.2.1 dX19_counted_1 rfl (lv_at hl 1 rfl) ?_
  refine lv_if_lt (tgt := 10) C.1.1 C.1.2.1 dX19_counted_2 (by decide) (fun c5 => ?_) (fun c5 => ?_)
  · replace hD := g_pos c5 hD
    exact hb10 M L _ _ ls hD hw (lv_sub hl [0, 1] rfl)
  · replace hD := g_neg c5 hD
    refine lv_iload_n C.1.1 C.1.2.1 dX19_counted_5 rfl (lv_at hl 1 rfl) ?_
    refine lv_iconst (v := 4) C.1.1 C.1.2.1 dX19_counted_6 (by decide) ?_
    refine lv_icmp_le (tgt := 14) C.1.1 C.1.2.1 dX19_counted_7 (by decide) (fun c6 => ?_) (fun c6 => ?_)
    · replace hD := g_pos c6 hD
      refine lv_iconst (v := 0) C.1.1 C.1.2.1 dX19_counted_14 (by decide) ?_
      exact hb15 0 M L _ _ ls hD hw (lv_sub hl [0, 1] rfl)
    · replace hD := g_neg c6 hD
      exact hb10 M L _ _ ls hD hw (lv_sub hl [0, 1] rfl)

theorem dX19_cut_0 : decode cX19_cut 0 = .ok (.aload_n 0, 1) := by decide +kernel
theorem dX19_cut_1 : decode cX19_cut 1 = .ok (.iload_n 1, 1) := by decide +kernel
theorem dX19_cut_2 : decode cX19_cut 2 = .ok (.ifCond .lt 11, 3) := by decide +kernel
theorem dX19_cut_5 : decode cX19_cut 5 = .ok (.iload_n 1, 1) := by decide +kernel
theorem dX19_cut_6 : decode cX19_cut 6 = .ok (.aload_n 0, 1) := by decide +kernel
theorem dX19_cut_7 : decode cX19_cut 7 = .ok (.getfield 296, 3) := by decide +kernel
theorem dX19_cut_10 : decode cX19_cut 10 = .ok (.if_icmp .le 7, 3) := by decide +kernel
theorem dX19_cut_13 : decode cX19_cut 13 = .ok (.iconst 1, 1) := by decide +kernel
theorem dX19_cut_14 : decode cX19_cut 14 = .ok (.goto 4, 3) := by decide +kernel
theorem dX19_cut_17 : decode cX19_cut 17 = .ok (.iconst 0, 1) := by decide +kernel
theorem dX19_cut_18 : decode cX19_cut 18 = .ok (.putfield 289, 3) := by decide +kernel
theorem dX19_cut_21 : decode cX19_cut 21 = .ok (.aload_n 0, 1) := by decide +kernel
theorem dX19_cut_22 : decode cX19_cut 22 = .ok (.getfield 289, 3) := by decide +kernel
theorem dX19_cut_25 : decode cX19_cut 25 = .ok (.ifCond .le 5, 3) := by decide +kernel
theorem dX19_cut_28 : decode cX19_cut 28 = .ok (.iconst 0, 1) := by decide +kernel
theorem dX19_cut_29 : decode cX19_cut 29 = .ok (.ireturn, 1) := by decide +kernel
theorem dX19_cut_30 : decode cX19_cut 30 = .ok (.aload_n 0, 1) := by decide +kernel
theorem dX19_cut_31 : decode cX19_cut 31 = .ok (.iload_n 1, 1) := by decide +kernel
theorem dX19_cut_32 : decode cX19_cut 32 = .ok (.putfield 296, 3) := by decide +kernel
theorem dX19_cut_35 : decode cX19_cut 35 = .ok (.iload_n 1, 1) := by decide +kernel
theorem dX19_cut_36 : decode cX19_cut 36 = .ok (.ireturn, 1) := by decide +kernel
theorem cwX19_cut : mw_cwV yX19_cut cX19_cut 2 ((some .int)) 1 := ⟨⟨wd_13, wd_3132, by decide +kernel⟩, wd_3130, wd_3131⟩
noncomputable def fX19_cut_b18 (fu : Nat) (a1 : Int32) (s1 : Int32) (M : mwM) (L : mwL) : Option (Int32 × mwM × mwL) :=
  mlet (mset M 732 0 s1) (fun M1 => (if (M1 732 0) ≤ 0 then mlet (mset M1 732 2 a1) (fun M3 => some (a1, M3, L)) else some (0, M1, L)))
noncomputable def fX19_cut_b13 (fu : Nat) (a1 : Int32) (M : mwM) (L : mwL) : Option (Int32 × mwM × mwL) :=
  fX19_cut_b18 fu a1 1 M L
noncomputable def DX19_cut (fu : Nat) (a1 : Int32) (M : mwM) (L : mwL) : Option (Int32 × mwM × mwL) :=
  (if a1 < 0 then fX19_cut_b13 fu a1 M L else (if a1 ≤ (M 732 2) then fX19_cut_b18 fu a1 0 M L else fX19_cut_b13 fu a1 M L))
set_option maxHeartbeats 4000000 in
set_option maxRecDepth 100000 in
theorem tX19_cut (l : Launch) (G : mwG) (ad : Nat → Nat) (fu : Nat) (a1 : Int32) (M : mwM) (L : mwL) {r0 : Int32} {M0 : mwM} {L0 : mwL} (hD : DX19_cut fu a1 M L = some (r0, M0, L0)) : Met l yX19_cut (Cond.code yX19_cut cX19_cut 2 ((some .int)) :: GT) ({ frames := 0, cells := 0, slots := 0, locals := 0 }) (mw_Pre G ad NF TF FF M L [.ref (ad 732), .int a1]) (mw_Qi G ad NF TF FF (mw_eqI r0 M0 L0)) 0 0 (mw_fr G) := by
  refine mw_enter (by decide) (Nat.le_of_ble_eq_true rfl) ?_
  intro p e s m below meth c ls C hr hlocks hnm hw hl
  have hl : lv_has ls 2 [(0, .ref (ad 732)), (1, .int a1)] := hl
  have hb18 : ∀ (s1 : Int32) (M : mwM) (L : mwL) (H : Heap) (locs : List Loc) (ls : Array Slot), fX19_cut_b18 fu a1 s1 M L = some (r0, M0, L0) → mw_W G ad NF TF FF M L H locs → lv_has ls 2 [(0, .ref (ad 732)), (1, .int a1)] → W p l e ({ frames := 0, cells := 0, slots := 0, locals := 0 }) s m [.ref (ad 732), .int a1].toArray below meth c H locs 0 0 (MQ below (mw_Qi G ad NF TF FF (mw_eqI r0 M0 L0)) [.ref (ad 732), .int a1].toArray s 0 0 (mw_fr G)) (F0 m 18 ls [.int s1, .ref (ad 732)]) := by
    intro s1 M L H locs ls hD hw hl
    unfold fX19_cut_b18 at hD
    obtain ⟨M1, eM1, hD⟩ := g_let hD
    refine mr_putI C hw kc_19 0 (by decide) tf_732 wd_2781 dX19_cut_18 (by decide) rfl rfl rfl rfl (fun H locs hw => ?_)
    replace hw : mw_W G ad NF TF FF M1 L H locs := by rw [eM1]; exact hw
    refine lv_aload_n C.1.1 C.1.2.1 dX19_cut_21 rfl (lv_at hl 0 rfl) ?_
    refine mr_getI C hw kc_19 0 (by decide) tf_732 wd_2781 dX19_cut_22 (by decide) rfl ?_
    refine lv_if_le (tgt := 30) C.1.1 C.1.2.1 dX19_cut_25 (by decide) (fun c2 => ?_) (fun c2 => ?_)
    · replace hD := g_pos c2 hD
      refine lv_aload_n C.1.1 C.1.2.1 dX19_cut_30 rfl (lv_at hl 0 rfl) ?_
      refine lv_iload_n C.1.1 C.1.2.1 dX19_cut_31 rfl (lv_at hl 1 rfl) ?_
      obtain ⟨M3, eM3, hD⟩ := g_let hD
      refine mr_putI C hw kc_19 2 (by decide) tf_732 wd_2783 dX19_cut_32 (by decide) rfl rfl rfl rfl (fun H locs hw => ?_)
      replace hw : mw_W G ad NF TF FF M3 L H locs := by rw [eM3]; exact hw
      refine lv_iload_n C.1.1 C.1.2.1 dX19_cut_35 rfl (lv_at hl 1 rfl) ?_
      exact mr_iret C hr hlocks hw rfl (Option.some.inj hD) dX19_cut_36
    · replace hD := g_neg c2 hD
      refine lv_iconst (v := 0) C.1.1 C.1.2.1 dX19_cut_28 (by decide) ?_
      exact mr_iret C hr hlocks hw rfl (Option.some.inj hD) dX19_cut_29
  have hb13 : ∀ (M : mwM) (L : mwL) (H : Heap) (locs : List Loc) (ls : Array Slot), fX19_cut_b13 fu a1 M L = some (r0, M0, L0) → mw_W G ad NF TF FF M L H locs → lv_has ls 2 [(0, .ref (ad 732)), (1, .int a1)] → W p l e ({ frames := 0, cells := 0, slots := 0, locals := 0 }) s m [.ref (ad 732), .int a1].toArray below meth c H locs 0 0 (MQ below (mw_Qi G ad NF TF FF (mw_eqI r0 M0 L0)) [.ref (ad 732), .int a1].toArray s 0 0 (mw_fr G)) (F0 m 13 ls [.ref (ad 732)]) := by
    intro M L H locs ls hD hw hl
    unfold fX19_cut_b13 at hD
    refine lv_iconst (v := 1) C.1.1 C.1.2.1 dX19_cut_13 (by decide) ?_
    refine lv_goto (tgt := 18) C.1.1 C.1.2.1 dX19_cut_14 (by decide) ?_
    exact hb18 1 M L _ _ ls hD hw (lv_sub hl [0, 1] rfl)
  unfold DX19_cut at hD
  refine lv_aload_n C.1.1 C.1.2.1 dX19_cut_0 rfl (lv_at hl 0 rfl) ?_
  refine lv_iload_n C.1.1 C.1.2.1 dX19_cut_1 rfl (lv_at hl 1 rfl) ?_
  refine lv_if_lt (tgt := 13) C.1.1 C.1.2.1 dX19_cut_2 (by decide) (fun c4 => ?_) (fun c4 => ?_)
  · replace hD := g_pos c4 hD
    exact hb13 M L _ _ ls hD hw (lv_sub hl [0, 1] rfl)
  · replace hD := g_neg c4 hD
    refine lv_iload_n C.1.1 C.1.2.1 dX19_cut_5 rfl (lv_at hl 1 rfl) ?_
    refine lv_aload_n C.1.1 C.1.2.1 dX19_cut_6 rfl (lv_at hl 0 rfl) ?_
    refine mr_getI C hw kc_19 2 (by decide) tf_732 wd_2783 dX19_cut_7 (by decide) rfl ?_
    refine lv_icmp_le (tgt := 17) C.1.1 C.1.2.1 dX19_cut_10 (by decide) (fun c5 => ?_) (fun c5 => ?_)
    · replace hD := g_pos c5 hD
      refine lv_iconst (v := 0) C.1.1 C.1.2.1 dX19_cut_17 (by decide) ?_
      exact hb18 0 M L _ _ ls hD hw (lv_sub hl [0, 1] rfl)
    · replace hD := g_neg c5 hD
      exact hb13 M L _ _ ls hD hw (lv_sub hl [0, 1] rfl)

theorem dX19_cycle_0 : decode cX19_cycle 0 = .ok (.aload_n 0, 1) := by decide +kernel
theorem dX19_cycle_1 : decode cX19_cycle 1 = .ok (.aload_n 0, 1) := by decide +kernel
theorem dX19_cycle_2 : decode cX19_cycle 2 = .ok (.getfield 630, 3) := by decide +kernel
theorem dX19_cycle_5 : decode cX19_cycle 5 = .ok (.ifCond .eq 7, 3) := by decide +kernel
theorem dX19_cycle_8 : decode cX19_cycle 8 = .ok (.iconst 0, 1) := by decide +kernel
theorem dX19_cycle_9 : decode cX19_cycle 9 = .ok (.goto 4, 3) := by decide +kernel
theorem dX19_cycle_12 : decode cX19_cycle 12 = .ok (.iconst 1, 1) := by decide +kernel
theorem dX19_cycle_13 : decode cX19_cycle 13 = .ok (.putfield 289, 3) := by decide +kernel
theorem dX19_cycle_16 : decode cX19_cycle 16 = .ok (.aload_n 0, 1) := by decide +kernel
theorem dX19_cycle_17 : decode cX19_cycle 17 = .ok (.getfield 289, 3) := by decide +kernel
theorem dX19_cycle_20 : decode cX19_cycle 20 = .ok (.ifCond .le 7, 3) := by decide +kernel
theorem dX19_cycle_23 : decode cX19_cycle 23 = .ok (.iconst 0, 1) := by decide +kernel
theorem dX19_cycle_24 : decode cX19_cycle 24 = .ok (.goto 11, 3) := by decide +kernel
theorem dX19_cycle_27 : decode cX19_cycle 27 = .ok (.aload_n 0, 1) := by decide +kernel
theorem dX19_cycle_28 : decode cX19_cycle 28 = .ok (.getfield 205, 3) := by decide +kernel
theorem dX19_cycle_31 : decode cX19_cycle 31 = .ok (.iload_n 1, 1) := by decide +kernel
theorem dX19_cycle_32 : decode cX19_cycle 32 = .ok (.invokevirtual 850, 3) := by decide +kernel
theorem dX19_cycle_35 : decode cX19_cycle 35 = .ok (.ireturn, 1) := by decide +kernel
theorem cwX19_cycle : mw_cwV yX19_cycle cX19_cycle 2 ((some .int)) 1 := ⟨⟨wd_13, wd_4309, by decide +kernel⟩, wd_4307, wd_4308⟩
noncomputable def fX19_cycle_b35 (fu : Nat) (a1 : Int32) (s0 : Int32) (M : mwM) (L : mwL) : Option (Int32 × mwM × mwL) :=
  some (s0, M, L)
noncomputable def fX19_cycle_b13 (fu : Nat) (a1 : Int32) (s1 : Int32) (M : mwM) (L : mwL) : Option (Int32 × mwM × mwL) :=
  mlet (mset M 732 0 s1) (fun M1 => (if (M1 732 0) ≤ 0 then none else fX19_cycle_b35 fu a1 0 M1 L))
noncomputable def DX19_cycle (fu : Nat) (a1 : Int32) (M : mwM) (L : mwL) : Option (Int32 × mwM × mwL) :=
  (if (M 732 4) = 0 then fX19_cycle_b13 fu a1 1 M L else fX19_cycle_b13 fu a1 0 M L)
set_option maxHeartbeats 4000000 in
set_option maxRecDepth 100000 in
theorem tX19_cycle (l : Launch) (G : mwG) (ad : Nat → Nat) (fu : Nat) (a1 : Int32) (M : mwM) (L : mwL) {r0 : Int32} {M0 : mwM} {L0 : mwL} (hD : DX19_cycle fu a1 M L = some (r0, M0, L0)) : Met l yX19_cycle (Cond.code yX19_cycle cX19_cycle 2 ((some .int)) :: GT) ({ frames := 0, cells := 0, slots := 0, locals := 0 }) (mw_Pre G ad NF TF FF M L [.ref (ad 732), .int a1]) (mw_Qi G ad NF TF FF (mw_eqI r0 M0 L0)) 0 0 (mw_fr G) := by
  refine mw_enter (by decide) (Nat.le_of_ble_eq_true rfl) ?_
  intro p e s m below meth c ls C hr hlocks hnm hw hl
  have hl : lv_has ls 2 [(0, .ref (ad 732)), (1, .int a1)] := hl
  have hb35 : ∀ (s0 : Int32) (M : mwM) (L : mwL) (H : Heap) (locs : List Loc) (ls : Array Slot), fX19_cycle_b35 fu a1 s0 M L = some (r0, M0, L0) → mw_W G ad NF TF FF M L H locs → lv_has ls 2 [] → W p l e ({ frames := 0, cells := 0, slots := 0, locals := 0 }) s m [.ref (ad 732), .int a1].toArray below meth c H locs 0 0 (MQ below (mw_Qi G ad NF TF FF (mw_eqI r0 M0 L0)) [.ref (ad 732), .int a1].toArray s 0 0 (mw_fr G)) (F0 m 35 ls [.int s0]) := by
    intro s0 M L H locs ls hD hw hl
    unfold fX19_cycle_b35 at hD
    exact mr_iret C hr hlocks hw rfl (Option.some.inj hD) dX19_cycle_35
  have hb13 : ∀ (s1 : Int32) (M : mwM) (L : mwL) (H : Heap) (locs : List Loc) (ls : Array Slot), fX19_cycle_b13 fu a1 s1 M L = some (r0, M0, L0) → mw_W G ad NF TF FF M L H locs → lv_has ls 2 [(0, .ref (ad 732)), (1, .int a1)] → W p l e ({ frames := 0, cells := 0, slots := 0, locals := 0 }) s m [.ref (ad 732), .int a1].toArray below meth c H locs 0 0 (MQ below (mw_Qi G ad NF TF FF (mw_eqI r0 M0 L0)) [.ref (ad 732), .int a1].toArray s 0 0 (mw_fr G)) (F0 m 13 ls [.int s1, .ref (ad 732)]) := by
    intro s1 M L H locs ls hD hw hl
    unfold fX19_cycle_b13 at hD
    obtain ⟨M1, eM1, hD⟩ := g_let hD
    refine mr_putI C hw kc_19 0 (by decide) tf_732 wd_2781 dX19_cycle_13 (by decide) rfl rfl rfl rfl (fun H locs hw => ?_)
    replace hw : mw_W G ad NF TF FF M1 L H locs := by rw [eM1]; exact hw
    refine lv_aload_n C.1.1 C.1.2.1 dX19_cycle_16 rfl (lv_at hl 0 rfl) ?_
    refine mr_getI C hw kc_19 0 (by decide) tf_732 wd_2781 dX19_cycle_17 (by decide) rfl ?_
    refine lv_if_le (tgt := 27) C.1.1 C.1.2.1 dX19_cycle_20 (by decide) (fun c2 => ?_) (fun c2 => ?_)
    · replace hD := g_pos c2 hD
      refine lv_aload_n C.1.1 C.1.2.1 dX19_cycle_27 rfl (lv_at hl 0 rfl) ?_
      refine mr_getR C hw kc_19 80 (by decide) tf_732 ff_732_80 wd_2861 dX19_cycle_28 (by decide) rfl ?_
      refine lv_iload_n C.1.1 C.1.2.1 dX19_cycle_31 rfl (lv_at hl 1 rfl) ?_
      cases hD
    · replace hD := g_neg c2 hD
      refine lv_iconst (v := 0) C.1.1 C.1.2.1 dX19_cycle_23 (by decide) ?_
      refine lv_goto (tgt := 35) C.1.1 C.1.2.1 dX19_cycle_24 (by decide) ?_
      exact hb35 0 M1 L _ _ ls hD hw (lv_sub hl [] rfl)
  unfold DX19_cycle at hD
  refine lv_aload_n C.1.1 C.1.2.1 dX19_cycle_0 rfl (lv_at hl 0 rfl) ?_
  refine lv_aload_n C.1.1 C.1.2.1 dX19_cycle_1 rfl (lv_at hl 0 rfl) ?_
  refine mr_getI C hw kc_19 4 (by decide) tf_732 wd_2785 dX19_cycle_2 (by decide) rfl ?_
  refine lv_if_eq (tgt := 12) C.1.1 C.1.2.1 dX19_cycle_5 (by decide) (fun c3 => ?_) (fun c3 => ?_)
  · replace hD := g_pos c3 hD
    refine lv_iconst (v := 1) C.1.1 C.1.2.1 dX19_cycle_12 (by decide) ?_
    exact hb13 1 M L _ _ ls hD hw (lv_sub hl [0, 1] rfl)
  · replace hD := g_neg c3 hD
    refine lv_iconst (v := 0) C.1.1 C.1.2.1 dX19_cycle_8 (by decide) ?_
    refine lv_goto (tgt := 13) C.1.1 C.1.2.1 dX19_cycle_9 (by decide) ?_
    exact hb13 0 M L _ _ ls hD hw (lv_sub hl [0, 1] rfl)

theorem dX19_error_0 : decode cX19_error 0 = .ok (.aload_n 0, 1) := by decide +kernel
theorem dX19_error_1 : decode cX19_error 1 = .ok (.aload_n 0, 1) := by decide +kernel
theorem dX19_error_2 : decode cX19_error 2 = .ok (.getfield 630, 3) := by decide +kernel
theorem dX19_error_5 : decode cX19_error 5 = .ok (.ifCond .eq 7, 3) := by decide +kernel
theorem dX19_error_8 : decode cX19_error 8 = .ok (.iconst 0, 1) := by decide +kernel
theorem dX19_error_9 : decode cX19_error 9 = .ok (.goto 4, 3) := by decide +kernel
theorem dX19_error_12 : decode cX19_error 12 = .ok (.iconst 1, 1) := by decide +kernel
theorem dX19_error_13 : decode cX19_error 13 = .ok (.putfield 289, 3) := by decide +kernel
theorem dX19_error_16 : decode cX19_error 16 = .ok (.aload_n 0, 1) := by decide +kernel
theorem dX19_error_17 : decode cX19_error 17 = .ok (.getfield 289, 3) := by decide +kernel
theorem dX19_error_20 : decode cX19_error 20 = .ok (.ifCond .le 5, 3) := by decide +kernel
theorem dX19_error_23 : decode cX19_error 23 = .ok (.iconst 0, 1) := by decide +kernel
theorem dX19_error_24 : decode cX19_error 24 = .ok (.ireturn, 1) := by decide +kernel
theorem dX19_error_25 : decode cX19_error 25 = .ok (.aload_n 0, 1) := by decide +kernel
theorem dX19_error_26 : decode cX19_error 26 = .ok (.getfield 184, 3) := by decide +kernel
theorem dX19_error_29 : decode cX19_error 29 = .ok (.iload_n 1, 1) := by decide +kernel
theorem dX19_error_30 : decode cX19_error 30 = .ok (.iload_n 2, 1) := by decide +kernel
theorem dX19_error_31 : decode cX19_error 31 = .ok (.invokevirtual 819, 3) := by decide +kernel
theorem dX19_error_34 : decode cX19_error 34 = .ok (.istore_n 3, 1) := by decide +kernel
theorem dX19_error_35 : decode cX19_error 35 = .ok (.aload_n 0, 1) := by decide +kernel
theorem dX19_error_36 : decode cX19_error 36 = .ok (.aload_n 0, 1) := by decide +kernel
theorem dX19_error_37 : decode cX19_error 37 = .ok (.getfield 184, 3) := by decide +kernel
theorem dX19_error_40 : decode cX19_error 40 = .ok (.invokevirtual 649, 3) := by decide +kernel
theorem dX19_error_43 : decode cX19_error 43 = .ok (.putfield 289, 3) := by decide +kernel
theorem dX19_error_46 : decode cX19_error 46 = .ok (.aload_n 0, 1) := by decide +kernel
theorem dX19_error_47 : decode cX19_error 47 = .ok (.getfield 289, 3) := by decide +kernel
theorem dX19_error_50 : decode cX19_error 50 = .ok (.ifCond .le 7, 3) := by decide +kernel
theorem dX19_error_53 : decode cX19_error 53 = .ok (.iconst 0, 1) := by decide +kernel
theorem dX19_error_54 : decode cX19_error 54 = .ok (.goto 4, 3) := by decide +kernel
theorem dX19_error_57 : decode cX19_error 57 = .ok (.iload_n 3, 1) := by decide +kernel
theorem dX19_error_58 : decode cX19_error 58 = .ok (.ireturn, 1) := by decide +kernel
theorem cwX19_error : mw_cwV yX19_error cX19_error 4 ((some .int)) 2 := ⟨⟨wd_13, wd_4229, by decide +kernel⟩, wd_4227, wd_4228⟩
noncomputable def fX19_error_b13 (fu : Nat) (a1 : Int32) (a2 : Int32) (s1 : Int32) (M : mwM) (L : mwL) : Option (Int32 × mwM × mwL) :=
  mlet (mset M 732 0 s1) (fun M1 => (if (M1 732 0) ≤ 0 then none else some (0, M1, L)))
noncomputable def DX19_error (fu : Nat) (a1 : Int32) (a2 : Int32) (M : mwM) (L : mwL) : Option (Int32 × mwM × mwL) :=
  (if (M 732 4) = 0 then fX19_error_b13 fu a1 a2 1 M L else fX19_error_b13 fu a1 a2 0 M L)
set_option maxHeartbeats 4000000 in
set_option maxRecDepth 100000 in
theorem tX19_error (l : Launch) (G : mwG) (ad : Nat → Nat) (fu : Nat) (a1 : Int32) (a2 : Int32) (M : mwM) (L : mwL) {r0 : Int32} {M0 : mwM} {L0 : mwL} (hD : DX19_error fu a1 a2 M L = some (r0, M0, L0)) : Met l yX19_error (Cond.code yX19_error cX19_error 4 ((some .int)) :: GT) ({ frames := 0, cells := 0, slots := 0, locals := 0 }) (mw_Pre G ad NF TF FF M L [.ref (ad 732), .int a1, .int a2]) (mw_Qi G ad NF TF FF (mw_eqI r0 M0 L0)) 0 0 (mw_fr G) := by
  refine mw_enter (by decide) (Nat.le_of_ble_eq_true rfl) ?_
  intro p e s m below meth c ls C hr hlocks hnm hw hl
  have hl : lv_has ls 4 [(0, .ref (ad 732)), (1, .int a1), (2, .int a2)] := hl
  have hb13 : ∀ (s1 : Int32) (M : mwM) (L : mwL) (H : Heap) (locs : List Loc) (ls : Array Slot), fX19_error_b13 fu a1 a2 s1 M L = some (r0, M0, L0) → mw_W G ad NF TF FF M L H locs → lv_has ls 4 [(0, .ref (ad 732)), (1, .int a1), (2, .int a2)] → W p l e ({ frames := 0, cells := 0, slots := 0, locals := 0 }) s m [.ref (ad 732), .int a1, .int a2].toArray below meth c H locs 0 0 (MQ below (mw_Qi G ad NF TF FF (mw_eqI r0 M0 L0)) [.ref (ad 732), .int a1, .int a2].toArray s 0 0 (mw_fr G)) (F0 m 13 ls [.int s1, .ref (ad 732)]) := by
    intro s1 M L H locs ls hD hw hl
    unfold fX19_error_b13 at hD
    obtain ⟨M1, eM1, hD⟩ := g_let hD
    refine mr_putI C hw kc_19 0 (by decide) tf_732 wd_2781 dX19_error_13 (by decide) rfl rfl rfl rfl (fun H locs hw => ?_)
    replace hw : mw_W G ad NF TF FF M1 L H locs := by rw [eM1]; exact hw
    refine lv_aload_n C.1.1 C.1.2.1 dX19_error_16 rfl (lv_at hl 0 rfl) ?_
    refine mr_getI C hw kc_19 0 (by decide) tf_732 wd_2781 dX19_error_17 (by decide) rfl ?_
    refine lv_if_le (tgt := 25) C.1.1 C.1.2.1 dX19_error_20 (by decide) (fun c2 => ?_) (fun c2 => ?_)
    · replace hD := g_pos c2 hD
      refine lv_aload_n C.1.1 C.1.2.1 dX19_error_25 rfl (lv_at hl 0 rfl) ?_
      refine mr_getR C hw kc_19 77 (by decide) tf_732 ff_732_77 wd_2858 dX19_error_26 (by decide) rfl ?_
      refine lv_iload_n C.1.1 C.1.2.1 dX19_error_29 rfl (lv_at hl 1 rfl) ?_
      refine lv_iload_n C.1.1 C.1.2.1 dX19_error_30 rfl (lv_at hl 2 rfl) ?_
      cases hD
    · replace hD := g_neg c2 hD
      refine lv_iconst (v := 0) C.1.1 C.1.2.1 dX19_error_23 (by decide) ?_
      exact mr_iret C hr hlocks hw rfl (Option.some.inj hD) dX19_error_24
  unfold DX19_error at hD
  refine lv_aload_n C.1.1 C.1.2.1 dX19_error_0 rfl (lv_at hl 0 rfl) ?_
  refine lv_aload_n C.1.1 C.1.2.1 dX19_error_1 rfl (lv_at hl 0 rfl) ?_
  refine mr_getI C hw kc_19 4 (by decide) tf_732 wd_2785 dX19_error_2 (by decide) rfl ?_
  refine lv_if_eq (tgt := 12) C.1.1 C.1.2.1 dX19_error_5 (by decide) (fun c3 => ?_) (fun c3 => ?_)
  · replace hD := g_pos c3 hD
    refine lv_iconst (v := 1) C.1.1 C.1.2.1 dX19_error_12 (by decide) ?_
    exact hb13 1 M L _ _ ls hD hw (lv_sub hl [0, 1, 2] rfl)
  · replace hD := g_neg c3 hD
    refine lv_iconst (v := 0) C.1.1 C.1.2.1 dX19_error_8 (by decide) ?_
    refine lv_goto (tgt := 13) C.1.1 C.1.2.1 dX19_error_9 (by decide) ?_
    exact hb13 0 M L _ _ ls hD hw (lv_sub hl [0, 1, 2] rfl)

theorem dX19_fail_0 : decode cX19_fail 0 = .ok (.aload_n 0, 1) := by decide +kernel
theorem dX19_fail_1 : decode cX19_fail 1 = .ok (.iload_n 1, 1) := by decide +kernel
theorem dX19_fail_2 : decode cX19_fail 2 = .ok (.putfield 299, 3) := by decide +kernel
theorem dX19_fail_5 : decode cX19_fail 5 = .ok (.aload_n 0, 1) := by decide +kernel
theorem dX19_fail_6 : decode cX19_fail 6 = .ok (.iload_n 2, 1) := by decide +kernel
theorem dX19_fail_7 : decode cX19_fail 7 = .ok (.putfield 302, 3) := by decide +kernel
theorem dX19_fail_10 : decode cX19_fail 10 = .ok (.iconst 0, 1) := by decide +kernel
theorem dX19_fail_11 : decode cX19_fail 11 = .ok (.ireturn, 1) := by decide +kernel
theorem cwX19_fail : mw_cwV yX19_fail cX19_fail 3 ((some .boolean)) 2 := ⟨⟨wd_13, wd_3175, by decide +kernel⟩, wd_3174, sl_155⟩
noncomputable def DX19_fail (fu : Nat) (a1 : Int32) (a2 : Int32) (M : mwM) (L : mwL) : Option (Int32 × mwM × mwL) :=
  mlet (mset M 732 11 a1) (fun M1 => mlet (mset M1 732 12 a2) (fun M2 => some (0, M2, L)))
set_option maxHeartbeats 4000000 in
set_option maxRecDepth 100000 in
theorem tX19_fail (l : Launch) (G : mwG) (ad : Nat → Nat) (fu : Nat) (a1 : Int32) (a2 : Int32) (M : mwM) (L : mwL) {r0 : Int32} {M0 : mwM} {L0 : mwL} (hD : DX19_fail fu a1 a2 M L = some (r0, M0, L0)) : Met l yX19_fail (Cond.code yX19_fail cX19_fail 3 ((some .boolean)) :: GT) ({ frames := 0, cells := 0, slots := 0, locals := 0 }) (mw_Pre G ad NF TF FF M L [.ref (ad 732), .int a1, .int a2]) (mw_Qi G ad NF TF FF (mw_eqI r0 M0 L0)) 0 0 (mw_fr G) := by
  refine mw_enter (by decide) (Nat.le_of_ble_eq_true rfl) ?_
  intro p e s m below meth c ls C hr hlocks hnm hw hl
  have hl : lv_has ls 3 [(0, .ref (ad 732)), (1, .int a1), (2, .int a2)] := hl
  unfold DX19_fail at hD
  refine lv_aload_n C.1.1 C.1.2.1 dX19_fail_0 rfl (lv_at hl 0 rfl) ?_
  refine lv_iload_n C.1.1 C.1.2.1 dX19_fail_1 rfl (lv_at hl 1 rfl) ?_
  obtain ⟨M1, eM1, hD⟩ := g_let hD
  refine mr_putI C hw kc_19 11 (by decide) tf_732 wd_2792 dX19_fail_2 (by decide) rfl rfl rfl rfl (fun H locs hw => ?_)
  replace hw : mw_W G ad NF TF FF M1 L H locs := by rw [eM1]; exact hw
  refine lv_aload_n C.1.1 C.1.2.1 dX19_fail_5 rfl (lv_at hl 0 rfl) ?_
  refine lv_iload_n C.1.1 C.1.2.1 dX19_fail_6 rfl (lv_at hl 2 rfl) ?_
  obtain ⟨M2, eM2, hD⟩ := g_let hD
  refine mr_putI C hw kc_19 12 (by decide) tf_732 wd_2793 dX19_fail_7 (by decide) rfl rfl rfl rfl (fun H locs hw => ?_)
  replace hw : mw_W G ad NF TF FF M2 L H locs := by rw [eM2]; exact hw
  refine lv_iconst (v := 0) C.1.1 C.1.2.1 dX19_fail_10 (by decide) ?_
  exact mr_iret C hr hlocks hw (by decide +kernel) (Option.some.inj hD) dX19_fail_11

theorem dX19_flip_0 : decode cX19_flip 0 = .ok (.aload_n 0, 1) := by decide +kernel
theorem dX19_flip_1 : decode cX19_flip 1 = .ok (.aload_n 0, 1) := by decide +kernel
theorem dX19_flip_2 : decode cX19_flip 2 = .ok (.getfield 630, 3) := by decide +kernel
theorem dX19_flip_5 : decode cX19_flip 5 = .ok (.ifCond .eq 15, 3) := by decide +kernel
theorem dX19_flip_8 : decode cX19_flip 8 = .ok (.iload_n 1, 1) := by decide +kernel
theorem dX19_flip_9 : decode cX19_flip 9 = .ok (.ifCond .lt 11, 3) := by decide +kernel
theorem dX19_flip_12 : decode cX19_flip 12 = .ok (.iload_n 1, 1) := by decide +kernel
theorem dX19_flip_13 : decode cX19_flip 13 = .ok (.aload_n 0, 1) := by decide +kernel
theorem dX19_flip_14 : decode cX19_flip 14 = .ok (.getfield 435, 3) := by decide +kernel
theorem dX19_flip_17 : decode cX19_flip 17 = .ok (.if_icmp .le 7, 3) := by decide +kernel
theorem dX19_flip_20 : decode cX19_flip 20 = .ok (.iconst 1, 1) := by decide +kernel
theorem dX19_flip_21 : decode cX19_flip 21 = .ok (.goto 23, 3) := by decide +kernel
theorem dX19_flip_24 : decode cX19_flip 24 = .ok (.iload_n 2, 1) := by decide +kernel
theorem dX19_flip_25 : decode cX19_flip 25 = .ok (.aload_n 0, 1) := by decide +kernel
theorem dX19_flip_26 : decode cX19_flip 26 = .ok (.getfield 600, 3) := by decide +kernel
theorem dX19_flip_29 : decode cX19_flip 29 = .ok (.if_icmp .lt 10, 3) := by decide +kernel
theorem dX19_flip_32 : decode cX19_flip 32 = .ok (.iload_n 2, 1) := by decide +kernel
theorem dX19_flip_33 : decode cX19_flip 33 = .ok (.sipush 19999, 3) := by decide +kernel
theorem dX19_flip_36 : decode cX19_flip 36 = .ok (.if_icmp .le 7, 3) := by decide +kernel
theorem dX19_flip_39 : decode cX19_flip 39 = .ok (.iconst 2, 1) := by decide +kernel
theorem dX19_flip_40 : decode cX19_flip 40 = .ok (.goto 4, 3) := by decide +kernel
theorem dX19_flip_43 : decode cX19_flip 43 = .ok (.iconst 0, 1) := by decide +kernel
theorem dX19_flip_44 : decode cX19_flip 44 = .ok (.putfield 289, 3) := by decide +kernel
theorem dX19_flip_47 : decode cX19_flip 47 = .ok (.aload_n 0, 1) := by decide +kernel
theorem dX19_flip_48 : decode cX19_flip 48 = .ok (.getfield 289, 3) := by decide +kernel
theorem dX19_flip_51 : decode cX19_flip 51 = .ok (.ifCond .ne 12, 3) := by decide +kernel
theorem dX19_flip_54 : decode cX19_flip 54 = .ok (.aload_n 0, 1) := by decide +kernel
theorem dX19_flip_55 : decode cX19_flip 55 = .ok (.getfield 184, 3) := by decide +kernel
theorem dX19_flip_58 : decode cX19_flip 58 = .ok (.iload_n 1, 1) := by decide +kernel
theorem dX19_flip_59 : decode cX19_flip 59 = .ok (.iload_n 2, 1) := by decide +kernel
theorem dX19_flip_60 : decode cX19_flip 60 = .ok (.invokevirtual 822, 3) := by decide +kernel
theorem dX19_flip_63 : decode cX19_flip 63 = .ok (.return_, 1) := by decide +kernel
theorem cwX19_flip : mw_cwV yX19_flip cX19_flip 3 (none) 2 := ⟨⟨wd_13, wd_4237, by decide +kernel⟩, wd_4235, wd_4236⟩
noncomputable def fX19_flip_b63 (fu : Nat) (a1 : Int32) (a2 : Int32) (M : mwM) (L : mwL) : Option (mwM × mwL) :=
  some (M, L)
noncomputable def fX19_flip_b44 (fu : Nat) (a1 : Int32) (a2 : Int32) (s1 : Int32) (M : mwM) (L : mwL) : Option (mwM × mwL) :=
  mlet (mset M 732 0 s1) (fun M1 => (if (M1 732 0) = 0 then none else fX19_flip_b63 fu a1 a2 M1 L))
noncomputable def fX19_flip_b20 (fu : Nat) (a1 : Int32) (a2 : Int32) (M : mwM) (L : mwL) : Option (mwM × mwL) :=
  fX19_flip_b44 fu a1 a2 1 M L
noncomputable def fX19_flip_b39 (fu : Nat) (a1 : Int32) (a2 : Int32) (M : mwM) (L : mwL) : Option (mwM × mwL) :=
  fX19_flip_b44 fu a1 a2 2 M L
noncomputable def DX19_flip (fu : Nat) (a1 : Int32) (a2 : Int32) (M : mwM) (L : mwL) : Option (mwM × mwL) :=
  (if (M 732 4) = 0 then fX19_flip_b20 fu a1 a2 M L else (if a1 < 0 then fX19_flip_b20 fu a1 a2 M L else (if a1 ≤ (M 732 19) then (if a2 < (M 732 83) then fX19_flip_b39 fu a1 a2 M L else (if a2 ≤ 19999 then fX19_flip_b44 fu a1 a2 0 M L else fX19_flip_b39 fu a1 a2 M L)) else fX19_flip_b20 fu a1 a2 M L)))
set_option maxHeartbeats 4000000 in
set_option maxRecDepth 100000 in
theorem tX19_flip (l : Launch) (G : mwG) (ad : Nat → Nat) (fu : Nat) (a1 : Int32) (a2 : Int32) (M : mwM) (L : mwL) {M0 : mwM} {L0 : mwL} (hD : DX19_flip fu a1 a2 M L = some (M0, L0)) : Met l yX19_flip (Cond.code yX19_flip cX19_flip 3 (none) :: GT) ({ frames := 0, cells := 0, slots := 0, locals := 0 }) (mw_Pre G ad NF TF FF M L [.ref (ad 732), .int a1, .int a2]) (mw_Qv G ad NF TF FF (mw_eqV M0 L0)) 0 0 (mw_fr G) := by
  refine mw_enter (by decide) (Nat.le_of_ble_eq_true rfl) ?_
  intro p e s m below meth c ls C hr hlocks hnm hw hl
  have hl : lv_has ls 3 [(0, .ref (ad 732)), (1, .int a1), (2, .int a2)] := hl
  have hb63 : ∀ (M : mwM) (L : mwL) (H : Heap) (locs : List Loc) (ls : Array Slot), fX19_flip_b63 fu a1 a2 M L = some (M0, L0) → mw_W G ad NF TF FF M L H locs → lv_has ls 3 [] → W p l e ({ frames := 0, cells := 0, slots := 0, locals := 0 }) s m [.ref (ad 732), .int a1, .int a2].toArray below meth c H locs 0 0 (MQ below (mw_Qv G ad NF TF FF (mw_eqV M0 L0)) [.ref (ad 732), .int a1, .int a2].toArray s 0 0 (mw_fr G)) (F0 m 63 ls []) := by
    intro M L H locs ls hD hw hl
    unfold fX19_flip_b63 at hD
    exact mr_vret C hr hlocks hw (Option.some.inj hD) dX19_flip_63
  have hb44 : ∀ (s1 : Int32) (M : mwM) (L : mwL) (H : Heap) (locs : List Loc) (ls : Array Slot), fX19_flip_b44 fu a1 a2 s1 M L = some (M0, L0) → mw_W G ad NF TF FF M L H locs → lv_has ls 3 [(0, .ref (ad 732)), (1, .int a1), (2, .int a2)] → W p l e ({ frames := 0, cells := 0, slots := 0, locals := 0 }) s m [.ref (ad 732), .int a1, .int a2].toArray below meth c H locs 0 0 (MQ below (mw_Qv G ad NF TF FF (mw_eqV M0 L0)) [.ref (ad 732), .int a1, .int a2].toArray s 0 0 (mw_fr G)) (F0 m 44 ls [.int s1, .ref (ad 732)]) := by
    intro s1 M L H locs ls hD hw hl
    unfold fX19_flip_b44 at hD
    obtain ⟨M1, eM1, hD⟩ := g_let hD
    refine mr_putI C hw kc_19 0 (by decide) tf_732 wd_2781 dX19_flip_44 (by decide) rfl rfl rfl rfl (fun H locs hw => ?_)
    replace hw : mw_W G ad NF TF FF M1 L H locs := by rw [eM1]; exact hw
    refine lv_aload_n C.1.1 C.1.2.1 dX19_flip_47 rfl (lv_at hl 0 rfl) ?_
    refine mr_getI C hw kc_19 0 (by decide) tf_732 wd_2781 dX19_flip_48 (by decide) rfl ?_
    refine lv_if_ne (tgt := 63) C.1.1 C.1.2.1 dX19_flip_51 (by decide) (fun c2 => ?_) (fun c2 => ?_)
    · replace hD := g_neg c2 hD
      exact hb63 M1 L _ _ ls hD hw (lv_sub hl [] rfl)
    · replace hD := g_pos c2 hD
      refine lv_aload_n C.1.1 C.1.2.1 dX19_flip_54 rfl (lv_at hl 0 rfl) ?_
      refine mr_getR C hw kc_19 77 (by decide) tf_732 ff_732_77 wd_2858 dX19_flip_55 (by decide) rfl ?_
      refine lv_iload_n C.1.1 C.1.2.1 dX19_flip_58 rfl (lv_at hl 1 rfl) ?_
      refine lv_iload_n C.1.1 C.1.2.1 dX19_flip_59 rfl (lv_at hl 2 rfl) ?_
      cases hD
  have hb20 : ∀ (M : mwM) (L : mwL) (H : Heap) (locs : List Loc) (ls : Array Slot), fX19_flip_b20 fu a1 a2 M L = some (M0, L0) → mw_W G ad NF TF FF M L H locs → lv_has ls 3 [(0, .ref (ad 732)), (1, .int a1), (2, .int a2)] → W p l e ({ frames := 0, cells := 0, slots := 0, locals := 0 }) s m [.ref (ad 732), .int a1, .int a2].toArray below meth c H locs 0 0 (MQ below (mw_Qv G ad NF TF FF (mw_eqV M0 L0)) [.ref (ad 732), .int a1, .int a2].toArray s 0 0 (mw_fr G)) (F0 m 20 ls [.ref (ad 732)]) := by
    intro M L H locs ls hD hw hl
    unfold fX19_flip_b20 at hD
    refine lv_iconst (v := 1) C.1.1 C.1.2.1 dX19_flip_20 (by decide) ?_
    refine lv_goto (tgt := 44) C.1.1 C.1.2.1 dX19_flip_21 (by decide) ?_
    exact hb44 1 M L _ _ ls hD hw (lv_sub hl [0, 1, 2] rfl)
  have hb39 : ∀ (M : mwM) (L : mwL) (H : Heap) (locs : List Loc) (ls : Array Slot), fX19_flip_b39 fu a1 a2 M L = some (M0, L0) → mw_W G ad NF TF FF M L H locs → lv_has ls 3 [(0, .ref (ad 732)), (1, .int a1), (2, .int a2)] → W p l e ({ frames := 0, cells := 0, slots := 0, locals := 0 }) s m [.ref (ad 732), .int a1, .int a2].toArray below meth c H locs 0 0 (MQ below (mw_Qv G ad NF TF FF (mw_eqV M0 L0)) [.ref (ad 732), .int a1, .int a2].toArray s 0 0 (mw_fr G)) (F0 m 39 ls [.ref (ad 732)]) := by
    intro M L H locs ls hD hw hl
    unfold fX19_flip_b39 at hD
    refine lv_iconst (v := 2) C.1.1 C.1.2.1 dX19_flip_39 (by decide) ?_
    refine lv_goto (tgt := 44) C.1.1 C.1.2.1 dX19_flip_40 (by decide) ?_
    exact hb44 2 M L _ _ ls hD hw (lv_sub hl [0, 1, 2] rfl)
  unfold DX19_flip at hD
  refine lv_aload_n C.1.1 C.1.2.1 dX19_flip_0 rfl (lv_at hl 0 rfl) ?_
  refine lv_aload_n C.1.1 C.1.2.1 dX19_flip_1 rfl (lv_at hl 0 rfl) ?_
  refine mr_getI C hw kc_19 4 (by decide) tf_732 wd_2785 dX19_flip_2 (by decide) rfl ?_
  refine lv_if_eq (tgt := 20) C.1.1 C.1.2.1 dX19_flip_5 (by decide) (fun c3 => ?_) (fun c3 => ?_)
  · replace hD := g_pos c3 hD
    exact hb20 M L _ _ ls hD hw (lv_sub hl [0, 1, 2] rfl)
  · replace hD := g_neg c3 hD
    refine lv_iload_n C.1.1 C.1.2.1 dX19_flip_8 rfl (lv_at hl 1 rfl) ?_
    refine lv_if_lt (tgt := 20) C.1.1 C.1.2.1 dX19_flip_9 (by decide) (fun c4 => ?_) (fun c4 => ?_)
    · replace hD := g_pos c4 hD
      exact hb20 M L _ _ ls hD hw (lv_sub hl [0, 1, 2] rfl)
    · replace hD := g_neg c4 hD
      refine lv_iload_n C.1.1 C.1.2.1 dX19_flip_12 rfl (lv_at hl 1 rfl) ?_
      refine lv_aload_n C.1.1 C.1.2.1 dX19_flip_13 rfl (lv_at hl 0 rfl) ?_
      refine mr_getI C hw kc_19 19 (by decide) tf_732 wd_2800 dX19_flip_14 (by decide) rfl ?_
      refine lv_icmp_le (tgt := 24) C.1.1 C.1.2.1 dX19_flip_17 (by decide) (fun c5 => ?_) (fun c5 => ?_)
      · replace hD := g_pos c5 hD
        refine lv_iload_n C.1.1 C.1.2.1 dX19_flip_24 rfl (lv_at hl 2 rfl) ?_
        refine lv_aload_n C.1.1 C.1.2.1 dX19_flip_25 rfl (lv_at hl 0 rfl) ?_
        refine mr_getI C hw kc_19 83 (by decide) tf_732 wd_2864 dX19_flip_26 (by decide) rfl ?_
        refine lv_icmp_lt (tgt := 39) C.1.1 C.1.2.1 dX19_flip_29 (by decide) (fun c6 => ?_) (fun c6 => ?_)
        · replace hD := g_pos c6 hD
          exact hb39 M L _ _ ls hD hw (lv_sub hl [0, 1, 2] rfl)
        · replace hD := g_neg c6 hD
          refine lv_iload_n C.1.1 C.1.2.1 dX19_flip_32 rfl (lv_at hl 2 rfl) ?_
          refine lv_sipush (v := 19999) C.1.1 C.1.2.1 dX19_flip_33 (by decide) ?_
          refine lv_icmp_le (tgt := 43) C.1.1 C.1.2.1 dX19_flip_36 (by decide) (fun c7 => ?_) (fun c7 => ?_)
          · replace hD := g_pos c7 hD
            refine lv_iconst (v := 0) C.1.1 C.1.2.1 dX19_flip_43 (by decide) ?_
            exact hb44 0 M L _ _ ls hD hw (lv_sub hl [0, 1, 2] rfl)
          · replace hD := g_neg c7 hD
            exact hb39 M L _ _ ls hD hw (lv_sub hl [0, 1, 2] rfl)
      · replace hD := g_neg c5 hD
        exact hb20 M L _ _ ls hD hw (lv_sub hl [0, 1, 2] rfl)

theorem dX19_frame_0 : decode cX19_frame 0 = .ok (.aload_n 0, 1) := by decide +kernel
theorem dX19_frame_1 : decode cX19_frame 1 = .ok (.aload_n 0, 1) := by decide +kernel
theorem dX19_frame_2 : decode cX19_frame 2 = .ok (.getfield 630, 3) := by decide +kernel
theorem dX19_frame_5 : decode cX19_frame 5 = .ok (.ifCond .eq 15, 3) := by decide +kernel
theorem dX19_frame_8 : decode cX19_frame 8 = .ok (.iload_n 1, 1) := by decide +kernel
theorem dX19_frame_9 : decode cX19_frame 9 = .ok (.ifCond .lt 11, 3) := by decide +kernel
theorem dX19_frame_12 : decode cX19_frame 12 = .ok (.iload_n 1, 1) := by decide +kernel
theorem dX19_frame_13 : decode cX19_frame 13 = .ok (.aload_n 0, 1) := by decide +kernel
theorem dX19_frame_14 : decode cX19_frame 14 = .ok (.getfield 568, 3) := by decide +kernel
theorem dX19_frame_17 : decode cX19_frame 17 = .ok (.if_icmp .lt 7, 3) := by decide +kernel
theorem dX19_frame_20 : decode cX19_frame 20 = .ok (.iconst 1, 1) := by decide +kernel
theorem dX19_frame_21 : decode cX19_frame 21 = .ok (.goto 17, 3) := by decide +kernel
theorem dX19_frame_24 : decode cX19_frame 24 = .ok (.iload_n 2, 1) := by decide +kernel
theorem dX19_frame_25 : decode cX19_frame 25 = .ok (.ifCond .lt 8, 3) := by decide +kernel
theorem dX19_frame_28 : decode cX19_frame 28 = .ok (.iload_n 2, 1) := by decide +kernel
theorem dX19_frame_29 : decode cX19_frame 29 = .ok (.iconst 4, 1) := by decide +kernel
theorem dX19_frame_30 : decode cX19_frame 30 = .ok (.if_icmp .le 7, 3) := by decide +kernel
theorem dX19_frame_33 : decode cX19_frame 33 = .ok (.iconst 2, 1) := by decide +kernel
theorem dX19_frame_34 : decode cX19_frame 34 = .ok (.goto 4, 3) := by decide +kernel
theorem dX19_frame_37 : decode cX19_frame 37 = .ok (.iconst 0, 1) := by decide +kernel
theorem dX19_frame_38 : decode cX19_frame 38 = .ok (.putfield 289, 3) := by decide +kernel
theorem dX19_frame_41 : decode cX19_frame 41 = .ok (.aload_n 0, 1) := by decide +kernel
theorem dX19_frame_42 : decode cX19_frame 42 = .ok (.getfield 289, 3) := by decide +kernel
theorem dX19_frame_45 : decode cX19_frame 45 = .ok (.ifCond .le 5, 3) := by decide +kernel
theorem dX19_frame_48 : decode cX19_frame 48 = .ok (.iconst 0, 1) := by decide +kernel
theorem dX19_frame_49 : decode cX19_frame 49 = .ok (.ireturn, 1) := by decide +kernel
theorem dX19_frame_50 : decode cX19_frame 50 = .ok (.iload_n 2, 1) := by decide +kernel
theorem dX19_frame_51 : decode cX19_frame 51 = .ok (.ifCond .ne 16, 3) := by decide +kernel
theorem dX19_frame_54 : decode cX19_frame 54 = .ok (.bipush 64, 2) := by decide +kernel
theorem dX19_frame_56 : decode cX19_frame 56 = .ok (.bipush 8, 2) := by decide +kernel
theorem dX19_frame_58 : decode cX19_frame 58 = .ok (.aload_n 0, 1) := by decide +kernel
theorem dX19_frame_59 : decode cX19_frame 59 = .ok (.getfield 165, 3) := by decide +kernel
theorem dX19_frame_62 : decode cX19_frame 62 = .ok (.iload_n 1, 1) := by decide +kernel
theorem dX19_frame_63 : decode cX19_frame 63 = .ok (.iaload, 1) := by decide +kernel
theorem dX19_frame_64 : decode cX19_frame 64 = .ok (.imul, 1) := by decide +kernel
theorem dX19_frame_65 : decode cX19_frame 65 = .ok (.iadd, 1) := by decide +kernel
theorem dX19_frame_66 : decode cX19_frame 66 = .ok (.ireturn, 1) := by decide +kernel
theorem dX19_frame_67 : decode cX19_frame 67 = .ok (.iload_n 2, 1) := by decide +kernel
theorem dX19_frame_68 : decode cX19_frame 68 = .ok (.iconst 1, 1) := by decide +kernel
theorem dX19_frame_69 : decode cX19_frame 69 = .ok (.if_icmp .ne 10, 3) := by decide +kernel
theorem dX19_frame_72 : decode cX19_frame 72 = .ok (.aload_n 0, 1) := by decide +kernel
theorem dX19_frame_73 : decode cX19_frame 73 = .ok (.getfield 150, 3) := by decide +kernel
theorem dX19_frame_76 : decode cX19_frame 76 = .ok (.iload_n 1, 1) := by decide +kernel
theorem dX19_frame_77 : decode cX19_frame 77 = .ok (.iaload, 1) := by decide +kernel
theorem dX19_frame_78 : decode cX19_frame 78 = .ok (.ireturn, 1) := by decide +kernel
theorem dX19_frame_79 : decode cX19_frame 79 = .ok (.iload_n 2, 1) := by decide +kernel
theorem dX19_frame_80 : decode cX19_frame 80 = .ok (.iconst 2, 1) := by decide +kernel
theorem dX19_frame_81 : decode cX19_frame 81 = .ok (.if_icmp .ne 10, 3) := by decide +kernel
theorem dX19_frame_84 : decode cX19_frame 84 = .ok (.aload_n 0, 1) := by decide +kernel
theorem dX19_frame_85 : decode cX19_frame 85 = .ok (.getfield 159, 3) := by decide +kernel
theorem dX19_frame_88 : decode cX19_frame 88 = .ok (.iload_n 1, 1) := by decide +kernel
theorem dX19_frame_89 : decode cX19_frame 89 = .ok (.iaload, 1) := by decide +kernel
theorem dX19_frame_90 : decode cX19_frame 90 = .ok (.ireturn, 1) := by decide +kernel
theorem dX19_frame_91 : decode cX19_frame 91 = .ok (.iload_n 2, 1) := by decide +kernel
theorem dX19_frame_92 : decode cX19_frame 92 = .ok (.iconst 3, 1) := by decide +kernel
theorem dX19_frame_93 : decode cX19_frame 93 = .ok (.if_icmp .ne 12, 3) := by decide +kernel
theorem dX19_frame_96 : decode cX19_frame 96 = .ok (.aload_n 0, 1) := by decide +kernel
theorem dX19_frame_97 : decode cX19_frame 97 = .ok (.getfield 162, 3) := by decide +kernel
theorem dX19_frame_100 : decode cX19_frame 100 = .ok (.iload_n 1, 1) := by decide +kernel
theorem dX19_frame_101 : decode cX19_frame 101 = .ok (.iaload, 1) := by decide +kernel
theorem dX19_frame_102 : decode cX19_frame 102 = .ok (.goto 9, 3) := by decide +kernel
theorem dX19_frame_105 : decode cX19_frame 105 = .ok (.aload_n 0, 1) := by decide +kernel
theorem dX19_frame_106 : decode cX19_frame 106 = .ok (.getfield 168, 3) := by decide +kernel
theorem dX19_frame_109 : decode cX19_frame 109 = .ok (.iload_n 1, 1) := by decide +kernel
theorem dX19_frame_110 : decode cX19_frame 110 = .ok (.iaload, 1) := by decide +kernel
theorem dX19_frame_111 : decode cX19_frame 111 = .ok (.ireturn, 1) := by decide +kernel
theorem cwX19_frame : mw_cwV yX19_frame cX19_frame 3 ((some .int)) 2 := ⟨⟨wd_13, wd_4197, by decide +kernel⟩, wd_4195, wd_4196⟩
noncomputable def fX19_frame_b111 (fu : Nat) (a1 : Int32) (a2 : Int32) (s0 : Int32) (M : mwM) (L : mwL) : Option (Int32 × mwM × mwL) :=
  some (s0, M, L)
noncomputable def fX19_frame_b38 (fu : Nat) (a1 : Int32) (a2 : Int32) (s1 : Int32) (M : mwM) (L : mwL) : Option (Int32 × mwM × mwL) :=
  mlet (mset M 732 0 s1) (fun M1 => (if (M1 732 0) ≤ 0 then (if a2 = 0 then mck a1 40 (some (64 + (8 * (M1 784 a1.toNatClampNeg)), M1, L)) else (if a2 = 1 then mck a1 40 (some (M1 779 a1.toNatClampNeg, M1, L)) else (if a2 = 2 then mck a1 40 (some (M1 782 a1.toNatClampNeg, M1, L)) else (if a2 = 3 then mck a1 40 (fX19_frame_b111 fu a1 a2 (M1 783 a1.toNatClampNeg) M1 L) else mck a1 40 (fX19_frame_b111 fu a1 a2 (M1 785 a1.toNatClampNeg) M1 L))))) else some (0, M1, L)))
noncomputable def fX19_frame_b20 (fu : Nat) (a1 : Int32) (a2 : Int32) (M : mwM) (L : mwL) : Option (Int32 × mwM × mwL) :=
  fX19_frame_b38 fu a1 a2 1 M L
noncomputable def fX19_frame_b33 (fu : Nat) (a1 : Int32) (a2 : Int32) (M : mwM) (L : mwL) : Option (Int32 × mwM × mwL) :=
  fX19_frame_b38 fu a1 a2 2 M L
noncomputable def DX19_frame (fu : Nat) (a1 : Int32) (a2 : Int32) (M : mwM) (L : mwL) : Option (Int32 × mwM × mwL) :=
  (if (M 732 4) = 0 then fX19_frame_b20 fu a1 a2 M L else (if a1 < 0 then fX19_frame_b20 fu a1 a2 M L else (if a1 < (M 732 67) then (if a2 < 0 then fX19_frame_b33 fu a1 a2 M L else (if a2 ≤ 4 then fX19_frame_b38 fu a1 a2 0 M L else fX19_frame_b33 fu a1 a2 M L)) else fX19_frame_b20 fu a1 a2 M L)))
set_option maxHeartbeats 4000000 in
set_option maxRecDepth 100000 in
theorem tX19_frame (l : Launch) (G : mwG) (ad : Nat → Nat) (fu : Nat) (a1 : Int32) (a2 : Int32) (M : mwM) (L : mwL) {r0 : Int32} {M0 : mwM} {L0 : mwL} (hD : DX19_frame fu a1 a2 M L = some (r0, M0, L0)) : Met l yX19_frame (Cond.code yX19_frame cX19_frame 3 ((some .int)) :: GT) ({ frames := 0, cells := 0, slots := 0, locals := 0 }) (mw_Pre G ad NF TF FF M L [.ref (ad 732), .int a1, .int a2]) (mw_Qi G ad NF TF FF (mw_eqI r0 M0 L0)) 0 0 (mw_fr G) := by
  refine mw_enter (by decide) (Nat.le_of_ble_eq_true rfl) ?_
  intro p e s m below meth c ls C hr hlocks hnm hw hl
  have hl : lv_has ls 3 [(0, .ref (ad 732)), (1, .int a1), (2, .int a2)] := hl
  have hb111 : ∀ (s0 : Int32) (M : mwM) (L : mwL) (H : Heap) (locs : List Loc) (ls : Array Slot), fX19_frame_b111 fu a1 a2 s0 M L = some (r0, M0, L0) → mw_W G ad NF TF FF M L H locs → lv_has ls 3 [] → W p l e ({ frames := 0, cells := 0, slots := 0, locals := 0 }) s m [.ref (ad 732), .int a1, .int a2].toArray below meth c H locs 0 0 (MQ below (mw_Qi G ad NF TF FF (mw_eqI r0 M0 L0)) [.ref (ad 732), .int a1, .int a2].toArray s 0 0 (mw_fr G)) (F0 m 111 ls [.int s0]) := by
    intro s0 M L H locs ls hD hw hl
    unfold fX19_frame_b111 at hD
    exact mr_iret C hr hlocks hw rfl (Option.some.inj hD) dX19_frame_111
  have hb38 : ∀ (s1 : Int32) (M : mwM) (L : mwL) (H : Heap) (locs : List Loc) (ls : Array Slot), fX19_frame_b38 fu a1 a2 s1 M L = some (r0, M0, L0) → mw_W G ad NF TF FF M L H locs → lv_has ls 3 [(0, .ref (ad 732)), (1, .int a1), (2, .int a2)] → W p l e ({ frames := 0, cells := 0, slots := 0, locals := 0 }) s m [.ref (ad 732), .int a1, .int a2].toArray below meth c H locs 0 0 (MQ below (mw_Qi G ad NF TF FF (mw_eqI r0 M0 L0)) [.ref (ad 732), .int a1, .int a2].toArray s 0 0 (mw_fr G)) (F0 m 38 ls [.int s1, .ref (ad 732)]) := by
    intro s1 M L H locs ls hD hw hl
    unfold fX19_frame_b38 at hD
    obtain ⟨M1, eM1, hD⟩ := g_let hD
    refine mr_putI C hw kc_19 0 (by decide) tf_732 wd_2781 dX19_frame_38 (by decide) rfl rfl rfl rfl (fun H locs hw => ?_)
    replace hw : mw_W G ad NF TF FF M1 L H locs := by rw [eM1]; exact hw
    refine lv_aload_n C.1.1 C.1.2.1 dX19_frame_41 rfl (lv_at hl 0 rfl) ?_
    refine mr_getI C hw kc_19 0 (by decide) tf_732 wd_2781 dX19_frame_42 (by decide) rfl ?_
    refine lv_if_le (tgt := 50) C.1.1 C.1.2.1 dX19_frame_45 (by decide) (fun c2 => ?_) (fun c2 => ?_)
    · replace hD := g_pos c2 hD
      refine lv_iload_n C.1.1 C.1.2.1 dX19_frame_50 rfl (lv_at hl 2 rfl) ?_
      refine lv_if_ne (tgt := 67) C.1.1 C.1.2.1 dX19_frame_51 (by decide) (fun c3 => ?_) (fun c3 => ?_)
      · replace hD := g_neg c3 hD
        refine lv_iload_n C.1.1 C.1.2.1 dX19_frame_67 rfl (lv_at hl 2 rfl) ?_
        refine lv_iconst (v := 1) C.1.1 C.1.2.1 dX19_frame_68 (by decide) ?_
        refine lv_icmp_ne (tgt := 79) C.1.1 C.1.2.1 dX19_frame_69 (by decide) (fun c4 => ?_) (fun c4 => ?_)
        · replace hD := g_neg c4 hD
          refine lv_iload_n C.1.1 C.1.2.1 dX19_frame_79 rfl (lv_at hl 2 rfl) ?_
          refine lv_iconst (v := 2) C.1.1 C.1.2.1 dX19_frame_80 (by decide) ?_
          refine lv_icmp_ne (tgt := 91) C.1.1 C.1.2.1 dX19_frame_81 (by decide) (fun c5 => ?_) (fun c5 => ?_)
          · replace hD := g_neg c5 hD
            refine lv_iload_n C.1.1 C.1.2.1 dX19_frame_91 rfl (lv_at hl 2 rfl) ?_
            refine lv_iconst (v := 3) C.1.1 C.1.2.1 dX19_frame_92 (by decide) ?_
            refine lv_icmp_ne (tgt := 105) C.1.1 C.1.2.1 dX19_frame_93 (by decide) (fun c6 => ?_) (fun c6 => ?_)
            · replace hD := g_neg c6 hD
              refine lv_aload_n C.1.1 C.1.2.1 dX19_frame_105 rfl (lv_at hl 0 rfl) ?_
              refine mr_getR C hw kc_19 74 (by decide) tf_732 ff_732_74 wd_2855 dX19_frame_106 (by decide) rfl ?_
              refine lv_iload_n C.1.1 C.1.2.1 dX19_frame_109 rfl (lv_at hl 1 rfl) ?_
              obtain ⟨q7, hD⟩ := g_ck hD
              refine mr_iald C hw (by decide) tf_785 q7 dX19_frame_110 ?_
              exact hb111 (M1 785 a1.toNatClampNeg) M1 L _ _ ls hD hw (lv_sub hl [] rfl)
            · replace hD := g_pos c6 hD
              refine lv_aload_n C.1.1 C.1.2.1 dX19_frame_96 rfl (lv_at hl 0 rfl) ?_
              refine mr_getR C hw kc_19 72 (by decide) tf_732 ff_732_72 wd_2853 dX19_frame_97 (by decide) rfl ?_
              refine lv_iload_n C.1.1 C.1.2.1 dX19_frame_100 rfl (lv_at hl 1 rfl) ?_
              obtain ⟨q8, hD⟩ := g_ck hD
              refine mr_iald C hw (by decide) tf_783 q8 dX19_frame_101 ?_
              refine lv_goto (tgt := 111) C.1.1 C.1.2.1 dX19_frame_102 (by decide) ?_
              exact hb111 (M1 783 a1.toNatClampNeg) M1 L _ _ ls hD hw (lv_sub hl [] rfl)
          · replace hD := g_pos c5 hD
            refine lv_aload_n C.1.1 C.1.2.1 dX19_frame_84 rfl (lv_at hl 0 rfl) ?_
            refine mr_getR C hw kc_19 71 (by decide) tf_732 ff_732_71 wd_2852 dX19_frame_85 (by decide) rfl ?_
            refine lv_iload_n C.1.1 C.1.2.1 dX19_frame_88 rfl (lv_at hl 1 rfl) ?_
            obtain ⟨q9, hD⟩ := g_ck hD
            refine mr_iald C hw (by decide) tf_782 q9 dX19_frame_89 ?_
            exact mr_iret C hr hlocks hw rfl (Option.some.inj hD) dX19_frame_90
        · replace hD := g_pos c4 hD
          refine lv_aload_n C.1.1 C.1.2.1 dX19_frame_72 rfl (lv_at hl 0 rfl) ?_
          refine mr_getR C hw kc_19 68 (by decide) tf_732 ff_732_68 wd_2849 dX19_frame_73 (by decide) rfl ?_
          refine lv_iload_n C.1.1 C.1.2.1 dX19_frame_76 rfl (lv_at hl 1 rfl) ?_
          obtain ⟨q10, hD⟩ := g_ck hD
          refine mr_iald C hw (by decide) tf_779 q10 dX19_frame_77 ?_
          exact mr_iret C hr hlocks hw rfl (Option.some.inj hD) dX19_frame_78
      · replace hD := g_pos c3 hD
        refine lv_bipush (v := 64) C.1.1 C.1.2.1 dX19_frame_54 (by decide) ?_
        refine lv_bipush (v := 8) C.1.1 C.1.2.1 dX19_frame_56 (by decide) ?_
        refine lv_aload_n C.1.1 C.1.2.1 dX19_frame_58 rfl (lv_at hl 0 rfl) ?_
        refine mr_getR C hw kc_19 73 (by decide) tf_732 ff_732_73 wd_2854 dX19_frame_59 (by decide) rfl ?_
        refine lv_iload_n C.1.1 C.1.2.1 dX19_frame_62 rfl (lv_at hl 1 rfl) ?_
        obtain ⟨q11, hD⟩ := g_ck hD
        refine mr_iald C hw (by decide) tf_784 q11 dX19_frame_63 ?_
        refine lv_imul C.1.1 C.1.2.1 dX19_frame_64 ?_
        refine lv_iadd C.1.1 C.1.2.1 dX19_frame_65 ?_
        exact mr_iret C hr hlocks hw rfl (Option.some.inj hD) dX19_frame_66
    · replace hD := g_neg c2 hD
      refine lv_iconst (v := 0) C.1.1 C.1.2.1 dX19_frame_48 (by decide) ?_
      exact mr_iret C hr hlocks hw rfl (Option.some.inj hD) dX19_frame_49
  have hb20 : ∀ (M : mwM) (L : mwL) (H : Heap) (locs : List Loc) (ls : Array Slot), fX19_frame_b20 fu a1 a2 M L = some (r0, M0, L0) → mw_W G ad NF TF FF M L H locs → lv_has ls 3 [(0, .ref (ad 732)), (1, .int a1), (2, .int a2)] → W p l e ({ frames := 0, cells := 0, slots := 0, locals := 0 }) s m [.ref (ad 732), .int a1, .int a2].toArray below meth c H locs 0 0 (MQ below (mw_Qi G ad NF TF FF (mw_eqI r0 M0 L0)) [.ref (ad 732), .int a1, .int a2].toArray s 0 0 (mw_fr G)) (F0 m 20 ls [.ref (ad 732)]) := by
    intro M L H locs ls hD hw hl
    unfold fX19_frame_b20 at hD
    refine lv_iconst (v := 1) C.1.1 C.1.2.1 dX19_frame_20 (by decide) ?_
    refine lv_goto (tgt := 38) C.1.1 C.1.2.1 dX19_frame_21 (by decide) ?_
    exact hb38 1 M L _ _ ls hD hw (lv_sub hl [0, 1, 2] rfl)
  have hb33 : ∀ (M : mwM) (L : mwL) (H : Heap) (locs : List Loc) (ls : Array Slot), fX19_frame_b33 fu a1 a2 M L = some (r0, M0, L0) → mw_W G ad NF TF FF M L H locs → lv_has ls 3 [(0, .ref (ad 732)), (1, .int a1), (2, .int a2)] → W p l e ({ frames := 0, cells := 0, slots := 0, locals := 0 }) s m [.ref (ad 732), .int a1, .int a2].toArray below meth c H locs 0 0 (MQ below (mw_Qi G ad NF TF FF (mw_eqI r0 M0 L0)) [.ref (ad 732), .int a1, .int a2].toArray s 0 0 (mw_fr G)) (F0 m 33 ls [.ref (ad 732)]) := by
    intro M L H locs ls hD hw hl
    unfold fX19_frame_b33 at hD
    refine lv_iconst (v := 2) C.1.1 C.1.2.1 dX19_frame_33 (by decide) ?_
    refine lv_goto (tgt := 38) C.1.1 C.1.2.1 dX19_frame_34 (by decide) ?_
    exact hb38 2 M L _ _ ls hD hw (lv_sub hl [0, 1, 2] rfl)
  unfold DX19_frame at hD
  refine lv_aload_n C.1.1 C.1.2.1 dX19_frame_0 rfl (lv_at hl 0 rfl) ?_
  refine lv_aload_n C.1.1 C.1.2.1 dX19_frame_1 rfl (lv_at hl 0 rfl) ?_
  refine mr_getI C hw kc_19 4 (by decide) tf_732 wd_2785 dX19_frame_2 (by decide) rfl ?_
  refine lv_if_eq (tgt := 20) C.1.1 C.1.2.1 dX19_frame_5 (by decide) (fun c12 => ?_) (fun c12 => ?_)
  · replace hD := g_pos c12 hD
    exact hb20 M L _ _ ls hD hw (lv_sub hl [0, 1, 2] rfl)
  · replace hD := g_neg c12 hD
    refine lv_iload_n C.1.1 C.1.2.1 dX19_frame_8 rfl (lv_at hl 1 rfl) ?_
    refine lv_if_lt (tgt := 20) C.1.1 C.1.2.1 dX19_frame_9 (by decide) (fun c13 => ?_) (fun c13 => ?_)
    · replace hD := g_pos c13 hD
      exact hb20 M L _ _ ls hD hw (lv_sub hl [0, 1, 2] rfl)
    · replace hD := g_neg c13 hD
      refine lv_iload_n C.1.1 C.1.2.1 dX19_frame_12 rfl (lv_at hl 1 rfl) ?_
      refine lv_aload_n C.1.1 C.1.2.1 dX19_frame_13 rfl (lv_at hl 0 rfl) ?_
      refine mr_getI C hw kc_19 67 (by decide) tf_732 wd_2848 dX19_frame_14 (by decide) rfl ?_
      refine lv_icmp_lt (tgt := 24) C.1.1 C.1.2.1 dX19_frame_17 (by decide) (fun c14 => ?_) (fun c14 => ?_)
      · replace hD := g_pos c14 hD
        refine lv_iload_n C.1.1 C.1.2.1 dX19_frame_24 rfl (lv_at hl 2 rfl) ?_
        refine lv_if_lt (tgt := 33) C.1.1 C.1.2.1 dX19_frame_25 (by decide) (fun c15 => ?_) (fun c15 => ?_)
        · replace hD := g_pos c15 hD
          exact hb33 M L _ _ ls hD hw (lv_sub hl [0, 1, 2] rfl)
        · replace hD := g_neg c15 hD
          refine lv_iload_n C.1.1 C.1.2.1 dX19_frame_28 rfl (lv_at hl 2 rfl) ?_
          refine lv_iconst (v := 4) C.1.1 C.1.2.1 dX19_frame_29 (by decide) ?_
          refine lv_icmp_le (tgt := 37) C.1.1 C.1.2.1 dX19_frame_30 (by decide) (fun c16 => ?_) (fun c16 => ?_)
          · replace hD := g_pos c16 hD
            refine lv_iconst (v := 0) C.1.1 C.1.2.1 dX19_frame_37 (by decide) ?_
            exact hb38 0 M L _ _ ls hD hw (lv_sub hl [0, 1, 2] rfl)
          · replace hD := g_neg c16 hD
            exact hb33 M L _ _ ls hD hw (lv_sub hl [0, 1, 2] rfl)
      · replace hD := g_neg c14 hD
        exact hb20 M L _ _ ls hD hw (lv_sub hl [0, 1, 2] rfl)

theorem dX19_node_0 : decode cX19_node 0 = .ok (.aload_n 0, 1) := by decide +kernel
theorem dX19_node_1 : decode cX19_node 1 = .ok (.aload_n 0, 1) := by decide +kernel
theorem dX19_node_2 : decode cX19_node 2 = .ok (.getfield 630, 3) := by decide +kernel
theorem dX19_node_5 : decode cX19_node 5 = .ok (.ifCond .eq 15, 3) := by decide +kernel
theorem dX19_node_8 : decode cX19_node 8 = .ok (.iload_n 1, 1) := by decide +kernel
theorem dX19_node_9 : decode cX19_node 9 = .ok (.ifCond .lt 11, 3) := by decide +kernel
theorem dX19_node_12 : decode cX19_node 12 = .ok (.iload_n 1, 1) := by decide +kernel
theorem dX19_node_13 : decode cX19_node 13 = .ok (.aload_n 0, 1) := by decide +kernel
theorem dX19_node_14 : decode cX19_node 14 = .ok (.getfield 435, 3) := by decide +kernel
theorem dX19_node_17 : decode cX19_node 17 = .ok (.if_icmp .le 7, 3) := by decide +kernel
theorem dX19_node_20 : decode cX19_node 20 = .ok (.iconst 1, 1) := by decide +kernel
theorem dX19_node_21 : decode cX19_node 21 = .ok (.goto 17, 3) := by decide +kernel
theorem dX19_node_24 : decode cX19_node 24 = .ok (.iload_n 2, 1) := by decide +kernel
theorem dX19_node_25 : decode cX19_node 25 = .ok (.ifCond .lt 8, 3) := by decide +kernel
theorem dX19_node_28 : decode cX19_node 28 = .ok (.iload_n 2, 1) := by decide +kernel
theorem dX19_node_29 : decode cX19_node 29 = .ok (.iconst 2, 1) := by decide +kernel
theorem dX19_node_30 : decode cX19_node 30 = .ok (.if_icmp .le 7, 3) := by decide +kernel
theorem dX19_node_33 : decode cX19_node 33 = .ok (.iconst 2, 1) := by decide +kernel
theorem dX19_node_34 : decode cX19_node 34 = .ok (.goto 4, 3) := by decide +kernel
theorem dX19_node_37 : decode cX19_node 37 = .ok (.iconst 0, 1) := by decide +kernel
theorem dX19_node_38 : decode cX19_node 38 = .ok (.putfield 289, 3) := by decide +kernel
theorem dX19_node_41 : decode cX19_node 41 = .ok (.aload_n 0, 1) := by decide +kernel
theorem dX19_node_42 : decode cX19_node 42 = .ok (.getfield 289, 3) := by decide +kernel
theorem dX19_node_45 : decode cX19_node 45 = .ok (.ifCond .le 5, 3) := by decide +kernel
theorem dX19_node_48 : decode cX19_node 48 = .ok (.iconst 0, 1) := by decide +kernel
theorem dX19_node_49 : decode cX19_node 49 = .ok (.ireturn, 1) := by decide +kernel
theorem dX19_node_50 : decode cX19_node 50 = .ok (.iload_n 2, 1) := by decide +kernel
theorem dX19_node_51 : decode cX19_node 51 = .ok (.ifCond .ne 14, 3) := by decide +kernel
theorem dX19_node_54 : decode cX19_node 54 = .ok (.aload_n 0, 1) := by decide +kernel
theorem dX19_node_55 : decode cX19_node 55 = .ok (.getfield 184, 3) := by decide +kernel
theorem dX19_node_58 : decode cX19_node 58 = .ok (.iload_n 1, 1) := by decide +kernel
theorem dX19_node_59 : decode cX19_node 59 = .ok (.invokevirtual 815, 3) := by decide +kernel
theorem dX19_node_62 : decode cX19_node 62 = .ok (.goto 29, 3) := by decide +kernel
theorem dX19_node_65 : decode cX19_node 65 = .ok (.iload_n 2, 1) := by decide +kernel
theorem dX19_node_66 : decode cX19_node 66 = .ok (.iconst 1, 1) := by decide +kernel
theorem dX19_node_67 : decode cX19_node 67 = .ok (.if_icmp .ne 14, 3) := by decide +kernel
theorem dX19_node_70 : decode cX19_node 70 = .ok (.aload_n 0, 1) := by decide +kernel
theorem dX19_node_71 : decode cX19_node 71 = .ok (.getfield 184, 3) := by decide +kernel
theorem dX19_node_74 : decode cX19_node 74 = .ok (.iload_n 1, 1) := by decide +kernel
theorem dX19_node_75 : decode cX19_node 75 = .ok (.invokevirtual 816, 3) := by decide +kernel
theorem dX19_node_78 : decode cX19_node 78 = .ok (.goto 13, 3) := by decide +kernel
theorem dX19_node_81 : decode cX19_node 81 = .ok (.aload_n 0, 1) := by decide +kernel
theorem dX19_node_82 : decode cX19_node 82 = .ok (.getfield 184, 3) := by decide +kernel
theorem dX19_node_85 : decode cX19_node 85 = .ok (.iload_n 1, 1) := by decide +kernel
theorem dX19_node_86 : decode cX19_node 86 = .ok (.iconst (-1), 1) := by decide +kernel
theorem dX19_node_87 : decode cX19_node 87 = .ok (.iconst 0, 1) := by decide +kernel
theorem dX19_node_88 : decode cX19_node 88 = .ok (.invokevirtual 682, 3) := by decide +kernel
theorem dX19_node_91 : decode cX19_node 91 = .ok (.ireturn, 1) := by decide +kernel
theorem cwX19_node : mw_cwV yX19_node cX19_node 3 ((some .int)) 2 := ⟨⟨wd_13, wd_4217, by decide +kernel⟩, wd_4215, wd_4216⟩
noncomputable def fX19_node_b38 (fu : Nat) (a1 : Int32) (a2 : Int32) (s1 : Int32) (M : mwM) (L : mwL) : Option (Int32 × mwM × mwL) :=
  mlet (mset M 732 0 s1) (fun M1 => (if (M1 732 0) ≤ 0 then (if a2 = 0 then none else (if a2 = 1 then none else none)) else some (0, M1, L)))
noncomputable def fX19_node_b20 (fu : Nat) (a1 : Int32) (a2 : Int32) (M : mwM) (L : mwL) : Option (Int32 × mwM × mwL) :=
  fX19_node_b38 fu a1 a2 1 M L
noncomputable def fX19_node_b33 (fu : Nat) (a1 : Int32) (a2 : Int32) (M : mwM) (L : mwL) : Option (Int32 × mwM × mwL) :=
  fX19_node_b38 fu a1 a2 2 M L
noncomputable def DX19_node (fu : Nat) (a1 : Int32) (a2 : Int32) (M : mwM) (L : mwL) : Option (Int32 × mwM × mwL) :=
  (if (M 732 4) = 0 then fX19_node_b20 fu a1 a2 M L else (if a1 < 0 then fX19_node_b20 fu a1 a2 M L else (if a1 ≤ (M 732 19) then (if a2 < 0 then fX19_node_b33 fu a1 a2 M L else (if a2 ≤ 2 then fX19_node_b38 fu a1 a2 0 M L else fX19_node_b33 fu a1 a2 M L)) else fX19_node_b20 fu a1 a2 M L)))
set_option maxHeartbeats 4000000 in
set_option maxRecDepth 100000 in
theorem tX19_node (l : Launch) (G : mwG) (ad : Nat → Nat) (fu : Nat) (a1 : Int32) (a2 : Int32) (M : mwM) (L : mwL) {r0 : Int32} {M0 : mwM} {L0 : mwL} (hD : DX19_node fu a1 a2 M L = some (r0, M0, L0)) : Met l yX19_node (Cond.code yX19_node cX19_node 3 ((some .int)) :: GT) ({ frames := 0, cells := 0, slots := 0, locals := 0 }) (mw_Pre G ad NF TF FF M L [.ref (ad 732), .int a1, .int a2]) (mw_Qi G ad NF TF FF (mw_eqI r0 M0 L0)) 0 0 (mw_fr G) := by
  refine mw_enter (by decide) (Nat.le_of_ble_eq_true rfl) ?_
  intro p e s m below meth c ls C hr hlocks hnm hw hl
  have hl : lv_has ls 3 [(0, .ref (ad 732)), (1, .int a1), (2, .int a2)] := hl
  have hb38 : ∀ (s1 : Int32) (M : mwM) (L : mwL) (H : Heap) (locs : List Loc) (ls : Array Slot), fX19_node_b38 fu a1 a2 s1 M L = some (r0, M0, L0) → mw_W G ad NF TF FF M L H locs → lv_has ls 3 [(0, .ref (ad 732)), (1, .int a1), (2, .int a2)] → W p l e ({ frames := 0, cells := 0, slots := 0, locals := 0 }) s m [.ref (ad 732), .int a1, .int a2].toArray below meth c H locs 0 0 (MQ below (mw_Qi G ad NF TF FF (mw_eqI r0 M0 L0)) [.ref (ad 732), .int a1, .int a2].toArray s 0 0 (mw_fr G)) (F0 m 38 ls [.int s1, .ref (ad 732)]) := by
    intro s1 M L H locs ls hD hw hl
    unfold fX19_node_b38 at hD
    obtain ⟨M1, eM1, hD⟩ := g_let hD
    refine mr_putI C hw kc_19 0 (by decide) tf_732 wd_2781 dX19_node_38 (by decide) rfl rfl rfl rfl (fun H locs hw => ?_)
    replace hw : mw_W G ad NF TF FF M1 L H locs := by rw [eM1]; exact hw
    refine lv_aload_n C.1.1 C.1.2.1 dX19_node_41 rfl (lv_at hl 0 rfl) ?_
    refine mr_getI C hw kc_19 0 (by decide) tf_732 wd_2781 dX19_node_42 (by decide) rfl ?_
    refine lv_if_le (tgt := 50) C.1.1 C.1.2.1 dX19_node_45 (by decide) (fun c2 => ?_) (fun c2 => ?_)
    · replace hD := g_pos c2 hD
      refine lv_iload_n C.1.1 C.1.2.1 dX19_node_50 rfl (lv_at hl 2 rfl) ?_
      refine lv_if_ne (tgt := 65) C.1.1 C.1.2.1 dX19_node_51 (by decide) (fun c3 => ?_) (fun c3 => ?_)
      · replace hD := g_neg c3 hD
        refine lv_iload_n C.1.1 C.1.2.1 dX19_node_65 rfl (lv_at hl 2 rfl) ?_
        refine lv_iconst (v := 1) C.1.1 C.1.2.1 dX19_node_66 (by decide) ?_
        refine lv_icmp_ne (tgt := 81) C.1.1 C.1.2.1 dX19_node_67 (by decide) (fun c4 => ?_) (fun c4 => ?_)
        · replace hD := g_neg c4 hD
          refine lv_aload_n C.1.1 C.1.2.1 dX19_node_81 rfl (lv_at hl 0 rfl) ?_
          refine mr_getR C hw kc_19 77 (by decide) tf_732 ff_732_77 wd_2858 dX19_node_82 (by decide) rfl ?_
          refine lv_iload_n C.1.1 C.1.2.1 dX19_node_85 rfl (lv_at hl 1 rfl) ?_
          refine lv_iconst (v := (-1)) C.1.1 C.1.2.1 dX19_node_86 (by decide) ?_
          refine lv_iconst (v := 0) C.1.1 C.1.2.1 dX19_node_87 (by decide) ?_
          cases hD
        · replace hD := g_pos c4 hD
          refine lv_aload_n C.1.1 C.1.2.1 dX19_node_70 rfl (lv_at hl 0 rfl) ?_
          refine mr_getR C hw kc_19 77 (by decide) tf_732 ff_732_77 wd_2858 dX19_node_71 (by decide) rfl ?_
          refine lv_iload_n C.1.1 C.1.2.1 dX19_node_74 rfl (lv_at hl 1 rfl) ?_
          cases hD
      · replace hD := g_pos c3 hD
        refine lv_aload_n C.1.1 C.1.2.1 dX19_node_54 rfl (lv_at hl 0 rfl) ?_
        refine mr_getR C hw kc_19 77 (by decide) tf_732 ff_732_77 wd_2858 dX19_node_55 (by decide) rfl ?_
        refine lv_iload_n C.1.1 C.1.2.1 dX19_node_58 rfl (lv_at hl 1 rfl) ?_
        cases hD
    · replace hD := g_neg c2 hD
      refine lv_iconst (v := 0) C.1.1 C.1.2.1 dX19_node_48 (by decide) ?_
      exact mr_iret C hr hlocks hw rfl (Option.some.inj hD) dX19_node_49
  have hb20 : ∀ (M : mwM) (L : mwL) (H : Heap) (locs : List Loc) (ls : Array Slot), fX19_node_b20 fu a1 a2 M L = some (r0, M0, L0) → mw_W G ad NF TF FF M L H locs → lv_has ls 3 [(0, .ref (ad 732)), (1, .int a1), (2, .int a2)] → W p l e ({ frames := 0, cells := 0, slots := 0, locals := 0 }) s m [.ref (ad 732), .int a1, .int a2].toArray below meth c H locs 0 0 (MQ below (mw_Qi G ad NF TF FF (mw_eqI r0 M0 L0)) [.ref (ad 732), .int a1, .int a2].toArray s 0 0 (mw_fr G)) (F0 m 20 ls [.ref (ad 732)]) := by
    intro M L H locs ls hD hw hl
    unfold fX19_node_b20 at hD
    refine lv_iconst (v := 1) C.1.1 C.1.2.1 dX19_node_20 (by decide) ?_
    refine lv_goto (tgt := 38) C.1.1 C.1.2.1 dX19_node_21 (by decide) ?_
    exact hb38 1 M L _ _ ls hD hw (lv_sub hl [0, 1, 2] rfl)
  have hb33 : ∀ (M : mwM) (L : mwL) (H : Heap) (locs : List Loc) (ls : Array Slot), fX19_node_b33 fu a1 a2 M L = some (r0, M0, L0) → mw_W G ad NF TF FF M L H locs → lv_has ls 3 [(0, .ref (ad 732)), (1, .int a1), (2, .int a2)] → W p l e ({ frames := 0, cells := 0, slots := 0, locals := 0 }) s m [.ref (ad 732), .int a1, .int a2].toArray below meth c H locs 0 0 (MQ below (mw_Qi G ad NF TF FF (mw_eqI r0 M0 L0)) [.ref (ad 732), .int a1, .int a2].toArray s 0 0 (mw_fr G)) (F0 m 33 ls [.ref (ad 732)]) := by
    intro M L H locs ls hD hw hl
    unfold fX19_node_b33 at hD
    refine lv_iconst (v := 2) C.1.1 C.1.2.1 dX19_node_33 (by decide) ?_
    refine lv_goto (tgt := 38) C.1.1 C.1.2.1 dX19_node_34 (by decide) ?_
    exact hb38 2 M L _ _ ls hD hw (lv_sub hl [0, 1, 2] rfl)
  unfold DX19_node at hD
  refine lv_aload_n C.1.1 C.1.2.1 dX19_node_0 rfl (lv_at hl 0 rfl) ?_
  refine lv_aload_n C.1.1 C.1.2.1 dX19_node_1 rfl (lv_at hl 0 rfl) ?_
  refine mr_getI C hw kc_19 4 (by decide) tf_732 wd_2785 dX19_node_2 (by decide) rfl ?_
  refine lv_if_eq (tgt := 20) C.1.1 C.1.2.1 dX19_node_5 (by decide) (fun c5 => ?_) (fun c5 => ?_)
  · replace hD := g_pos c5 hD
    exact hb20 M L _ _ ls hD hw (lv_sub hl [0, 1, 2] rfl)
  · replace hD := g_neg c5 hD
    refine lv_iload_n C.1.1 C.1.2.1 dX19_node_8 rfl (lv_at hl 1 rfl) ?_
    refine lv_if_lt (tgt := 20) C.1.1 C.1.2.1 dX19_node_9 (by decide) (fun c6 => ?_) (fun c6 => ?_)
    · replace hD := g_pos c6 hD
      exact hb20 M L _ _ ls hD hw (lv_sub hl [0, 1, 2] rfl)
    · replace hD := g_neg c6 hD
      refine lv_iload_n C.1.1 C.1.2.1 dX19_node_12 rfl (lv_at hl 1 rfl) ?_
      refine lv_aload_n C.1.1 C.1.2.1 dX19_node_13 rfl (lv_at hl 0 rfl) ?_
      refine mr_getI C hw kc_19 19 (by decide) tf_732 wd_2800 dX19_node_14 (by decide) rfl ?_
      refine lv_icmp_le (tgt := 24) C.1.1 C.1.2.1 dX19_node_17 (by decide) (fun c7 => ?_) (fun c7 => ?_)
      · replace hD := g_pos c7 hD
        refine lv_iload_n C.1.1 C.1.2.1 dX19_node_24 rfl (lv_at hl 2 rfl) ?_
        refine lv_if_lt (tgt := 33) C.1.1 C.1.2.1 dX19_node_25 (by decide) (fun c8 => ?_) (fun c8 => ?_)
        · replace hD := g_pos c8 hD
          exact hb33 M L _ _ ls hD hw (lv_sub hl [0, 1, 2] rfl)
        · replace hD := g_neg c8 hD
          refine lv_iload_n C.1.1 C.1.2.1 dX19_node_28 rfl (lv_at hl 2 rfl) ?_
          refine lv_iconst (v := 2) C.1.1 C.1.2.1 dX19_node_29 (by decide) ?_
          refine lv_icmp_le (tgt := 37) C.1.1 C.1.2.1 dX19_node_30 (by decide) (fun c9 => ?_) (fun c9 => ?_)
          · replace hD := g_pos c9 hD
            refine lv_iconst (v := 0) C.1.1 C.1.2.1 dX19_node_37 (by decide) ?_
            exact hb38 0 M L _ _ ls hD hw (lv_sub hl [0, 1, 2] rfl)
          · replace hD := g_neg c9 hD
            exact hb33 M L _ _ ls hD hw (lv_sub hl [0, 1, 2] rfl)
      · replace hD := g_neg c7 hD
        exact hb20 M L _ _ ls hD hw (lv_sub hl [0, 1, 2] rfl)

theorem dX19_place_0 : decode cX19_place 0 = .ok (.aload_n 0, 1) := by decide +kernel
theorem dX19_place_1 : decode cX19_place 1 = .ok (.iconst 0, 1) := by decide +kernel
theorem dX19_place_2 : decode cX19_place 2 = .ok (.putfield 289, 3) := by decide +kernel
theorem dX19_place_5 : decode cX19_place 5 = .ok (.aload_n 0, 1) := by decide +kernel
theorem dX19_place_6 : decode cX19_place 6 = .ok (.getfield 634, 3) := by decide +kernel
theorem dX19_place_9 : decode cX19_place 9 = .ok (.ireturn, 1) := by decide +kernel
theorem cwX19_place : mw_cwV yX19_place cX19_place 1 ((some .int)) 0 := ⟨⟨wd_13, wd_4189, by decide +kernel⟩, wd_4187, wd_4188⟩
noncomputable def DX19_place (fu : Nat) (M : mwM) (L : mwL) : Option (Int32 × mwM × mwL) :=
  mlet (mset M 732 0 0) (fun M1 => some (M1 732 5, M1, L))
set_option maxHeartbeats 4000000 in
set_option maxRecDepth 100000 in
theorem tX19_place (l : Launch) (G : mwG) (ad : Nat → Nat) (fu : Nat) (M : mwM) (L : mwL) {r0 : Int32} {M0 : mwM} {L0 : mwL} (hD : DX19_place fu M L = some (r0, M0, L0)) : Met l yX19_place (Cond.code yX19_place cX19_place 1 ((some .int)) :: GT) ({ frames := 0, cells := 0, slots := 0, locals := 0 }) (mw_Pre G ad NF TF FF M L [.ref (ad 732)]) (mw_Qi G ad NF TF FF (mw_eqI r0 M0 L0)) 0 0 (mw_fr G) := by
  refine mw_enter (by decide) (Nat.le_of_ble_eq_true rfl) ?_
  intro p e s m below meth c ls C hr hlocks hnm hw hl
  have hl : lv_has ls 1 [(0, .ref (ad 732))] := hl
  unfold DX19_place at hD
  refine lv_aload_n C.1.1 C.1.2.1 dX19_place_0 rfl (lv_at hl 0 rfl) ?_
  refine lv_iconst (v := 0) C.1.1 C.1.2.1 dX19_place_1 (by decide) ?_
  obtain ⟨M1, eM1, hD⟩ := g_let hD
  refine mr_putI C hw kc_19 0 (by decide) tf_732 wd_2781 dX19_place_2 (by decide) rfl rfl rfl rfl (fun H locs hw => ?_)
  replace hw : mw_W G ad NF TF FF M1 L H locs := by rw [eM1]; exact hw
  refine lv_aload_n C.1.1 C.1.2.1 dX19_place_5 rfl (lv_at hl 0 rfl) ?_
  refine mr_getI C hw kc_19 5 (by decide) tf_732 wd_2786 dX19_place_6 (by decide) rfl ?_
  exact mr_iret C hr hlocks hw rfl (Option.some.inj hD) dX19_place_9

theorem dX19_read_0 : decode cX19_read 0 = .ok (.iconst 0, 1) := by decide +kernel
theorem dX19_read_1 : decode cX19_read 1 = .ok (.istore_n 1, 1) := by decide +kernel
theorem dX19_read_2 : decode cX19_read 2 = .ok (.iload_n 1, 1) := by decide +kernel
theorem dX19_read_3 : decode cX19_read 3 = .ok (.aload_n 0, 1) := by decide +kernel
theorem dX19_read_4 : decode cX19_read 4 = .ok (.getfield 296, 3) := by decide +kernel
theorem dX19_read_7 : decode cX19_read 7 = .ok (.if_icmp .ge 77, 3) := by decide +kernel
theorem dX19_read_10 : decode cX19_read 10 = .ok (.aload_n 0, 1) := by decide +kernel
theorem dX19_read_11 : decode cX19_read 11 = .ok (.iload_n 1, 1) := by decide +kernel
theorem dX19_read_12 : decode cX19_read 12 = .ok (.putfield 308, 3) := by decide +kernel
theorem dX19_read_15 : decode cX19_read 15 = .ok (.aload_n 0, 1) := by decide +kernel
theorem dX19_read_16 : decode cX19_read 16 = .ok (.getfield 308, 3) := by decide +kernel
theorem dX19_read_19 : decode cX19_read 19 = .ok (.aload_n 0, 1) := by decide +kernel
theorem dX19_read_20 : decode cX19_read 20 = .ok (.getfield 296, 3) := by decide +kernel
theorem dX19_read_23 : decode cX19_read 23 = .ok (.if_icmp .ge 30, 3) := by decide +kernel
theorem dX19_read_26 : decode cX19_read 26 = .ok (.aload_n 0, 1) := by decide +kernel
theorem dX19_read_27 : decode cX19_read 27 = .ok (.getfield 7, 3) := by decide +kernel
theorem dX19_read_30 : decode cX19_read 30 = .ok (.aload_n 0, 1) := by decide +kernel
theorem dX19_read_31 : decode cX19_read 31 = .ok (.getfield 308, 3) := by decide +kernel
theorem dX19_read_34 : decode cX19_read 34 = .ok (.iaload, 1) := by decide +kernel
theorem dX19_read_35 : decode cX19_read 35 = .ok (.bipush 10, 2) := by decide +kernel
theorem dX19_read_37 : decode cX19_read 37 = .ok (.if_icmp .eq 16, 3) := by decide +kernel
theorem dX19_read_40 : decode cX19_read 40 = .ok (.aload_n 0, 1) := by decide +kernel
theorem dX19_read_41 : decode cX19_read 41 = .ok (.dup, 1) := by decide +kernel
theorem dX19_read_42 : decode cX19_read 42 = .ok (.getfield 308, 3) := by decide +kernel
theorem dX19_read_45 : decode cX19_read 45 = .ok (.iconst 1, 1) := by decide +kernel
theorem dX19_read_46 : decode cX19_read 46 = .ok (.iadd, 1) := by decide +kernel
theorem dX19_read_47 : decode cX19_read 47 = .ok (.putfield 308, 3) := by decide +kernel
theorem dX19_read_50 : decode cX19_read 50 = .ok (.goto (-35), 3) := by decide +kernel
theorem dX19_read_53 : decode cX19_read 53 = .ok (.aload_n 0, 1) := by decide +kernel
theorem dX19_read_54 : decode cX19_read 54 = .ok (.iload_n 1, 1) := by decide +kernel
theorem dX19_read_55 : decode cX19_read 55 = .ok (.putfield 305, 3) := by decide +kernel
theorem dX19_read_58 : decode cX19_read 58 = .ok (.aload_n 0, 1) := by decide +kernel
theorem dX19_read_59 : decode cX19_read 59 = .ok (.invokevirtual 317, 3) := by decide +kernel
theorem dX19_read_62 : decode cX19_read 62 = .ok (.ifCond .eq 12, 3) := by decide +kernel
theorem dX19_read_65 : decode cX19_read 65 = .ok (.aload_n 0, 1) := by decide +kernel
theorem dX19_read_66 : decode cX19_read 66 = .ok (.invokevirtual 624, 3) := by decide +kernel
theorem dX19_read_69 : decode cX19_read 69 = .ok (.ifCond .ne 5, 3) := by decide +kernel
theorem dX19_read_72 : decode cX19_read 72 = .ok (.iconst 0, 1) := by decide +kernel
theorem dX19_read_73 : decode cX19_read 73 = .ok (.ireturn, 1) := by decide +kernel
theorem dX19_read_74 : decode cX19_read 74 = .ok (.aload_n 0, 1) := by decide +kernel
theorem dX19_read_75 : decode cX19_read 75 = .ok (.getfield 308, 3) := by decide +kernel
theorem dX19_read_78 : decode cX19_read 78 = .ok (.iconst 1, 1) := by decide +kernel
theorem dX19_read_79 : decode cX19_read 79 = .ok (.iadd, 1) := by decide +kernel
theorem dX19_read_80 : decode cX19_read 80 = .ok (.istore_n 1, 1) := by decide +kernel
theorem dX19_read_81 : decode cX19_read 81 = .ok (.goto (-79), 3) := by decide +kernel
theorem dX19_read_84 : decode cX19_read 84 = .ok (.aload_n 0, 1) := by decide +kernel
theorem dX19_read_85 : decode cX19_read 85 = .ok (.getfield 435, 3) := by decide +kernel
theorem dX19_read_88 : decode cX19_read 88 = .ok (.ifCond .gt 15, 3) := by decide +kernel
theorem dX19_read_91 : decode cX19_read 91 = .ok (.aload_n 0, 1) := by decide +kernel
theorem dX19_read_92 : decode cX19_read 92 = .ok (.iconst 4, 1) := by decide +kernel
theorem dX19_read_93 : decode cX19_read 93 = .ok (.aload_n 0, 1) := by decide +kernel
theorem dX19_read_94 : decode cX19_read 94 = .ok (.getfield 296, 3) := by decide +kernel
theorem dX19_read_97 : decode cX19_read 97 = .ok (.invokevirtual 321, 3) := by decide +kernel
theorem dX19_read_100 : decode cX19_read 100 = .ok (.ifCond .eq 7, 3) := by decide +kernel
theorem dX19_read_103 : decode cX19_read 103 = .ok (.iconst 1, 1) := by decide +kernel
theorem dX19_read_104 : decode cX19_read 104 = .ok (.goto 4, 3) := by decide +kernel
theorem dX19_read_107 : decode cX19_read 107 = .ok (.iconst 0, 1) := by decide +kernel
theorem dX19_read_108 : decode cX19_read 108 = .ok (.ireturn, 1) := by decide +kernel
theorem cwX19_read : mw_cwV yX19_read cX19_read 2 ((some .boolean)) 0 := ⟨⟨wd_13, wd_3144, by decide +kernel⟩, wd_3143, sl_148⟩
noncomputable def fX19_read_b108 (fu : Nat) (s0 : Int32) (M : mwM) (L : mwL) : Option (Int32 × mwM × mwL) :=
  mzz s0 (some (s0, M, L))
noncomputable def fX19_read_b103 (fu : Nat) (M : mwM) (L : mwL) : Option (Int32 × mwM × mwL) :=
  fX19_read_b108 fu 1 M L
noncomputable def fX19_read_b53 (fu : Nat) (r2 : (Int32 × mwM × mwL) → Option (Int32 × mwM × mwL)) (v1 : Int32) (M : mwM) (L : mwL) : Option (Int32 × mwM × mwL) :=
  mlet (mset M 732 6 v1) (fun M12 => none)
noncomputable def fX19_read_i15 (fu : Nat) (r2 : (Int32 × mwM × mwL) → Option (Int32 × mwM × mwL)) (r15 : (Int32 × mwM × mwL) → Option (Int32 × mwM × mwL)) (v1 : Int32) (M : mwM) (L : mwL) : Option (Int32 × mwM × mwL) :=
  (if (M 732 2) ≤ (M 732 7) then fX19_read_b53 fu r2 v1 M L else mck (M 732 7) 6000 ((if (M 733 (M 732 7).toNatClampNeg) = 10 then fX19_read_b53 fu r2 v1 M L else mlet (mset M 732 7 ((M 732 7) + 1)) (fun M11 => r15 (v1, M11, L)))))
noncomputable def fX19_read_h15 (fu : Nat) (r2 : (Int32 × mwM × mwL) → Option (Int32 × mwM × mwL)) : Nat → (Int32 × mwM × mwL) → Option (Int32 × mwM × mwL) := mloop (fun r15 s => fX19_read_i15 fu r2 r15 s.1 s.2.1 s.2.2)
noncomputable def fX19_read_i2 (fu : Nat) (r2 : (Int32 × mwM × mwL) → Option (Int32 × mwM × mwL)) (v1 : Int32) (M : mwM) (L : mwL) : Option (Int32 × mwM × mwL) :=
  (if (M 732 2) ≤ v1 then (if 0 < (M 732 19) then fX19_read_b103 fu M L else mb3 (DX19_fail fu 4 (M 732 2) M L) (fun r5 M3 L4 => (if r5 = 0 then fX19_read_b108 fu 0 M3 L4 else fX19_read_b103 fu M3 L4))) else mlet (mset M 732 7 v1) (fun M7 => fX19_read_h15 fu r2 fu (v1, M7, L)))
noncomputable def fX19_read_h2 (fu : Nat) : Nat → (Int32 × mwM × mwL) → Option (Int32 × mwM × mwL) := mloop (fun r2 s => fX19_read_i2 fu r2 s.1 s.2.1 s.2.2)
noncomputable def DX19_read (fu : Nat) (M : mwM) (L : mwL) : Option (Int32 × mwM × mwL) :=
  fX19_read_h2 fu fu (0, M, L)
set_option maxHeartbeats 4000000 in
set_option maxRecDepth 100000 in
theorem tX19_read (l : Launch) (G : mwG) (ad : Nat → Nat) (fu : Nat) (M : mwM) (L : mwL) {r0 : Int32} {M0 : mwM} {L0 : mwL} (hD : DX19_read fu M L = some (r0, M0, L0)) : Met l yX19_read (Cond.code yX19_read cX19_read 2 ((some .boolean)) :: GT) ({ frames := 1, cells := 0, slots := 0, locals := 22 }) (mw_Pre G ad NF TF FF M L [.ref (ad 732)]) (mw_Qi G ad NF TF FF (mw_eqI r0 M0 L0)) 0 0 (mw_fr G) := by
  refine mw_enter (by decide) (Nat.le_of_ble_eq_true rfl) ?_
  intro p e s m below meth c ls C hr hlocks hnm hw hl
  have hl : lv_has ls 2 [(0, .ref (ad 732))] := hl
  have hb108 : ∀ (s0 : Int32) (M : mwM) (L : mwL) (H : Heap) (locs : List Loc) (ls : Array Slot), fX19_read_b108 fu s0 M L = some (r0, M0, L0) → mw_W G ad NF TF FF M L H locs → lv_has ls 2 [] → W p l e ({ frames := 1, cells := 0, slots := 0, locals := 22 }) s m [.ref (ad 732)].toArray below meth c H locs 0 0 (MQ below (mw_Qi G ad NF TF FF (mw_eqI r0 M0 L0)) [.ref (ad 732)].toArray s 0 0 (mw_fr G)) (F0 m 108 ls [.int s0]) := by
    intro s0 M L H locs ls hD hw hl
    unfold fX19_read_b108 at hD
    obtain ⟨z13, hD⟩ := g_zz hD
    exact mr_iret C hr hlocks hw (nz_zz z13) (Option.some.inj hD) dX19_read_108
  have hb103 : ∀ (M : mwM) (L : mwL) (H : Heap) (locs : List Loc) (ls : Array Slot), fX19_read_b103 fu M L = some (r0, M0, L0) → mw_W G ad NF TF FF M L H locs → lv_has ls 2 [] → W p l e ({ frames := 1, cells := 0, slots := 0, locals := 22 }) s m [.ref (ad 732)].toArray below meth c H locs 0 0 (MQ below (mw_Qi G ad NF TF FF (mw_eqI r0 M0 L0)) [.ref (ad 732)].toArray s 0 0 (mw_fr G)) (F0 m 103 ls []) := by
    intro M L H locs ls hD hw hl
    unfold fX19_read_b103 at hD
    refine lv_iconst (v := 1) C.1.1 C.1.2.1 dX19_read_103 (by decide) ?_
    refine lv_goto (tgt := 108) C.1.1 C.1.2.1 dX19_read_104 (by decide) ?_
    exact hb108 1 M L _ _ ls hD hw (lv_sub hl [] rfl)
  have hh2 : ∀ (f : Nat) (v1 : Int32) (M : mwM) (L : mwL) (H : Heap) (locs : List Loc) (ls : Array Slot), fX19_read_h2 fu f (v1, M, L) = some (r0, M0, L0) → mw_W G ad NF TF FF M L H locs → lv_has ls 2 [(0, .ref (ad 732)), (1, .int v1)] → W p l e ({ frames := 1, cells := 0, slots := 0, locals := 22 }) s m [.ref (ad 732)].toArray below meth c H locs 0 0 (MQ below (mw_Qi G ad NF TF FF (mw_eqI r0 M0 L0)) [.ref (ad 732)].toArray s 0 0 (mw_fr G)) (F0 m 2 ls []) := by
    intro f
    induction f with
    | zero => intro v1 M L H locs ls hD; cases hD
    | succ f2 ih2 =>
      intro v1 M L H locs ls hD hw hl
      replace hD : fX19_read_i2 fu (fX19_read_h2 fu f2) v1 M L = some (r0, M0, L0) := hD
      have hb53 : ∀ (v1 : Int32) (M : mwM) (L : mwL) (H : Heap) (locs : List Loc) (ls : Array Slot), fX19_read_b53 fu (fX19_read_h2 fu f2) v1 M L = some (r0, M0, L0) → mw_W G ad NF TF FF M L H locs → lv_has ls 2 [(0, .ref (ad 732)), (1, .int v1)] → W p l e ({ frames := 1, cells := 0, slots := 0, locals := 22 }) s m [.ref (ad 732)].toArray below meth c H locs 0 0 (MQ below (mw_Qi G ad NF TF FF (mw_eqI r0 M0 L0)) [.ref (ad 732)].toArray s 0 0 (mw_fr G)) (F0 m 53 ls []) := by
        intro v1 M L H locs ls hD hw hl
        unfold fX19_read_b53 at hD
        refine lv_aload_n C.1.1 C.1.2.1 dX19_read_53 rfl (lv_at hl 0 rfl) ?_
        refine lv_iload_n C.1.1 C.1.2.1 dX19_read_54 rfl (lv_at hl 1 rfl) ?_
        obtain ⟨M12, eM12, hD⟩ := g_let hD
        refine mr_putI C hw kc_19 6 (by decide) tf_732 wd_2787 dX19_read_55 (by decide) rfl rfl rfl rfl (fun H locs hw => ?_)
        replace hw : mw_W G ad NF TF FF M12 L H locs := by rw [eM12]; exact hw
        refine lv_aload_n C.1.1 C.1.2.1 dX19_read_58 rfl (lv_at hl 0 rfl) ?_
        cases hD
      have hh15 : ∀ (f : Nat) (v1 : Int32) (M : mwM) (L : mwL) (H : Heap) (locs : List Loc) (ls : Array Slot), fX19_read_h15 fu (fX19_read_h2 fu f2) f (v1, M, L) = some (r0, M0, L0) → mw_W G ad NF TF FF M L H locs → lv_has ls 2 [(0, .ref (ad 732)), (1, .int v1)] → W p l e ({ frames := 1, cells := 0, slots := 0, locals := 22 }) s m [.ref (ad 732)].toArray below meth c H locs 0 0 (MQ below (mw_Qi G ad NF TF FF (mw_eqI r0 M0 L0)) [.ref (ad 732)].toArray s 0 0 (mw_fr G)) (F0 m 15 ls []) := by
        intro f
        induction f with
        | zero => intro v1 M L H locs ls hD; cases hD
        | succ f15 ih15 =>
          intro v1 M L H locs ls hD hw hl
          replace hD : fX19_read_i15 fu (fX19_read_h2 fu f2) (fX19_read_h15 fu (fX19_read_h2 fu f2) f15) v1 M L = some (r0, M0, L0) := hD
          unfold fX19_read_i15 at hD
          refine lv_aload_n C.1.1 C.1.2.1 dX19_read_15 rfl (lv_at hl 0 rfl) ?_
          refine mr_getI C hw kc_19 7 (by decide) tf_732 wd_2788 dX19_read_16 (by decide) rfl ?_
          refine lv_aload_n C.1.1 C.1.2.1 dX19_read_19 rfl (lv_at hl 0 rfl) ?_
          refine mr_getI C hw kc_19 2 (by decide) tf_732 wd_2783 dX19_read_20 (by decide) rfl ?_
          refine lv_icmp_ge (tgt := 53) C.1.1 C.1.2.1 dX19_read_23 (by decide) (fun c8 => ?_) (fun c8 => ?_)
          · replace hD := g_pos c8 hD
            exact hb53 v1 M L _ _ ls hD hw (lv_sub hl [0, 1] rfl)
          · replace hD := g_neg c8 hD
            refine lv_aload_n C.1.1 C.1.2.1 dX19_read_26 rfl (lv_at hl 0 rfl) ?_
            refine mr_getR C hw kc_19 1 (by decide) tf_732 ff_732_1 wd_2782 dX19_read_27 (by decide) rfl ?_
            refine lv_aload_n C.1.1 C.1.2.1 dX19_read_30 rfl (lv_at hl 0 rfl) ?_
            refine mr_getI C hw kc_19 7 (by decide) tf_732 wd_2788 dX19_read_31 (by decide) rfl ?_
            obtain ⟨q9, hD⟩ := g_ck hD
            refine mr_iald C hw (by decide) tf_733 q9 dX19_read_34 ?_
            refine lv_bipush (v := 10) C.1.1 C.1.2.1 dX19_read_35 (by decide) ?_
            refine lv_icmp_eq (tgt := 53) C.1.1 C.1.2.1 dX19_read_37 (by decide) (fun c10 => ?_) (fun c10 => ?_)
            · replace hD := g_pos c10 hD
              exact hb53 v1 M L _ _ ls hD hw (lv_sub hl [0, 1] rfl)
            · replace hD := g_neg c10 hD
              refine lv_aload_n C.1.1 C.1.2.1 dX19_read_40 rfl (lv_at hl 0 rfl) ?_
              refine lv_dup C.1.1 C.1.2.1 dX19_read_41 rfl ?_
              refine mr_getI C hw kc_19 7 (by decide) tf_732 wd_2788 dX19_read_42 (by decide) rfl ?_
              refine lv_iconst (v := 1) C.1.1 C.1.2.1 dX19_read_45 (by decide) ?_
              refine lv_iadd C.1.1 C.1.2.1 dX19_read_46 ?_
              obtain ⟨M11, eM11, hD⟩ := g_let hD
              refine mr_putI C hw kc_19 7 (by decide) tf_732 wd_2788 dX19_read_47 (by decide) rfl rfl rfl rfl (fun H locs hw => ?_)
              replace hw : mw_W G ad NF TF FF M11 L H locs := by rw [eM11]; exact hw
              refine lv_goto (tgt := 15) C.1.1 C.1.2.1 dX19_read_50 (by decide) ?_
              exact ih15 v1 M11 L _ _ ls hD hw (lv_sub hl [0, 1] rfl)
      unfold fX19_read_i2 at hD
      refine lv_iload_n C.1.1 C.1.2.1 dX19_read_2 rfl (lv_at hl 1 rfl) ?_
      refine lv_aload_n C.1.1 C.1.2.1 dX19_read_3 rfl (lv_at hl 0 rfl) ?_
      refine mr_getI C hw kc_19 2 (by decide) tf_732 wd_2783 dX19_read_4 (by decide) rfl ?_
      refine lv_icmp_ge (tgt := 84) C.1.1 C.1.2.1 dX19_read_7 (by decide) (fun c1 => ?_) (fun c1 => ?_)
      · replace hD := g_pos c1 hD
        refine lv_aload_n C.1.1 C.1.2.1 dX19_read_84 rfl (lv_at hl 0 rfl) ?_
        refine mr_getI C hw kc_19 19 (by decide) tf_732 wd_2800 dX19_read_85 (by decide) rfl ?_
        refine lv_if_gt (tgt := 103) C.1.1 C.1.2.1 dX19_read_88 (by decide) (fun c2 => ?_) (fun c2 => ?_)
        · replace hD := g_pos c2 hD
          exact hb103 M L _ _ ls hD hw (lv_sub hl [] rfl)
        · replace hD := g_neg c2 hD
          refine lv_aload_n C.1.1 C.1.2.1 dX19_read_91 rfl (lv_at hl 0 rfl) ?_
          refine lv_iconst (v := 4) C.1.1 C.1.2.1 dX19_read_92 (by decide) ?_
          refine lv_aload_n C.1.1 C.1.2.1 dX19_read_93 rfl (lv_at hl 0 rfl) ?_
          refine mr_getI C hw kc_19 2 (by decide) tf_732 wd_2783 dX19_read_94 (by decide) rfl ?_
          obtain ⟨r5, M3, L4, h1, hD⟩ := g_b3 hD
          refine md_cvI (As := [.int 4, .int (M 732 2)]) (rest := []) C hw (tX19_fail l G ad fu 4 (M 732 2) M L h1) kc_19 (by decide) tf_732 wd_3172 cwX19_fail ⟨Nat.le_of_ble_eq_true rfl, Nat.le_of_ble_eq_true rfl⟩ rfl hl.1 (Nat.le_of_ble_eq_true rfl) dX19_read_97 rfl rfl ⟨Nat.zero_le _, Nat.zero_le _⟩ rfl (fun H locs hw => ?_)
          refine lv_if_eq (tgt := 107) C.1.1 C.1.2.1 dX19_read_100 (by decide) (fun c6 => ?_) (fun c6 => ?_)
          · replace hD := g_pos c6 hD
            refine lv_iconst (v := 0) C.1.1 C.1.2.1 dX19_read_107 (by decide) ?_
            exact hb108 0 M3 L4 _ _ ls hD hw (lv_sub hl [] rfl)
          · replace hD := g_neg c6 hD
            exact hb103 M3 L4 _ _ ls hD hw (lv_sub hl [] rfl)
      · replace hD := g_neg c1 hD
        refine lv_aload_n C.1.1 C.1.2.1 dX19_read_10 rfl (lv_at hl 0 rfl) ?_
        refine lv_iload_n C.1.1 C.1.2.1 dX19_read_11 rfl (lv_at hl 1 rfl) ?_
        obtain ⟨M7, eM7, hD⟩ := g_let hD
        refine mr_putI C hw kc_19 7 (by decide) tf_732 wd_2788 dX19_read_12 (by decide) rfl rfl rfl rfl (fun H locs hw => ?_)
        replace hw : mw_W G ad NF TF FF M7 L H locs := by rw [eM7]; exact hw
        exact hh15 fu v1 M7 L _ _ ls hD hw (lv_sub hl [0, 1] rfl)
  unfold DX19_read at hD
  refine lv_iconst (v := 0) C.1.1 C.1.2.1 dX19_read_0 (by decide) ?_
  refine lv_istore_n (lv' := [(1, .int 0), (0, .ref (ad 732))]) C.1.1 C.1.2.1 dX19_read_1 rfl hl (by decide) rfl (fun ls hl => ?_)
  exact hh2 fu 0 M L _ _ ls hD hw (lv_sub hl [1, 0] rfl)

theorem dX19_run_0 : decode cX19_run 0 = .ok (.aload_n 0, 1) := by decide +kernel
theorem dX19_run_1 : decode cX19_run 1 = .ok (.iload_n 1, 1) := by decide +kernel
theorem dX19_run_2 : decode cX19_run 2 = .ok (.ifCond .ge 7, 3) := by decide +kernel
theorem dX19_run_5 : decode cX19_run 5 = .ok (.iconst 1, 1) := by decide +kernel
theorem dX19_run_6 : decode cX19_run 6 = .ok (.goto 27, 3) := by decide +kernel
theorem dX19_run_9 : decode cX19_run 9 = .ok (.aload_n 0, 1) := by decide +kernel
theorem dX19_run_10 : decode cX19_run 10 = .ok (.getfield 630, 3) := by decide +kernel
theorem dX19_run_13 : decode cX19_run 13 = .ok (.ifCond .eq 15, 3) := by decide +kernel
theorem dX19_run_16 : decode cX19_run 16 = .ok (.iload_n 1, 1) := by decide +kernel
theorem dX19_run_17 : decode cX19_run 17 = .ok (.sipush 20000, 3) := by decide +kernel
theorem dX19_run_20 : decode cX19_run 20 = .ok (.aload_n 0, 1) := by decide +kernel
theorem dX19_run_21 : decode cX19_run 21 = .ok (.getfield 600, 3) := by decide +kernel
theorem dX19_run_24 : decode cX19_run 24 = .ok (.isub, 1) := by decide +kernel
theorem dX19_run_25 : decode cX19_run 25 = .ok (.if_icmp .le 7, 3) := by decide +kernel
theorem dX19_run_28 : decode cX19_run 28 = .ok (.iconst 2, 1) := by decide +kernel
theorem dX19_run_29 : decode cX19_run 29 = .ok (.goto 4, 3) := by decide +kernel
theorem dX19_run_32 : decode cX19_run 32 = .ok (.iconst 0, 1) := by decide +kernel
theorem dX19_run_33 : decode cX19_run 33 = .ok (.putfield 289, 3) := by decide +kernel
theorem dX19_run_36 : decode cX19_run 36 = .ok (.aload_n 0, 1) := by decide +kernel
theorem dX19_run_37 : decode cX19_run 37 = .ok (.getfield 289, 3) := by decide +kernel
theorem dX19_run_40 : decode cX19_run 40 = .ok (.ifCond .le 5, 3) := by decide +kernel
theorem dX19_run_43 : decode cX19_run 43 = .ok (.iconst 0, 1) := by decide +kernel
theorem dX19_run_44 : decode cX19_run 44 = .ok (.ireturn, 1) := by decide +kernel
theorem dX19_run_45 : decode cX19_run 45 = .ok (.aload_n 0, 1) := by decide +kernel
theorem dX19_run_46 : decode cX19_run 46 = .ok (.getfield 184, 3) := by decide +kernel
theorem dX19_run_49 : decode cX19_run 49 = .ok (.iconst (-1), 1) := by decide +kernel
theorem dX19_run_50 : decode cX19_run 50 = .ok (.iconst 0, 1) := by decide +kernel
theorem dX19_run_51 : decode cX19_run 51 = .ok (.invokevirtual 807, 3) := by decide +kernel
theorem dX19_run_54 : decode cX19_run 54 = .ok (.istore_n 2, 1) := by decide +kernel
theorem dX19_run_55 : decode cX19_run 55 = .ok (.iconst 0, 1) := by decide +kernel
theorem dX19_run_56 : decode cX19_run 56 = .ok (.istore_n 3, 1) := by decide +kernel
theorem dX19_run_57 : decode cX19_run 57 = .ok (.iload_n 3, 1) := by decide +kernel
theorem dX19_run_58 : decode cX19_run 58 = .ok (.iload_n 1, 1) := by decide +kernel
theorem dX19_run_59 : decode cX19_run 59 = .ok (.if_icmp .ge 13, 3) := by decide +kernel
theorem dX19_run_62 : decode cX19_run 62 = .ok (.aload_n 0, 1) := by decide +kernel
theorem dX19_run_63 : decode cX19_run 63 = .ok (.invokevirtual 809, 3) := by decide +kernel
theorem dX19_run_66 : decode cX19_run 66 = .ok (.iinc 3 1, 3) := by decide +kernel
theorem dX19_run_69 : decode cX19_run 69 = .ok (.goto (-12), 3) := by decide +kernel
theorem dX19_run_72 : decode cX19_run 72 = .ok (.aload_n 0, 1) := by decide +kernel
theorem dX19_run_73 : decode cX19_run 73 = .ok (.getfield 184, 3) := by decide +kernel
theorem dX19_run_76 : decode cX19_run 76 = .ok (.iconst (-1), 1) := by decide +kernel
theorem dX19_run_77 : decode cX19_run 77 = .ok (.iconst 0, 1) := by decide +kernel
theorem dX19_run_78 : decode cX19_run 78 = .ok (.invokevirtual 807, 3) := by decide +kernel
theorem dX19_run_81 : decode cX19_run 81 = .ok (.iload_n 2, 1) := by decide +kernel
theorem dX19_run_82 : decode cX19_run 82 = .ok (.isub, 1) := by decide +kernel
theorem dX19_run_83 : decode cX19_run 83 = .ok (.ireturn, 1) := by decide +kernel
theorem cwX19_run : mw_cwV yX19_run cX19_run 4 ((some .int)) 1 := ⟨⟨wd_13, wd_3537, by decide +kernel⟩, wd_3535, wd_3536⟩
noncomputable def fX19_run_b33 (fu : Nat) (a1 : Int32) (s1 : Int32) (M : mwM) (L : mwL) : Option (Int32 × mwM × mwL) :=
  mlet (mset M 732 0 s1) (fun M1 => (if (M1 732 0) ≤ 0 then none else some (0, M1, L)))
noncomputable def fX19_run_b28 (fu : Nat) (a1 : Int32) (M : mwM) (L : mwL) : Option (Int32 × mwM × mwL) :=
  fX19_run_b33 fu a1 2 M L
noncomputable def DX19_run (fu : Nat) (a1 : Int32) (M : mwM) (L : mwL) : Option (Int32 × mwM × mwL) :=
  (if 0 ≤ a1 then (if (M 732 4) = 0 then fX19_run_b28 fu a1 M L else (if a1 ≤ (20000 - (M 732 83)) then fX19_run_b33 fu a1 0 M L else fX19_run_b28 fu a1 M L)) else fX19_run_b33 fu a1 1 M L)
set_option maxHeartbeats 4000000 in
set_option maxRecDepth 100000 in
theorem tX19_run (l : Launch) (G : mwG) (ad : Nat → Nat) (fu : Nat) (a1 : Int32) (M : mwM) (L : mwL) {r0 : Int32} {M0 : mwM} {L0 : mwL} (hD : DX19_run fu a1 M L = some (r0, M0, L0)) : Met l yX19_run (Cond.code yX19_run cX19_run 4 ((some .int)) :: GT) ({ frames := 0, cells := 0, slots := 0, locals := 0 }) (mw_Pre G ad NF TF FF M L [.ref (ad 732), .int a1]) (mw_Qi G ad NF TF FF (mw_eqI r0 M0 L0)) 0 0 (mw_fr G) := by
  refine mw_enter (by decide) (Nat.le_of_ble_eq_true rfl) ?_
  intro p e s m below meth c ls C hr hlocks hnm hw hl
  have hl : lv_has ls 4 [(0, .ref (ad 732)), (1, .int a1)] := hl
  have hb33 : ∀ (s1 : Int32) (M : mwM) (L : mwL) (H : Heap) (locs : List Loc) (ls : Array Slot), fX19_run_b33 fu a1 s1 M L = some (r0, M0, L0) → mw_W G ad NF TF FF M L H locs → lv_has ls 4 [(0, .ref (ad 732)), (1, .int a1)] → W p l e ({ frames := 0, cells := 0, slots := 0, locals := 0 }) s m [.ref (ad 732), .int a1].toArray below meth c H locs 0 0 (MQ below (mw_Qi G ad NF TF FF (mw_eqI r0 M0 L0)) [.ref (ad 732), .int a1].toArray s 0 0 (mw_fr G)) (F0 m 33 ls [.int s1, .ref (ad 732)]) := by
    intro s1 M L H locs ls hD hw hl
    unfold fX19_run_b33 at hD
    obtain ⟨M1, eM1, hD⟩ := g_let hD
    refine mr_putI C hw kc_19 0 (by decide) tf_732 wd_2781 dX19_run_33 (by decide) rfl rfl rfl rfl (fun H locs hw => ?_)
    replace hw : mw_W G ad NF TF FF M1 L H locs := by rw [eM1]; exact hw
    refine lv_aload_n C.1.1 C.1.2.1 dX19_run_36 rfl (lv_at hl 0 rfl) ?_
    refine mr_getI C hw kc_19 0 (by decide) tf_732 wd_2781 dX19_run_37 (by decide) rfl ?_
    refine lv_if_le (tgt := 45) C.1.1 C.1.2.1 dX19_run_40 (by decide) (fun c2 => ?_) (fun c2 => ?_)
    · replace hD := g_pos c2 hD
      refine lv_aload_n C.1.1 C.1.2.1 dX19_run_45 rfl (lv_at hl 0 rfl) ?_
      refine mr_getR C hw kc_19 77 (by decide) tf_732 ff_732_77 wd_2858 dX19_run_46 (by decide) rfl ?_
      refine lv_iconst (v := (-1)) C.1.1 C.1.2.1 dX19_run_49 (by decide) ?_
      refine lv_iconst (v := 0) C.1.1 C.1.2.1 dX19_run_50 (by decide) ?_
      cases hD
    · replace hD := g_neg c2 hD
      refine lv_iconst (v := 0) C.1.1 C.1.2.1 dX19_run_43 (by decide) ?_
      exact mr_iret C hr hlocks hw rfl (Option.some.inj hD) dX19_run_44
  have hb28 : ∀ (M : mwM) (L : mwL) (H : Heap) (locs : List Loc) (ls : Array Slot), fX19_run_b28 fu a1 M L = some (r0, M0, L0) → mw_W G ad NF TF FF M L H locs → lv_has ls 4 [(0, .ref (ad 732)), (1, .int a1)] → W p l e ({ frames := 0, cells := 0, slots := 0, locals := 0 }) s m [.ref (ad 732), .int a1].toArray below meth c H locs 0 0 (MQ below (mw_Qi G ad NF TF FF (mw_eqI r0 M0 L0)) [.ref (ad 732), .int a1].toArray s 0 0 (mw_fr G)) (F0 m 28 ls [.ref (ad 732)]) := by
    intro M L H locs ls hD hw hl
    unfold fX19_run_b28 at hD
    refine lv_iconst (v := 2) C.1.1 C.1.2.1 dX19_run_28 (by decide) ?_
    refine lv_goto (tgt := 33) C.1.1 C.1.2.1 dX19_run_29 (by decide) ?_
    exact hb33 2 M L _ _ ls hD hw (lv_sub hl [0, 1] rfl)
  unfold DX19_run at hD
  refine lv_aload_n C.1.1 C.1.2.1 dX19_run_0 rfl (lv_at hl 0 rfl) ?_
  refine lv_iload_n C.1.1 C.1.2.1 dX19_run_1 rfl (lv_at hl 1 rfl) ?_
  refine lv_if_ge (tgt := 9) C.1.1 C.1.2.1 dX19_run_2 (by decide) (fun c3 => ?_) (fun c3 => ?_)
  · replace hD := g_pos c3 hD
    refine lv_aload_n C.1.1 C.1.2.1 dX19_run_9 rfl (lv_at hl 0 rfl) ?_
    refine mr_getI C hw kc_19 4 (by decide) tf_732 wd_2785 dX19_run_10 (by decide) rfl ?_
    refine lv_if_eq (tgt := 28) C.1.1 C.1.2.1 dX19_run_13 (by decide) (fun c4 => ?_) (fun c4 => ?_)
    · replace hD := g_pos c4 hD
      exact hb28 M L _ _ ls hD hw (lv_sub hl [0, 1] rfl)
    · replace hD := g_neg c4 hD
      refine lv_iload_n C.1.1 C.1.2.1 dX19_run_16 rfl (lv_at hl 1 rfl) ?_
      refine lv_sipush (v := 20000) C.1.1 C.1.2.1 dX19_run_17 (by decide) ?_
      refine lv_aload_n C.1.1 C.1.2.1 dX19_run_20 rfl (lv_at hl 0 rfl) ?_
      refine mr_getI C hw kc_19 83 (by decide) tf_732 wd_2864 dX19_run_21 (by decide) rfl ?_
      refine lv_isub C.1.1 C.1.2.1 dX19_run_24 ?_
      refine lv_icmp_le (tgt := 32) C.1.1 C.1.2.1 dX19_run_25 (by decide) (fun c5 => ?_) (fun c5 => ?_)
      · replace hD := g_pos c5 hD
        refine lv_iconst (v := 0) C.1.1 C.1.2.1 dX19_run_32 (by decide) ?_
        exact hb33 0 M L _ _ ls hD hw (lv_sub hl [0, 1] rfl)
      · replace hD := g_neg c5 hD
        exact hb28 M L _ _ ls hD hw (lv_sub hl [0, 1] rfl)
  · replace hD := g_neg c3 hD
    refine lv_iconst (v := 1) C.1.1 C.1.2.1 dX19_run_5 (by decide) ?_
    refine lv_goto (tgt := 33) C.1.1 C.1.2.1 dX19_run_6 (by decide) ?_
    exact hb33 1 M L _ _ ls hD hw (lv_sub hl [0, 1] rfl)

theorem dX19_running_0 : decode cX19_running 0 = .ok (.aload_n 0, 1) := by decide +kernel
theorem dX19_running_1 : decode cX19_running 1 = .ok (.aload_n 0, 1) := by decide +kernel
theorem dX19_running_2 : decode cX19_running 2 = .ok (.iload_n 1, 1) := by decide +kernel
theorem dX19_running_3 : decode cX19_running 3 = .ok (.invokevirtual 825, 3) := by decide +kernel
theorem dX19_running_6 : decode cX19_running 6 = .ok (.ifCond .ne 15, 3) := by decide +kernel
theorem dX19_running_9 : decode cX19_running 9 = .ok (.iload_n 2, 1) := by decide +kernel
theorem dX19_running_10 : decode cX19_running 10 = .ok (.ifCond .lt 11, 3) := by decide +kernel
theorem dX19_running_13 : decode cX19_running 13 = .ok (.iload_n 2, 1) := by decide +kernel
theorem dX19_running_14 : decode cX19_running 14 = .ok (.aload_n 0, 1) := by decide +kernel
theorem dX19_running_15 : decode cX19_running 15 = .ok (.getfield 600, 3) := by decide +kernel
theorem dX19_running_18 : decode cX19_running 18 = .ok (.if_icmp .lt 7, 3) := by decide +kernel
theorem dX19_running_21 : decode cX19_running 21 = .ok (.iconst 1, 1) := by decide +kernel
theorem dX19_running_22 : decode cX19_running 22 = .ok (.goto 4, 3) := by decide +kernel
theorem dX19_running_25 : decode cX19_running 25 = .ok (.iconst 0, 1) := by decide +kernel
theorem dX19_running_26 : decode cX19_running 26 = .ok (.putfield 289, 3) := by decide +kernel
theorem dX19_running_29 : decode cX19_running 29 = .ok (.aload_n 0, 1) := by decide +kernel
theorem dX19_running_30 : decode cX19_running 30 = .ok (.getfield 289, 3) := by decide +kernel
theorem dX19_running_33 : decode cX19_running 33 = .ok (.ifCond .le 7, 3) := by decide +kernel
theorem dX19_running_36 : decode cX19_running 36 = .ok (.iconst 0, 1) := by decide +kernel
theorem dX19_running_37 : decode cX19_running 37 = .ok (.goto 13, 3) := by decide +kernel
theorem dX19_running_40 : decode cX19_running 40 = .ok (.aload_n 0, 1) := by decide +kernel
theorem dX19_running_41 : decode cX19_running 41 = .ok (.getfield 177, 3) := by decide +kernel
theorem dX19_running_44 : decode cX19_running 44 = .ok (.iload_n 1, 1) := by decide +kernel
theorem dX19_running_45 : decode cX19_running 45 = .ok (.iload_n 2, 1) := by decide +kernel
theorem dX19_running_46 : decode cX19_running 46 = .ok (.i2l, 1) := by decide +kernel
theorem dX19_running_47 : decode cX19_running 47 = .ok (.invokevirtual 828, 3) := by decide +kernel
theorem dX19_running_50 : decode cX19_running 50 = .ok (.ireturn, 1) := by decide +kernel
theorem cwX19_running : mw_cwV yX19_running cX19_running 3 ((some .int)) 2 := ⟨⟨wd_13, wd_4253, by decide +kernel⟩, wd_4251, wd_4252⟩
noncomputable def fX19_running_b50 (fu : Nat) (a1 : Int32) (a2 : Int32) (s0 : Int32) (M : mwM) (L : mwL) : Option (Int32 × mwM × mwL) :=
  some (s0, M, L)
noncomputable def fX19_running_b26 (fu : Nat) (a1 : Int32) (a2 : Int32) (s1 : Int32) (M : mwM) (L : mwL) : Option (Int32 × mwM × mwL) :=
  mlet (mset M 732 0 s1) (fun M1 => (if (M1 732 0) ≤ 0 then none else fX19_running_b50 fu a1 a2 0 M1 L))
noncomputable def fX19_running_b21 (fu : Nat) (a1 : Int32) (a2 : Int32) (M : mwM) (L : mwL) : Option (Int32 × mwM × mwL) :=
  fX19_running_b26 fu a1 a2 1 M L
noncomputable def DX19_running (fu : Nat) (a1 : Int32) (a2 : Int32) (M : mwM) (L : mwL) : Option (Int32 × mwM × mwL) :=
  mb3 (DX19_noController fu a1 M L) (fun r5 M3 L4 => (if r5 = 0 then (if a2 < 0 then fX19_running_b21 fu a1 a2 M3 L4 else (if a2 < (M3 732 83) then fX19_running_b26 fu a1 a2 0 M3 L4 else fX19_running_b21 fu a1 a2 M3 L4)) else fX19_running_b21 fu a1 a2 M3 L4))
set_option maxHeartbeats 4000000 in
set_option maxRecDepth 100000 in
theorem tX19_running (l : Launch) (G : mwG) (ad : Nat → Nat) (fu : Nat) (a1 : Int32) (a2 : Int32) (M : mwM) (L : mwL) {r0 : Int32} {M0 : mwM} {L0 : mwL} (hD : DX19_running fu a1 a2 M L = some (r0, M0, L0)) : Met l yX19_running (Cond.code yX19_running cX19_running 3 ((some .int)) :: GT) ({ frames := 1, cells := 0, slots := 0, locals := 21 }) (mw_Pre G ad NF TF FF M L [.ref (ad 732), .int a1, .int a2]) (mw_Qi G ad NF TF FF (mw_eqI r0 M0 L0)) 0 0 (mw_fr G) := by
  refine mw_enter (by decide) (Nat.le_of_ble_eq_true rfl) ?_
  intro p e s m below meth c ls C hr hlocks hnm hw hl
  have hl : lv_has ls 3 [(0, .ref (ad 732)), (1, .int a1), (2, .int a2)] := hl
  have hb50 : ∀ (s0 : Int32) (M : mwM) (L : mwL) (H : Heap) (locs : List Loc) (ls : Array Slot), fX19_running_b50 fu a1 a2 s0 M L = some (r0, M0, L0) → mw_W G ad NF TF FF M L H locs → lv_has ls 3 [] → W p l e ({ frames := 1, cells := 0, slots := 0, locals := 21 }) s m [.ref (ad 732), .int a1, .int a2].toArray below meth c H locs 0 0 (MQ below (mw_Qi G ad NF TF FF (mw_eqI r0 M0 L0)) [.ref (ad 732), .int a1, .int a2].toArray s 0 0 (mw_fr G)) (F0 m 50 ls [.int s0]) := by
    intro s0 M L H locs ls hD hw hl
    unfold fX19_running_b50 at hD
    exact mr_iret C hr hlocks hw rfl (Option.some.inj hD) dX19_running_50
  have hb26 : ∀ (s1 : Int32) (M : mwM) (L : mwL) (H : Heap) (locs : List Loc) (ls : Array Slot), fX19_running_b26 fu a1 a2 s1 M L = some (r0, M0, L0) → mw_W G ad NF TF FF M L H locs → lv_has ls 3 [(0, .ref (ad 732)), (1, .int a1), (2, .int a2)] → W p l e ({ frames := 1, cells := 0, slots := 0, locals := 21 }) s m [.ref (ad 732), .int a1, .int a2].toArray below meth c H locs 0 0 (MQ below (mw_Qi G ad NF TF FF (mw_eqI r0 M0 L0)) [.ref (ad 732), .int a1, .int a2].toArray s 0 0 (mw_fr G)) (F0 m 26 ls [.int s1, .ref (ad 732)]) := by
    intro s1 M L H locs ls hD hw hl
    unfold fX19_running_b26 at hD
    obtain ⟨M1, eM1, hD⟩ := g_let hD
    refine mr_putI C hw kc_19 0 (by decide) tf_732 wd_2781 dX19_running_26 (by decide) rfl rfl rfl rfl (fun H locs hw => ?_)
    replace hw : mw_W G ad NF TF FF M1 L H locs := by rw [eM1]; exact hw
    refine lv_aload_n C.1.1 C.1.2.1 dX19_running_29 rfl (lv_at hl 0 rfl) ?_
    refine mr_getI C hw kc_19 0 (by decide) tf_732 wd_2781 dX19_running_30 (by decide) rfl ?_
    refine lv_if_le (tgt := 40) C.1.1 C.1.2.1 dX19_running_33 (by decide) (fun c2 => ?_) (fun c2 => ?_)
    · replace hD := g_pos c2 hD
      refine lv_aload_n C.1.1 C.1.2.1 dX19_running_40 rfl (lv_at hl 0 rfl) ?_
      refine mr_getR C hw kc_19 76 (by decide) tf_732 ff_732_76 wd_2857 dX19_running_41 (by decide) rfl ?_
      refine lv_iload_n C.1.1 C.1.2.1 dX19_running_44 rfl (lv_at hl 1 rfl) ?_
      refine lv_iload_n C.1.1 C.1.2.1 dX19_running_45 rfl (lv_at hl 2 rfl) ?_
      refine lv_i2l C.1.1 C.1.2.1 dX19_running_46 rfl ?_
      cases hD
    · replace hD := g_neg c2 hD
      refine lv_iconst (v := 0) C.1.1 C.1.2.1 dX19_running_36 (by decide) ?_
      refine lv_goto (tgt := 50) C.1.1 C.1.2.1 dX19_running_37 (by decide) ?_
      exact hb50 0 M1 L _ _ ls hD hw (lv_sub hl [] rfl)
  have hb21 : ∀ (M : mwM) (L : mwL) (H : Heap) (locs : List Loc) (ls : Array Slot), fX19_running_b21 fu a1 a2 M L = some (r0, M0, L0) → mw_W G ad NF TF FF M L H locs → lv_has ls 3 [(0, .ref (ad 732)), (1, .int a1), (2, .int a2)] → W p l e ({ frames := 1, cells := 0, slots := 0, locals := 21 }) s m [.ref (ad 732), .int a1, .int a2].toArray below meth c H locs 0 0 (MQ below (mw_Qi G ad NF TF FF (mw_eqI r0 M0 L0)) [.ref (ad 732), .int a1, .int a2].toArray s 0 0 (mw_fr G)) (F0 m 21 ls [.ref (ad 732)]) := by
    intro M L H locs ls hD hw hl
    unfold fX19_running_b21 at hD
    refine lv_iconst (v := 1) C.1.1 C.1.2.1 dX19_running_21 (by decide) ?_
    refine lv_goto (tgt := 26) C.1.1 C.1.2.1 dX19_running_22 (by decide) ?_
    exact hb26 1 M L _ _ ls hD hw (lv_sub hl [0, 1, 2] rfl)
  unfold DX19_running at hD
  refine lv_aload_n C.1.1 C.1.2.1 dX19_running_0 rfl (lv_at hl 0 rfl) ?_
  refine lv_aload_n C.1.1 C.1.2.1 dX19_running_1 rfl (lv_at hl 0 rfl) ?_
  refine lv_iload_n C.1.1 C.1.2.1 dX19_running_2 rfl (lv_at hl 1 rfl) ?_
  obtain ⟨r5, M3, L4, h1, hD⟩ := g_b3 hD
  refine md_cvI (As := [.int a1]) (rest := [.ref (ad 732)]) C hw (tX19_noController l G ad fu a1 M L h1) kc_19 (by decide) tf_732 wd_4246 cwX19_noController ⟨Nat.le_of_ble_eq_true rfl, Nat.le_of_ble_eq_true rfl⟩ rfl hl.1 (Nat.le_of_ble_eq_true rfl) dX19_running_3 rfl rfl ⟨Nat.zero_le _, Nat.zero_le _⟩ rfl (fun H locs hw => ?_)
  refine lv_if_ne (tgt := 21) C.1.1 C.1.2.1 dX19_running_6 (by decide) (fun c6 => ?_) (fun c6 => ?_)
  · replace hD := g_neg c6 hD
    exact hb21 M3 L4 _ _ ls hD hw (lv_sub hl [0, 1, 2] rfl)
  · replace hD := g_pos c6 hD
    refine lv_iload_n C.1.1 C.1.2.1 dX19_running_9 rfl (lv_at hl 2 rfl) ?_
    refine lv_if_lt (tgt := 21) C.1.1 C.1.2.1 dX19_running_10 (by decide) (fun c7 => ?_) (fun c7 => ?_)
    · replace hD := g_pos c7 hD
      exact hb21 M3 L4 _ _ ls hD hw (lv_sub hl [0, 1, 2] rfl)
    · replace hD := g_neg c7 hD
      refine lv_iload_n C.1.1 C.1.2.1 dX19_running_13 rfl (lv_at hl 2 rfl) ?_
      refine lv_aload_n C.1.1 C.1.2.1 dX19_running_14 rfl (lv_at hl 0 rfl) ?_
      refine mr_getI C hw kc_19 83 (by decide) tf_732 wd_2864 dX19_running_15 (by decide) rfl ?_
      refine lv_icmp_lt (tgt := 25) C.1.1 C.1.2.1 dX19_running_18 (by decide) (fun c8 => ?_) (fun c8 => ?_)
      · replace hD := g_pos c8 hD
        refine lv_iconst (v := 0) C.1.1 C.1.2.1 dX19_running_25 (by decide) ?_
        exact hb26 0 M3 L4 _ _ ls hD hw (lv_sub hl [0, 1, 2] rfl)
      · replace hD := g_neg c8 hD
        exact hb21 M3 L4 _ _ ls hD hw (lv_sub hl [0, 1, 2] rfl)

theorem dX19_say__0 : decode cX19_say_ 0 = .ok (.aload_n 0, 1) := by decide +kernel
theorem dX19_say__1 : decode cX19_say_ 1 = .ok (.iconst 0, 1) := by decide +kernel
theorem dX19_say__2 : decode cX19_say_ 2 = .ok (.putfield 289, 3) := by decide +kernel
theorem dX19_say__5 : decode cX19_say_ 5 = .ok (.aload_n 0, 1) := by decide +kernel
theorem dX19_say__6 : decode cX19_say_ 6 = .ok (.getfield 854, 3) := by decide +kernel
theorem dX19_say__9 : decode cX19_say_ 9 = .ok (.bipush 100, 2) := by decide +kernel
theorem dX19_say__11 : decode cX19_say_ 11 = .ok (.if_icmp .ge 27, 3) := by decide +kernel
theorem dX19_say__14 : decode cX19_say_ 14 = .ok (.aload_n 0, 1) := by decide +kernel
theorem dX19_say__15 : decode cX19_say_ 15 = .ok (.getfield 276, 3) := by decide +kernel
theorem dX19_say__18 : decode cX19_say_ 18 = .ok (.aload_n 0, 1) := by decide +kernel
theorem dX19_say__19 : decode cX19_say_ 19 = .ok (.getfield 854, 3) := by decide +kernel
theorem dX19_say__22 : decode cX19_say_ 22 = .ok (.iload_n 1, 1) := by decide +kernel
theorem dX19_say__23 : decode cX19_say_ 23 = .ok (.sipush 255, 3) := by decide +kernel
theorem dX19_say__26 : decode cX19_say_ 26 = .ok (.iand, 1) := by decide +kernel
theorem dX19_say__27 : decode cX19_say_ 27 = .ok (.iastore, 1) := by decide +kernel
theorem dX19_say__28 : decode cX19_say_ 28 = .ok (.aload_n 0, 1) := by decide +kernel
theorem dX19_say__29 : decode cX19_say_ 29 = .ok (.dup, 1) := by decide +kernel
theorem dX19_say__30 : decode cX19_say_ 30 = .ok (.getfield 854, 3) := by decide +kernel
theorem dX19_say__33 : decode cX19_say_ 33 = .ok (.iconst 1, 1) := by decide +kernel
theorem dX19_say__34 : decode cX19_say_ 34 = .ok (.iadd, 1) := by decide +kernel
theorem dX19_say__35 : decode cX19_say_ 35 = .ok (.putfield 854, 3) := by decide +kernel
theorem dX19_say__38 : decode cX19_say_ 38 = .ok (.aload_n 0, 1) := by decide +kernel
theorem dX19_say__39 : decode cX19_say_ 39 = .ok (.getfield 854, 3) := by decide +kernel
theorem dX19_say__42 : decode cX19_say_ 42 = .ok (.ireturn, 1) := by decide +kernel
theorem cwX19_say_ : mw_cwV yX19_say_ cX19_say_ 2 ((some .int)) 1 := ⟨⟨wd_13, wd_4321, by decide +kernel⟩, wd_4319, wd_4320⟩
noncomputable def fX19_say__b38 (fu : Nat) (a1 : Int32) (M : mwM) (L : mwL) : Option (Int32 × mwM × mwL) :=
  some (M 732 110, M, L)
noncomputable def DX19_say_ (fu : Nat) (a1 : Int32) (M : mwM) (L : mwL) : Option (Int32 × mwM × mwL) :=
  mlet (mset M 732 0 0) (fun M1 => (if 100 ≤ (M1 732 110) then fX19_say__b38 fu a1 M1 L else mck (M1 732 110) 100 (mlet (mset M1 940 ((M1 732 110).toNatClampNeg) (a1 &&& 255)) (fun M4 => mlet (mset M4 732 110 ((M4 732 110) + 1)) (fun M5 => fX19_say__b38 fu a1 M5 L)))))
set_option maxHeartbeats 4000000 in
set_option maxRecDepth 100000 in
theorem tX19_say_ (l : Launch) (G : mwG) (ad : Nat → Nat) (fu : Nat) (a1 : Int32) (M : mwM) (L : mwL) {r0 : Int32} {M0 : mwM} {L0 : mwL} (hD : DX19_say_ fu a1 M L = some (r0, M0, L0)) : Met l yX19_say_ (Cond.code yX19_say_ cX19_say_ 2 ((some .int)) :: GT) ({ frames := 0, cells := 0, slots := 0, locals := 0 }) (mw_Pre G ad NF TF FF M L [.ref (ad 732), .int a1]) (mw_Qi G ad NF TF FF (mw_eqI r0 M0 L0)) 0 0 (mw_fr G) := by
  refine mw_enter (by decide) (Nat.le_of_ble_eq_true rfl) ?_
  intro p e s m below meth c ls C hr hlocks hnm hw hl
  have hl : lv_has ls 2 [(0, .ref (ad 732)), (1, .int a1)] := hl
  have hb38 : ∀ (M : mwM) (L : mwL) (H : Heap) (locs : List Loc) (ls : Array Slot), fX19_say__b38 fu a1 M L = some (r0, M0, L0) → mw_W G ad NF TF FF M L H locs → lv_has ls 2 [(0, .ref (ad 732))] → W p l e ({ frames := 0, cells := 0, slots := 0, locals := 0 }) s m [.ref (ad 732), .int a1].toArray below meth c H locs 0 0 (MQ below (mw_Qi G ad NF TF FF (mw_eqI r0 M0 L0)) [.ref (ad 732), .int a1].toArray s 0 0 (mw_fr G)) (F0 m 38 ls []) := by
    intro M L H locs ls hD hw hl
    unfold fX19_say__b38 at hD
    refine lv_aload_n C.1.1 C.1.2.1 dX19_say__38 rfl (lv_at hl 0 rfl) ?_
    refine mr_getI C hw kc_19 110 (by decide) tf_732 wd_2891 dX19_say__39 (by decide) rfl ?_
    exact mr_iret C hr hlocks hw rfl (Option.some.inj hD) dX19_say__42
  unfold DX19_say_ at hD
  refine lv_aload_n C.1.1 C.1.2.1 dX19_say__0 rfl (lv_at hl 0 rfl) ?_
  refine lv_iconst (v := 0) C.1.1 C.1.2.1 dX19_say__1 (by decide) ?_
  obtain ⟨M1, eM1, hD⟩ := g_let hD
  refine mr_putI C hw kc_19 0 (by decide) tf_732 wd_2781 dX19_say__2 (by decide) rfl rfl rfl rfl (fun H locs hw => ?_)
  replace hw : mw_W G ad NF TF FF M1 L H locs := by rw [eM1]; exact hw
  refine lv_aload_n C.1.1 C.1.2.1 dX19_say__5 rfl (lv_at hl 0 rfl) ?_
  refine mr_getI C hw kc_19 110 (by decide) tf_732 wd_2891 dX19_say__6 (by decide) rfl ?_
  refine lv_bipush (v := 100) C.1.1 C.1.2.1 dX19_say__9 (by decide) ?_
  refine lv_icmp_ge (tgt := 38) C.1.1 C.1.2.1 dX19_say__11 (by decide) (fun c2 => ?_) (fun c2 => ?_)
  · replace hD := g_pos c2 hD
    exact hb38 M1 L _ _ ls hD hw (lv_sub hl [0] rfl)
  · replace hD := g_neg c2 hD
    refine lv_aload_n C.1.1 C.1.2.1 dX19_say__14 rfl (lv_at hl 0 rfl) ?_
    refine mr_getR C hw kc_19 111 (by decide) tf_732 ff_732_111 wd_2892 dX19_say__15 (by decide) rfl ?_
    refine lv_aload_n C.1.1 C.1.2.1 dX19_say__18 rfl (lv_at hl 0 rfl) ?_
    refine mr_getI C hw kc_19 110 (by decide) tf_732 wd_2891 dX19_say__19 (by decide) rfl ?_
    refine lv_iload_n C.1.1 C.1.2.1 dX19_say__22 rfl (lv_at hl 1 rfl) ?_
    refine lv_sipush (v := 255) C.1.1 C.1.2.1 dX19_say__23 (by decide) ?_
    refine lv_iand C.1.1 C.1.2.1 dX19_say__26 ?_
    obtain ⟨q3, hD⟩ := g_ck hD
    obtain ⟨M4, eM4, hD⟩ := g_let hD
    refine mr_iast C hw (by decide) tf_940 q3 dX19_say__27 (fun H locs hw => ?_)
    replace hw : mw_W G ad NF TF FF M4 L H locs := by rw [eM4]; exact hw
    refine lv_aload_n C.1.1 C.1.2.1 dX19_say__28 rfl (lv_at hl 0 rfl) ?_
    refine lv_dup C.1.1 C.1.2.1 dX19_say__29 rfl ?_
    refine mr_getI C hw kc_19 110 (by decide) tf_732 wd_2891 dX19_say__30 (by decide) rfl ?_
    refine lv_iconst (v := 1) C.1.1 C.1.2.1 dX19_say__33 (by decide) ?_
    refine lv_iadd C.1.1 C.1.2.1 dX19_say__34 ?_
    obtain ⟨M5, eM5, hD⟩ := g_let hD
    refine mr_putI C hw kc_19 110 (by decide) tf_732 wd_2891 dX19_say__35 (by decide) rfl rfl rfl rfl (fun H locs hw => ?_)
    replace hw : mw_W G ad NF TF FF M5 L H locs := by rw [eM5]; exact hw
    exact hb38 M5 L _ _ ls hD hw (lv_sub hl [0] rfl)

theorem dX19_signal_0 : decode cX19_signal 0 = .ok (.aload_n 0, 1) := by decide +kernel
theorem dX19_signal_1 : decode cX19_signal 1 = .ok (.aload_n 0, 1) := by decide +kernel
theorem dX19_signal_2 : decode cX19_signal 2 = .ok (.getfield 630, 3) := by decide +kernel
theorem dX19_signal_5 : decode cX19_signal 5 = .ok (.ifCond .eq 15, 3) := by decide +kernel
theorem dX19_signal_8 : decode cX19_signal 8 = .ok (.iload_n 1, 1) := by decide +kernel
theorem dX19_signal_9 : decode cX19_signal 9 = .ok (.ifCond .lt 11, 3) := by decide +kernel
theorem dX19_signal_12 : decode cX19_signal 12 = .ok (.iload_n 1, 1) := by decide +kernel
theorem dX19_signal_13 : decode cX19_signal 13 = .ok (.aload_n 0, 1) := by decide +kernel
theorem dX19_signal_14 : decode cX19_signal 14 = .ok (.getfield 541, 3) := by decide +kernel
theorem dX19_signal_17 : decode cX19_signal 17 = .ok (.if_icmp .lt 7, 3) := by decide +kernel
theorem dX19_signal_20 : decode cX19_signal 20 = .ok (.iconst 1, 1) := by decide +kernel
theorem dX19_signal_21 : decode cX19_signal 21 = .ok (.goto 4, 3) := by decide +kernel
theorem dX19_signal_24 : decode cX19_signal 24 = .ok (.iconst 0, 1) := by decide +kernel
theorem dX19_signal_25 : decode cX19_signal 25 = .ok (.putfield 289, 3) := by decide +kernel
theorem dX19_signal_28 : decode cX19_signal 28 = .ok (.aload_n 0, 1) := by decide +kernel
theorem dX19_signal_29 : decode cX19_signal 29 = .ok (.getfield 289, 3) := by decide +kernel
theorem dX19_signal_32 : decode cX19_signal 32 = .ok (.ifCond .le 5, 3) := by decide +kernel
theorem dX19_signal_35 : decode cX19_signal 35 = .ok (.iconst 0, 1) := by decide +kernel
theorem dX19_signal_36 : decode cX19_signal 36 = .ok (.ireturn, 1) := by decide +kernel
theorem dX19_signal_37 : decode cX19_signal 37 = .ok (.iload_n 2, 1) := by decide +kernel
theorem dX19_signal_38 : decode cX19_signal 38 = .ok (.ifCond .eq 12, 3) := by decide +kernel
theorem dX19_signal_41 : decode cX19_signal 41 = .ok (.aload_n 0, 1) := by decide +kernel
theorem dX19_signal_42 : decode cX19_signal 42 = .ok (.getfield 116, 3) := by decide +kernel
theorem dX19_signal_45 : decode cX19_signal 45 = .ok (.iload_n 1, 1) := by decide +kernel
theorem dX19_signal_46 : decode cX19_signal 46 = .ok (.iaload, 1) := by decide +kernel
theorem dX19_signal_47 : decode cX19_signal 47 = .ok (.goto 9, 3) := by decide +kernel
theorem dX19_signal_50 : decode cX19_signal 50 = .ok (.aload_n 0, 1) := by decide +kernel
theorem dX19_signal_51 : decode cX19_signal 51 = .ok (.getfield 113, 3) := by decide +kernel
theorem dX19_signal_54 : decode cX19_signal 54 = .ok (.iload_n 1, 1) := by decide +kernel
theorem dX19_signal_55 : decode cX19_signal 55 = .ok (.iaload, 1) := by decide +kernel
theorem dX19_signal_56 : decode cX19_signal 56 = .ok (.ireturn, 1) := by decide +kernel
theorem cwX19_signal : mw_cwV yX19_signal cX19_signal 3 ((some .int)) 2 := ⟨⟨wd_13, wd_4201, by decide +kernel⟩, wd_4199, wd_4200⟩
noncomputable def fX19_signal_b56 (fu : Nat) (a1 : Int32) (a2 : Int32) (s0 : Int32) (M : mwM) (L : mwL) : Option (Int32 × mwM × mwL) :=
  some (s0, M, L)
noncomputable def fX19_signal_b25 (fu : Nat) (a1 : Int32) (a2 : Int32) (s1 : Int32) (M : mwM) (L : mwL) : Option (Int32 × mwM × mwL) :=
  mlet (mset M 732 0 s1) (fun M1 => (if (M1 732 0) ≤ 0 then (if a2 = 0 then mck a1 40 (fX19_signal_b56 fu a1 a2 (M1 767 a1.toNatClampNeg) M1 L) else mck a1 40 (fX19_signal_b56 fu a1 a2 (M1 768 a1.toNatClampNeg) M1 L)) else some (0, M1, L)))
noncomputable def fX19_signal_b20 (fu : Nat) (a1 : Int32) (a2 : Int32) (M : mwM) (L : mwL) : Option (Int32 × mwM × mwL) :=
  fX19_signal_b25 fu a1 a2 1 M L
noncomputable def DX19_signal (fu : Nat) (a1 : Int32) (a2 : Int32) (M : mwM) (L : mwL) : Option (Int32 × mwM × mwL) :=
  (if (M 732 4) = 0 then fX19_signal_b20 fu a1 a2 M L else (if a1 < 0 then fX19_signal_b20 fu a1 a2 M L else (if a1 < (M 732 45) then fX19_signal_b25 fu a1 a2 0 M L else fX19_signal_b20 fu a1 a2 M L)))
set_option maxHeartbeats 4000000 in
set_option maxRecDepth 100000 in
theorem tX19_signal (l : Launch) (G : mwG) (ad : Nat → Nat) (fu : Nat) (a1 : Int32) (a2 : Int32) (M : mwM) (L : mwL) {r0 : Int32} {M0 : mwM} {L0 : mwL} (hD : DX19_signal fu a1 a2 M L = some (r0, M0, L0)) : Met l yX19_signal (Cond.code yX19_signal cX19_signal 3 ((some .int)) :: GT) ({ frames := 0, cells := 0, slots := 0, locals := 0 }) (mw_Pre G ad NF TF FF M L [.ref (ad 732), .int a1, .int a2]) (mw_Qi G ad NF TF FF (mw_eqI r0 M0 L0)) 0 0 (mw_fr G) := by
  refine mw_enter (by decide) (Nat.le_of_ble_eq_true rfl) ?_
  intro p e s m below meth c ls C hr hlocks hnm hw hl
  have hl : lv_has ls 3 [(0, .ref (ad 732)), (1, .int a1), (2, .int a2)] := hl
  have hb56 : ∀ (s0 : Int32) (M : mwM) (L : mwL) (H : Heap) (locs : List Loc) (ls : Array Slot), fX19_signal_b56 fu a1 a2 s0 M L = some (r0, M0, L0) → mw_W G ad NF TF FF M L H locs → lv_has ls 3 [] → W p l e ({ frames := 0, cells := 0, slots := 0, locals := 0 }) s m [.ref (ad 732), .int a1, .int a2].toArray below meth c H locs 0 0 (MQ below (mw_Qi G ad NF TF FF (mw_eqI r0 M0 L0)) [.ref (ad 732), .int a1, .int a2].toArray s 0 0 (mw_fr G)) (F0 m 56 ls [.int s0]) := by
    intro s0 M L H locs ls hD hw hl
    unfold fX19_signal_b56 at hD
    exact mr_iret C hr hlocks hw rfl (Option.some.inj hD) dX19_signal_56
  have hb25 : ∀ (s1 : Int32) (M : mwM) (L : mwL) (H : Heap) (locs : List Loc) (ls : Array Slot), fX19_signal_b25 fu a1 a2 s1 M L = some (r0, M0, L0) → mw_W G ad NF TF FF M L H locs → lv_has ls 3 [(0, .ref (ad 732)), (1, .int a1), (2, .int a2)] → W p l e ({ frames := 0, cells := 0, slots := 0, locals := 0 }) s m [.ref (ad 732), .int a1, .int a2].toArray below meth c H locs 0 0 (MQ below (mw_Qi G ad NF TF FF (mw_eqI r0 M0 L0)) [.ref (ad 732), .int a1, .int a2].toArray s 0 0 (mw_fr G)) (F0 m 25 ls [.int s1, .ref (ad 732)]) := by
    intro s1 M L H locs ls hD hw hl
    unfold fX19_signal_b25 at hD
    obtain ⟨M1, eM1, hD⟩ := g_let hD
    refine mr_putI C hw kc_19 0 (by decide) tf_732 wd_2781 dX19_signal_25 (by decide) rfl rfl rfl rfl (fun H locs hw => ?_)
    replace hw : mw_W G ad NF TF FF M1 L H locs := by rw [eM1]; exact hw
    refine lv_aload_n C.1.1 C.1.2.1 dX19_signal_28 rfl (lv_at hl 0 rfl) ?_
    refine mr_getI C hw kc_19 0 (by decide) tf_732 wd_2781 dX19_signal_29 (by decide) rfl ?_
    refine lv_if_le (tgt := 37) C.1.1 C.1.2.1 dX19_signal_32 (by decide) (fun c2 => ?_) (fun c2 => ?_)
    · replace hD := g_pos c2 hD
      refine lv_iload_n C.1.1 C.1.2.1 dX19_signal_37 rfl (lv_at hl 2 rfl) ?_
      refine lv_if_eq (tgt := 50) C.1.1 C.1.2.1 dX19_signal_38 (by decide) (fun c3 => ?_) (fun c3 => ?_)
      · replace hD := g_pos c3 hD
        refine lv_aload_n C.1.1 C.1.2.1 dX19_signal_50 rfl (lv_at hl 0 rfl) ?_
        refine mr_getR C hw kc_19 53 (by decide) tf_732 ff_732_53 wd_2834 dX19_signal_51 (by decide) rfl ?_
        refine lv_iload_n C.1.1 C.1.2.1 dX19_signal_54 rfl (lv_at hl 1 rfl) ?_
        obtain ⟨q4, hD⟩ := g_ck hD
        refine mr_iald C hw (by decide) tf_767 q4 dX19_signal_55 ?_
        exact hb56 (M1 767 a1.toNatClampNeg) M1 L _ _ ls hD hw (lv_sub hl [] rfl)
      · replace hD := g_neg c3 hD
        refine lv_aload_n C.1.1 C.1.2.1 dX19_signal_41 rfl (lv_at hl 0 rfl) ?_
        refine mr_getR C hw kc_19 54 (by decide) tf_732 ff_732_54 wd_2835 dX19_signal_42 (by decide) rfl ?_
        refine lv_iload_n C.1.1 C.1.2.1 dX19_signal_45 rfl (lv_at hl 1 rfl) ?_
        obtain ⟨q5, hD⟩ := g_ck hD
        refine mr_iald C hw (by decide) tf_768 q5 dX19_signal_46 ?_
        refine lv_goto (tgt := 56) C.1.1 C.1.2.1 dX19_signal_47 (by decide) ?_
        exact hb56 (M1 768 a1.toNatClampNeg) M1 L _ _ ls hD hw (lv_sub hl [] rfl)
    · replace hD := g_neg c2 hD
      refine lv_iconst (v := 0) C.1.1 C.1.2.1 dX19_signal_35 (by decide) ?_
      exact mr_iret C hr hlocks hw rfl (Option.some.inj hD) dX19_signal_36
  have hb20 : ∀ (M : mwM) (L : mwL) (H : Heap) (locs : List Loc) (ls : Array Slot), fX19_signal_b20 fu a1 a2 M L = some (r0, M0, L0) → mw_W G ad NF TF FF M L H locs → lv_has ls 3 [(0, .ref (ad 732)), (1, .int a1), (2, .int a2)] → W p l e ({ frames := 0, cells := 0, slots := 0, locals := 0 }) s m [.ref (ad 732), .int a1, .int a2].toArray below meth c H locs 0 0 (MQ below (mw_Qi G ad NF TF FF (mw_eqI r0 M0 L0)) [.ref (ad 732), .int a1, .int a2].toArray s 0 0 (mw_fr G)) (F0 m 20 ls [.ref (ad 732)]) := by
    intro M L H locs ls hD hw hl
    unfold fX19_signal_b20 at hD
    refine lv_iconst (v := 1) C.1.1 C.1.2.1 dX19_signal_20 (by decide) ?_
    refine lv_goto (tgt := 25) C.1.1 C.1.2.1 dX19_signal_21 (by decide) ?_
    exact hb25 1 M L _ _ ls hD hw (lv_sub hl [0, 1, 2] rfl)
  unfold DX19_signal at hD
  refine lv_aload_n C.1.1 C.1.2.1 dX19_signal_0 rfl (lv_at hl 0 rfl) ?_
  refine lv_aload_n C.1.1 C.1.2.1 dX19_signal_1 rfl (lv_at hl 0 rfl) ?_
  refine mr_getI C hw kc_19 4 (by decide) tf_732 wd_2785 dX19_signal_2 (by decide) rfl ?_
  refine lv_if_eq (tgt := 20) C.1.1 C.1.2.1 dX19_signal_5 (by decide) (fun c6 => ?_) (fun c6 => ?_)
  · replace hD := g_pos c6 hD
    exact hb20 M L _ _ ls hD hw (lv_sub hl [0, 1, 2] rfl)
  · replace hD := g_neg c6 hD
    refine lv_iload_n C.1.1 C.1.2.1 dX19_signal_8 rfl (lv_at hl 1 rfl) ?_
    refine lv_if_lt (tgt := 20) C.1.1 C.1.2.1 dX19_signal_9 (by decide) (fun c7 => ?_) (fun c7 => ?_)
    · replace hD := g_pos c7 hD
      exact hb20 M L _ _ ls hD hw (lv_sub hl [0, 1, 2] rfl)
    · replace hD := g_neg c7 hD
      refine lv_iload_n C.1.1 C.1.2.1 dX19_signal_12 rfl (lv_at hl 1 rfl) ?_
      refine lv_aload_n C.1.1 C.1.2.1 dX19_signal_13 rfl (lv_at hl 0 rfl) ?_
      refine mr_getI C hw kc_19 45 (by decide) tf_732 wd_2826 dX19_signal_14 (by decide) rfl ?_
      refine lv_icmp_lt (tgt := 24) C.1.1 C.1.2.1 dX19_signal_17 (by decide) (fun c8 => ?_) (fun c8 => ?_)
      · replace hD := g_pos c8 hD
        refine lv_iconst (v := 0) C.1.1 C.1.2.1 dX19_signal_24 (by decide) ?_
        exact hb25 0 M L _ _ ls hD hw (lv_sub hl [0, 1, 2] rfl)
      · replace hD := g_neg c8 hD
        exact hb20 M L _ _ ls hD hw (lv_sub hl [0, 1, 2] rfl)

theorem dX19_silence_0 : decode cX19_silence 0 = .ok (.aload_n 0, 1) := by decide +kernel
theorem dX19_silence_1 : decode cX19_silence 1 = .ok (.aload_n 0, 1) := by decide +kernel
theorem dX19_silence_2 : decode cX19_silence 2 = .ok (.iload_n 1, 1) := by decide +kernel
theorem dX19_silence_3 : decode cX19_silence 3 = .ok (.invokevirtual 825, 3) := by decide +kernel
theorem dX19_silence_6 : decode cX19_silence 6 = .ok (.ifCond .eq 7, 3) := by decide +kernel
theorem dX19_silence_9 : decode cX19_silence 9 = .ok (.iconst 1, 1) := by decide +kernel
theorem dX19_silence_10 : decode cX19_silence 10 = .ok (.goto 4, 3) := by decide +kernel
theorem dX19_silence_13 : decode cX19_silence 13 = .ok (.iconst 0, 1) := by decide +kernel
theorem dX19_silence_14 : decode cX19_silence 14 = .ok (.putfield 289, 3) := by decide +kernel
theorem dX19_silence_17 : decode cX19_silence 17 = .ok (.aload_n 0, 1) := by decide +kernel
theorem dX19_silence_18 : decode cX19_silence 18 = .ok (.getfield 289, 3) := by decide +kernel
theorem dX19_silence_21 : decode cX19_silence 21 = .ok (.ifCond .le 5, 3) := by decide +kernel
theorem dX19_silence_24 : decode cX19_silence 24 = .ok (.iconst 0, 1) := by decide +kernel
theorem dX19_silence_25 : decode cX19_silence 25 = .ok (.ireturn, 1) := by decide +kernel
theorem dX19_silence_26 : decode cX19_silence 26 = .ok (.aload_n 0, 1) := by decide +kernel
theorem dX19_silence_27 : decode cX19_silence 27 = .ok (.getfield 221, 3) := by decide +kernel
theorem dX19_silence_30 : decode cX19_silence 30 = .ok (.iload_n 1, 1) := by decide +kernel
theorem dX19_silence_31 : decode cX19_silence 31 = .ok (.iload_n 2, 1) := by decide +kernel
theorem dX19_silence_32 : decode cX19_silence 32 = .ok (.bastore, 1) := by decide +kernel
theorem dX19_silence_33 : decode cX19_silence 33 = .ok (.iconst 0, 1) := by decide +kernel
theorem dX19_silence_34 : decode cX19_silence 34 = .ok (.istore_n 3, 1) := by decide +kernel
theorem dX19_silence_35 : decode cX19_silence 35 = .ok (.iconst 0, 1) := by decide +kernel
theorem dX19_silence_36 : decode cX19_silence 36 = .ok (.istore 4, 2) := by decide +kernel
theorem dX19_silence_38 : decode cX19_silence 38 = .ok (.iload 4, 2) := by decide +kernel
theorem dX19_silence_40 : decode cX19_silence 40 = .ok (.bipush 6, 2) := by decide +kernel
theorem dX19_silence_42 : decode cX19_silence 42 = .ok (.if_icmp .ge 27, 3) := by decide +kernel
theorem dX19_silence_45 : decode cX19_silence 45 = .ok (.aload_n 0, 1) := by decide +kernel
theorem dX19_silence_46 : decode cX19_silence 46 = .ok (.getfield 221, 3) := by decide +kernel
theorem dX19_silence_49 : decode cX19_silence 49 = .ok (.iload 4, 2) := by decide +kernel
theorem dX19_silence_51 : decode cX19_silence 51 = .ok (.baload, 1) := by decide +kernel
theorem dX19_silence_52 : decode cX19_silence 52 = .ok (.ifCond .eq 9, 3) := by decide +kernel
theorem dX19_silence_55 : decode cX19_silence 55 = .ok (.iload_n 3, 1) := by decide +kernel
theorem dX19_silence_56 : decode cX19_silence 56 = .ok (.iconst 1, 1) := by decide +kernel
theorem dX19_silence_57 : decode cX19_silence 57 = .ok (.iadd, 1) := by decide +kernel
theorem dX19_silence_58 : decode cX19_silence 58 = .ok (.goto 4, 3) := by decide +kernel
theorem dX19_silence_61 : decode cX19_silence 61 = .ok (.iload_n 3, 1) := by decide +kernel
theorem dX19_silence_62 : decode cX19_silence 62 = .ok (.istore_n 3, 1) := by decide +kernel
theorem dX19_silence_63 : decode cX19_silence 63 = .ok (.iinc 4 1, 3) := by decide +kernel
theorem dX19_silence_66 : decode cX19_silence 66 = .ok (.goto (-28), 3) := by decide +kernel
theorem dX19_silence_69 : decode cX19_silence 69 = .ok (.iload_n 3, 1) := by decide +kernel
theorem dX19_silence_70 : decode cX19_silence 70 = .ok (.ireturn, 1) := by decide +kernel
theorem cwX19_silence : mw_cwV yX19_silence cX19_silence 5 ((some .int)) 2 := ⟨⟨wd_13, wd_4245, by decide +kernel⟩, wd_4243, wd_4244⟩
noncomputable def fX19_silence_b62 (fu : Nat) (a1 : Int32) (a2 : Int32) (r38 : (Int32 × Int32 × mwM × mwL) → Option (Int32 × mwM × mwL)) (v4 : Int32) (s0 : Int32) (M : mwM) (L : mwL) : Option (Int32 × mwM × mwL) :=
  mlet (v4 + 1) (fun x8 => r38 (s0, x8, M, L))
noncomputable def fX19_silence_i38 (fu : Nat) (a1 : Int32) (a2 : Int32) (r38 : (Int32 × Int32 × mwM × mwL) → Option (Int32 × mwM × mwL)) (v3 : Int32) (v4 : Int32) (M : mwM) (L : mwL) : Option (Int32 × mwM × mwL) :=
  (if 6 ≤ v4 then some (v3, M, L) else mck v4 6 ((if (M 923 v4.toNatClampNeg) = 0 then fX19_silence_b62 fu a1 a2 r38 v4 v3 M L else fX19_silence_b62 fu a1 a2 r38 v4 (v3 + 1) M L)))
noncomputable def fX19_silence_h38 (fu : Nat) (a1 : Int32) (a2 : Int32) : Nat → (Int32 × Int32 × mwM × mwL) → Option (Int32 × mwM × mwL) := mloop (fun r38 s => fX19_silence_i38 fu a1 a2 r38 s.1 s.2.1 s.2.2.1 s.2.2.2)
noncomputable def fX19_silence_b14 (fu : Nat) (a1 : Int32) (a2 : Int32) (s1 : Int32) (M : mwM) (L : mwL) : Option (Int32 × mwM × mwL) :=
  mlet (mset M 732 0 s1) (fun M1 => (if (M1 732 0) ≤ 0 then mck a1 6 (mlet (mset M1 923 (a1.toNatClampNeg) (vp_nar .boolean a2)) (fun M4 => fX19_silence_h38 fu a1 a2 fu (0, 0, M4, L))) else some (0, M1, L)))
noncomputable def DX19_silence (fu : Nat) (a1 : Int32) (a2 : Int32) (M : mwM) (L : mwL) : Option (Int32 × mwM × mwL) :=
  mb3 (DX19_noController fu a1 M L) (fun r11 M9 L10 => (if r11 = 0 then fX19_silence_b14 fu a1 a2 0 M9 L10 else fX19_silence_b14 fu a1 a2 1 M9 L10))
set_option maxHeartbeats 4000000 in
set_option maxRecDepth 100000 in
theorem tX19_silence (l : Launch) (G : mwG) (ad : Nat → Nat) (fu : Nat) (a1 : Int32) (a2 : Int32) (M : mwM) (L : mwL) {r0 : Int32} {M0 : mwM} {L0 : mwL} (hD : DX19_silence fu a1 a2 M L = some (r0, M0, L0)) : Met l yX19_silence (Cond.code yX19_silence cX19_silence 5 ((some .int)) :: GT) ({ frames := 1, cells := 0, slots := 0, locals := 21 }) (mw_Pre G ad NF TF FF M L [.ref (ad 732), .int a1, .int a2]) (mw_Qi G ad NF TF FF (mw_eqI r0 M0 L0)) 0 0 (mw_fr G) := by
  refine mw_enter (by decide) (Nat.le_of_ble_eq_true rfl) ?_
  intro p e s m below meth c ls C hr hlocks hnm hw hl
  have hl : lv_has ls 5 [(0, .ref (ad 732)), (1, .int a1), (2, .int a2)] := hl
  have hh38 : ∀ (f : Nat) (v3 : Int32) (v4 : Int32) (M : mwM) (L : mwL) (H : Heap) (locs : List Loc) (ls : Array Slot), fX19_silence_h38 fu a1 a2 f (v3, v4, M, L) = some (r0, M0, L0) → mw_W G ad NF TF FF M L H locs → lv_has ls 5 [(0, .ref (ad 732)), (3, .int v3), (4, .int v4)] → W p l e ({ frames := 1, cells := 0, slots := 0, locals := 21 }) s m [.ref (ad 732), .int a1, .int a2].toArray below meth c H locs 0 0 (MQ below (mw_Qi G ad NF TF FF (mw_eqI r0 M0 L0)) [.ref (ad 732), .int a1, .int a2].toArray s 0 0 (mw_fr G)) (F0 m 38 ls []) := by
    intro f
    induction f with
    | zero => intro v3 v4 M L H locs ls hD; cases hD
    | succ f38 ih38 =>
      intro v3 v4 M L H locs ls hD hw hl
      replace hD : fX19_silence_i38 fu a1 a2 (fX19_silence_h38 fu a1 a2 f38) v3 v4 M L = some (r0, M0, L0) := hD
      have hb62 : ∀ (v4 : Int32) (s0 : Int32) (M : mwM) (L : mwL) (H : Heap) (locs : List Loc) (ls : Array Slot), fX19_silence_b62 fu a1 a2 (fX19_silence_h38 fu a1 a2 f38) v4 s0 M L = some (r0, M0, L0) → mw_W G ad NF TF FF M L H locs → lv_has ls 5 [(0, .ref (ad 732)), (4, .int v4)] → W p l e ({ frames := 1, cells := 0, slots := 0, locals := 21 }) s m [.ref (ad 732), .int a1, .int a2].toArray below meth c H locs 0 0 (MQ below (mw_Qi G ad NF TF FF (mw_eqI r0 M0 L0)) [.ref (ad 732), .int a1, .int a2].toArray s 0 0 (mw_fr G)) (F0 m 62 ls [.int s0]) := by
        intro v4 s0 M L H locs ls hD hw hl
        unfold fX19_silence_b62 at hD
        refine lv_istore_n (lv' := [(3, .int s0), (0, .ref (ad 732)), (4, .int v4)]) C.1.1 C.1.2.1 dX19_silence_62 rfl hl (by decide) rfl (fun ls hl => ?_)
        obtain ⟨x8, ex8, hD⟩ := g_let hD
        refine lv_iinc (v := x8) (lv' := [(4, .int x8), (3, .int s0), (0, .ref (ad 732))]) C.1.1 C.1.2.1 dX19_silence_63 hl (k := 2) rfl (by rw [ex8]; rfl) (by decide) rfl (fun ls hl => ?_)
        refine lv_goto (tgt := 38) C.1.1 C.1.2.1 dX19_silence_66 (by decide) ?_
        exact ih38 s0 x8 M L _ _ ls hD hw (lv_sub hl [2, 1, 0] rfl)
      unfold fX19_silence_i38 at hD
      refine lv_iload C.1.1 C.1.2.1 dX19_silence_38 (lv_at hl 2 rfl) ?_
      refine lv_bipush (v := 6) C.1.1 C.1.2.1 dX19_silence_40 (by decide) ?_
      refine lv_icmp_ge (tgt := 69) C.1.1 C.1.2.1 dX19_silence_42 (by decide) (fun c5 => ?_) (fun c5 => ?_)
      · replace hD := g_pos c5 hD
        refine lv_iload_n C.1.1 C.1.2.1 dX19_silence_69 rfl (lv_at hl 1 rfl) ?_
        exact mr_iret C hr hlocks hw rfl (Option.some.inj hD) dX19_silence_70
      · replace hD := g_neg c5 hD
        refine lv_aload_n C.1.1 C.1.2.1 dX19_silence_45 rfl (lv_at hl 0 rfl) ?_
        refine mr_getR C hw kc_19 84 (by decide) tf_732 ff_732_84 wd_2865 dX19_silence_46 (by decide) rfl ?_
        refine lv_iload C.1.1 C.1.2.1 dX19_silence_49 (lv_at hl 2 rfl) ?_
        obtain ⟨q6, hD⟩ := g_ck hD
        refine mr_zald C hw (by decide) tf_923 q6 dX19_silence_51 ?_
        refine lv_if_eq (tgt := 61) C.1.1 C.1.2.1 dX19_silence_52 (by decide) (fun c7 => ?_) (fun c7 => ?_)
        · replace hD := g_pos c7 hD
          refine lv_iload_n C.1.1 C.1.2.1 dX19_silence_61 rfl (lv_at hl 1 rfl) ?_
          exact hb62 v4 v3 M L _ _ ls hD hw (lv_sub hl [0, 2] rfl)
        · replace hD := g_neg c7 hD
          refine lv_iload_n C.1.1 C.1.2.1 dX19_silence_55 rfl (lv_at hl 1 rfl) ?_
          refine lv_iconst (v := 1) C.1.1 C.1.2.1 dX19_silence_56 (by decide) ?_
          refine lv_iadd C.1.1 C.1.2.1 dX19_silence_57 ?_
          refine lv_goto (tgt := 62) C.1.1 C.1.2.1 dX19_silence_58 (by decide) ?_
          exact hb62 v4 (v3 + 1) M L _ _ ls hD hw (lv_sub hl [0, 2] rfl)
  have hb14 : ∀ (s1 : Int32) (M : mwM) (L : mwL) (H : Heap) (locs : List Loc) (ls : Array Slot), fX19_silence_b14 fu a1 a2 s1 M L = some (r0, M0, L0) → mw_W G ad NF TF FF M L H locs → lv_has ls 5 [(0, .ref (ad 732)), (1, .int a1), (2, .int a2)] → W p l e ({ frames := 1, cells := 0, slots := 0, locals := 21 }) s m [.ref (ad 732), .int a1, .int a2].toArray below meth c H locs 0 0 (MQ below (mw_Qi G ad NF TF FF (mw_eqI r0 M0 L0)) [.ref (ad 732), .int a1, .int a2].toArray s 0 0 (mw_fr G)) (F0 m 14 ls [.int s1, .ref (ad 732)]) := by
    intro s1 M L H locs ls hD hw hl
    unfold fX19_silence_b14 at hD
    obtain ⟨M1, eM1, hD⟩ := g_let hD
    refine mr_putI C hw kc_19 0 (by decide) tf_732 wd_2781 dX19_silence_14 (by decide) rfl rfl rfl rfl (fun H locs hw => ?_)
    replace hw : mw_W G ad NF TF FF M1 L H locs := by rw [eM1]; exact hw
    refine lv_aload_n C.1.1 C.1.2.1 dX19_silence_17 rfl (lv_at hl 0 rfl) ?_
    refine mr_getI C hw kc_19 0 (by decide) tf_732 wd_2781 dX19_silence_18 (by decide) rfl ?_
    refine lv_if_le (tgt := 26) C.1.1 C.1.2.1 dX19_silence_21 (by decide) (fun c2 => ?_) (fun c2 => ?_)
    · replace hD := g_pos c2 hD
      refine lv_aload_n C.1.1 C.1.2.1 dX19_silence_26 rfl (lv_at hl 0 rfl) ?_
      refine mr_getR C hw kc_19 84 (by decide) tf_732 ff_732_84 wd_2865 dX19_silence_27 (by decide) rfl ?_
      refine lv_iload_n C.1.1 C.1.2.1 dX19_silence_30 rfl (lv_at hl 1 rfl) ?_
      refine lv_iload_n C.1.1 C.1.2.1 dX19_silence_31 rfl (lv_at hl 2 rfl) ?_
      obtain ⟨q3, hD⟩ := g_ck hD
      obtain ⟨M4, eM4, hD⟩ := g_let hD
      refine mr_zast C hw (by decide) tf_923 q3 dX19_silence_32 (fun H locs hw => ?_)
      replace hw : mw_W G ad NF TF FF M4 L H locs := by rw [eM4]; exact hw
      refine lv_iconst (v := 0) C.1.1 C.1.2.1 dX19_silence_33 (by decide) ?_
      refine lv_istore_n (lv' := [(3, .int 0), (0, .ref (ad 732)), (1, .int a1), (2, .int a2)]) C.1.1 C.1.2.1 dX19_silence_34 rfl hl (by decide) rfl (fun ls hl => ?_)
      refine lv_iconst (v := 0) C.1.1 C.1.2.1 dX19_silence_35 (by decide) ?_
      refine lv_istore (lv' := [(4, .int 0), (3, .int 0), (0, .ref (ad 732)), (1, .int a1), (2, .int a2)]) C.1.1 C.1.2.1 dX19_silence_36 hl (by decide) rfl (fun ls hl => ?_)
      exact hh38 fu 0 0 M4 L _ _ ls hD hw (lv_sub hl [2, 1, 0] rfl)
    · replace hD := g_neg c2 hD
      refine lv_iconst (v := 0) C.1.1 C.1.2.1 dX19_silence_24 (by decide) ?_
      exact mr_iret C hr hlocks hw rfl (Option.some.inj hD) dX19_silence_25
  unfold DX19_silence at hD
  refine lv_aload_n C.1.1 C.1.2.1 dX19_silence_0 rfl (lv_at hl 0 rfl) ?_
  refine lv_aload_n C.1.1 C.1.2.1 dX19_silence_1 rfl (lv_at hl 0 rfl) ?_
  refine lv_iload_n C.1.1 C.1.2.1 dX19_silence_2 rfl (lv_at hl 1 rfl) ?_
  obtain ⟨r11, M9, L10, h1, hD⟩ := g_b3 hD
  refine md_cvI (As := [.int a1]) (rest := [.ref (ad 732)]) C hw (tX19_noController l G ad fu a1 M L h1) kc_19 (by decide) tf_732 wd_4246 cwX19_noController ⟨Nat.le_of_ble_eq_true rfl, Nat.le_of_ble_eq_true rfl⟩ rfl hl.1 (Nat.le_of_ble_eq_true rfl) dX19_silence_3 rfl rfl ⟨Nat.zero_le _, Nat.zero_le _⟩ rfl (fun H locs hw => ?_)
  refine lv_if_eq (tgt := 13) C.1.1 C.1.2.1 dX19_silence_6 (by decide) (fun c12 => ?_) (fun c12 => ?_)
  · replace hD := g_pos c12 hD
    refine lv_iconst (v := 0) C.1.1 C.1.2.1 dX19_silence_13 (by decide) ?_
    exact hb14 0 M9 L10 _ _ ls hD hw (lv_sub hl [0, 1, 2] rfl)
  · replace hD := g_neg c12 hD
    refine lv_iconst (v := 1) C.1.1 C.1.2.1 dX19_silence_9 (by decide) ?_
    refine lv_goto (tgt := 14) C.1.1 C.1.2.1 dX19_silence_10 (by decide) ?_
    exact hb14 1 M9 L10 _ _ ls hD hw (lv_sub hl [0, 1, 2] rfl)

theorem dX18_anew_0 : decode cX18_anew 0 = .ok (.aload_n 0, 1) := by decide +kernel
theorem dX18_anew_1 : decode cX18_anew 1 = .ok (.iload_n 1, 1) := by decide +kernel
theorem dX18_anew_2 : decode cX18_anew 2 = .ok (.putfield 65, 3) := by decide +kernel
theorem dX18_anew_5 : decode cX18_anew 5 = .ok (.aload_n 0, 1) := by decide +kernel
theorem dX18_anew_6 : decode cX18_anew 6 = .ok (.iconst 0, 1) := by decide +kernel
theorem dX18_anew_7 : decode cX18_anew 7 = .ok (.putfield 69, 3) := by decide +kernel
theorem dX18_anew_10 : decode cX18_anew 10 = .ok (.aload_n 0, 1) := by decide +kernel
theorem dX18_anew_11 : decode cX18_anew 11 = .ok (.iconst 0, 1) := by decide +kernel
theorem dX18_anew_12 : decode cX18_anew 12 = .ok (.putfield 72, 3) := by decide +kernel
theorem dX18_anew_15 : decode cX18_anew 15 = .ok (.aload_n 0, 1) := by decide +kernel
theorem dX18_anew_16 : decode cX18_anew 16 = .ok (.iconst 0, 1) := by decide +kernel
theorem dX18_anew_17 : decode cX18_anew 17 = .ok (.putfield 75, 3) := by decide +kernel
theorem dX18_anew_20 : decode cX18_anew 20 = .ok (.aload_n 0, 1) := by decide +kernel
theorem dX18_anew_21 : decode cX18_anew 21 = .ok (.iconst 0, 1) := by decide +kernel
theorem dX18_anew_22 : decode cX18_anew 22 = .ok (.putfield 78, 3) := by decide +kernel
theorem dX18_anew_25 : decode cX18_anew 25 = .ok (.aload_n 0, 1) := by decide +kernel
theorem dX18_anew_26 : decode cX18_anew 26 = .ok (.iconst 0, 1) := by decide +kernel
theorem dX18_anew_27 : decode cX18_anew 27 = .ok (.putfield 82, 3) := by decide +kernel
theorem dX18_anew_30 : decode cX18_anew 30 = .ok (.aload_n 0, 1) := by decide +kernel
theorem dX18_anew_31 : decode cX18_anew 31 = .ok (.iconst 0, 1) := by decide +kernel
theorem dX18_anew_32 : decode cX18_anew 32 = .ok (.putfield 85, 3) := by decide +kernel
theorem dX18_anew_35 : decode cX18_anew 35 = .ok (.iconst 0, 1) := by decide +kernel
theorem dX18_anew_36 : decode cX18_anew 36 = .ok (.istore_n 2, 1) := by decide +kernel
theorem dX18_anew_37 : decode cX18_anew 37 = .ok (.iload_n 2, 1) := by decide +kernel
theorem dX18_anew_38 : decode cX18_anew 38 = .ok (.bipush 32, 2) := by decide +kernel
theorem dX18_anew_40 : decode cX18_anew 40 = .ok (.if_icmp .ge 16, 3) := by decide +kernel
theorem dX18_anew_43 : decode cX18_anew 43 = .ok (.aload_n 0, 1) := by decide +kernel
theorem dX18_anew_44 : decode cX18_anew 44 = .ok (.getfield 62, 3) := by decide +kernel
theorem dX18_anew_47 : decode cX18_anew 47 = .ok (.iload_n 2, 1) := by decide +kernel
theorem dX18_anew_48 : decode cX18_anew 48 = .ok (.iconst 0, 1) := by decide +kernel
theorem dX18_anew_49 : decode cX18_anew 49 = .ok (.bastore, 1) := by decide +kernel
theorem dX18_anew_50 : decode cX18_anew 50 = .ok (.iinc 2 1, 3) := by decide +kernel
theorem dX18_anew_53 : decode cX18_anew 53 = .ok (.goto (-16), 3) := by decide +kernel
theorem dX18_anew_56 : decode cX18_anew 56 = .ok (.iconst 0, 1) := by decide +kernel
theorem dX18_anew_57 : decode cX18_anew 57 = .ok (.istore_n 2, 1) := by decide +kernel
theorem dX18_anew_58 : decode cX18_anew 58 = .ok (.iload_n 2, 1) := by decide +kernel
theorem dX18_anew_59 : decode cX18_anew 59 = .ok (.sipush 201, 3) := by decide +kernel
theorem dX18_anew_62 : decode cX18_anew 62 = .ok (.if_icmp .ge 30, 3) := by decide +kernel
theorem dX18_anew_65 : decode cX18_anew 65 = .ok (.aload_n 0, 1) := by decide +kernel
theorem dX18_anew_66 : decode cX18_anew 66 = .ok (.getfield 19, 3) := by decide +kernel
theorem dX18_anew_69 : decode cX18_anew 69 = .ok (.iload_n 2, 1) := by decide +kernel
theorem dX18_anew_70 : decode cX18_anew 70 = .ok (.iconst 0, 1) := by decide +kernel
theorem dX18_anew_71 : decode cX18_anew 71 = .ok (.iastore, 1) := by decide +kernel
theorem dX18_anew_72 : decode cX18_anew 72 = .ok (.aload_n 0, 1) := by decide +kernel
theorem dX18_anew_73 : decode cX18_anew 73 = .ok (.getfield 50, 3) := by decide +kernel
theorem dX18_anew_76 : decode cX18_anew 76 = .ok (.iload_n 2, 1) := by decide +kernel
theorem dX18_anew_77 : decode cX18_anew 77 = .ok (.iconst 0, 1) := by decide +kernel
theorem dX18_anew_78 : decode cX18_anew 78 = .ok (.iastore, 1) := by decide +kernel
theorem dX18_anew_79 : decode cX18_anew 79 = .ok (.aload_n 0, 1) := by decide +kernel
theorem dX18_anew_80 : decode cX18_anew 80 = .ok (.getfield 53, 3) := by decide +kernel
theorem dX18_anew_83 : decode cX18_anew 83 = .ok (.iload_n 2, 1) := by decide +kernel
theorem dX18_anew_84 : decode cX18_anew 84 = .ok (.iconst 0, 1) := by decide +kernel
theorem dX18_anew_85 : decode cX18_anew 85 = .ok (.iastore, 1) := by decide +kernel
theorem dX18_anew_86 : decode cX18_anew 86 = .ok (.iinc 2 1, 3) := by decide +kernel
theorem dX18_anew_89 : decode cX18_anew 89 = .ok (.goto (-31), 3) := by decide +kernel
theorem dX18_anew_92 : decode cX18_anew 92 = .ok (.return_, 1) := by decide +kernel
theorem cwX18_anew : mw_cwV yX18_anew cX18_anew 3 (none) 1 := ⟨⟨wd_18, wd_3140, by decide +kernel⟩, wd_3138, wd_3139⟩
noncomputable def fX18_anew_i58 (fu : Nat) (a1 : Int32) (r58 : (Int32 × mwM × mwL) → Option (mwM × mwL)) (v2 : Int32) (M : mwM) (L : mwL) : Option (mwM × mwL) :=
  (if 201 ≤ v2 then some (M, L) else mck v2 201 (mlet (mset M 906 (v2.toNatClampNeg) 0) (fun M7 => mck v2 201 (mlet (mset M7 916 (v2.toNatClampNeg) 0) (fun M9 => mck v2 201 (mlet (mset M9 917 (v2.toNatClampNeg) 0) (fun M11 => mlet (v2 + 1) (fun x12 => r58 (x12, M11, L)))))))))
noncomputable def fX18_anew_h58 (fu : Nat) (a1 : Int32) : Nat → (Int32 × mwM × mwL) → Option (mwM × mwL) := mloop (fun r58 s => fX18_anew_i58 fu a1 r58 s.1 s.2.1 s.2.2)
noncomputable def fX18_anew_i37 (fu : Nat) (a1 : Int32) (r37 : (Int32 × mwM × mwL) → Option (mwM × mwL)) (v2 : Int32) (M : mwM) (L : mwL) : Option (mwM × mwL) :=
  (if 32 ≤ v2 then fX18_anew_h58 fu a1 fu (0, M, L) else mck v2 32 (mlet (mset M 920 (v2.toNatClampNeg) (vp_nar .boolean 0)) (fun M3 => mlet (v2 + 1) (fun x4 => r37 (x4, M3, L)))))
noncomputable def fX18_anew_h37 (fu : Nat) (a1 : Int32) : Nat → (Int32 × mwM × mwL) → Option (mwM × mwL) := mloop (fun r37 s => fX18_anew_i37 fu a1 r37 s.1 s.2.1 s.2.2)
noncomputable def DX18_anew (fu : Nat) (a1 : Int32) (M : mwM) (L : mwL) : Option (mwM × mwL) :=
  mlet (mset M 902 1 a1) (fun M13 => mlet (mset M13 902 2 0) (fun M14 => mlet (mset M14 902 19 0) (fun M15 => mlet (mset M15 902 20 0) (fun M16 => mlet (mset M16 902 23 0) (fun M17 => mlet (mset M17 902 24 0) (fun M18 => mlet (mset M18 902 25 0) (fun M19 => fX18_anew_h37 fu a1 fu (0, M19, L))))))))
set_option maxHeartbeats 4000000 in
set_option maxRecDepth 100000 in
theorem tX18_anew (l : Launch) (G : mwG) (ad : Nat → Nat) (fu : Nat) (a1 : Int32) (M : mwM) (L : mwL) {M0 : mwM} {L0 : mwL} (hD : DX18_anew fu a1 M L = some (M0, L0)) : Met l yX18_anew (Cond.code yX18_anew cX18_anew 3 (none) :: GT) ({ frames := 0, cells := 0, slots := 0, locals := 0 }) (mw_Pre G ad NF TF FF M L [.ref (ad 902), .int a1]) (mw_Qv G ad NF TF FF (mw_eqV M0 L0)) 0 0 (mw_fr G) := by
  refine mw_enter (by decide) (Nat.le_of_ble_eq_true rfl) ?_
  intro p e s m below meth c ls C hr hlocks hnm hw hl
  have hl : lv_has ls 3 [(0, .ref (ad 902)), (1, .int a1)] := hl
  have hh58 : ∀ (f : Nat) (v2 : Int32) (M : mwM) (L : mwL) (H : Heap) (locs : List Loc) (ls : Array Slot), fX18_anew_h58 fu a1 f (v2, M, L) = some (M0, L0) → mw_W G ad NF TF FF M L H locs → lv_has ls 3 [(0, .ref (ad 902)), (2, .int v2)] → W p l e ({ frames := 0, cells := 0, slots := 0, locals := 0 }) s m [.ref (ad 902), .int a1].toArray below meth c H locs 0 0 (MQ below (mw_Qv G ad NF TF FF (mw_eqV M0 L0)) [.ref (ad 902), .int a1].toArray s 0 0 (mw_fr G)) (F0 m 58 ls []) := by
    intro f
    induction f with
    | zero => intro v2 M L H locs ls hD; cases hD
    | succ f58 ih58 =>
      intro v2 M L H locs ls hD hw hl
      replace hD : fX18_anew_i58 fu a1 (fX18_anew_h58 fu a1 f58) v2 M L = some (M0, L0) := hD
      unfold fX18_anew_i58 at hD
      refine lv_iload_n C.1.1 C.1.2.1 dX18_anew_58 rfl (lv_at hl 1 rfl) ?_
      refine lv_sipush (v := 201) C.1.1 C.1.2.1 dX18_anew_59 (by decide) ?_
      refine lv_icmp_ge (tgt := 92) C.1.1 C.1.2.1 dX18_anew_62 (by decide) (fun c5 => ?_) (fun c5 => ?_)
      · replace hD := g_pos c5 hD
        exact mr_vret C hr hlocks hw (Option.some.inj hD) dX18_anew_92
      · replace hD := g_neg c5 hD
        refine lv_aload_n C.1.1 C.1.2.1 dX18_anew_65 rfl (lv_at hl 0 rfl) ?_
        refine mr_getR C hw kc_18 6 (by decide) tf_902 ff_902_6 wd_2473 dX18_anew_66 (by decide) rfl ?_
        refine lv_iload_n C.1.1 C.1.2.1 dX18_anew_69 rfl (lv_at hl 1 rfl) ?_
        refine lv_iconst (v := 0) C.1.1 C.1.2.1 dX18_anew_70 (by decide) ?_
        obtain ⟨q6, hD⟩ := g_ck hD
        obtain ⟨M7, eM7, hD⟩ := g_let hD
        refine mr_iast C hw (by decide) tf_906 q6 dX18_anew_71 (fun H locs hw => ?_)
        replace hw : mw_W G ad NF TF FF M7 L H locs := by rw [eM7]; exact hw
        refine lv_aload_n C.1.1 C.1.2.1 dX18_anew_72 rfl (lv_at hl 0 rfl) ?_
        refine mr_getR C hw kc_18 16 (by decide) tf_902 ff_902_16 wd_2483 dX18_anew_73 (by decide) rfl ?_
        refine lv_iload_n C.1.1 C.1.2.1 dX18_anew_76 rfl (lv_at hl 1 rfl) ?_
        refine lv_iconst (v := 0) C.1.1 C.1.2.1 dX18_anew_77 (by decide) ?_
        obtain ⟨q8, hD⟩ := g_ck hD
        obtain ⟨M9, eM9, hD⟩ := g_let hD
        refine mr_iast C hw (by decide) tf_916 q8 dX18_anew_78 (fun H locs hw => ?_)
        replace hw : mw_W G ad NF TF FF M9 L H locs := by rw [eM9]; exact hw
        refine lv_aload_n C.1.1 C.1.2.1 dX18_anew_79 rfl (lv_at hl 0 rfl) ?_
        refine mr_getR C hw kc_18 17 (by decide) tf_902 ff_902_17 wd_2484 dX18_anew_80 (by decide) rfl ?_
        refine lv_iload_n C.1.1 C.1.2.1 dX18_anew_83 rfl (lv_at hl 1 rfl) ?_
        refine lv_iconst (v := 0) C.1.1 C.1.2.1 dX18_anew_84 (by decide) ?_
        obtain ⟨q10, hD⟩ := g_ck hD
        obtain ⟨M11, eM11, hD⟩ := g_let hD
        refine mr_iast C hw (by decide) tf_917 q10 dX18_anew_85 (fun H locs hw => ?_)
        replace hw : mw_W G ad NF TF FF M11 L H locs := by rw [eM11]; exact hw
        obtain ⟨x12, ex12, hD⟩ := g_let hD
        refine lv_iinc (v := x12) (lv' := [(2, .int x12), (0, .ref (ad 902))]) C.1.1 C.1.2.1 dX18_anew_86 hl (k := 1) rfl (by rw [ex12]; rfl) (by decide) rfl (fun ls hl => ?_)
        refine lv_goto (tgt := 58) C.1.1 C.1.2.1 dX18_anew_89 (by decide) ?_
        exact ih58 x12 M11 L _ _ ls hD hw (lv_sub hl [1, 0] rfl)
  have hh37 : ∀ (f : Nat) (v2 : Int32) (M : mwM) (L : mwL) (H : Heap) (locs : List Loc) (ls : Array Slot), fX18_anew_h37 fu a1 f (v2, M, L) = some (M0, L0) → mw_W G ad NF TF FF M L H locs → lv_has ls 3 [(0, .ref (ad 902)), (2, .int v2)] → W p l e ({ frames := 0, cells := 0, slots := 0, locals := 0 }) s m [.ref (ad 902), .int a1].toArray below meth c H locs 0 0 (MQ below (mw_Qv G ad NF TF FF (mw_eqV M0 L0)) [.ref (ad 902), .int a1].toArray s 0 0 (mw_fr G)) (F0 m 37 ls []) := by
    intro f
    induction f with
    | zero => intro v2 M L H locs ls hD; cases hD
    | succ f37 ih37 =>
      intro v2 M L H locs ls hD hw hl
      replace hD : fX18_anew_i37 fu a1 (fX18_anew_h37 fu a1 f37) v2 M L = some (M0, L0) := hD
      unfold fX18_anew_i37 at hD
      refine lv_iload_n C.1.1 C.1.2.1 dX18_anew_37 rfl (lv_at hl 1 rfl) ?_
      refine lv_bipush (v := 32) C.1.1 C.1.2.1 dX18_anew_38 (by decide) ?_
      refine lv_icmp_ge (tgt := 56) C.1.1 C.1.2.1 dX18_anew_40 (by decide) (fun c1 => ?_) (fun c1 => ?_)
      · replace hD := g_pos c1 hD
        refine lv_iconst (v := 0) C.1.1 C.1.2.1 dX18_anew_56 (by decide) ?_
        refine lv_istore_n (lv' := [(2, .int 0), (0, .ref (ad 902))]) C.1.1 C.1.2.1 dX18_anew_57 rfl hl (by decide) rfl (fun ls hl => ?_)
        exact hh58 fu 0 M L _ _ ls hD hw (lv_sub hl [1, 0] rfl)
      · replace hD := g_neg c1 hD
        refine lv_aload_n C.1.1 C.1.2.1 dX18_anew_43 rfl (lv_at hl 0 rfl) ?_
        refine mr_getR C hw kc_18 22 (by decide) tf_902 ff_902_22 wd_2489 dX18_anew_44 (by decide) rfl ?_
        refine lv_iload_n C.1.1 C.1.2.1 dX18_anew_47 rfl (lv_at hl 1 rfl) ?_
        refine lv_iconst (v := 0) C.1.1 C.1.2.1 dX18_anew_48 (by decide) ?_
        obtain ⟨q2, hD⟩ := g_ck hD
        obtain ⟨M3, eM3, hD⟩ := g_let hD
        refine mr_zast C hw (by decide) tf_920 q2 dX18_anew_49 (fun H locs hw => ?_)
        replace hw : mw_W G ad NF TF FF M3 L H locs := by rw [eM3]; exact hw
        obtain ⟨x4, ex4, hD⟩ := g_let hD
        refine lv_iinc (v := x4) (lv' := [(2, .int x4), (0, .ref (ad 902))]) C.1.1 C.1.2.1 dX18_anew_50 hl (k := 1) rfl (by rw [ex4]; rfl) (by decide) rfl (fun ls hl => ?_)
        refine lv_goto (tgt := 37) C.1.1 C.1.2.1 dX18_anew_53 (by decide) ?_
        exact ih37 x4 M3 L _ _ ls hD hw (lv_sub hl [1, 0] rfl)
  unfold DX18_anew at hD
  refine lv_aload_n C.1.1 C.1.2.1 dX18_anew_0 rfl (lv_at hl 0 rfl) ?_
  refine lv_iload_n C.1.1 C.1.2.1 dX18_anew_1 rfl (lv_at hl 1 rfl) ?_
  obtain ⟨M13, eM13, hD⟩ := g_let hD
  refine mr_putI C hw kc_18 1 (by decide) tf_902 wd_2468 dX18_anew_2 (by decide) rfl rfl rfl rfl (fun H locs hw => ?_)
  replace hw : mw_W G ad NF TF FF M13 L H locs := by rw [eM13]; exact hw
  refine lv_aload_n C.1.1 C.1.2.1 dX18_anew_5 rfl (lv_at hl 0 rfl) ?_
  refine lv_iconst (v := 0) C.1.1 C.1.2.1 dX18_anew_6 (by decide) ?_
  obtain ⟨M14, eM14, hD⟩ := g_let hD
  refine mr_putI C hw kc_18 2 (by decide) tf_902 wd_2469 dX18_anew_7 (by decide) rfl rfl rfl rfl (fun H locs hw => ?_)
  replace hw : mw_W G ad NF TF FF M14 L H locs := by rw [eM14]; exact hw
  refine lv_aload_n C.1.1 C.1.2.1 dX18_anew_10 rfl (lv_at hl 0 rfl) ?_
  refine lv_iconst (v := 0) C.1.1 C.1.2.1 dX18_anew_11 (by decide) ?_
  obtain ⟨M15, eM15, hD⟩ := g_let hD
  refine mr_putI C hw kc_18 19 (by decide) tf_902 wd_2486 dX18_anew_12 (by decide) rfl rfl rfl rfl (fun H locs hw => ?_)
  replace hw : mw_W G ad NF TF FF M15 L H locs := by rw [eM15]; exact hw
  refine lv_aload_n C.1.1 C.1.2.1 dX18_anew_15 rfl (lv_at hl 0 rfl) ?_
  refine lv_iconst (v := 0) C.1.1 C.1.2.1 dX18_anew_16 (by decide) ?_
  obtain ⟨M16, eM16, hD⟩ := g_let hD
  refine mr_putI C hw kc_18 20 (by decide) tf_902 wd_2487 dX18_anew_17 (by decide) rfl rfl rfl rfl (fun H locs hw => ?_)
  replace hw : mw_W G ad NF TF FF M16 L H locs := by rw [eM16]; exact hw
  refine lv_aload_n C.1.1 C.1.2.1 dX18_anew_20 rfl (lv_at hl 0 rfl) ?_
  refine lv_iconst (v := 0) C.1.1 C.1.2.1 dX18_anew_21 (by decide) ?_
  obtain ⟨M17, eM17, hD⟩ := g_let hD
  refine mr_putI C hw kc_18 23 (by decide) tf_902 wd_2490 dX18_anew_22 (by decide) rfl rfl (by decide +kernel) (by decide +kernel) (fun H locs hw => ?_)
  replace hw : mw_W G ad NF TF FF M17 L H locs := by rw [eM17]; exact hw
  refine lv_aload_n C.1.1 C.1.2.1 dX18_anew_25 rfl (lv_at hl 0 rfl) ?_
  refine lv_iconst (v := 0) C.1.1 C.1.2.1 dX18_anew_26 (by decide) ?_
  obtain ⟨M18, eM18, hD⟩ := g_let hD
  refine mr_putI C hw kc_18 24 (by decide) tf_902 wd_2491 dX18_anew_27 (by decide) rfl rfl rfl rfl (fun H locs hw => ?_)
  replace hw : mw_W G ad NF TF FF M18 L H locs := by rw [eM18]; exact hw
  refine lv_aload_n C.1.1 C.1.2.1 dX18_anew_30 rfl (lv_at hl 0 rfl) ?_
  refine lv_iconst (v := 0) C.1.1 C.1.2.1 dX18_anew_31 (by decide) ?_
  obtain ⟨M19, eM19, hD⟩ := g_let hD
  refine mr_putI C hw kc_18 25 (by decide) tf_902 wd_2492 dX18_anew_32 (by decide) rfl rfl rfl rfl (fun H locs hw => ?_)
  replace hw : mw_W G ad NF TF FF M19 L H locs := by rw [eM19]; exact hw
  refine lv_iconst (v := 0) C.1.1 C.1.2.1 dX18_anew_35 (by decide) ?_
  refine lv_istore_n (lv' := [(2, .int 0), (0, .ref (ad 902)), (1, .int a1)]) C.1.1 C.1.2.1 dX18_anew_36 rfl hl (by decide) rfl (fun ls hl => ?_)
  exact hh37 fu 0 M19 L _ _ ls hD hw (lv_sub hl [1, 0] rfl)

theorem dX19_system_0 : decode cX19_system 0 = .ok (.aload_n 0, 1) := by decide +kernel
theorem dX19_system_1 : decode cX19_system 1 = .ok (.aload_n 0, 1) := by decide +kernel
theorem dX19_system_2 : decode cX19_system 2 = .ok (.getfield 627, 3) := by decide +kernel
theorem dX19_system_5 : decode cX19_system 5 = .ok (.bipush 16, 2) := by decide +kernel
theorem dX19_system_7 : decode cX19_system 7 = .ok (.if_icmp .ne 7, 3) := by decide +kernel
theorem dX19_system_10 : decode cX19_system 10 = .ok (.iconst 1, 1) := by decide +kernel
theorem dX19_system_11 : decode cX19_system 11 = .ok (.goto 4, 3) := by decide +kernel
theorem dX19_system_14 : decode cX19_system 14 = .ok (.iconst 0, 1) := by decide +kernel
theorem dX19_system_15 : decode cX19_system 15 = .ok (.putfield 289, 3) := by decide +kernel
theorem dX19_system_18 : decode cX19_system 18 = .ok (.aload_n 0, 1) := by decide +kernel
theorem dX19_system_19 : decode cX19_system 19 = .ok (.getfield 289, 3) := by decide +kernel
theorem dX19_system_22 : decode cX19_system 22 = .ok (.ifCond .le 5, 3) := by decide +kernel
theorem dX19_system_25 : decode cX19_system 25 = .ok (.iconst 0, 1) := by decide +kernel
theorem dX19_system_26 : decode cX19_system 26 = .ok (.ireturn, 1) := by decide +kernel
theorem dX19_system_27 : decode cX19_system 27 = .ok (.aload_n 0, 1) := by decide +kernel
theorem dX19_system_28 : decode cX19_system 28 = .ok (.dup, 1) := by decide +kernel
theorem dX19_system_29 : decode cX19_system 29 = .ok (.getfield 627, 3) := by decide +kernel
theorem dX19_system_32 : decode cX19_system 32 = .ok (.iconst 1, 1) := by decide +kernel
theorem dX19_system_33 : decode cX19_system 33 = .ok (.iadd, 1) := by decide +kernel
theorem dX19_system_34 : decode cX19_system 34 = .ok (.putfield 627, 3) := by decide +kernel
theorem dX19_system_37 : decode cX19_system 37 = .ok (.aload_n 0, 1) := by decide +kernel
theorem dX19_system_38 : decode cX19_system 38 = .ok (.iconst 0, 1) := by decide +kernel
theorem dX19_system_39 : decode cX19_system 39 = .ok (.putfield 630, 3) := by decide +kernel
theorem dX19_system_42 : decode cX19_system 42 = .ok (.aload_n 0, 1) := by decide +kernel
theorem dX19_system_43 : decode cX19_system 43 = .ok (.iconst 0, 1) := by decide +kernel
theorem dX19_system_44 : decode cX19_system 44 = .ok (.putfield 634, 3) := by decide +kernel
theorem dX19_system_47 : decode cX19_system 47 = .ok (.aload_n 0, 1) := by decide +kernel
theorem dX19_system_48 : decode cX19_system 48 = .ok (.iconst 0, 1) := by decide +kernel
theorem dX19_system_49 : decode cX19_system 49 = .ok (.putfield 347, 3) := by decide +kernel
theorem dX19_system_52 : decode cX19_system 52 = .ok (.aload_n 0, 1) := by decide +kernel
theorem dX19_system_53 : decode cX19_system 53 = .ok (.iconst 0, 1) := by decide +kernel
theorem dX19_system_54 : decode cX19_system 54 = .ok (.putfield 435, 3) := by decide +kernel
theorem dX19_system_57 : decode cX19_system 57 = .ok (.aload_n 0, 1) := by decide +kernel
theorem dX19_system_58 : decode cX19_system 58 = .ok (.iconst 0, 1) := by decide +kernel
theorem dX19_system_59 : decode cX19_system 59 = .ok (.putfield 546, 3) := by decide +kernel
theorem dX19_system_62 : decode cX19_system 62 = .ok (.aload_n 0, 1) := by decide +kernel
theorem dX19_system_63 : decode cX19_system 63 = .ok (.iconst 0, 1) := by decide +kernel
theorem dX19_system_64 : decode cX19_system 64 = .ok (.putfield 448, 3) := by decide +kernel
theorem dX19_system_67 : decode cX19_system 67 = .ok (.aload_n 0, 1) := by decide +kernel
theorem dX19_system_68 : decode cX19_system 68 = .ok (.iconst 0, 1) := by decide +kernel
theorem dX19_system_69 : decode cX19_system 69 = .ok (.putfield 456, 3) := by decide +kernel
theorem dX19_system_72 : decode cX19_system 72 = .ok (.aload_n 0, 1) := by decide +kernel
theorem dX19_system_73 : decode cX19_system 73 = .ok (.iconst 0, 1) := by decide +kernel
theorem dX19_system_74 : decode cX19_system 74 = .ok (.putfield 541, 3) := by decide +kernel
theorem dX19_system_77 : decode cX19_system 77 = .ok (.aload_n 0, 1) := by decide +kernel
theorem dX19_system_78 : decode cX19_system 78 = .ok (.iconst 0, 1) := by decide +kernel
theorem dX19_system_79 : decode cX19_system 79 = .ok (.putfield 555, 3) := by decide +kernel
theorem dX19_system_82 : decode cX19_system 82 = .ok (.aload_n 0, 1) := by decide +kernel
theorem dX19_system_83 : decode cX19_system 83 = .ok (.iconst 0, 1) := by decide +kernel
theorem dX19_system_84 : decode cX19_system 84 = .ok (.putfield 558, 3) := by decide +kernel
theorem dX19_system_87 : decode cX19_system 87 = .ok (.aload_n 0, 1) := by decide +kernel
theorem dX19_system_88 : decode cX19_system 88 = .ok (.iconst 0, 1) := by decide +kernel
theorem dX19_system_89 : decode cX19_system 89 = .ok (.putfield 568, 3) := by decide +kernel
theorem dX19_system_92 : decode cX19_system 92 = .ok (.aload_n 0, 1) := by decide +kernel
theorem dX19_system_93 : decode cX19_system 93 = .ok (.getfield 205, 3) := by decide +kernel
theorem dX19_system_96 : decode cX19_system 96 = .ok (.bipush 8, 2) := by decide +kernel
theorem dX19_system_98 : decode cX19_system 98 = .ok (.invokevirtual 636, 3) := by decide +kernel
theorem dX19_system_101 : decode cX19_system 101 = .ok (.aload_n 0, 1) := by decide +kernel
theorem dX19_system_102 : decode cX19_system 102 = .ok (.aload_n 0, 1) := by decide +kernel
theorem dX19_system_103 : decode cX19_system 103 = .ok (.invokevirtual 637, 3) := by decide +kernel
theorem dX19_system_106 : decode cX19_system 106 = .ok (.ifCond .eq 21, 3) := by decide +kernel
theorem dX19_system_109 : decode cX19_system 109 = .ok (.aload_n 0, 1) := by decide +kernel
theorem dX19_system_110 : decode cX19_system 110 = .ok (.invokevirtual 640, 3) := by decide +kernel
theorem dX19_system_113 : decode cX19_system 113 = .ok (.ifCond .eq 14, 3) := by decide +kernel
theorem dX19_system_116 : decode cX19_system 116 = .ok (.aload_n 0, 1) := by decide +kernel
theorem dX19_system_117 : decode cX19_system 117 = .ok (.invokevirtual 643, 3) := by decide +kernel
theorem dX19_system_120 : decode cX19_system 120 = .ok (.ifCond .eq 7, 3) := by decide +kernel
theorem dX19_system_123 : decode cX19_system 123 = .ok (.iconst 1, 1) := by decide +kernel
theorem dX19_system_124 : decode cX19_system 124 = .ok (.goto 4, 3) := by decide +kernel
theorem dX19_system_127 : decode cX19_system 127 = .ok (.iconst 0, 1) := by decide +kernel
theorem dX19_system_128 : decode cX19_system 128 = .ok (.putfield 630, 3) := by decide +kernel
theorem dX19_system_131 : decode cX19_system 131 = .ok (.aload_n 0, 1) := by decide +kernel
theorem dX19_system_132 : decode cX19_system 132 = .ok (.getfield 630, 3) := by decide +kernel
theorem dX19_system_135 : decode cX19_system 135 = .ok (.ifCond .eq 5, 3) := by decide +kernel
theorem dX19_system_138 : decode cX19_system 138 = .ok (.iconst 0, 1) := by decide +kernel
theorem dX19_system_139 : decode cX19_system 139 = .ok (.ireturn, 1) := by decide +kernel
theorem dX19_system_140 : decode cX19_system 140 = .ok (.aload_n 0, 1) := by decide +kernel
theorem dX19_system_141 : decode cX19_system 141 = .ok (.aload_n 0, 1) := by decide +kernel
theorem dX19_system_142 : decode cX19_system 142 = .ok (.getfield 302, 3) := by decide +kernel
theorem dX19_system_145 : decode cX19_system 145 = .ok (.putfield 634, 3) := by decide +kernel
theorem dX19_system_148 : decode cX19_system 148 = .ok (.aload_n 0, 1) := by decide +kernel
theorem dX19_system_149 : decode cX19_system 149 = .ok (.getfield 299, 3) := by decide +kernel
theorem dX19_system_152 : decode cX19_system 152 = .ok (.ireturn, 1) := by decide +kernel
theorem cwX19_system : mw_cwV yX19_system cX19_system 1 ((some .int)) 0 := ⟨⟨wd_13, wd_3136, by decide +kernel⟩, wd_3134, wd_3135⟩
noncomputable def fX19_system_b128 (fu : Nat) (s1 : Int32) (M : mwM) (L : mwL) : Option (Int32 × mwM × mwL) :=
  mzz s1 (mlet (mset M 732 4 s1) (fun M22 => (if (M22 732 4) = 0 then mlet (mset M22 732 5 (M22 732 12)) (fun M24 => some (M24 732 11, M24, L)) else some (0, M22, L))))
noncomputable def fX19_system_b127 (fu : Nat) (M : mwM) (L : mwL) : Option (Int32 × mwM × mwL) :=
  fX19_system_b128 fu 0 M L
noncomputable def fX19_system_b15 (fu : Nat) (s1 : Int32) (M : mwM) (L : mwL) : Option (Int32 × mwM × mwL) :=
  mlet (mset M 732 0 s1) (fun M1 => (if (M1 732 0) ≤ 0 then mlet (mset M1 732 3 ((M1 732 3) + 1)) (fun M3 => mlet (mset M3 732 4 0) (fun M4 => mlet (mset M4 732 5 0) (fun M5 => mlet (mset M5 732 14 0) (fun M6 => mlet (mset M6 732 19 0) (fun M7 => mlet (mset M7 732 20 0) (fun M8 => mlet (mset M8 732 24 0) (fun M9 => mlet (mset M9 732 33 0) (fun M10 => mlet (mset M10 732 45 0) (fun M11 => mlet (mset M11 732 55 0) (fun M12 => mlet (mset M12 732 62 0) (fun M13 => mlet (mset M13 732 67 0) (fun M14 => mb2 (DX18_anew fu 8 M14 L) (fun M15 L16 => mb3 (DX19_read fu M15 L16) (fun r19 M17 L18 => (if r19 = 0 then fX19_system_b127 fu M17 L18 else none))))))))))))))) else some (0, M1, L)))
noncomputable def DX19_system (fu : Nat) (M : mwM) (L : mwL) : Option (Int32 × mwM × mwL) :=
  (if (M 732 3) = 16 then fX19_system_b15 fu 1 M L else fX19_system_b15 fu 0 M L)
set_option maxHeartbeats 4000000 in
set_option maxRecDepth 100000 in
theorem tX19_system (l : Launch) (G : mwG) (ad : Nat → Nat) (fu : Nat) (M : mwM) (L : mwL) {r0 : Int32} {M0 : mwM} {L0 : mwL} (hD : DX19_system fu M L = some (r0, M0, L0)) : Met l yX19_system (Cond.code yX19_system cX19_system 1 ((some .int)) :: GT) ({ frames := 2, cells := 0, slots := 0, locals := 43 }) (mw_Pre G ad NF TF FF M L [.ref (ad 732)]) (mw_Qi G ad NF TF FF (mw_eqI r0 M0 L0)) 0 0 (mw_fr G) := by
  refine mw_enter (by decide) (Nat.le_of_ble_eq_true rfl) ?_
  intro p e s m below meth c ls C hr hlocks hnm hw hl
  have hl : lv_has ls 1 [(0, .ref (ad 732))] := hl
  have hb128 : ∀ (s1 : Int32) (M : mwM) (L : mwL) (H : Heap) (locs : List Loc) (ls : Array Slot), fX19_system_b128 fu s1 M L = some (r0, M0, L0) → mw_W G ad NF TF FF M L H locs → lv_has ls 1 [(0, .ref (ad 732))] → W p l e ({ frames := 2, cells := 0, slots := 0, locals := 43 }) s m [.ref (ad 732)].toArray below meth c H locs 0 0 (MQ below (mw_Qi G ad NF TF FF (mw_eqI r0 M0 L0)) [.ref (ad 732)].toArray s 0 0 (mw_fr G)) (F0 m 128 ls [.int s1, .ref (ad 732)]) := by
    intro s1 M L H locs ls hD hw hl
    unfold fX19_system_b128 at hD
    obtain ⟨z21, hD⟩ := g_zz hD
    obtain ⟨M22, eM22, hD⟩ := g_let hD
    refine mr_putI C hw kc_19 4 (by decide) tf_732 wd_2785 dX19_system_128 (by decide) rfl rfl (nz_zz z21) (ft_zz z21) (fun H locs hw => ?_)
    replace hw : mw_W G ad NF TF FF M22 L H locs := by rw [eM22]; exact hw
    refine lv_aload_n C.1.1 C.1.2.1 dX19_system_131 rfl (lv_at hl 0 rfl) ?_
    refine mr_getI C hw kc_19 4 (by decide) tf_732 wd_2785 dX19_system_132 (by decide) rfl ?_
    refine lv_if_eq (tgt := 140) C.1.1 C.1.2.1 dX19_system_135 (by decide) (fun c23 => ?_) (fun c23 => ?_)
    · replace hD := g_pos c23 hD
      refine lv_aload_n C.1.1 C.1.2.1 dX19_system_140 rfl (lv_at hl 0 rfl) ?_
      refine lv_aload_n C.1.1 C.1.2.1 dX19_system_141 rfl (lv_at hl 0 rfl) ?_
      refine mr_getI C hw kc_19 12 (by decide) tf_732 wd_2793 dX19_system_142 (by decide) rfl ?_
      obtain ⟨M24, eM24, hD⟩ := g_let hD
      refine mr_putI C hw kc_19 5 (by decide) tf_732 wd_2786 dX19_system_145 (by decide) rfl rfl rfl rfl (fun H locs hw => ?_)
      replace hw : mw_W G ad NF TF FF M24 L H locs := by rw [eM24]; exact hw
      refine lv_aload_n C.1.1 C.1.2.1 dX19_system_148 rfl (lv_at hl 0 rfl) ?_
      refine mr_getI C hw kc_19 11 (by decide) tf_732 wd_2792 dX19_system_149 (by decide) rfl ?_
      exact mr_iret C hr hlocks hw rfl (Option.some.inj hD) dX19_system_152
    · replace hD := g_neg c23 hD
      refine lv_iconst (v := 0) C.1.1 C.1.2.1 dX19_system_138 (by decide) ?_
      exact mr_iret C hr hlocks hw rfl (Option.some.inj hD) dX19_system_139
  have hb127 : ∀ (M : mwM) (L : mwL) (H : Heap) (locs : List Loc) (ls : Array Slot), fX19_system_b127 fu M L = some (r0, M0, L0) → mw_W G ad NF TF FF M L H locs → lv_has ls 1 [(0, .ref (ad 732))] → W p l e ({ frames := 2, cells := 0, slots := 0, locals := 43 }) s m [.ref (ad 732)].toArray below meth c H locs 0 0 (MQ below (mw_Qi G ad NF TF FF (mw_eqI r0 M0 L0)) [.ref (ad 732)].toArray s 0 0 (mw_fr G)) (F0 m 127 ls [.ref (ad 732)]) := by
    intro M L H locs ls hD hw hl
    unfold fX19_system_b127 at hD
    refine lv_iconst (v := 0) C.1.1 C.1.2.1 dX19_system_127 (by decide) ?_
    exact hb128 0 M L _ _ ls hD hw (lv_sub hl [0] rfl)
  have hb15 : ∀ (s1 : Int32) (M : mwM) (L : mwL) (H : Heap) (locs : List Loc) (ls : Array Slot), fX19_system_b15 fu s1 M L = some (r0, M0, L0) → mw_W G ad NF TF FF M L H locs → lv_has ls 1 [(0, .ref (ad 732))] → W p l e ({ frames := 2, cells := 0, slots := 0, locals := 43 }) s m [.ref (ad 732)].toArray below meth c H locs 0 0 (MQ below (mw_Qi G ad NF TF FF (mw_eqI r0 M0 L0)) [.ref (ad 732)].toArray s 0 0 (mw_fr G)) (F0 m 15 ls [.int s1, .ref (ad 732)]) := by
    intro s1 M L H locs ls hD hw hl
    unfold fX19_system_b15 at hD
    obtain ⟨M1, eM1, hD⟩ := g_let hD
    refine mr_putI C hw kc_19 0 (by decide) tf_732 wd_2781 dX19_system_15 (by decide) rfl rfl rfl rfl (fun H locs hw => ?_)
    replace hw : mw_W G ad NF TF FF M1 L H locs := by rw [eM1]; exact hw
    refine lv_aload_n C.1.1 C.1.2.1 dX19_system_18 rfl (lv_at hl 0 rfl) ?_
    refine mr_getI C hw kc_19 0 (by decide) tf_732 wd_2781 dX19_system_19 (by decide) rfl ?_
    refine lv_if_le (tgt := 27) C.1.1 C.1.2.1 dX19_system_22 (by decide) (fun c2 => ?_) (fun c2 => ?_)
    · replace hD := g_pos c2 hD
      refine lv_aload_n C.1.1 C.1.2.1 dX19_system_27 rfl (lv_at hl 0 rfl) ?_
      refine lv_dup C.1.1 C.1.2.1 dX19_system_28 rfl ?_
      refine mr_getI C hw kc_19 3 (by decide) tf_732 wd_2784 dX19_system_29 (by decide) rfl ?_
      refine lv_iconst (v := 1) C.1.1 C.1.2.1 dX19_system_32 (by decide) ?_
      refine lv_iadd C.1.1 C.1.2.1 dX19_system_33 ?_
      obtain ⟨M3, eM3, hD⟩ := g_let hD
      refine mr_putI C hw kc_19 3 (by decide) tf_732 wd_2784 dX19_system_34 (by decide) rfl rfl rfl rfl (fun H locs hw => ?_)
      replace hw : mw_W G ad NF TF FF M3 L H locs := by rw [eM3]; exact hw
      refine lv_aload_n C.1.1 C.1.2.1 dX19_system_37 rfl (lv_at hl 0 rfl) ?_
      refine lv_iconst (v := 0) C.1.1 C.1.2.1 dX19_system_38 (by decide) ?_
      obtain ⟨M4, eM4, hD⟩ := g_let hD
      refine mr_putI C hw kc_19 4 (by decide) tf_732 wd_2785 dX19_system_39 (by decide) rfl rfl (by decide +kernel) (by decide +kernel) (fun H locs hw => ?_)
      replace hw : mw_W G ad NF TF FF M4 L H locs := by rw [eM4]; exact hw
      refine lv_aload_n C.1.1 C.1.2.1 dX19_system_42 rfl (lv_at hl 0 rfl) ?_
      refine lv_iconst (v := 0) C.1.1 C.1.2.1 dX19_system_43 (by decide) ?_
      obtain ⟨M5, eM5, hD⟩ := g_let hD
      refine mr_putI C hw kc_19 5 (by decide) tf_732 wd_2786 dX19_system_44 (by decide) rfl rfl rfl rfl (fun H locs hw => ?_)
      replace hw : mw_W G ad NF TF FF M5 L H locs := by rw [eM5]; exact hw
      refine lv_aload_n C.1.1 C.1.2.1 dX19_system_47 rfl (lv_at hl 0 rfl) ?_
      refine lv_iconst (v := 0) C.1.1 C.1.2.1 dX19_system_48 (by decide) ?_
      obtain ⟨M6, eM6, hD⟩ := g_let hD
      refine mr_putI C hw kc_19 14 (by decide) tf_732 wd_2795 dX19_system_49 (by decide) rfl rfl rfl rfl (fun H locs hw => ?_)
      replace hw : mw_W G ad NF TF FF M6 L H locs := by rw [eM6]; exact hw
      refine lv_aload_n C.1.1 C.1.2.1 dX19_system_52 rfl (lv_at hl 0 rfl) ?_
      refine lv_iconst (v := 0) C.1.1 C.1.2.1 dX19_system_53 (by decide) ?_
      obtain ⟨M7, eM7, hD⟩ := g_let hD
      refine mr_putI C hw kc_19 19 (by decide) tf_732 wd_2800 dX19_system_54 (by decide) rfl rfl rfl rfl (fun H locs hw => ?_)
      replace hw : mw_W G ad NF TF FF M7 L H locs := by rw [eM7]; exact hw
      refine lv_aload_n C.1.1 C.1.2.1 dX19_system_57 rfl (lv_at hl 0 rfl) ?_
      refine lv_iconst (v := 0) C.1.1 C.1.2.1 dX19_system_58 (by decide) ?_
      obtain ⟨M8, eM8, hD⟩ := g_let hD
      refine mr_putI C hw kc_19 20 (by decide) tf_732 wd_2801 dX19_system_59 (by decide) rfl rfl rfl rfl (fun H locs hw => ?_)
      replace hw : mw_W G ad NF TF FF M8 L H locs := by rw [eM8]; exact hw
      refine lv_aload_n C.1.1 C.1.2.1 dX19_system_62 rfl (lv_at hl 0 rfl) ?_
      refine lv_iconst (v := 0) C.1.1 C.1.2.1 dX19_system_63 (by decide) ?_
      obtain ⟨M9, eM9, hD⟩ := g_let hD
      refine mr_putI C hw kc_19 24 (by decide) tf_732 wd_2805 dX19_system_64 (by decide) rfl rfl rfl rfl (fun H locs hw => ?_)
      replace hw : mw_W G ad NF TF FF M9 L H locs := by rw [eM9]; exact hw
      refine lv_aload_n C.1.1 C.1.2.1 dX19_system_67 rfl (lv_at hl 0 rfl) ?_
      refine lv_iconst (v := 0) C.1.1 C.1.2.1 dX19_system_68 (by decide) ?_
      obtain ⟨M10, eM10, hD⟩ := g_let hD
      refine mr_putI C hw kc_19 33 (by decide) tf_732 wd_2814 dX19_system_69 (by decide) rfl rfl rfl rfl (fun H locs hw => ?_)
      replace hw : mw_W G ad NF TF FF M10 L H locs := by rw [eM10]; exact hw
      refine lv_aload_n C.1.1 C.1.2.1 dX19_system_72 rfl (lv_at hl 0 rfl) ?_
      refine lv_iconst (v := 0) C.1.1 C.1.2.1 dX19_system_73 (by decide) ?_
      obtain ⟨M11, eM11, hD⟩ := g_let hD
      refine mr_putI C hw kc_19 45 (by decide) tf_732 wd_2826 dX19_system_74 (by decide) rfl rfl rfl rfl (fun H locs hw => ?_)
      replace hw : mw_W G ad NF TF FF M11 L H locs := by rw [eM11]; exact hw
      refine lv_aload_n C.1.1 C.1.2.1 dX19_system_77 rfl (lv_at hl 0 rfl) ?_
      refine lv_iconst (v := 0) C.1.1 C.1.2.1 dX19_system_78 (by decide) ?_
      obtain ⟨M12, eM12, hD⟩ := g_let hD
      refine mr_putI C hw kc_19 55 (by decide) tf_732 wd_2836 dX19_system_79 (by decide) rfl rfl rfl rfl (fun H locs hw => ?_)
      replace hw : mw_W G ad NF TF FF M12 L H locs := by rw [eM12]; exact hw
      refine lv_aload_n C.1.1 C.1.2.1 dX19_system_82 rfl (lv_at hl 0 rfl) ?_
      refine lv_iconst (v := 0) C.1.1 C.1.2.1 dX19_system_83 (by decide) ?_
      obtain ⟨M13, eM13, hD⟩ := g_let hD
      refine mr_putI C hw kc_19 62 (by decide) tf_732 wd_2843 dX19_system_84 (by decide) rfl rfl rfl rfl (fun H locs hw => ?_)
      replace hw : mw_W G ad NF TF FF M13 L H locs := by rw [eM13]; exact hw
      refine lv_aload_n C.1.1 C.1.2.1 dX19_system_87 rfl (lv_at hl 0 rfl) ?_
      refine lv_iconst (v := 0) C.1.1 C.1.2.1 dX19_system_88 (by decide) ?_
      obtain ⟨M14, eM14, hD⟩ := g_let hD
      refine mr_putI C hw kc_19 67 (by decide) tf_732 wd_2848 dX19_system_89 (by decide) rfl rfl rfl rfl (fun H locs hw => ?_)
      replace hw : mw_W G ad NF TF FF M14 L H locs := by rw [eM14]; exact hw
      refine lv_aload_n C.1.1 C.1.2.1 dX19_system_92 rfl (lv_at hl 0 rfl) ?_
      refine mr_getR C hw kc_19 80 (by decide) tf_732 ff_732_80 wd_2861 dX19_system_93 (by decide) rfl ?_
      refine lv_bipush (v := 8) C.1.1 C.1.2.1 dX19_system_96 (by decide) ?_
      obtain ⟨M15, L16, h1, hD⟩ := g_b2 hD
      refine md_cvV (As := [.int 8]) (rest := []) C hw (tX18_anew l G ad fu 8 M14 L h1) kc_18 (by decide) tf_902 wd_3137 cwX18_anew ⟨Nat.le_of_ble_eq_true rfl, Nat.le_of_ble_eq_true rfl⟩ rfl hl.1 (Nat.le_of_ble_eq_true rfl) dX19_system_98 rfl rfl ⟨Nat.zero_le _, Nat.zero_le _⟩ rfl (fun H locs hw => ?_)
      refine lv_aload_n C.1.1 C.1.2.1 dX19_system_101 rfl (lv_at hl 0 rfl) ?_
      refine lv_aload_n C.1.1 C.1.2.1 dX19_system_102 rfl (lv_at hl 0 rfl) ?_
      obtain ⟨r19, M17, L18, h1, hD⟩ := g_b3 hD
      refine md_cvI (As := []) (rest := [.ref (ad 732)]) C hw (tX19_read l G ad fu M15 L16 h1) kc_19 (by decide) tf_732 wd_3141 cwX19_read ⟨Nat.le_of_ble_eq_true rfl, Nat.le_of_ble_eq_true rfl⟩ rfl hl.1 (Nat.le_of_ble_eq_true rfl) dX19_system_103 rfl rfl ⟨Nat.zero_le _, Nat.zero_le _⟩ rfl (fun H locs hw => ?_)
      refine lv_if_eq (tgt := 127) C.1.1 C.1.2.1 dX19_system_106 (by decide) (fun c20 => ?_) (fun c20 => ?_)
      · replace hD := g_pos c20 hD
        exact hb127 M17 L18 _ _ ls hD hw (lv_sub hl [0] rfl)
      · replace hD := g_neg c20 hD
        refine lv_aload_n C.1.1 C.1.2.1 dX19_system_109 rfl (lv_at hl 0 rfl) ?_
        cases hD
    · replace hD := g_neg c2 hD
      refine lv_iconst (v := 0) C.1.1 C.1.2.1 dX19_system_25 (by decide) ?_
      exact mr_iret C hr hlocks hw rfl (Option.some.inj hD) dX19_system_26
  unfold DX19_system at hD
  refine lv_aload_n C.1.1 C.1.2.1 dX19_system_0 rfl (lv_at hl 0 rfl) ?_
  refine lv_aload_n C.1.1 C.1.2.1 dX19_system_1 rfl (lv_at hl 0 rfl) ?_
  refine mr_getI C hw kc_19 3 (by decide) tf_732 wd_2784 dX19_system_2 (by decide) rfl ?_
  refine lv_bipush (v := 16) C.1.1 C.1.2.1 dX19_system_5 (by decide) ?_
  refine lv_icmp_ne (tgt := 14) C.1.1 C.1.2.1 dX19_system_7 (by decide) (fun c25 => ?_) (fun c25 => ?_)
  · replace hD := g_neg c25 hD
    refine lv_iconst (v := 0) C.1.1 C.1.2.1 dX19_system_14 (by decide) ?_
    exact hb15 0 M L _ _ ls hD hw (lv_sub hl [0] rfl)
  · replace hD := g_pos c25 hD
    refine lv_iconst (v := 1) C.1.1 C.1.2.1 dX19_system_10 (by decide) ?_
    refine lv_goto (tgt := 15) C.1.1 C.1.2.1 dX19_system_11 (by decide) ?_
    exact hb15 1 M L _ _ ls hD hw (lv_sub hl [0] rfl)

theorem dX19_task_0 : decode cX19_task 0 = .ok (.aload_n 0, 1) := by decide +kernel
theorem dX19_task_1 : decode cX19_task 1 = .ok (.aload_n 0, 1) := by decide +kernel
theorem dX19_task_2 : decode cX19_task 2 = .ok (.getfield 630, 3) := by decide +kernel
theorem dX19_task_5 : decode cX19_task 5 = .ok (.ifCond .eq 15, 3) := by decide +kernel
theorem dX19_task_8 : decode cX19_task 8 = .ok (.iload_n 1, 1) := by decide +kernel
theorem dX19_task_9 : decode cX19_task 9 = .ok (.ifCond .lt 11, 3) := by decide +kernel
theorem dX19_task_12 : decode cX19_task 12 = .ok (.iload_n 1, 1) := by decide +kernel
theorem dX19_task_13 : decode cX19_task 13 = .ok (.aload_n 0, 1) := by decide +kernel
theorem dX19_task_14 : decode cX19_task 14 = .ok (.getfield 448, 3) := by decide +kernel
theorem dX19_task_17 : decode cX19_task 17 = .ok (.if_icmp .lt 7, 3) := by decide +kernel
theorem dX19_task_20 : decode cX19_task 20 = .ok (.iconst 1, 1) := by decide +kernel
theorem dX19_task_21 : decode cX19_task 21 = .ok (.goto 17, 3) := by decide +kernel
theorem dX19_task_24 : decode cX19_task 24 = .ok (.iload_n 2, 1) := by decide +kernel
theorem dX19_task_25 : decode cX19_task 25 = .ok (.ifCond .lt 8, 3) := by decide +kernel
theorem dX19_task_28 : decode cX19_task 28 = .ok (.iload_n 2, 1) := by decide +kernel
theorem dX19_task_29 : decode cX19_task 29 = .ok (.iconst 2, 1) := by decide +kernel
theorem dX19_task_30 : decode cX19_task 30 = .ok (.if_icmp .le 7, 3) := by decide +kernel
theorem dX19_task_33 : decode cX19_task 33 = .ok (.iconst 2, 1) := by decide +kernel
theorem dX19_task_34 : decode cX19_task 34 = .ok (.goto 4, 3) := by decide +kernel
theorem dX19_task_37 : decode cX19_task 37 = .ok (.iconst 0, 1) := by decide +kernel
theorem dX19_task_38 : decode cX19_task 38 = .ok (.putfield 289, 3) := by decide +kernel
theorem dX19_task_41 : decode cX19_task 41 = .ok (.aload_n 0, 1) := by decide +kernel
theorem dX19_task_42 : decode cX19_task 42 = .ok (.getfield 289, 3) := by decide +kernel
theorem dX19_task_45 : decode cX19_task 45 = .ok (.ifCond .le 5, 3) := by decide +kernel
theorem dX19_task_48 : decode cX19_task 48 = .ok (.iconst 0, 1) := by decide +kernel
theorem dX19_task_49 : decode cX19_task 49 = .ok (.ireturn, 1) := by decide +kernel
theorem dX19_task_50 : decode cX19_task 50 = .ok (.iload_n 2, 1) := by decide +kernel
theorem dX19_task_51 : decode cX19_task 51 = .ok (.ifCond .ne 16, 3) := by decide +kernel
theorem dX19_task_54 : decode cX19_task 54 = .ok (.aload_n 0, 1) := by decide +kernel
theorem dX19_task_55 : decode cX19_task 55 = .ok (.getfield 177, 3) := by decide +kernel
theorem dX19_task_58 : decode cX19_task 58 = .ok (.iload_n 1, 1) := by decide +kernel
theorem dX19_task_59 : decode cX19_task 59 = .ok (.iconst 1, 1) := by decide +kernel
theorem dX19_task_60 : decode cX19_task 60 = .ok (.iadd, 1) := by decide +kernel
theorem dX19_task_61 : decode cX19_task 61 = .ok (.invokevirtual 831, 3) := by decide +kernel
theorem dX19_task_64 : decode cX19_task 64 = .ok (.goto 28, 3) := by decide +kernel
theorem dX19_task_67 : decode cX19_task 67 = .ok (.iload_n 2, 1) := by decide +kernel
theorem dX19_task_68 : decode cX19_task 68 = .ok (.iconst 1, 1) := by decide +kernel
theorem dX19_task_69 : decode cX19_task 69 = .ok (.if_icmp .ne 17, 3) := by decide +kernel
theorem dX19_task_72 : decode cX19_task 72 = .ok (.aload_n 0, 1) := by decide +kernel
theorem dX19_task_73 : decode cX19_task 73 = .ok (.getfield 177, 3) := by decide +kernel
theorem dX19_task_76 : decode cX19_task 76 = .ok (.iload_n 1, 1) := by decide +kernel
theorem dX19_task_77 : decode cX19_task 77 = .ok (.iconst 1, 1) := by decide +kernel
theorem dX19_task_78 : decode cX19_task 78 = .ok (.iadd, 1) := by decide +kernel
theorem dX19_task_79 : decode cX19_task 79 = .ok (.invokevirtual 791, 3) := by decide +kernel
theorem dX19_task_82 : decode cX19_task 82 = .ok (.l2i, 1) := by decide +kernel
theorem dX19_task_83 : decode cX19_task 83 = .ok (.goto 9, 3) := by decide +kernel
theorem dX19_task_86 : decode cX19_task 86 = .ok (.aload_n 0, 1) := by decide +kernel
theorem dX19_task_87 : decode cX19_task 87 = .ok (.getfield 55, 3) := by decide +kernel
theorem dX19_task_90 : decode cX19_task 90 = .ok (.iload_n 1, 1) := by decide +kernel
theorem dX19_task_91 : decode cX19_task 91 = .ok (.iaload, 1) := by decide +kernel
theorem dX19_task_92 : decode cX19_task 92 = .ok (.ireturn, 1) := by decide +kernel
theorem cwX19_task : mw_cwV yX19_task cX19_task 3 ((some .int)) 2 := ⟨⟨wd_13, wd_4261, by decide +kernel⟩, wd_4259, wd_4260⟩
noncomputable def fX19_task_b92 (fu : Nat) (a1 : Int32) (a2 : Int32) (s0 : Int32) (M : mwM) (L : mwL) : Option (Int32 × mwM × mwL) :=
  some (s0, M, L)
noncomputable def fX19_task_b38 (fu : Nat) (a1 : Int32) (a2 : Int32) (s1 : Int32) (M : mwM) (L : mwL) : Option (Int32 × mwM × mwL) :=
  mlet (mset M 732 0 s1) (fun M1 => (if (M1 732 0) ≤ 0 then (if a2 = 0 then none else (if a2 = 1 then none else mck a1 12 (fX19_task_b92 fu a1 a2 (M1 748 a1.toNatClampNeg) M1 L))) else some (0, M1, L)))
noncomputable def fX19_task_b20 (fu : Nat) (a1 : Int32) (a2 : Int32) (M : mwM) (L : mwL) : Option (Int32 × mwM × mwL) :=
  fX19_task_b38 fu a1 a2 1 M L
noncomputable def fX19_task_b33 (fu : Nat) (a1 : Int32) (a2 : Int32) (M : mwM) (L : mwL) : Option (Int32 × mwM × mwL) :=
  fX19_task_b38 fu a1 a2 2 M L
noncomputable def DX19_task (fu : Nat) (a1 : Int32) (a2 : Int32) (M : mwM) (L : mwL) : Option (Int32 × mwM × mwL) :=
  (if (M 732 4) = 0 then fX19_task_b20 fu a1 a2 M L else (if a1 < 0 then fX19_task_b20 fu a1 a2 M L else (if a1 < (M 732 24) then (if a2 < 0 then fX19_task_b33 fu a1 a2 M L else (if a2 ≤ 2 then fX19_task_b38 fu a1 a2 0 M L else fX19_task_b33 fu a1 a2 M L)) else fX19_task_b20 fu a1 a2 M L)))
set_option maxHeartbeats 4000000 in
set_option maxRecDepth 100000 in
theorem tX19_task (l : Launch) (G : mwG) (ad : Nat → Nat) (fu : Nat) (a1 : Int32) (a2 : Int32) (M : mwM) (L : mwL) {r0 : Int32} {M0 : mwM} {L0 : mwL} (hD : DX19_task fu a1 a2 M L = some (r0, M0, L0)) : Met l yX19_task (Cond.code yX19_task cX19_task 3 ((some .int)) :: GT) ({ frames := 0, cells := 0, slots := 0, locals := 0 }) (mw_Pre G ad NF TF FF M L [.ref (ad 732), .int a1, .int a2]) (mw_Qi G ad NF TF FF (mw_eqI r0 M0 L0)) 0 0 (mw_fr G) := by
  refine mw_enter (by decide) (Nat.le_of_ble_eq_true rfl) ?_
  intro p e s m below meth c ls C hr hlocks hnm hw hl
  have hl : lv_has ls 3 [(0, .ref (ad 732)), (1, .int a1), (2, .int a2)] := hl
  have hb92 : ∀ (s0 : Int32) (M : mwM) (L : mwL) (H : Heap) (locs : List Loc) (ls : Array Slot), fX19_task_b92 fu a1 a2 s0 M L = some (r0, M0, L0) → mw_W G ad NF TF FF M L H locs → lv_has ls 3 [] → W p l e ({ frames := 0, cells := 0, slots := 0, locals := 0 }) s m [.ref (ad 732), .int a1, .int a2].toArray below meth c H locs 0 0 (MQ below (mw_Qi G ad NF TF FF (mw_eqI r0 M0 L0)) [.ref (ad 732), .int a1, .int a2].toArray s 0 0 (mw_fr G)) (F0 m 92 ls [.int s0]) := by
    intro s0 M L H locs ls hD hw hl
    unfold fX19_task_b92 at hD
    exact mr_iret C hr hlocks hw rfl (Option.some.inj hD) dX19_task_92
  have hb38 : ∀ (s1 : Int32) (M : mwM) (L : mwL) (H : Heap) (locs : List Loc) (ls : Array Slot), fX19_task_b38 fu a1 a2 s1 M L = some (r0, M0, L0) → mw_W G ad NF TF FF M L H locs → lv_has ls 3 [(0, .ref (ad 732)), (1, .int a1), (2, .int a2)] → W p l e ({ frames := 0, cells := 0, slots := 0, locals := 0 }) s m [.ref (ad 732), .int a1, .int a2].toArray below meth c H locs 0 0 (MQ below (mw_Qi G ad NF TF FF (mw_eqI r0 M0 L0)) [.ref (ad 732), .int a1, .int a2].toArray s 0 0 (mw_fr G)) (F0 m 38 ls [.int s1, .ref (ad 732)]) := by
    intro s1 M L H locs ls hD hw hl
    unfold fX19_task_b38 at hD
    obtain ⟨M1, eM1, hD⟩ := g_let hD
    refine mr_putI C hw kc_19 0 (by decide) tf_732 wd_2781 dX19_task_38 (by decide) rfl rfl rfl rfl (fun H locs hw => ?_)
    replace hw : mw_W G ad NF TF FF M1 L H locs := by rw [eM1]; exact hw
    refine lv_aload_n C.1.1 C.1.2.1 dX19_task_41 rfl (lv_at hl 0 rfl) ?_
    refine mr_getI C hw kc_19 0 (by decide) tf_732 wd_2781 dX19_task_42 (by decide) rfl ?_
    refine lv_if_le (tgt := 50) C.1.1 C.1.2.1 dX19_task_45 (by decide) (fun c2 => ?_) (fun c2 => ?_)
    · replace hD := g_pos c2 hD
      refine lv_iload_n C.1.1 C.1.2.1 dX19_task_50 rfl (lv_at hl 2 rfl) ?_
      refine lv_if_ne (tgt := 67) C.1.1 C.1.2.1 dX19_task_51 (by decide) (fun c3 => ?_) (fun c3 => ?_)
      · replace hD := g_neg c3 hD
        refine lv_iload_n C.1.1 C.1.2.1 dX19_task_67 rfl (lv_at hl 2 rfl) ?_
        refine lv_iconst (v := 1) C.1.1 C.1.2.1 dX19_task_68 (by decide) ?_
        refine lv_icmp_ne (tgt := 86) C.1.1 C.1.2.1 dX19_task_69 (by decide) (fun c4 => ?_) (fun c4 => ?_)
        · replace hD := g_neg c4 hD
          refine lv_aload_n C.1.1 C.1.2.1 dX19_task_86 rfl (lv_at hl 0 rfl) ?_
          refine mr_getR C hw kc_19 32 (by decide) tf_732 ff_732_32 wd_2813 dX19_task_87 (by decide) rfl ?_
          refine lv_iload_n C.1.1 C.1.2.1 dX19_task_90 rfl (lv_at hl 1 rfl) ?_
          obtain ⟨q5, hD⟩ := g_ck hD
          refine mr_iald C hw (by decide) tf_748 q5 dX19_task_91 ?_
          exact hb92 (M1 748 a1.toNatClampNeg) M1 L _ _ ls hD hw (lv_sub hl [] rfl)
        · replace hD := g_pos c4 hD
          refine lv_aload_n C.1.1 C.1.2.1 dX19_task_72 rfl (lv_at hl 0 rfl) ?_
          refine mr_getR C hw kc_19 76 (by decide) tf_732 ff_732_76 wd_2857 dX19_task_73 (by decide) rfl ?_
          refine lv_iload_n C.1.1 C.1.2.1 dX19_task_76 rfl (lv_at hl 1 rfl) ?_
          refine lv_iconst (v := 1) C.1.1 C.1.2.1 dX19_task_77 (by decide) ?_
          refine lv_iadd C.1.1 C.1.2.1 dX19_task_78 ?_
          cases hD
      · replace hD := g_pos c3 hD
        refine lv_aload_n C.1.1 C.1.2.1 dX19_task_54 rfl (lv_at hl 0 rfl) ?_
        refine mr_getR C hw kc_19 76 (by decide) tf_732 ff_732_76 wd_2857 dX19_task_55 (by decide) rfl ?_
        refine lv_iload_n C.1.1 C.1.2.1 dX19_task_58 rfl (lv_at hl 1 rfl) ?_
        refine lv_iconst (v := 1) C.1.1 C.1.2.1 dX19_task_59 (by decide) ?_
        refine lv_iadd C.1.1 C.1.2.1 dX19_task_60 ?_
        cases hD
    · replace hD := g_neg c2 hD
      refine lv_iconst (v := 0) C.1.1 C.1.2.1 dX19_task_48 (by decide) ?_
      exact mr_iret C hr hlocks hw rfl (Option.some.inj hD) dX19_task_49
  have hb20 : ∀ (M : mwM) (L : mwL) (H : Heap) (locs : List Loc) (ls : Array Slot), fX19_task_b20 fu a1 a2 M L = some (r0, M0, L0) → mw_W G ad NF TF FF M L H locs → lv_has ls 3 [(0, .ref (ad 732)), (1, .int a1), (2, .int a2)] → W p l e ({ frames := 0, cells := 0, slots := 0, locals := 0 }) s m [.ref (ad 732), .int a1, .int a2].toArray below meth c H locs 0 0 (MQ below (mw_Qi G ad NF TF FF (mw_eqI r0 M0 L0)) [.ref (ad 732), .int a1, .int a2].toArray s 0 0 (mw_fr G)) (F0 m 20 ls [.ref (ad 732)]) := by
    intro M L H locs ls hD hw hl
    unfold fX19_task_b20 at hD
    refine lv_iconst (v := 1) C.1.1 C.1.2.1 dX19_task_20 (by decide) ?_
    refine lv_goto (tgt := 38) C.1.1 C.1.2.1 dX19_task_21 (by decide) ?_
    exact hb38 1 M L _ _ ls hD hw (lv_sub hl [0, 1, 2] rfl)
  have hb33 : ∀ (M : mwM) (L : mwL) (H : Heap) (locs : List Loc) (ls : Array Slot), fX19_task_b33 fu a1 a2 M L = some (r0, M0, L0) → mw_W G ad NF TF FF M L H locs → lv_has ls 3 [(0, .ref (ad 732)), (1, .int a1), (2, .int a2)] → W p l e ({ frames := 0, cells := 0, slots := 0, locals := 0 }) s m [.ref (ad 732), .int a1, .int a2].toArray below meth c H locs 0 0 (MQ below (mw_Qi G ad NF TF FF (mw_eqI r0 M0 L0)) [.ref (ad 732), .int a1, .int a2].toArray s 0 0 (mw_fr G)) (F0 m 33 ls [.ref (ad 732)]) := by
    intro M L H locs ls hD hw hl
    unfold fX19_task_b33 at hD
    refine lv_iconst (v := 2) C.1.1 C.1.2.1 dX19_task_33 (by decide) ?_
    refine lv_goto (tgt := 38) C.1.1 C.1.2.1 dX19_task_34 (by decide) ?_
    exact hb38 2 M L _ _ ls hD hw (lv_sub hl [0, 1, 2] rfl)
  unfold DX19_task at hD
  refine lv_aload_n C.1.1 C.1.2.1 dX19_task_0 rfl (lv_at hl 0 rfl) ?_
  refine lv_aload_n C.1.1 C.1.2.1 dX19_task_1 rfl (lv_at hl 0 rfl) ?_
  refine mr_getI C hw kc_19 4 (by decide) tf_732 wd_2785 dX19_task_2 (by decide) rfl ?_
  refine lv_if_eq (tgt := 20) C.1.1 C.1.2.1 dX19_task_5 (by decide) (fun c6 => ?_) (fun c6 => ?_)
  · replace hD := g_pos c6 hD
    exact hb20 M L _ _ ls hD hw (lv_sub hl [0, 1, 2] rfl)
  · replace hD := g_neg c6 hD
    refine lv_iload_n C.1.1 C.1.2.1 dX19_task_8 rfl (lv_at hl 1 rfl) ?_
    refine lv_if_lt (tgt := 20) C.1.1 C.1.2.1 dX19_task_9 (by decide) (fun c7 => ?_) (fun c7 => ?_)
    · replace hD := g_pos c7 hD
      exact hb20 M L _ _ ls hD hw (lv_sub hl [0, 1, 2] rfl)
    · replace hD := g_neg c7 hD
      refine lv_iload_n C.1.1 C.1.2.1 dX19_task_12 rfl (lv_at hl 1 rfl) ?_
      refine lv_aload_n C.1.1 C.1.2.1 dX19_task_13 rfl (lv_at hl 0 rfl) ?_
      refine mr_getI C hw kc_19 24 (by decide) tf_732 wd_2805 dX19_task_14 (by decide) rfl ?_
      refine lv_icmp_lt (tgt := 24) C.1.1 C.1.2.1 dX19_task_17 (by decide) (fun c8 => ?_) (fun c8 => ?_)
      · replace hD := g_pos c8 hD
        refine lv_iload_n C.1.1 C.1.2.1 dX19_task_24 rfl (lv_at hl 2 rfl) ?_
        refine lv_if_lt (tgt := 33) C.1.1 C.1.2.1 dX19_task_25 (by decide) (fun c9 => ?_) (fun c9 => ?_)
        · replace hD := g_pos c9 hD
          exact hb33 M L _ _ ls hD hw (lv_sub hl [0, 1, 2] rfl)
        · replace hD := g_neg c9 hD
          refine lv_iload_n C.1.1 C.1.2.1 dX19_task_28 rfl (lv_at hl 2 rfl) ?_
          refine lv_iconst (v := 2) C.1.1 C.1.2.1 dX19_task_29 (by decide) ?_
          refine lv_icmp_le (tgt := 37) C.1.1 C.1.2.1 dX19_task_30 (by decide) (fun c10 => ?_) (fun c10 => ?_)
          · replace hD := g_pos c10 hD
            refine lv_iconst (v := 0) C.1.1 C.1.2.1 dX19_task_37 (by decide) ?_
            exact hb38 0 M L _ _ ls hD hw (lv_sub hl [0, 1, 2] rfl)
          · replace hD := g_neg c10 hD
            exact hb33 M L _ _ ls hD hw (lv_sub hl [0, 1, 2] rfl)
      · replace hD := g_neg c8 hD
        exact hb20 M L _ _ ls hD hw (lv_sub hl [0, 1, 2] rfl)

theorem dX19_text_0 : decode cX19_text 0 = .ok (.iconst 0, 1) := by decide +kernel
theorem dX19_text_1 : decode cX19_text 1 = .ok (.istore 5, 2) := by decide +kernel
theorem dX19_text_3 : decode cX19_text 3 = .ok (.iconst 0, 1) := by decide +kernel
theorem dX19_text_4 : decode cX19_text 4 = .ok (.istore 6, 2) := by decide +kernel
theorem dX19_text_6 : decode cX19_text 6 = .ok (.iload 6, 2) := by decide +kernel
theorem dX19_text_8 : decode cX19_text 8 = .ok (.bipush 16, 2) := by decide +kernel
theorem dX19_text_10 : decode cX19_text 10 = .ok (.if_icmp .ge 33, 3) := by decide +kernel
theorem dX19_text_13 : decode cX19_text 13 = .ok (.iload_n 1, 1) := by decide +kernel
theorem dX19_text_14 : decode cX19_text 14 = .ok (.iload_n 2, 1) := by decide +kernel
theorem dX19_text_15 : decode cX19_text 15 = .ok (.iload_n 3, 1) := by decide +kernel
theorem dX19_text_16 : decode cX19_text 16 = .ok (.iload 4, 2) := by decide +kernel
theorem dX19_text_18 : decode cX19_text 18 = .ok (.iload 6, 2) := by decide +kernel
theorem dX19_text_20 : decode cX19_text 20 = .ok (.invokestatic 292, 3) := by decide +kernel
theorem dX19_text_23 : decode cX19_text 23 = .ok (.ifCond .le 10, 3) := by decide +kernel
theorem dX19_text_26 : decode cX19_text 26 = .ok (.iload 5, 2) := by decide +kernel
theorem dX19_text_28 : decode cX19_text 28 = .ok (.iconst 1, 1) := by decide +kernel
theorem dX19_text_29 : decode cX19_text 29 = .ok (.iadd, 1) := by decide +kernel
theorem dX19_text_30 : decode cX19_text 30 = .ok (.goto 5, 3) := by decide +kernel
theorem dX19_text_33 : decode cX19_text 33 = .ok (.iload 5, 2) := by decide +kernel
theorem dX19_text_35 : decode cX19_text 35 = .ok (.istore 5, 2) := by decide +kernel
theorem dX19_text_37 : decode cX19_text 37 = .ok (.iinc 6 1, 3) := by decide +kernel
theorem dX19_text_40 : decode cX19_text 40 = .ok (.goto (-34), 3) := by decide +kernel
theorem dX19_text_43 : decode cX19_text 43 = .ok (.aload_n 0, 1) := by decide +kernel
theorem dX19_text_44 : decode cX19_text 44 = .ok (.aload_n 0, 1) := by decide +kernel
theorem dX19_text_45 : decode cX19_text 45 = .ok (.getfield 296, 3) := by decide +kernel
theorem dX19_text_48 : decode cX19_text 48 = .ok (.iload 5, 2) := by decide +kernel
theorem dX19_text_50 : decode cX19_text 50 = .ok (.iadd, 1) := by decide +kernel
theorem dX19_text_51 : decode cX19_text 51 = .ok (.sipush 6000, 3) := by decide +kernel
theorem dX19_text_54 : decode cX19_text 54 = .ok (.if_icmp .le 7, 3) := by decide +kernel
theorem dX19_text_57 : decode cX19_text 57 = .ok (.iconst 1, 1) := by decide +kernel
theorem dX19_text_58 : decode cX19_text 58 = .ok (.goto 4, 3) := by decide +kernel
theorem dX19_text_61 : decode cX19_text 61 = .ok (.iconst 0, 1) := by decide +kernel
theorem dX19_text_62 : decode cX19_text 62 = .ok (.putfield 289, 3) := by decide +kernel
theorem dX19_text_65 : decode cX19_text 65 = .ok (.iconst 0, 1) := by decide +kernel
theorem dX19_text_66 : decode cX19_text 66 = .ok (.istore 6, 2) := by decide +kernel
theorem dX19_text_68 : decode cX19_text 68 = .ok (.iload 6, 2) := by decide +kernel
theorem dX19_text_70 : decode cX19_text 70 = .ok (.bipush 16, 2) := by decide +kernel
theorem dX19_text_72 : decode cX19_text 72 = .ok (.if_icmp .ge 57, 3) := by decide +kernel
theorem dX19_text_75 : decode cX19_text 75 = .ok (.aload_n 0, 1) := by decide +kernel
theorem dX19_text_76 : decode cX19_text 76 = .ok (.getfield 289, 3) := by decide +kernel
theorem dX19_text_79 : decode cX19_text 79 = .ok (.ifCond .ne 50, 3) := by decide +kernel
theorem dX19_text_82 : decode cX19_text 82 = .ok (.iload_n 1, 1) := by decide +kernel
theorem dX19_text_83 : decode cX19_text 83 = .ok (.iload_n 2, 1) := by decide +kernel
theorem dX19_text_84 : decode cX19_text 84 = .ok (.iload_n 3, 1) := by decide +kernel
theorem dX19_text_85 : decode cX19_text 85 = .ok (.iload 4, 2) := by decide +kernel
theorem dX19_text_87 : decode cX19_text 87 = .ok (.iload 6, 2) := by decide +kernel
theorem dX19_text_89 : decode cX19_text 89 = .ok (.invokestatic 292, 3) := by decide +kernel
theorem dX19_text_92 : decode cX19_text 92 = .ok (.istore 7, 2) := by decide +kernel
theorem dX19_text_94 : decode cX19_text 94 = .ok (.iload 7, 2) := by decide +kernel
theorem dX19_text_96 : decode cX19_text 96 = .ok (.ifCond .ne 6, 3) := by decide +kernel
theorem dX19_text_99 : decode cX19_text 99 = .ok (.goto 24, 3) := by decide +kernel
theorem dX19_text_102 : decode cX19_text 102 = .ok (.aload_n 0, 1) := by decide +kernel
theorem dX19_text_103 : decode cX19_text 103 = .ok (.getfield 7, 3) := by decide +kernel
theorem dX19_text_106 : decode cX19_text 106 = .ok (.aload_n 0, 1) := by decide +kernel
theorem dX19_text_107 : decode cX19_text 107 = .ok (.getfield 296, 3) := by decide +kernel
theorem dX19_text_110 : decode cX19_text 110 = .ok (.iload 7, 2) := by decide +kernel
theorem dX19_text_112 : decode cX19_text 112 = .ok (.iastore, 1) := by decide +kernel
theorem dX19_text_113 : decode cX19_text 113 = .ok (.aload_n 0, 1) := by decide +kernel
theorem dX19_text_114 : decode cX19_text 114 = .ok (.dup, 1) := by decide +kernel
theorem dX19_text_115 : decode cX19_text 115 = .ok (.getfield 296, 3) := by decide +kernel
theorem dX19_text_118 : decode cX19_text 118 = .ok (.iconst 1, 1) := by decide +kernel
theorem dX19_text_119 : decode cX19_text 119 = .ok (.iadd, 1) := by decide +kernel
theorem dX19_text_120 : decode cX19_text 120 = .ok (.putfield 296, 3) := by decide +kernel
theorem dX19_text_123 : decode cX19_text 123 = .ok (.iinc 6 1, 3) := by decide +kernel
theorem dX19_text_126 : decode cX19_text 126 = .ok (.goto (-58), 3) := by decide +kernel
theorem dX19_text_129 : decode cX19_text 129 = .ok (.return_, 1) := by decide +kernel
theorem cwX19_text : mw_cwV yX19_text cX19_text 8 (none) 4 := ⟨⟨wd_13, wd_3125, by decide +kernel⟩, wd_3123, wd_3124⟩
noncomputable def fX19_text_b129 (fu : Nat) (a1 : Int32) (a2 : Int32) (a3 : Int32) (a4 : Int32) (M : mwM) (L : mwL) : Option (mwM × mwL) :=
  some (M, L)
noncomputable def fX19_text_b123 (fu : Nat) (a1 : Int32) (a2 : Int32) (a3 : Int32) (a4 : Int32) (r68 : (Int32 × mwM × mwL) → Option (mwM × mwL)) (v6 : Int32) (M : mwM) (L : mwL) : Option (mwM × mwL) :=
  mlet (v6 + 1) (fun x18 => r68 (x18, M, L))
noncomputable def fX19_text_i68 (fu : Nat) (a1 : Int32) (a2 : Int32) (a3 : Int32) (a4 : Int32) (r68 : (Int32 × mwM × mwL) → Option (mwM × mwL)) (v6 : Int32) (M : mwM) (L : mwL) : Option (mwM × mwL) :=
  (if 16 ≤ v6 then fX19_text_b129 fu a1 a2 a3 a4 M L else (if (M 732 0) = 0 then mb3 (DX19_character fu a1 a2 a3 a4 v6 M L) (fun r13 M11 L12 => (if r13 = 0 then fX19_text_b123 fu a1 a2 a3 a4 r68 v6 M11 L12 else mck (M11 732 2) 6000 (mlet (mset M11 733 ((M11 732 2).toNatClampNeg) r13) (fun M16 => mlet (mset M16 732 2 ((M16 732 2) + 1)) (fun M17 => fX19_text_b123 fu a1 a2 a3 a4 r68 v6 M17 L12))))) else fX19_text_b129 fu a1 a2 a3 a4 M L))
noncomputable def fX19_text_h68 (fu : Nat) (a1 : Int32) (a2 : Int32) (a3 : Int32) (a4 : Int32) : Nat → (Int32 × mwM × mwL) → Option (mwM × mwL) := mloop (fun r68 s => fX19_text_i68 fu a1 a2 a3 a4 r68 s.1 s.2.1 s.2.2)
noncomputable def fX19_text_b62 (fu : Nat) (a1 : Int32) (a2 : Int32) (a3 : Int32) (a4 : Int32) (s1 : Int32) (M : mwM) (L : mwL) : Option (mwM × mwL) :=
  mlet (mset M 732 0 s1) (fun M8 => fX19_text_h68 fu a1 a2 a3 a4 fu (0, M8, L))
noncomputable def fX19_text_b35 (fu : Nat) (a1 : Int32) (a2 : Int32) (a3 : Int32) (a4 : Int32) (r6 : (Int32 × Int32 × mwM × mwL) → Option (mwM × mwL)) (v6 : Int32) (s0 : Int32) (M : mwM) (L : mwL) : Option (mwM × mwL) :=
  mlet (v6 + 1) (fun x7 => r6 (s0, x7, M, L))
noncomputable def fX19_text_i6 (fu : Nat) (a1 : Int32) (a2 : Int32) (a3 : Int32) (a4 : Int32) (r6 : (Int32 × Int32 × mwM × mwL) → Option (mwM × mwL)) (v5 : Int32) (v6 : Int32) (M : mwM) (L : mwL) : Option (mwM × mwL) :=
  (if 16 ≤ v6 then (if ((M 732 2) + v5) ≤ 6000 then fX19_text_b62 fu a1 a2 a3 a4 0 M L else fX19_text_b62 fu a1 a2 a3 a4 1 M L) else mb3 (DX19_character fu a1 a2 a3 a4 v6 M L) (fun r5 M3 L4 => (if r5 ≤ 0 then fX19_text_b35 fu a1 a2 a3 a4 r6 v6 v5 M3 L4 else fX19_text_b35 fu a1 a2 a3 a4 r6 v6 (v5 + 1) M3 L4)))
noncomputable def fX19_text_h6 (fu : Nat) (a1 : Int32) (a2 : Int32) (a3 : Int32) (a4 : Int32) : Nat → (Int32 × Int32 × mwM × mwL) → Option (mwM × mwL) := mloop (fun r6 s => fX19_text_i6 fu a1 a2 a3 a4 r6 s.1 s.2.1 s.2.2.1 s.2.2.2)
noncomputable def DX19_text (fu : Nat) (a1 : Int32) (a2 : Int32) (a3 : Int32) (a4 : Int32) (M : mwM) (L : mwL) : Option (mwM × mwL) :=
  fX19_text_h6 fu a1 a2 a3 a4 fu (0, 0, M, L)
set_option maxHeartbeats 4000000 in
set_option maxRecDepth 100000 in
theorem tX19_text (l : Launch) (G : mwG) (ad : Nat → Nat) (fu : Nat) (a1 : Int32) (a2 : Int32) (a3 : Int32) (a4 : Int32) (M : mwM) (L : mwL) {M0 : mwM} {L0 : mwL} (hD : DX19_text fu a1 a2 a3 a4 M L = some (M0, L0)) : Met l yX19_text (Cond.code yX19_text cX19_text 8 (none) :: GT) ({ frames := 1, cells := 0, slots := 0, locals := 25 }) (mw_Pre G ad NF TF FF M L [.ref (ad 732), .int a1, .int a2, .int a3, .int a4]) (mw_Qv G ad NF TF FF (mw_eqV M0 L0)) 0 0 (mw_fr G) := by
  refine mw_enter (by decide) (Nat.le_of_ble_eq_true rfl) ?_
  intro p e s m below meth c ls C hr hlocks hnm hw hl
  have hl : lv_has ls 8 [(0, .ref (ad 732)), (1, .int a1), (2, .int a2), (3, .int a3), (4, .int a4)] := hl
  have hb129 : ∀ (M : mwM) (L : mwL) (H : Heap) (locs : List Loc) (ls : Array Slot), fX19_text_b129 fu a1 a2 a3 a4 M L = some (M0, L0) → mw_W G ad NF TF FF M L H locs → lv_has ls 8 [] → W p l e ({ frames := 1, cells := 0, slots := 0, locals := 25 }) s m [.ref (ad 732), .int a1, .int a2, .int a3, .int a4].toArray below meth c H locs 0 0 (MQ below (mw_Qv G ad NF TF FF (mw_eqV M0 L0)) [.ref (ad 732), .int a1, .int a2, .int a3, .int a4].toArray s 0 0 (mw_fr G)) (F0 m 129 ls []) := by
    intro M L H locs ls hD hw hl
    unfold fX19_text_b129 at hD
    exact mr_vret C hr hlocks hw (Option.some.inj hD) dX19_text_129
  have hh68 : ∀ (f : Nat) (v6 : Int32) (M : mwM) (L : mwL) (H : Heap) (locs : List Loc) (ls : Array Slot), fX19_text_h68 fu a1 a2 a3 a4 f (v6, M, L) = some (M0, L0) → mw_W G ad NF TF FF M L H locs → lv_has ls 8 [(0, .ref (ad 732)), (1, .int a1), (2, .int a2), (3, .int a3), (4, .int a4), (6, .int v6)] → W p l e ({ frames := 1, cells := 0, slots := 0, locals := 25 }) s m [.ref (ad 732), .int a1, .int a2, .int a3, .int a4].toArray below meth c H locs 0 0 (MQ below (mw_Qv G ad NF TF FF (mw_eqV M0 L0)) [.ref (ad 732), .int a1, .int a2, .int a3, .int a4].toArray s 0 0 (mw_fr G)) (F0 m 68 ls []) := by
    intro f
    induction f with
    | zero => intro v6 M L H locs ls hD; cases hD
    | succ f68 ih68 =>
      intro v6 M L H locs ls hD hw hl
      replace hD : fX19_text_i68 fu a1 a2 a3 a4 (fX19_text_h68 fu a1 a2 a3 a4 f68) v6 M L = some (M0, L0) := hD
      have hb123 : ∀ (v6 : Int32) (M : mwM) (L : mwL) (H : Heap) (locs : List Loc) (ls : Array Slot), fX19_text_b123 fu a1 a2 a3 a4 (fX19_text_h68 fu a1 a2 a3 a4 f68) v6 M L = some (M0, L0) → mw_W G ad NF TF FF M L H locs → lv_has ls 8 [(0, .ref (ad 732)), (1, .int a1), (2, .int a2), (3, .int a3), (4, .int a4), (6, .int v6)] → W p l e ({ frames := 1, cells := 0, slots := 0, locals := 25 }) s m [.ref (ad 732), .int a1, .int a2, .int a3, .int a4].toArray below meth c H locs 0 0 (MQ below (mw_Qv G ad NF TF FF (mw_eqV M0 L0)) [.ref (ad 732), .int a1, .int a2, .int a3, .int a4].toArray s 0 0 (mw_fr G)) (F0 m 123 ls []) := by
        intro v6 M L H locs ls hD hw hl
        unfold fX19_text_b123 at hD
        obtain ⟨x18, ex18, hD⟩ := g_let hD
        refine lv_iinc (v := x18) (lv' := [(6, .int x18), (0, .ref (ad 732)), (1, .int a1), (2, .int a2), (3, .int a3), (4, .int a4)]) C.1.1 C.1.2.1 dX19_text_123 hl (k := 5) rfl (by rw [ex18]; rfl) (by decide) rfl (fun ls hl => ?_)
        refine lv_goto (tgt := 68) C.1.1 C.1.2.1 dX19_text_126 (by decide) ?_
        exact ih68 x18 M L _ _ ls hD hw (lv_sub hl [1, 2, 3, 4, 5, 0] rfl)
      unfold fX19_text_i68 at hD
      refine lv_iload C.1.1 C.1.2.1 dX19_text_68 (lv_at hl 5 rfl) ?_
      refine lv_bipush (v := 16) C.1.1 C.1.2.1 dX19_text_70 (by decide) ?_
      refine lv_icmp_ge (tgt := 129) C.1.1 C.1.2.1 dX19_text_72 (by decide) (fun c9 => ?_) (fun c9 => ?_)
      · replace hD := g_pos c9 hD
        exact hb129 M L _ _ ls hD hw (lv_sub hl [] rfl)
      · replace hD := g_neg c9 hD
        refine lv_aload_n C.1.1 C.1.2.1 dX19_text_75 rfl (lv_at hl 0 rfl) ?_
        refine mr_getI C hw kc_19 0 (by decide) tf_732 wd_2781 dX19_text_76 (by decide) rfl ?_
        refine lv_if_ne (tgt := 129) C.1.1 C.1.2.1 dX19_text_79 (by decide) (fun c10 => ?_) (fun c10 => ?_)
        · replace hD := g_neg c10 hD
          exact hb129 M L _ _ ls hD hw (lv_sub hl [] rfl)
        · replace hD := g_pos c10 hD
          refine lv_iload_n C.1.1 C.1.2.1 dX19_text_82 rfl (lv_at hl 1 rfl) ?_
          refine lv_iload_n C.1.1 C.1.2.1 dX19_text_83 rfl (lv_at hl 2 rfl) ?_
          refine lv_iload_n C.1.1 C.1.2.1 dX19_text_84 rfl (lv_at hl 3 rfl) ?_
          refine lv_iload C.1.1 C.1.2.1 dX19_text_85 (lv_at hl 4 rfl) ?_
          refine lv_iload C.1.1 C.1.2.1 dX19_text_87 (lv_at hl 5 rfl) ?_
          obtain ⟨r13, M11, L12, h1, hD⟩ := g_b3 hD
          refine md_csI (As := [.int a1, .int a2, .int a3, .int a4, .int v6]) (rest := []) C hw (tX19_character l G ad fu a1 a2 a3 a4 v6 M L h1) wd_3126 cwX19_character ⟨Nat.le_of_ble_eq_true rfl, Nat.le_of_ble_eq_true rfl⟩ rfl hl.1 (Nat.le_of_ble_eq_true rfl) dX19_text_89 rfl rfl ⟨Nat.zero_le _, Nat.zero_le _⟩ rfl (fun H locs hw => ?_)
          refine lv_istore (lv' := [(7, .int r13), (0, .ref (ad 732)), (1, .int a1), (2, .int a2), (3, .int a3), (4, .int a4), (6, .int v6)]) C.1.1 C.1.2.1 dX19_text_92 hl (by decide) rfl (fun ls hl => ?_)
          refine lv_iload C.1.1 C.1.2.1 dX19_text_94 (lv_at hl 0 rfl) ?_
          refine lv_if_ne (tgt := 102) C.1.1 C.1.2.1 dX19_text_96 (by decide) (fun c14 => ?_) (fun c14 => ?_)
          · replace hD := g_neg c14 hD
            refine lv_aload_n C.1.1 C.1.2.1 dX19_text_102 rfl (lv_at hl 1 rfl) ?_
            refine mr_getR C hw kc_19 1 (by decide) tf_732 ff_732_1 wd_2782 dX19_text_103 (by decide) rfl ?_
            refine lv_aload_n C.1.1 C.1.2.1 dX19_text_106 rfl (lv_at hl 1 rfl) ?_
            refine mr_getI C hw kc_19 2 (by decide) tf_732 wd_2783 dX19_text_107 (by decide) rfl ?_
            refine lv_iload C.1.1 C.1.2.1 dX19_text_110 (lv_at hl 0 rfl) ?_
            obtain ⟨q15, hD⟩ := g_ck hD
            obtain ⟨M16, eM16, hD⟩ := g_let hD
            refine mr_iast C hw (by decide) tf_733 q15 dX19_text_112 (fun H locs hw => ?_)
            replace hw : mw_W G ad NF TF FF M16 L12 H locs := by rw [eM16]; exact hw
            refine lv_aload_n C.1.1 C.1.2.1 dX19_text_113 rfl (lv_at hl 1 rfl) ?_
            refine lv_dup C.1.1 C.1.2.1 dX19_text_114 rfl ?_
            refine mr_getI C hw kc_19 2 (by decide) tf_732 wd_2783 dX19_text_115 (by decide) rfl ?_
            refine lv_iconst (v := 1) C.1.1 C.1.2.1 dX19_text_118 (by decide) ?_
            refine lv_iadd C.1.1 C.1.2.1 dX19_text_119 ?_
            obtain ⟨M17, eM17, hD⟩ := g_let hD
            refine mr_putI C hw kc_19 2 (by decide) tf_732 wd_2783 dX19_text_120 (by decide) rfl rfl rfl rfl (fun H locs hw => ?_)
            replace hw : mw_W G ad NF TF FF M17 L12 H locs := by rw [eM17]; exact hw
            exact hb123 v6 M17 L12 _ _ ls hD hw (lv_sub hl [1, 2, 3, 4, 5, 6] rfl)
          · replace hD := g_pos c14 hD
            refine lv_goto (tgt := 123) C.1.1 C.1.2.1 dX19_text_99 (by decide) ?_
            exact hb123 v6 M11 L12 _ _ ls hD hw (lv_sub hl [1, 2, 3, 4, 5, 6] rfl)
  have hb62 : ∀ (s1 : Int32) (M : mwM) (L : mwL) (H : Heap) (locs : List Loc) (ls : Array Slot), fX19_text_b62 fu a1 a2 a3 a4 s1 M L = some (M0, L0) → mw_W G ad NF TF FF M L H locs → lv_has ls 8 [(0, .ref (ad 732)), (1, .int a1), (2, .int a2), (3, .int a3), (4, .int a4)] → W p l e ({ frames := 1, cells := 0, slots := 0, locals := 25 }) s m [.ref (ad 732), .int a1, .int a2, .int a3, .int a4].toArray below meth c H locs 0 0 (MQ below (mw_Qv G ad NF TF FF (mw_eqV M0 L0)) [.ref (ad 732), .int a1, .int a2, .int a3, .int a4].toArray s 0 0 (mw_fr G)) (F0 m 62 ls [.int s1, .ref (ad 732)]) := by
    intro s1 M L H locs ls hD hw hl
    unfold fX19_text_b62 at hD
    obtain ⟨M8, eM8, hD⟩ := g_let hD
    refine mr_putI C hw kc_19 0 (by decide) tf_732 wd_2781 dX19_text_62 (by decide) rfl rfl rfl rfl (fun H locs hw => ?_)
    replace hw : mw_W G ad NF TF FF M8 L H locs := by rw [eM8]; exact hw
    refine lv_iconst (v := 0) C.1.1 C.1.2.1 dX19_text_65 (by decide) ?_
    refine lv_istore (lv' := [(6, .int 0), (0, .ref (ad 732)), (1, .int a1), (2, .int a2), (3, .int a3), (4, .int a4)]) C.1.1 C.1.2.1 dX19_text_66 hl (by decide) rfl (fun ls hl => ?_)
    exact hh68 fu 0 M8 L _ _ ls hD hw (lv_sub hl [1, 2, 3, 4, 5, 0] rfl)
  have hh6 : ∀ (f : Nat) (v5 : Int32) (v6 : Int32) (M : mwM) (L : mwL) (H : Heap) (locs : List Loc) (ls : Array Slot), fX19_text_h6 fu a1 a2 a3 a4 f (v5, v6, M, L) = some (M0, L0) → mw_W G ad NF TF FF M L H locs → lv_has ls 8 [(0, .ref (ad 732)), (1, .int a1), (2, .int a2), (3, .int a3), (4, .int a4), (5, .int v5), (6, .int v6)] → W p l e ({ frames := 1, cells := 0, slots := 0, locals := 25 }) s m [.ref (ad 732), .int a1, .int a2, .int a3, .int a4].toArray below meth c H locs 0 0 (MQ below (mw_Qv G ad NF TF FF (mw_eqV M0 L0)) [.ref (ad 732), .int a1, .int a2, .int a3, .int a4].toArray s 0 0 (mw_fr G)) (F0 m 6 ls []) := by
    intro f
    induction f with
    | zero => intro v5 v6 M L H locs ls hD; cases hD
    | succ f6 ih6 =>
      intro v5 v6 M L H locs ls hD hw hl
      replace hD : fX19_text_i6 fu a1 a2 a3 a4 (fX19_text_h6 fu a1 a2 a3 a4 f6) v5 v6 M L = some (M0, L0) := hD
      have hb35 : ∀ (v6 : Int32) (s0 : Int32) (M : mwM) (L : mwL) (H : Heap) (locs : List Loc) (ls : Array Slot), fX19_text_b35 fu a1 a2 a3 a4 (fX19_text_h6 fu a1 a2 a3 a4 f6) v6 s0 M L = some (M0, L0) → mw_W G ad NF TF FF M L H locs → lv_has ls 8 [(0, .ref (ad 732)), (1, .int a1), (2, .int a2), (3, .int a3), (4, .int a4), (6, .int v6)] → W p l e ({ frames := 1, cells := 0, slots := 0, locals := 25 }) s m [.ref (ad 732), .int a1, .int a2, .int a3, .int a4].toArray below meth c H locs 0 0 (MQ below (mw_Qv G ad NF TF FF (mw_eqV M0 L0)) [.ref (ad 732), .int a1, .int a2, .int a3, .int a4].toArray s 0 0 (mw_fr G)) (F0 m 35 ls [.int s0]) := by
        intro v6 s0 M L H locs ls hD hw hl
        unfold fX19_text_b35 at hD
        refine lv_istore (lv' := [(5, .int s0), (0, .ref (ad 732)), (1, .int a1), (2, .int a2), (3, .int a3), (4, .int a4), (6, .int v6)]) C.1.1 C.1.2.1 dX19_text_35 hl (by decide) rfl (fun ls hl => ?_)
        obtain ⟨x7, ex7, hD⟩ := g_let hD
        refine lv_iinc (v := x7) (lv' := [(6, .int x7), (5, .int s0), (0, .ref (ad 732)), (1, .int a1), (2, .int a2), (3, .int a3), (4, .int a4)]) C.1.1 C.1.2.1 dX19_text_37 hl (k := 6) rfl (by rw [ex7]; rfl) (by decide) rfl (fun ls hl => ?_)
        refine lv_goto (tgt := 6) C.1.1 C.1.2.1 dX19_text_40 (by decide) ?_
        exact ih6 s0 x7 M L _ _ ls hD hw (lv_sub hl [2, 3, 4, 5, 6, 1, 0] rfl)
      unfold fX19_text_i6 at hD
      refine lv_iload C.1.1 C.1.2.1 dX19_text_6 (lv_at hl 6 rfl) ?_
      refine lv_bipush (v := 16) C.1.1 C.1.2.1 dX19_text_8 (by decide) ?_
      refine lv_icmp_ge (tgt := 43) C.1.1 C.1.2.1 dX19_text_10 (by decide) (fun c1 => ?_) (fun c1 => ?_)
      · replace hD := g_pos c1 hD
        refine lv_aload_n C.1.1 C.1.2.1 dX19_text_43 rfl (lv_at hl 0 rfl) ?_
        refine lv_aload_n C.1.1 C.1.2.1 dX19_text_44 rfl (lv_at hl 0 rfl) ?_
        refine mr_getI C hw kc_19 2 (by decide) tf_732 wd_2783 dX19_text_45 (by decide) rfl ?_
        refine lv_iload C.1.1 C.1.2.1 dX19_text_48 (lv_at hl 5 rfl) ?_
        refine lv_iadd C.1.1 C.1.2.1 dX19_text_50 ?_
        refine lv_sipush (v := 6000) C.1.1 C.1.2.1 dX19_text_51 (by decide) ?_
        refine lv_icmp_le (tgt := 61) C.1.1 C.1.2.1 dX19_text_54 (by decide) (fun c2 => ?_) (fun c2 => ?_)
        · replace hD := g_pos c2 hD
          refine lv_iconst (v := 0) C.1.1 C.1.2.1 dX19_text_61 (by decide) ?_
          exact hb62 0 M L _ _ ls hD hw (lv_sub hl [0, 1, 2, 3, 4] rfl)
        · replace hD := g_neg c2 hD
          refine lv_iconst (v := 1) C.1.1 C.1.2.1 dX19_text_57 (by decide) ?_
          refine lv_goto (tgt := 62) C.1.1 C.1.2.1 dX19_text_58 (by decide) ?_
          exact hb62 1 M L _ _ ls hD hw (lv_sub hl [0, 1, 2, 3, 4] rfl)
      · replace hD := g_neg c1 hD
        refine lv_iload_n C.1.1 C.1.2.1 dX19_text_13 rfl (lv_at hl 1 rfl) ?_
        refine lv_iload_n C.1.1 C.1.2.1 dX19_text_14 rfl (lv_at hl 2 rfl) ?_
        refine lv_iload_n C.1.1 C.1.2.1 dX19_text_15 rfl (lv_at hl 3 rfl) ?_
        refine lv_iload C.1.1 C.1.2.1 dX19_text_16 (lv_at hl 4 rfl) ?_
        refine lv_iload C.1.1 C.1.2.1 dX19_text_18 (lv_at hl 6 rfl) ?_
        obtain ⟨r5, M3, L4, h1, hD⟩ := g_b3 hD
        refine md_csI (As := [.int a1, .int a2, .int a3, .int a4, .int v6]) (rest := []) C hw (tX19_character l G ad fu a1 a2 a3 a4 v6 M L h1) wd_3126 cwX19_character ⟨Nat.le_of_ble_eq_true rfl, Nat.le_of_ble_eq_true rfl⟩ rfl hl.1 (Nat.le_of_ble_eq_true rfl) dX19_text_20 rfl rfl ⟨Nat.zero_le _, Nat.zero_le _⟩ rfl (fun H locs hw => ?_)
        refine lv_if_le (tgt := 33) C.1.1 C.1.2.1 dX19_text_23 (by decide) (fun c6 => ?_) (fun c6 => ?_)
        · replace hD := g_pos c6 hD
          refine lv_iload C.1.1 C.1.2.1 dX19_text_33 (lv_at hl 5 rfl) ?_
          exact hb35 v6 v5 M3 L4 _ _ ls hD hw (lv_sub hl [0, 1, 2, 3, 4, 6] rfl)
        · replace hD := g_neg c6 hD
          refine lv_iload C.1.1 C.1.2.1 dX19_text_26 (lv_at hl 5 rfl) ?_
          refine lv_iconst (v := 1) C.1.1 C.1.2.1 dX19_text_28 (by decide) ?_
          refine lv_iadd C.1.1 C.1.2.1 dX19_text_29 ?_
          refine lv_goto (tgt := 35) C.1.1 C.1.2.1 dX19_text_30 (by decide) ?_
          exact hb35 v6 (v5 + 1) M3 L4 _ _ ls hD hw (lv_sub hl [0, 1, 2, 3, 4, 6] rfl)
  unfold DX19_text at hD
  refine lv_iconst (v := 0) C.1.1 C.1.2.1 dX19_text_0 (by decide) ?_
  refine lv_istore (lv' := [(5, .int 0), (0, .ref (ad 732)), (1, .int a1), (2, .int a2), (3, .int a3), (4, .int a4)]) C.1.1 C.1.2.1 dX19_text_1 hl (by decide) rfl (fun ls hl => ?_)
  refine lv_iconst (v := 0) C.1.1 C.1.2.1 dX19_text_3 (by decide) ?_
  refine lv_istore (lv' := [(6, .int 0), (5, .int 0), (0, .ref (ad 732)), (1, .int a1), (2, .int a2), (3, .int a3), (4, .int a4)]) C.1.1 C.1.2.1 dX19_text_4 hl (by decide) rfl (fun ls hl => ?_)
  exact hh6 fu 0 0 M L _ _ ls hD hw (lv_sub hl [2, 3, 4, 5, 6, 1, 0] rfl)

theorem dX19_thrown_0 : decode cX19_thrown 0 = .ok (.aload_n 0, 1) := by decide +kernel
theorem dX19_thrown_1 : decode cX19_thrown 1 = .ok (.getfield 289, 3) := by decide +kernel
theorem dX19_thrown_4 : decode cX19_thrown 4 = .ok (.ireturn, 1) := by decide +kernel
theorem cwX19_thrown : mw_cwV yX19_thrown cX19_thrown 1 ((some .int)) 0 := ⟨⟨wd_13, wd_3121, by decide +kernel⟩, wd_3119, wd_3120⟩
noncomputable def DX19_thrown (fu : Nat) (M : mwM) (L : mwL) : Option (Int32 × mwM × mwL) :=
  some (M 732 0, M, L)
set_option maxHeartbeats 4000000 in
set_option maxRecDepth 100000 in
theorem tX19_thrown (l : Launch) (G : mwG) (ad : Nat → Nat) (fu : Nat) (M : mwM) (L : mwL) {r0 : Int32} {M0 : mwM} {L0 : mwL} (hD : DX19_thrown fu M L = some (r0, M0, L0)) : Met l yX19_thrown (Cond.code yX19_thrown cX19_thrown 1 ((some .int)) :: GT) ({ frames := 0, cells := 0, slots := 0, locals := 0 }) (mw_Pre G ad NF TF FF M L [.ref (ad 732)]) (mw_Qi G ad NF TF FF (mw_eqI r0 M0 L0)) 0 0 (mw_fr G) := by
  refine mw_enter (by decide) (Nat.le_of_ble_eq_true rfl) ?_
  intro p e s m below meth c ls C hr hlocks hnm hw hl
  have hl : lv_has ls 1 [(0, .ref (ad 732))] := hl
  unfold DX19_thrown at hD
  refine lv_aload_n C.1.1 C.1.2.1 dX19_thrown_0 rfl (lv_at hl 0 rfl) ?_
  refine mr_getI C hw kc_19 0 (by decide) tf_732 wd_2781 dX19_thrown_1 (by decide) rfl ?_
  exact mr_iret C hr hlocks hw rfl (Option.some.inj hD) dX19_thrown_4

theorem dX19_time_0 : decode cX19_time 0 = .ok (.aload_n 0, 1) := by decide +kernel
theorem dX19_time_1 : decode cX19_time 1 = .ok (.iconst 0, 1) := by decide +kernel
theorem dX19_time_2 : decode cX19_time 2 = .ok (.putfield 289, 3) := by decide +kernel
theorem dX19_time_5 : decode cX19_time 5 = .ok (.aload_n 0, 1) := by decide +kernel
theorem dX19_time_6 : decode cX19_time 6 = .ok (.getfield 630, 3) := by decide +kernel
theorem dX19_time_9 : decode cX19_time 9 = .ok (.ifCond .eq 10, 3) := by decide +kernel
theorem dX19_time_12 : decode cX19_time 12 = .ok (.aload_n 0, 1) := by decide +kernel
theorem dX19_time_13 : decode cX19_time 13 = .ok (.getfield 600, 3) := by decide +kernel
theorem dX19_time_16 : decode cX19_time 16 = .ok (.goto 4, 3) := by decide +kernel
theorem dX19_time_19 : decode cX19_time 19 = .ok (.iconst 0, 1) := by decide +kernel
theorem dX19_time_20 : decode cX19_time 20 = .ok (.ireturn, 1) := by decide +kernel
theorem cwX19_time : mw_cwV yX19_time cX19_time 1 ((some .int)) 0 := ⟨⟨wd_13, wd_4205, by decide +kernel⟩, wd_4203, wd_4204⟩
noncomputable def fX19_time_b20 (fu : Nat) (s0 : Int32) (M : mwM) (L : mwL) : Option (Int32 × mwM × mwL) :=
  some (s0, M, L)
noncomputable def DX19_time (fu : Nat) (M : mwM) (L : mwL) : Option (Int32 × mwM × mwL) :=
  mlet (mset M 732 0 0) (fun M1 => (if (M1 732 4) = 0 then fX19_time_b20 fu 0 M1 L else fX19_time_b20 fu (M1 732 83) M1 L))
set_option maxHeartbeats 4000000 in
set_option maxRecDepth 100000 in
theorem tX19_time (l : Launch) (G : mwG) (ad : Nat → Nat) (fu : Nat) (M : mwM) (L : mwL) {r0 : Int32} {M0 : mwM} {L0 : mwL} (hD : DX19_time fu M L = some (r0, M0, L0)) : Met l yX19_time (Cond.code yX19_time cX19_time 1 ((some .int)) :: GT) ({ frames := 0, cells := 0, slots := 0, locals := 0 }) (mw_Pre G ad NF TF FF M L [.ref (ad 732)]) (mw_Qi G ad NF TF FF (mw_eqI r0 M0 L0)) 0 0 (mw_fr G) := by
  refine mw_enter (by decide) (Nat.le_of_ble_eq_true rfl) ?_
  intro p e s m below meth c ls C hr hlocks hnm hw hl
  have hl : lv_has ls 1 [(0, .ref (ad 732))] := hl
  have hb20 : ∀ (s0 : Int32) (M : mwM) (L : mwL) (H : Heap) (locs : List Loc) (ls : Array Slot), fX19_time_b20 fu s0 M L = some (r0, M0, L0) → mw_W G ad NF TF FF M L H locs → lv_has ls 1 [] → W p l e ({ frames := 0, cells := 0, slots := 0, locals := 0 }) s m [.ref (ad 732)].toArray below meth c H locs 0 0 (MQ below (mw_Qi G ad NF TF FF (mw_eqI r0 M0 L0)) [.ref (ad 732)].toArray s 0 0 (mw_fr G)) (F0 m 20 ls [.int s0]) := by
    intro s0 M L H locs ls hD hw hl
    unfold fX19_time_b20 at hD
    exact mr_iret C hr hlocks hw rfl (Option.some.inj hD) dX19_time_20
  unfold DX19_time at hD
  refine lv_aload_n C.1.1 C.1.2.1 dX19_time_0 rfl (lv_at hl 0 rfl) ?_
  refine lv_iconst (v := 0) C.1.1 C.1.2.1 dX19_time_1 (by decide) ?_
  obtain ⟨M1, eM1, hD⟩ := g_let hD
  refine mr_putI C hw kc_19 0 (by decide) tf_732 wd_2781 dX19_time_2 (by decide) rfl rfl rfl rfl (fun H locs hw => ?_)
  replace hw : mw_W G ad NF TF FF M1 L H locs := by rw [eM1]; exact hw
  refine lv_aload_n C.1.1 C.1.2.1 dX19_time_5 rfl (lv_at hl 0 rfl) ?_
  refine mr_getI C hw kc_19 4 (by decide) tf_732 wd_2785 dX19_time_6 (by decide) rfl ?_
  refine lv_if_eq (tgt := 19) C.1.1 C.1.2.1 dX19_time_9 (by decide) (fun c2 => ?_) (fun c2 => ?_)
  · replace hD := g_pos c2 hD
    refine lv_iconst (v := 0) C.1.1 C.1.2.1 dX19_time_19 (by decide) ?_
    exact hb20 0 M1 L _ _ ls hD hw (lv_sub hl [] rfl)
  · replace hD := g_neg c2 hD
    refine lv_aload_n C.1.1 C.1.2.1 dX19_time_12 rfl (lv_at hl 0 rfl) ?_
    refine mr_getI C hw kc_19 83 (by decide) tf_732 wd_2864 dX19_time_13 (by decide) rfl ?_
    refine lv_goto (tgt := 20) C.1.1 C.1.2.1 dX19_time_16 (by decide) ?_
    exact hb20 (M1 732 83) M1 L _ _ ls hD hw (lv_sub hl [] rfl)

theorem dX19_trouble_0 : decode cX19_trouble 0 = .ok (.aload_n 0, 1) := by decide +kernel
theorem dX19_trouble_1 : decode cX19_trouble 1 = .ok (.aload_n 0, 1) := by decide +kernel
theorem dX19_trouble_2 : decode cX19_trouble 2 = .ok (.getfield 630, 3) := by decide +kernel
theorem dX19_trouble_5 : decode cX19_trouble 5 = .ok (.ifCond .eq 15, 3) := by decide +kernel
theorem dX19_trouble_8 : decode cX19_trouble 8 = .ok (.iload_n 1, 1) := by decide +kernel
theorem dX19_trouble_9 : decode cX19_trouble 9 = .ok (.ifCond .lt 11, 3) := by decide +kernel
theorem dX19_trouble_12 : decode cX19_trouble 12 = .ok (.iload_n 1, 1) := by decide +kernel
theorem dX19_trouble_13 : decode cX19_trouble 13 = .ok (.aload_n 0, 1) := by decide +kernel
theorem dX19_trouble_14 : decode cX19_trouble 14 = .ok (.getfield 558, 3) := by decide +kernel
theorem dX19_trouble_17 : decode cX19_trouble 17 = .ok (.if_icmp .lt 7, 3) := by decide +kernel
theorem dX19_trouble_20 : decode cX19_trouble 20 = .ok (.iconst 1, 1) := by decide +kernel
theorem dX19_trouble_21 : decode cX19_trouble 21 = .ok (.goto 17, 3) := by decide +kernel
theorem dX19_trouble_24 : decode cX19_trouble 24 = .ok (.iload_n 2, 1) := by decide +kernel
theorem dX19_trouble_25 : decode cX19_trouble 25 = .ok (.ifCond .lt 8, 3) := by decide +kernel
theorem dX19_trouble_28 : decode cX19_trouble 28 = .ok (.iload_n 2, 1) := by decide +kernel
theorem dX19_trouble_29 : decode cX19_trouble 29 = .ok (.iconst 4, 1) := by decide +kernel
theorem dX19_trouble_30 : decode cX19_trouble 30 = .ok (.if_icmp .le 7, 3) := by decide +kernel
theorem dX19_trouble_33 : decode cX19_trouble 33 = .ok (.iconst 2, 1) := by decide +kernel
theorem dX19_trouble_34 : decode cX19_trouble 34 = .ok (.goto 4, 3) := by decide +kernel
theorem dX19_trouble_37 : decode cX19_trouble 37 = .ok (.iconst 0, 1) := by decide +kernel
theorem dX19_trouble_38 : decode cX19_trouble 38 = .ok (.putfield 289, 3) := by decide +kernel
theorem dX19_trouble_41 : decode cX19_trouble 41 = .ok (.aload_n 0, 1) := by decide +kernel
theorem dX19_trouble_42 : decode cX19_trouble 42 = .ok (.getfield 289, 3) := by decide +kernel
theorem dX19_trouble_45 : decode cX19_trouble 45 = .ok (.ifCond .le 5, 3) := by decide +kernel
theorem dX19_trouble_48 : decode cX19_trouble 48 = .ok (.iconst 0, 1) := by decide +kernel
theorem dX19_trouble_49 : decode cX19_trouble 49 = .ok (.ireturn, 1) := by decide +kernel
theorem dX19_trouble_50 : decode cX19_trouble 50 = .ok (.aload_n 0, 1) := by decide +kernel
theorem dX19_trouble_51 : decode cX19_trouble 51 = .ok (.getfield 144, 3) := by decide +kernel
theorem dX19_trouble_54 : decode cX19_trouble 54 = .ok (.iload_n 1, 1) := by decide +kernel
theorem dX19_trouble_55 : decode cX19_trouble 55 = .ok (.iaload, 1) := by decide +kernel
theorem dX19_trouble_56 : decode cX19_trouble 56 = .ok (.istore_n 3, 1) := by decide +kernel
theorem dX19_trouble_57 : decode cX19_trouble 57 = .ok (.iload_n 2, 1) := by decide +kernel
theorem dX19_trouble_58 : decode cX19_trouble 58 = .ok (.iconst 2, 1) := by decide +kernel
theorem dX19_trouble_59 : decode cX19_trouble 59 = .ok (.if_icmp .ge 27, 3) := by decide +kernel
theorem dX19_trouble_62 : decode cX19_trouble 62 = .ok (.iload_n 2, 1) := by decide +kernel
theorem dX19_trouble_63 : decode cX19_trouble 63 = .ok (.ifCond .ne 14, 3) := by decide +kernel
theorem dX19_trouble_66 : decode cX19_trouble 66 = .ok (.aload_n 0, 1) := by decide +kernel
theorem dX19_trouble_67 : decode cX19_trouble 67 = .ok (.getfield 205, 3) := by decide +kernel
theorem dX19_trouble_70 : decode cX19_trouble 70 = .ok (.iload_n 3, 1) := by decide +kernel
theorem dX19_trouble_71 : decode cX19_trouble 71 = .ok (.invokevirtual 774, 3) := by decide +kernel
theorem dX19_trouble_74 : decode cX19_trouble 74 = .ok (.goto 11, 3) := by decide +kernel
theorem dX19_trouble_77 : decode cX19_trouble 77 = .ok (.aload_n 0, 1) := by decide +kernel
theorem dX19_trouble_78 : decode cX19_trouble 78 = .ok (.getfield 205, 3) := by decide +kernel
theorem dX19_trouble_81 : decode cX19_trouble 81 = .ok (.iload_n 3, 1) := by decide +kernel
theorem dX19_trouble_82 : decode cX19_trouble 82 = .ok (.invokevirtual 844, 3) := by decide +kernel
theorem dX19_trouble_85 : decode cX19_trouble 85 = .ok (.ireturn, 1) := by decide +kernel
theorem dX19_trouble_86 : decode cX19_trouble 86 = .ok (.iload_n 2, 1) := by decide +kernel
theorem dX19_trouble_87 : decode cX19_trouble 87 = .ok (.iconst 4, 1) := by decide +kernel
theorem dX19_trouble_88 : decode cX19_trouble 88 = .ok (.if_icmp .ne 15, 3) := by decide +kernel
theorem dX19_trouble_91 : decode cX19_trouble 91 = .ok (.aload_n 0, 1) := by decide +kernel
theorem dX19_trouble_92 : decode cX19_trouble 92 = .ok (.getfield 205, 3) := by decide +kernel
theorem dX19_trouble_95 : decode cX19_trouble 95 = .ok (.iload_n 1, 1) := by decide +kernel
theorem dX19_trouble_96 : decode cX19_trouble 96 = .ok (.iconst 0, 1) := by decide +kernel
theorem dX19_trouble_97 : decode cX19_trouble 97 = .ok (.invokevirtual 771, 3) := by decide +kernel
theorem dX19_trouble_100 : decode cX19_trouble 100 = .ok (.goto 15, 3) := by decide +kernel
theorem dX19_trouble_103 : decode cX19_trouble 103 = .ok (.aload_n 0, 1) := by decide +kernel
theorem dX19_trouble_104 : decode cX19_trouble 104 = .ok (.getfield 205, 3) := by decide +kernel
theorem dX19_trouble_107 : decode cX19_trouble 107 = .ok (.iload_n 3, 1) := by decide +kernel
theorem dX19_trouble_108 : decode cX19_trouble 108 = .ok (.iload_n 2, 1) := by decide +kernel
theorem dX19_trouble_109 : decode cX19_trouble 109 = .ok (.iconst 2, 1) := by decide +kernel
theorem dX19_trouble_110 : decode cX19_trouble 110 = .ok (.isub, 1) := by decide +kernel
theorem dX19_trouble_111 : decode cX19_trouble 111 = .ok (.iconst 1, 1) := by decide +kernel
theorem dX19_trouble_112 : decode cX19_trouble 112 = .ok (.invokevirtual 847, 3) := by decide +kernel
theorem dX19_trouble_115 : decode cX19_trouble 115 = .ok (.ireturn, 1) := by decide +kernel
theorem cwX19_trouble : mw_cwV yX19_trouble cX19_trouble 4 ((some .int)) 2 := ⟨⟨wd_13, wd_4297, by decide +kernel⟩, wd_4295, wd_4296⟩
noncomputable def fX19_trouble_b38 (fu : Nat) (a1 : Int32) (a2 : Int32) (s1 : Int32) (M : mwM) (L : mwL) : Option (Int32 × mwM × mwL) :=
  mlet (mset M 732 0 s1) (fun M1 => (if (M1 732 0) ≤ 0 then mck a1 30 (mlet (M1 777 a1.toNatClampNeg) (fun x4 => (if 2 ≤ a2 then (if a2 = 4 then none else none) else (if a2 = 0 then none else none)))) else some (0, M1, L)))
noncomputable def fX19_trouble_b20 (fu : Nat) (a1 : Int32) (a2 : Int32) (M : mwM) (L : mwL) : Option (Int32 × mwM × mwL) :=
  fX19_trouble_b38 fu a1 a2 1 M L
noncomputable def fX19_trouble_b33 (fu : Nat) (a1 : Int32) (a2 : Int32) (M : mwM) (L : mwL) : Option (Int32 × mwM × mwL) :=
  fX19_trouble_b38 fu a1 a2 2 M L
noncomputable def DX19_trouble (fu : Nat) (a1 : Int32) (a2 : Int32) (M : mwM) (L : mwL) : Option (Int32 × mwM × mwL) :=
  (if (M 732 4) = 0 then fX19_trouble_b20 fu a1 a2 M L else (if a1 < 0 then fX19_trouble_b20 fu a1 a2 M L else (if a1 < (M 732 62) then (if a2 < 0 then fX19_trouble_b33 fu a1 a2 M L else (if a2 ≤ 4 then fX19_trouble_b38 fu a1 a2 0 M L else fX19_trouble_b33 fu a1 a2 M L)) else fX19_trouble_b20 fu a1 a2 M L)))
set_option maxHeartbeats 4000000 in
set_option maxRecDepth 100000 in
theorem tX19_trouble (l : Launch) (G : mwG) (ad : Nat → Nat) (fu : Nat) (a1 : Int32) (a2 : Int32) (M : mwM) (L : mwL) {r0 : Int32} {M0 : mwM} {L0 : mwL} (hD : DX19_trouble fu a1 a2 M L = some (r0, M0, L0)) : Met l yX19_trouble (Cond.code yX19_trouble cX19_trouble 4 ((some .int)) :: GT) ({ frames := 0, cells := 0, slots := 0, locals := 0 }) (mw_Pre G ad NF TF FF M L [.ref (ad 732), .int a1, .int a2]) (mw_Qi G ad NF TF FF (mw_eqI r0 M0 L0)) 0 0 (mw_fr G) := by
  refine mw_enter (by decide) (Nat.le_of_ble_eq_true rfl) ?_
  intro p e s m below meth c ls C hr hlocks hnm hw hl
  have hl : lv_has ls 4 [(0, .ref (ad 732)), (1, .int a1), (2, .int a2)] := hl
  have hb38 : ∀ (s1 : Int32) (M : mwM) (L : mwL) (H : Heap) (locs : List Loc) (ls : Array Slot), fX19_trouble_b38 fu a1 a2 s1 M L = some (r0, M0, L0) → mw_W G ad NF TF FF M L H locs → lv_has ls 4 [(0, .ref (ad 732)), (1, .int a1), (2, .int a2)] → W p l e ({ frames := 0, cells := 0, slots := 0, locals := 0 }) s m [.ref (ad 732), .int a1, .int a2].toArray below meth c H locs 0 0 (MQ below (mw_Qi G ad NF TF FF (mw_eqI r0 M0 L0)) [.ref (ad 732), .int a1, .int a2].toArray s 0 0 (mw_fr G)) (F0 m 38 ls [.int s1, .ref (ad 732)]) := by
    intro s1 M L H locs ls hD hw hl
    unfold fX19_trouble_b38 at hD
    obtain ⟨M1, eM1, hD⟩ := g_let hD
    refine mr_putI C hw kc_19 0 (by decide) tf_732 wd_2781 dX19_trouble_38 (by decide) rfl rfl rfl rfl (fun H locs hw => ?_)
    replace hw : mw_W G ad NF TF FF M1 L H locs := by rw [eM1]; exact hw
    refine lv_aload_n C.1.1 C.1.2.1 dX19_trouble_41 rfl (lv_at hl 0 rfl) ?_
    refine mr_getI C hw kc_19 0 (by decide) tf_732 wd_2781 dX19_trouble_42 (by decide) rfl ?_
    refine lv_if_le (tgt := 50) C.1.1 C.1.2.1 dX19_trouble_45 (by decide) (fun c2 => ?_) (fun c2 => ?_)
    · replace hD := g_pos c2 hD
      refine lv_aload_n C.1.1 C.1.2.1 dX19_trouble_50 rfl (lv_at hl 0 rfl) ?_
      refine mr_getR C hw kc_19 65 (by decide) tf_732 ff_732_65 wd_2846 dX19_trouble_51 (by decide) rfl ?_
      refine lv_iload_n C.1.1 C.1.2.1 dX19_trouble_54 rfl (lv_at hl 1 rfl) ?_
      obtain ⟨q3, hD⟩ := g_ck hD
      refine mr_iald C hw (by decide) tf_777 q3 dX19_trouble_55 ?_
      obtain ⟨x4, ex4, hD⟩ := g_let hD
      refine W.eq (g2 := F0 m 56 ls (.int x4 :: [])) (by rw [ex4]) ?_
      refine lv_istore_n (lv' := [(3, .int x4), (0, .ref (ad 732)), (1, .int a1), (2, .int a2)]) C.1.1 C.1.2.1 dX19_trouble_56 rfl hl (by decide) rfl (fun ls hl => ?_)
      refine lv_iload_n C.1.1 C.1.2.1 dX19_trouble_57 rfl (lv_at hl 3 rfl) ?_
      refine lv_iconst (v := 2) C.1.1 C.1.2.1 dX19_trouble_58 (by decide) ?_
      refine lv_icmp_ge (tgt := 86) C.1.1 C.1.2.1 dX19_trouble_59 (by decide) (fun c5 => ?_) (fun c5 => ?_)
      · replace hD := g_pos c5 hD
        refine lv_iload_n C.1.1 C.1.2.1 dX19_trouble_86 rfl (lv_at hl 3 rfl) ?_
        refine lv_iconst (v := 4) C.1.1 C.1.2.1 dX19_trouble_87 (by decide) ?_
        refine lv_icmp_ne (tgt := 103) C.1.1 C.1.2.1 dX19_trouble_88 (by decide) (fun c6 => ?_) (fun c6 => ?_)
        · replace hD := g_neg c6 hD
          refine lv_aload_n C.1.1 C.1.2.1 dX19_trouble_103 rfl (lv_at hl 1 rfl) ?_
          refine mr_getR C hw kc_19 80 (by decide) tf_732 ff_732_80 wd_2861 dX19_trouble_104 (by decide) rfl ?_
          refine lv_iload_n C.1.1 C.1.2.1 dX19_trouble_107 rfl (lv_at hl 0 rfl) ?_
          refine lv_iload_n C.1.1 C.1.2.1 dX19_trouble_108 rfl (lv_at hl 3 rfl) ?_
          refine lv_iconst (v := 2) C.1.1 C.1.2.1 dX19_trouble_109 (by decide) ?_
          refine lv_isub C.1.1 C.1.2.1 dX19_trouble_110 ?_
          refine lv_iconst (v := 1) C.1.1 C.1.2.1 dX19_trouble_111 (by decide) ?_
          cases hD
        · replace hD := g_pos c6 hD
          refine lv_aload_n C.1.1 C.1.2.1 dX19_trouble_91 rfl (lv_at hl 1 rfl) ?_
          refine mr_getR C hw kc_19 80 (by decide) tf_732 ff_732_80 wd_2861 dX19_trouble_92 (by decide) rfl ?_
          refine lv_iload_n C.1.1 C.1.2.1 dX19_trouble_95 rfl (lv_at hl 2 rfl) ?_
          refine lv_iconst (v := 0) C.1.1 C.1.2.1 dX19_trouble_96 (by decide) ?_
          cases hD
      · replace hD := g_neg c5 hD
        refine lv_iload_n C.1.1 C.1.2.1 dX19_trouble_62 rfl (lv_at hl 3 rfl) ?_
        refine lv_if_ne (tgt := 77) C.1.1 C.1.2.1 dX19_trouble_63 (by decide) (fun c7 => ?_) (fun c7 => ?_)
        · replace hD := g_neg c7 hD
          refine lv_aload_n C.1.1 C.1.2.1 dX19_trouble_77 rfl (lv_at hl 1 rfl) ?_
          refine mr_getR C hw kc_19 80 (by decide) tf_732 ff_732_80 wd_2861 dX19_trouble_78 (by decide) rfl ?_
          refine lv_iload_n C.1.1 C.1.2.1 dX19_trouble_81 rfl (lv_at hl 0 rfl) ?_
          cases hD
        · replace hD := g_pos c7 hD
          refine lv_aload_n C.1.1 C.1.2.1 dX19_trouble_66 rfl (lv_at hl 1 rfl) ?_
          refine mr_getR C hw kc_19 80 (by decide) tf_732 ff_732_80 wd_2861 dX19_trouble_67 (by decide) rfl ?_
          refine lv_iload_n C.1.1 C.1.2.1 dX19_trouble_70 rfl (lv_at hl 0 rfl) ?_
          cases hD
    · replace hD := g_neg c2 hD
      refine lv_iconst (v := 0) C.1.1 C.1.2.1 dX19_trouble_48 (by decide) ?_
      exact mr_iret C hr hlocks hw rfl (Option.some.inj hD) dX19_trouble_49
  have hb20 : ∀ (M : mwM) (L : mwL) (H : Heap) (locs : List Loc) (ls : Array Slot), fX19_trouble_b20 fu a1 a2 M L = some (r0, M0, L0) → mw_W G ad NF TF FF M L H locs → lv_has ls 4 [(0, .ref (ad 732)), (1, .int a1), (2, .int a2)] → W p l e ({ frames := 0, cells := 0, slots := 0, locals := 0 }) s m [.ref (ad 732), .int a1, .int a2].toArray below meth c H locs 0 0 (MQ below (mw_Qi G ad NF TF FF (mw_eqI r0 M0 L0)) [.ref (ad 732), .int a1, .int a2].toArray s 0 0 (mw_fr G)) (F0 m 20 ls [.ref (ad 732)]) := by
    intro M L H locs ls hD hw hl
    unfold fX19_trouble_b20 at hD
    refine lv_iconst (v := 1) C.1.1 C.1.2.1 dX19_trouble_20 (by decide) ?_
    refine lv_goto (tgt := 38) C.1.1 C.1.2.1 dX19_trouble_21 (by decide) ?_
    exact hb38 1 M L _ _ ls hD hw (lv_sub hl [0, 1, 2] rfl)
  have hb33 : ∀ (M : mwM) (L : mwL) (H : Heap) (locs : List Loc) (ls : Array Slot), fX19_trouble_b33 fu a1 a2 M L = some (r0, M0, L0) → mw_W G ad NF TF FF M L H locs → lv_has ls 4 [(0, .ref (ad 732)), (1, .int a1), (2, .int a2)] → W p l e ({ frames := 0, cells := 0, slots := 0, locals := 0 }) s m [.ref (ad 732), .int a1, .int a2].toArray below meth c H locs 0 0 (MQ below (mw_Qi G ad NF TF FF (mw_eqI r0 M0 L0)) [.ref (ad 732), .int a1, .int a2].toArray s 0 0 (mw_fr G)) (F0 m 33 ls [.ref (ad 732)]) := by
    intro M L H locs ls hD hw hl
    unfold fX19_trouble_b33 at hD
    refine lv_iconst (v := 2) C.1.1 C.1.2.1 dX19_trouble_33 (by decide) ?_
    refine lv_goto (tgt := 38) C.1.1 C.1.2.1 dX19_trouble_34 (by decide) ?_
    exact hb38 2 M L _ _ ls hD hw (lv_sub hl [0, 1, 2] rfl)
  unfold DX19_trouble at hD
  refine lv_aload_n C.1.1 C.1.2.1 dX19_trouble_0 rfl (lv_at hl 0 rfl) ?_
  refine lv_aload_n C.1.1 C.1.2.1 dX19_trouble_1 rfl (lv_at hl 0 rfl) ?_
  refine mr_getI C hw kc_19 4 (by decide) tf_732 wd_2785 dX19_trouble_2 (by decide) rfl ?_
  refine lv_if_eq (tgt := 20) C.1.1 C.1.2.1 dX19_trouble_5 (by decide) (fun c8 => ?_) (fun c8 => ?_)
  · replace hD := g_pos c8 hD
    exact hb20 M L _ _ ls hD hw (lv_sub hl [0, 1, 2] rfl)
  · replace hD := g_neg c8 hD
    refine lv_iload_n C.1.1 C.1.2.1 dX19_trouble_8 rfl (lv_at hl 1 rfl) ?_
    refine lv_if_lt (tgt := 20) C.1.1 C.1.2.1 dX19_trouble_9 (by decide) (fun c9 => ?_) (fun c9 => ?_)
    · replace hD := g_pos c9 hD
      exact hb20 M L _ _ ls hD hw (lv_sub hl [0, 1, 2] rfl)
    · replace hD := g_neg c9 hD
      refine lv_iload_n C.1.1 C.1.2.1 dX19_trouble_12 rfl (lv_at hl 1 rfl) ?_
      refine lv_aload_n C.1.1 C.1.2.1 dX19_trouble_13 rfl (lv_at hl 0 rfl) ?_
      refine mr_getI C hw kc_19 62 (by decide) tf_732 wd_2843 dX19_trouble_14 (by decide) rfl ?_
      refine lv_icmp_lt (tgt := 24) C.1.1 C.1.2.1 dX19_trouble_17 (by decide) (fun c10 => ?_) (fun c10 => ?_)
      · replace hD := g_pos c10 hD
        refine lv_iload_n C.1.1 C.1.2.1 dX19_trouble_24 rfl (lv_at hl 2 rfl) ?_
        refine lv_if_lt (tgt := 33) C.1.1 C.1.2.1 dX19_trouble_25 (by decide) (fun c11 => ?_) (fun c11 => ?_)
        · replace hD := g_pos c11 hD
          exact hb33 M L _ _ ls hD hw (lv_sub hl [0, 1, 2] rfl)
        · replace hD := g_neg c11 hD
          refine lv_iload_n C.1.1 C.1.2.1 dX19_trouble_28 rfl (lv_at hl 2 rfl) ?_
          refine lv_iconst (v := 4) C.1.1 C.1.2.1 dX19_trouble_29 (by decide) ?_
          refine lv_icmp_le (tgt := 37) C.1.1 C.1.2.1 dX19_trouble_30 (by decide) (fun c12 => ?_) (fun c12 => ?_)
          · replace hD := g_pos c12 hD
            refine lv_iconst (v := 0) C.1.1 C.1.2.1 dX19_trouble_37 (by decide) ?_
            exact hb38 0 M L _ _ ls hD hw (lv_sub hl [0, 1, 2] rfl)
          · replace hD := g_neg c12 hD
            exact hb33 M L _ _ ls hD hw (lv_sub hl [0, 1, 2] rfl)
      · replace hD := g_neg c10 hD
        exact hb20 M L _ _ ls hD hw (lv_sub hl [0, 1, 2] rfl)

theorem dX19_value_0 : decode cX19_value 0 = .ok (.aload_n 0, 1) := by decide +kernel
theorem dX19_value_1 : decode cX19_value 1 = .ok (.aload_n 0, 1) := by decide +kernel
theorem dX19_value_2 : decode cX19_value 2 = .ok (.iload_n 1, 1) := by decide +kernel
theorem dX19_value_3 : decode cX19_value 3 = .ok (.invokevirtual 832, 3) := by decide +kernel
theorem dX19_value_6 : decode cX19_value 6 = .ok (.ifCond .ne 13, 3) := by decide +kernel
theorem dX19_value_9 : decode cX19_value 9 = .ok (.iload_n 2, 1) := by decide +kernel
theorem dX19_value_10 : decode cX19_value 10 = .ok (.ifCond .lt 9, 3) := by decide +kernel
theorem dX19_value_13 : decode cX19_value 13 = .ok (.iload_n 2, 1) := by decide +kernel
theorem dX19_value_14 : decode cX19_value 14 = .ok (.bipush 31, 2) := by decide +kernel
theorem dX19_value_16 : decode cX19_value 16 = .ok (.if_icmp .le 7, 3) := by decide +kernel
theorem dX19_value_19 : decode cX19_value 19 = .ok (.iconst 1, 1) := by decide +kernel
theorem dX19_value_20 : decode cX19_value 20 = .ok (.goto 4, 3) := by decide +kernel
theorem dX19_value_23 : decode cX19_value 23 = .ok (.iconst 0, 1) := by decide +kernel
theorem dX19_value_24 : decode cX19_value 24 = .ok (.putfield 289, 3) := by decide +kernel
theorem dX19_value_27 : decode cX19_value 27 = .ok (.aload_n 0, 1) := by decide +kernel
theorem dX19_value_28 : decode cX19_value 28 = .ok (.getfield 289, 3) := by decide +kernel
theorem dX19_value_31 : decode cX19_value 31 = .ok (.ifCond .le 7, 3) := by decide +kernel
theorem dX19_value_34 : decode cX19_value 34 = .ok (.lconst 0, 1) := by decide +kernel
theorem dX19_value_35 : decode cX19_value 35 = .ok (.goto 13, 3) := by decide +kernel
theorem dX19_value_38 : decode cX19_value 38 = .ok (.aload_n 0, 1) := by decide +kernel
theorem dX19_value_39 : decode cX19_value 39 = .ok (.getfield 217, 3) := by decide +kernel
theorem dX19_value_42 : decode cX19_value 42 = .ok (.iload_n 1, 1) := by decide +kernel
theorem dX19_value_43 : decode cX19_value 43 = .ok (.aaload, 1) := by decide +kernel
theorem dX19_value_44 : decode cX19_value 44 = .ok (.iload_n 2, 1) := by decide +kernel
theorem dX19_value_45 : decode cX19_value 45 = .ok (.invokevirtual 661, 3) := by decide +kernel
theorem dX19_value_48 : decode cX19_value 48 = .ok (.lreturn, 1) := by decide +kernel
theorem cwX19_value : mw_cwV yX19_value cX19_value 3 ((some .long)) 2 := ⟨⟨wd_13, wd_4281, by decide +kernel⟩, wd_4279, wd_4280⟩
noncomputable def fX19_value_b48 (fu : Nat) (a1 : Int32) (a2 : Int32) (s0 : Int64) (M : mwM) (L : mwL) : Option (Int64 × mwM × mwL) :=
  some (s0, M, L)
noncomputable def fX19_value_b24 (fu : Nat) (a1 : Int32) (a2 : Int32) (s1 : Int32) (M : mwM) (L : mwL) : Option (Int64 × mwM × mwL) :=
  mlet (mset M 732 0 s1) (fun M1 => (if (M1 732 0) ≤ 0 then mck a1 12 (none) else fX19_value_b48 fu a1 a2 0 M1 L))
noncomputable def fX19_value_b19 (fu : Nat) (a1 : Int32) (a2 : Int32) (M : mwM) (L : mwL) : Option (Int64 × mwM × mwL) :=
  fX19_value_b24 fu a1 a2 1 M L
noncomputable def DX19_value (fu : Nat) (a1 : Int32) (a2 : Int32) (M : mwM) (L : mwL) : Option (Int64 × mwM × mwL) :=
  mb3 (DX19_noChart fu a1 M L) (fun r6 M4 L5 => (if r6 = 0 then (if a2 < 0 then fX19_value_b19 fu a1 a2 M4 L5 else (if a2 ≤ 31 then fX19_value_b24 fu a1 a2 0 M4 L5 else fX19_value_b19 fu a1 a2 M4 L5)) else fX19_value_b19 fu a1 a2 M4 L5))
set_option maxHeartbeats 4000000 in
set_option maxRecDepth 100000 in
theorem tX19_value (l : Launch) (G : mwG) (ad : Nat → Nat) (fu : Nat) (a1 : Int32) (a2 : Int32) (M : mwM) (L : mwL) {r0 : Int64} {M0 : mwM} {L0 : mwL} (hD : DX19_value fu a1 a2 M L = some (r0, M0, L0)) : Met l yX19_value (Cond.code yX19_value cX19_value 3 ((some .long)) :: GT) ({ frames := 1, cells := 0, slots := 0, locals := 21 }) (mw_Pre G ad NF TF FF M L [.ref (ad 732), .int a1, .int a2]) (mw_Ql G ad NF TF FF (mw_eqL r0 M0 L0)) 0 0 (mw_fr G) := by
  refine mw_enter (by decide) (Nat.le_of_ble_eq_true rfl) ?_
  intro p e s m below meth c ls C hr hlocks hnm hw hl
  have hl : lv_has ls 3 [(0, .ref (ad 732)), (1, .int a1), (2, .int a2)] := hl
  have hb48 : ∀ (s0 : Int64) (M : mwM) (L : mwL) (H : Heap) (locs : List Loc) (ls : Array Slot), fX19_value_b48 fu a1 a2 s0 M L = some (r0, M0, L0) → mw_W G ad NF TF FF M L H locs → lv_has ls 3 [] → W p l e ({ frames := 1, cells := 0, slots := 0, locals := 21 }) s m [.ref (ad 732), .int a1, .int a2].toArray below meth c H locs 0 0 (MQ below (mw_Ql G ad NF TF FF (mw_eqL r0 M0 L0)) [.ref (ad 732), .int a1, .int a2].toArray s 0 0 (mw_fr G)) (F0 m 48 ls [.long s0]) := by
    intro s0 M L H locs ls hD hw hl
    unfold fX19_value_b48 at hD
    exact mr_lret C hr hlocks hw (Option.some.inj hD) dX19_value_48
  have hb24 : ∀ (s1 : Int32) (M : mwM) (L : mwL) (H : Heap) (locs : List Loc) (ls : Array Slot), fX19_value_b24 fu a1 a2 s1 M L = some (r0, M0, L0) → mw_W G ad NF TF FF M L H locs → lv_has ls 3 [(0, .ref (ad 732)), (1, .int a1), (2, .int a2)] → W p l e ({ frames := 1, cells := 0, slots := 0, locals := 21 }) s m [.ref (ad 732), .int a1, .int a2].toArray below meth c H locs 0 0 (MQ below (mw_Ql G ad NF TF FF (mw_eqL r0 M0 L0)) [.ref (ad 732), .int a1, .int a2].toArray s 0 0 (mw_fr G)) (F0 m 24 ls [.int s1, .ref (ad 732)]) := by
    intro s1 M L H locs ls hD hw hl
    unfold fX19_value_b24 at hD
    obtain ⟨M1, eM1, hD⟩ := g_let hD
    refine mr_putI C hw kc_19 0 (by decide) tf_732 wd_2781 dX19_value_24 (by decide) rfl rfl rfl rfl (fun H locs hw => ?_)
    replace hw : mw_W G ad NF TF FF M1 L H locs := by rw [eM1]; exact hw
    refine lv_aload_n C.1.1 C.1.2.1 dX19_value_27 rfl (lv_at hl 0 rfl) ?_
    refine mr_getI C hw kc_19 0 (by decide) tf_732 wd_2781 dX19_value_28 (by decide) rfl ?_
    refine lv_if_le (tgt := 38) C.1.1 C.1.2.1 dX19_value_31 (by decide) (fun c2 => ?_) (fun c2 => ?_)
    · replace hD := g_pos c2 hD
      refine lv_aload_n C.1.1 C.1.2.1 dX19_value_38 rfl (lv_at hl 0 rfl) ?_
      refine mr_getR C hw kc_19 82 (by decide) tf_732 ff_732_82 wd_2863 dX19_value_39 (by decide) rfl ?_
      refine lv_iload_n C.1.1 C.1.2.1 dX19_value_42 rfl (lv_at hl 1 rfl) ?_
      obtain ⟨q3, hD⟩ := g_ck hD
      refine mr_aald C hw (by decide) tf_922 (by decide) (by decide) rfl rfl q3 (fr_922 _ (g_lt q3)) dX19_value_43 ?_
      refine lv_iload_n C.1.1 C.1.2.1 dX19_value_44 rfl (lv_at hl 2 rfl) ?_
      cases hD
    · replace hD := g_neg c2 hD
      refine lv_lconst (v := 0) C.1.1 C.1.2.1 dX19_value_34 (by decide) ?_
      refine lv_goto (tgt := 48) C.1.1 C.1.2.1 dX19_value_35 (by decide) ?_
      exact hb48 0 M1 L _ _ ls hD hw (lv_sub hl [] rfl)
  have hb19 : ∀ (M : mwM) (L : mwL) (H : Heap) (locs : List Loc) (ls : Array Slot), fX19_value_b19 fu a1 a2 M L = some (r0, M0, L0) → mw_W G ad NF TF FF M L H locs → lv_has ls 3 [(0, .ref (ad 732)), (1, .int a1), (2, .int a2)] → W p l e ({ frames := 1, cells := 0, slots := 0, locals := 21 }) s m [.ref (ad 732), .int a1, .int a2].toArray below meth c H locs 0 0 (MQ below (mw_Ql G ad NF TF FF (mw_eqL r0 M0 L0)) [.ref (ad 732), .int a1, .int a2].toArray s 0 0 (mw_fr G)) (F0 m 19 ls [.ref (ad 732)]) := by
    intro M L H locs ls hD hw hl
    unfold fX19_value_b19 at hD
    refine lv_iconst (v := 1) C.1.1 C.1.2.1 dX19_value_19 (by decide) ?_
    refine lv_goto (tgt := 24) C.1.1 C.1.2.1 dX19_value_20 (by decide) ?_
    exact hb24 1 M L _ _ ls hD hw (lv_sub hl [0, 1, 2] rfl)
  unfold DX19_value at hD
  refine lv_aload_n C.1.1 C.1.2.1 dX19_value_0 rfl (lv_at hl 0 rfl) ?_
  refine lv_aload_n C.1.1 C.1.2.1 dX19_value_1 rfl (lv_at hl 0 rfl) ?_
  refine lv_iload_n C.1.1 C.1.2.1 dX19_value_2 rfl (lv_at hl 1 rfl) ?_
  obtain ⟨r6, M4, L5, h1, hD⟩ := g_b3 hD
  refine md_cvI (As := [.int a1]) (rest := [.ref (ad 732)]) C hw (tX19_noChart l G ad fu a1 M L h1) kc_19 (by decide) tf_732 wd_4270 cwX19_noChart ⟨Nat.le_of_ble_eq_true rfl, Nat.le_of_ble_eq_true rfl⟩ rfl hl.1 (Nat.le_of_ble_eq_true rfl) dX19_value_3 rfl rfl ⟨Nat.zero_le _, Nat.zero_le _⟩ rfl (fun H locs hw => ?_)
  refine lv_if_ne (tgt := 19) C.1.1 C.1.2.1 dX19_value_6 (by decide) (fun c7 => ?_) (fun c7 => ?_)
  · replace hD := g_neg c7 hD
    exact hb19 M4 L5 _ _ ls hD hw (lv_sub hl [0, 1, 2] rfl)
  · replace hD := g_pos c7 hD
    refine lv_iload_n C.1.1 C.1.2.1 dX19_value_9 rfl (lv_at hl 2 rfl) ?_
    refine lv_if_lt (tgt := 19) C.1.1 C.1.2.1 dX19_value_10 (by decide) (fun c8 => ?_) (fun c8 => ?_)
    · replace hD := g_pos c8 hD
      exact hb19 M4 L5 _ _ ls hD hw (lv_sub hl [0, 1, 2] rfl)
    · replace hD := g_neg c8 hD
      refine lv_iload_n C.1.1 C.1.2.1 dX19_value_13 rfl (lv_at hl 2 rfl) ?_
      refine lv_bipush (v := 31) C.1.1 C.1.2.1 dX19_value_14 (by decide) ?_
      refine lv_icmp_le (tgt := 23) C.1.1 C.1.2.1 dX19_value_16 (by decide) (fun c9 => ?_) (fun c9 => ?_)
      · replace hD := g_pos c9 hD
        refine lv_iconst (v := 0) C.1.1 C.1.2.1 dX19_value_23 (by decide) ?_
        exact hb24 0 M4 L5 _ _ ls hD hw (lv_sub hl [0, 1, 2] rfl)
      · replace hD := g_neg c9 hD
        exact hb19 M4 L5 _ _ ls hD hw (lv_sub hl [0, 1, 2] rfl)
