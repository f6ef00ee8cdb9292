theorem dX19_bit_0 : decode cX19_bit 0 = .ok (.aload_n 0, 1) := by decide +kernel
theorem dX19_bit_1 : decode cX19_bit 1 = .ok (.aload_n 0, 1) := by decide +kernel
theorem dX19_bit_2 : decode cX19_bit 2 = .ok (.getfield 630, 3) := by decide +kernel
theorem dX19_bit_5 : decode cX19_bit 5 = .ok (.ifCond .eq 15, 3) := by decide +kernel
theorem dX19_bit_8 : decode cX19_bit 8 = .ok (.iload_n 1, 1) := by decide +kernel
theorem dX19_bit_9 : decode cX19_bit 9 = .ok (.ifCond .lt 11, 3) := by decide +kernel
theorem dX19_bit_12 : decode cX19_bit 12 = .ok (.iload_n 1, 1) := by decide +kernel
theorem dX19_bit_13 : decode cX19_bit 13 = .ok (.aload_n 0, 1) := by decide +kernel
theorem dX19_bit_14 : decode cX19_bit 14 = .ok (.getfield 600, 3) := by decide +kernel
theorem dX19_bit_17 : decode cX19_bit 17 = .ok (.if_icmp .lt 7, 3) := by decide +kernel
theorem dX19_bit_20 : decode cX19_bit 20 = .ok (.iconst 1, 1) := by decide +kernel
theorem dX19_bit_21 : decode cX19_bit 21 = .ok (.goto 4, 3) := by decide +kernel
theorem dX19_bit_24 : decode cX19_bit 24 = .ok (.iconst 0, 1) := by decide +kernel
theorem dX19_bit_25 : decode cX19_bit 25 = .ok (.putfield 289, 3) := by decide +kernel
theorem dX19_bit_28 : decode cX19_bit 28 = .ok (.aload_n 0, 1) := by decide +kernel
theorem dX19_bit_29 : decode cX19_bit 29 = .ok (.getfield 289, 3) := by decide +kernel
theorem dX19_bit_32 : decode cX19_bit 32 = .ok (.ifCond .le 7, 3) := by decide +kernel
theorem dX19_bit_35 : decode cX19_bit 35 = .ok (.iconst 0, 1) := by decide +kernel
theorem dX19_bit_36 : decode cX19_bit 36 = .ok (.goto 11, 3) := by decide +kernel
theorem dX19_bit_39 : decode cX19_bit 39 = .ok (.aload_n 0, 1) := by decide +kernel
theorem dX19_bit_40 : decode cX19_bit 40 = .ok (.getfield 184, 3) := by decide +kernel
theorem dX19_bit_43 : decode cX19_bit 43 = .ok (.iload_n 1, 1) := by decide +kernel
theorem dX19_bit_44 : decode cX19_bit 44 = .ok (.invokevirtual 812, 3) := by decide +kernel
theorem dX19_bit_47 : decode cX19_bit 47 = .ok (.ireturn, 1) := by decide +kernel
theorem cwX19_bit : mw_cwV yX19_bit cX19_bit 2 ((some .int)) 1 := ⟨⟨wd_13, wd_4209, by decide +kernel⟩, wd_4207, wd_4208⟩
noncomputable def fX19_bit_b47 (fu : Nat) (a1 : Int32) (s0 : Int32) (M : mwM) (L : mwL) : Option (Int32 × mwM × mwL) :=
  some (s0, M, L)
noncomputable def fX19_bit_b25 (fu : Nat) (a1 : Int32) (s1 : Int32) (M : mwM) (L : mwL) : Option (Int32 × mwM × mwL) :=
  mlet (mset M 732 0 s1) (fun M1 => (if (M1 732 0) ≤ 0 then mb3 (DX12_bit fu a1 M1 L) (fun r5 M3 L4 => fX19_bit_b47 fu a1 r5 M3 L4) else fX19_bit_b47 fu a1 0 M1 L))
noncomputable def fX19_bit_b20 (fu : Nat) (a1 : Int32) (M : mwM) (L : mwL) : Option (Int32 × mwM × mwL) :=
  fX19_bit_b25 fu a1 1 M L
noncomputable def DX19_bit (fu : Nat) (a1 : Int32) (M : mwM) (L : mwL) : Option (Int32 × mwM × mwL) :=
  (if (M 732 4) = 0 then fX19_bit_b20 fu a1 M L else (if a1 < 0 then fX19_bit_b20 fu a1 M L else (if a1 < (M 732 83) then fX19_bit_b25 fu a1 0 M L else fX19_bit_b20 fu a1 M L)))
set_option maxHeartbeats 4000000 in
set_option maxRecDepth 100000 in
theorem tX19_bit (l : Launch) (G : mwG) (ad : Nat → Nat) (fu : Nat) (a1 : Int32) (M : mwM) (L : mwL) {r0 : Int32} {M0 : mwM} {L0 : mwL} (hD : DX19_bit fu a1 M L = some (r0, M0, L0)) : Met l yX19_bit (Cond.code yX19_bit cX19_bit 2 ((some .int)) :: GT) ({ frames := 1, cells := 0, slots := 0, locals := 21 }) (mw_Pre G ad NF TF FF M L [.ref (ad 732), .int a1]) (mw_Qi G ad NF TF FF (mw_eqI r0 M0 L0)) 0 0 (mw_fr G) := by
  refine mw_enter (by decide) (Nat.le_of_ble_eq_true rfl) ?_
  intro p e s m below meth c ls C hr hlocks hnm hw hl
  have hl : lv_has ls 2 [(0, .ref (ad 732)), (1, .int a1)] := hl
  have hb47 : ∀ (s0 : Int32) (M : mwM) (L : mwL) (H : Heap) (locs : List Loc) (ls : Array Slot), fX19_bit_b47 fu a1 s0 M L = some (r0, M0, L0) → mw_W G ad NF TF FF M L H locs → lv_has ls 2 [] → W p l e ({ frames := 1, cells := 0, slots := 0, locals := 21 }) s m [.ref (ad 732), .int a1].toArray below meth c H locs 0 0 (MQ below (mw_Qi G ad NF TF FF (mw_eqI r0 M0 L0)) [.ref (ad 732), .int a1].toArray s 0 0 (mw_fr G)) (F0 m 47 ls [.int s0]) := by
    intro s0 M L H locs ls hD hw hl
    unfold fX19_bit_b47 at hD
    exact mr_iret C hr hlocks hw rfl (Option.some.inj hD) dX19_bit_47
  have hb25 : ∀ (s1 : Int32) (M : mwM) (L : mwL) (H : Heap) (locs : List Loc) (ls : Array Slot), fX19_bit_b25 fu a1 s1 M L = some (r0, M0, L0) → mw_W G ad NF TF FF M L H locs → lv_has ls 2 [(0, .ref (ad 732)), (1, .int a1)] → W p l e ({ frames := 1, cells := 0, slots := 0, locals := 21 }) s m [.ref (ad 732), .int a1].toArray below meth c H locs 0 0 (MQ below (mw_Qi G ad NF TF FF (mw_eqI r0 M0 L0)) [.ref (ad 732), .int a1].toArray s 0 0 (mw_fr G)) (F0 m 25 ls [.int s1, .ref (ad 732)]) := by
    intro s1 M L H locs ls hD hw hl
    unfold fX19_bit_b25 at hD
    obtain ⟨M1, eM1, hD⟩ := g_let hD
    refine mr_putI C hw kc_19 0 (by decide) tf_732 wd_2781 dX19_bit_25 (by decide) rfl rfl rfl rfl (fun H locs hw => ?_)
    replace hw : mw_W G ad NF TF FF M1 L H locs := by rw [eM1]; exact hw
    refine lv_aload_n C.1.1 C.1.2.1 dX19_bit_28 rfl (lv_at hl 0 rfl) ?_
    refine mr_getI C hw kc_19 0 (by decide) tf_732 wd_2781 dX19_bit_29 (by decide) rfl ?_
    refine lv_if_le (tgt := 39) C.1.1 C.1.2.1 dX19_bit_32 (by decide) (fun c2 => ?_) (fun c2 => ?_)
    · replace hD := g_pos c2 hD
      refine lv_aload_n C.1.1 C.1.2.1 dX19_bit_39 rfl (lv_at hl 0 rfl) ?_
      refine mr_getR C hw kc_19 77 (by decide) tf_732 ff_732_77 wd_2858 dX19_bit_40 (by decide) rfl ?_
      refine lv_iload_n C.1.1 C.1.2.1 dX19_bit_43 rfl (lv_at hl 1 rfl) ?_
      obtain ⟨r5, M3, L4, h1, hD⟩ := g_b3 hD
      refine md_cvI (As := [.int a1]) (rest := []) C hw (tX12_bit l G ad fu a1 M1 L h1) kc_12 (by decide) tf_821 wd_4210 cwX12_bit ⟨Nat.le_of_ble_eq_true rfl, Nat.le_of_ble_eq_true rfl⟩ rfl hl.1 (Nat.le_of_ble_eq_true rfl) dX19_bit_44 rfl rfl ⟨Nat.zero_le _, Nat.zero_le _⟩ rfl (fun H locs hw => ?_)
      exact hb47 r5 M3 L4 _ _ ls hD hw (lv_sub hl [] rfl)
    · replace hD := g_neg c2 hD
      refine lv_iconst (v := 0) C.1.1 C.1.2.1 dX19_bit_35 (by decide) ?_
      refine lv_goto (tgt := 47) C.1.1 C.1.2.1 dX19_bit_36 (by decide) ?_
      exact hb47 0 M1 L _ _ ls hD hw (lv_sub hl [] rfl)
  have hb20 : ∀ (M : mwM) (L : mwL) (H : Heap) (locs : List Loc) (ls : Array Slot), fX19_bit_b20 fu a1 M L = some (r0, M0, L0) → mw_W G ad NF TF FF M L H locs → lv_has ls 2 [(0, .ref (ad 732)), (1, .int a1)] → W p l e ({ frames := 1, cells := 0, slots := 0, locals := 21 }) s m [.ref (ad 732), .int a1].toArray below meth c H locs 0 0 (MQ below (mw_Qi G ad NF TF FF (mw_eqI r0 M0 L0)) [.ref (ad 732), .int a1].toArray s 0 0 (mw_fr G)) (F0 m 20 ls [.ref (ad 732)]) := by
    intro M L H locs ls hD hw hl
    unfold fX19_bit_b20 at hD
    refine lv_iconst (v := 1) C.1.1 C.1.2.1 dX19_bit_20 (by decide) ?_
    refine lv_goto (tgt := 25) C.1.1 C.1.2.1 dX19_bit_21 (by decide) ?_
    exact hb25 1 M L _ _ ls hD hw (lv_sub hl [0, 1] rfl)
  unfold DX19_bit at hD
  refine lv_aload_n C.1.1 C.1.2.1 dX19_bit_0 rfl (lv_at hl 0 rfl) ?_
  refine lv_aload_n C.1.1 C.1.2.1 dX19_bit_1 rfl (lv_at hl 0 rfl) ?_
  refine mr_getI C hw kc_19 4 (by decide) tf_732 wd_2785 dX19_bit_2 (by decide) rfl ?_
  refine lv_if_eq (tgt := 20) C.1.1 C.1.2.1 dX19_bit_5 (by decide) (fun c6 => ?_) (fun c6 => ?_)
  · replace hD := g_pos c6 hD
    exact hb20 M L _ _ ls hD hw (lv_sub hl [0, 1] rfl)
  · replace hD := g_neg c6 hD
    refine lv_iload_n C.1.1 C.1.2.1 dX19_bit_8 rfl (lv_at hl 1 rfl) ?_
    refine lv_if_lt (tgt := 20) C.1.1 C.1.2.1 dX19_bit_9 (by decide) (fun c7 => ?_) (fun c7 => ?_)
    · replace hD := g_pos c7 hD
      exact hb20 M L _ _ ls hD hw (lv_sub hl [0, 1] rfl)
    · replace hD := g_neg c7 hD
      refine lv_iload_n C.1.1 C.1.2.1 dX19_bit_12 rfl (lv_at hl 1 rfl) ?_
      refine lv_aload_n C.1.1 C.1.2.1 dX19_bit_13 rfl (lv_at hl 0 rfl) ?_
      refine mr_getI C hw kc_19 83 (by decide) tf_732 wd_2864 dX19_bit_14 (by decide) rfl ?_
      refine lv_icmp_lt (tgt := 24) C.1.1 C.1.2.1 dX19_bit_17 (by decide) (fun c8 => ?_) (fun c8 => ?_)
      · replace hD := g_pos c8 hD
        refine lv_iconst (v := 0) C.1.1 C.1.2.1 dX19_bit_24 (by decide) ?_
        exact hb25 0 M L _ _ ls hD hw (lv_sub hl [0, 1] rfl)
      · replace hD := g_neg c8 hD
        exact hb20 M L _ _ ls hD hw (lv_sub hl [0, 1] rfl)

theorem dX19_node_0 : decode cX19_node 0 = .ok (.aload_n 0, 1) := by decide +kernel
theorem dX19_node_1 : decode cX19_node 1 = .ok (.aload_n 0, 1) := by decide +kernel
theorem dX19_node_2 : decode cX19_node 2 = .ok (.getfield 630, 3) := by decide +kernel
theorem dX19_node_5 : decode cX19_node 5 = .ok (.ifCond .eq 15, 3) := by decide +kernel
theorem dX19_node_8 : decode cX19_node 8 = .ok (.iload_n 1, 1) := by decide +kernel
theorem dX19_node_9 : decode cX19_node 9 = .ok (.ifCond .lt 11, 3) := by decide +kernel
theorem dX19_node_12 : decode cX19_node 12 = .ok (.iload_n 1, 1) := by decide +kernel
theorem dX19_node_13 : decode cX19_node 13 = .ok (.aload_n 0, 1) := by decide +kernel
theorem dX19_node_14 : decode cX19_node 14 = .ok (.getfield 435, 3) := by decide +kernel
theorem dX19_node_17 : decode cX19_node 17 = .ok (.if_icmp .le 7, 3) := by decide +kernel
theorem dX19_node_20 : decode cX19_node 20 = .ok (.iconst 1, 1) := by decide +kernel
theorem dX19_node_21 : decode cX19_node 21 = .ok (.goto 17, 3) := by decide +kernel
theorem dX19_node_24 : decode cX19_node 24 = .ok (.iload_n 2, 1) := by decide +kernel
theorem dX19_node_25 : decode cX19_node 25 = .ok (.ifCond .lt 8, 3) := by decide +kernel
theorem dX19_node_28 : decode cX19_node 28 = .ok (.iload_n 2, 1) := by decide +kernel
theorem dX19_node_29 : decode cX19_node 29 = .ok (.iconst 2, 1) := by decide +kernel
theorem dX19_node_30 : decode cX19_node 30 = .ok (.if_icmp .le 7, 3) := by decide +kernel
theorem dX19_node_33 : decode cX19_node 33 = .ok (.iconst 2, 1) := by decide +kernel
theorem dX19_node_34 : decode cX19_node 34 = .ok (.goto 4, 3) := by decide +kernel
theorem dX19_node_37 : decode cX19_node 37 = .ok (.iconst 0, 1) := by decide +kernel
theorem dX19_node_38 : decode cX19_node 38 = .ok (.putfield 289, 3) := by decide +kernel
theorem dX19_node_41 : decode cX19_node 41 = .ok (.aload_n 0, 1) := by decide +kernel
theorem dX19_node_42 : decode cX19_node 42 = .ok (.getfield 289, 3) := by decide +kernel
theorem dX19_node_45 : decode cX19_node 45 = .ok (.ifCond .le 5, 3) := by decide +kernel
theorem dX19_node_48 : decode cX19_node 48 = .ok (.iconst 0, 1) := by decide +kernel
theorem dX19_node_49 : decode cX19_node 49 = .ok (.ireturn, 1) := by decide +kernel
theorem dX19_node_50 : decode cX19_node 50 = .ok (.iload_n 2, 1) := by decide +kernel
theorem dX19_node_51 : decode cX19_node 51 = .ok (.ifCond .ne 14, 3) := by decide +kernel
theorem dX19_node_54 : decode cX19_node 54 = .ok (.aload_n 0, 1) := by decide +kernel
theorem dX19_node_55 : decode cX19_node 55 = .ok (.getfield 184, 3) := by decide +kernel
theorem dX19_node_58 : decode cX19_node 58 = .ok (.iload_n 1, 1) := by decide +kernel
theorem dX19_node_59 : decode cX19_node 59 = .ok (.invokevirtual 815, 3) := by decide +kernel
theorem dX19_node_62 : decode cX19_node 62 = .ok (.goto 29, 3) := by decide +kernel
theorem dX19_node_65 : decode cX19_node 65 = .ok (.iload_n 2, 1) := by decide +kernel
theorem dX19_node_66 : decode cX19_node 66 = .ok (.iconst 1, 1) := by decide +kernel
theorem dX19_node_67 : decode cX19_node 67 = .ok (.if_icmp .ne 14, 3) := by decide +kernel
theorem dX19_node_70 : decode cX19_node 70 = .ok (.aload_n 0, 1) := by decide +kernel
theorem dX19_node_71 : decode cX19_node 71 = .ok (.getfield 184, 3) := by decide +kernel
theorem dX19_node_74 : decode cX19_node 74 = .ok (.iload_n 1, 1) := by decide +kernel
theorem dX19_node_75 : decode cX19_node 75 = .ok (.invokevirtual 816, 3) := by decide +kernel
theorem dX19_node_78 : decode cX19_node 78 = .ok (.goto 13, 3) := by decide +kernel
theorem dX19_node_81 : decode cX19_node 81 = .ok (.aload_n 0, 1) := by decide +kernel
theorem dX19_node_82 : decode cX19_node 82 = .ok (.getfield 184, 3) := by decide +kernel
theorem dX19_node_85 : decode cX19_node 85 = .ok (.iload_n 1, 1) := by decide +kernel
theorem dX19_node_86 : decode cX19_node 86 = .ok (.iconst (-1), 1) := by decide +kernel
theorem dX19_node_87 : decode cX19_node 87 = .ok (.iconst 0, 1) := by decide +kernel
theorem dX19_node_88 : decode cX19_node 88 = .ok (.invokevirtual 682, 3) := by decide +kernel
theorem dX19_node_91 : decode cX19_node 91 = .ok (.ireturn, 1) := by decide +kernel
theorem cwX19_node : mw_cwV yX19_node cX19_node 3 ((some .int)) 2 := ⟨⟨wd_13, wd_4217, by decide +kernel⟩, wd_4215, wd_4216⟩
noncomputable def fX19_node_b91 (fu : Nat) (a1 : Int32) (a2 : Int32) (s0 : Int32) (M : mwM) (L : mwL) : Option (Int32 × mwM × mwL) :=
  some (s0, M, L)
noncomputable def fX19_node_b38 (fu : Nat) (a1 : Int32) (a2 : Int32) (s1 : Int32) (M : mwM) (L : mwL) : Option (Int32 × mwM × mwL) :=
  mlet (mset M 732 0 s1) (fun M1 => (if (M1 732 0) ≤ 0 then (if a2 = 0 then mb3 (DX12_state fu a1 M1 L) (fun r13 M11 L12 => fX19_node_b91 fu a1 a2 r13 M11 L12) else (if a2 = 1 then mb3 (DX12_waiting fu a1 M1 L) (fun r10 M8 L9 => fX19_node_b91 fu a1 a2 r10 M8 L9) else mb3 (DX12_taken fu a1 ((-1)) 0 M1 L) (fun r7 M5 L6 => fX19_node_b91 fu a1 a2 r7 M5 L6))) else some (0, M1, L)))
noncomputable def fX19_node_b20 (fu : Nat) (a1 : Int32) (a2 : Int32) (M : mwM) (L : mwL) : Option (Int32 × mwM × mwL) :=
  fX19_node_b38 fu a1 a2 1 M L
noncomputable def fX19_node_b33 (fu : Nat) (a1 : Int32) (a2 : Int32) (M : mwM) (L : mwL) : Option (Int32 × mwM × mwL) :=
  fX19_node_b38 fu a1 a2 2 M L
noncomputable def DX19_node (fu : Nat) (a1 : Int32) (a2 : Int32) (M : mwM) (L : mwL) : Option (Int32 × mwM × mwL) :=
  (if (M 732 4) = 0 then fX19_node_b20 fu a1 a2 M L else (if a1 < 0 then fX19_node_b20 fu a1 a2 M L else (if a1 ≤ (M 732 19) then (if a2 < 0 then fX19_node_b33 fu a1 a2 M L else (if a2 ≤ 2 then fX19_node_b38 fu a1 a2 0 M L else fX19_node_b33 fu a1 a2 M L)) else fX19_node_b20 fu a1 a2 M L)))
set_option maxHeartbeats 4000000 in
set_option maxRecDepth 100000 in
theorem tX19_node (l : Launch) (G : mwG) (ad : Nat → Nat) (fu : Nat) (a1 : Int32) (a2 : Int32) (M : mwM) (L : mwL) {r0 : Int32} {M0 : mwM} {L0 : mwL} (hD : DX19_node fu a1 a2 M L = some (r0, M0, L0)) : Met l yX19_node (Cond.code yX19_node cX19_node 3 ((some .int)) :: GT) ({ frames := 2, cells := 0, slots := 0, locals := 49 }) (mw_Pre G ad NF TF FF M L [.ref (ad 732), .int a1, .int a2]) (mw_Qi G ad NF TF FF (mw_eqI r0 M0 L0)) 0 0 (mw_fr G) := by
  refine mw_enter (by decide) (Nat.le_of_ble_eq_true rfl) ?_
  intro p e s m below meth c ls C hr hlocks hnm hw hl
  have hl : lv_has ls 3 [(0, .ref (ad 732)), (1, .int a1), (2, .int a2)] := hl
  have hb91 : ∀ (s0 : Int32) (M : mwM) (L : mwL) (H : Heap) (locs : List Loc) (ls : Array Slot), fX19_node_b91 fu a1 a2 s0 M L = some (r0, M0, L0) → mw_W G ad NF TF FF M L H locs → lv_has ls 3 [] → W p l e ({ frames := 2, cells := 0, slots := 0, locals := 49 }) s m [.ref (ad 732), .int a1, .int a2].toArray below meth c H locs 0 0 (MQ below (mw_Qi G ad NF TF FF (mw_eqI r0 M0 L0)) [.ref (ad 732), .int a1, .int a2].toArray s 0 0 (mw_fr G)) (F0 m 91 ls [.int s0]) := by
    intro s0 M L H locs ls hD hw hl
    unfold fX19_node_b91 at hD
    exact mr_iret C hr hlocks hw rfl (Option.some.inj hD) dX19_node_91
  have hb38 : ∀ (s1 : Int32) (M : mwM) (L : mwL) (H : Heap) (locs : List Loc) (ls : Array Slot), fX19_node_b38 fu a1 a2 s1 M L = some (r0, M0, L0) → mw_W G ad NF TF FF M L H locs → lv_has ls 3 [(0, .ref (ad 732)), (1, .int a1), (2, .int a2)] → W p l e ({ frames := 2, cells := 0, slots := 0, locals := 49 }) s m [.ref (ad 732), .int a1, .int a2].toArray below meth c H locs 0 0 (MQ below (mw_Qi G ad NF TF FF (mw_eqI r0 M0 L0)) [.ref (ad 732), .int a1, .int a2].toArray s 0 0 (mw_fr G)) (F0 m 38 ls [.int s1, .ref (ad 732)]) := by
    intro s1 M L H locs ls hD hw hl
    unfold fX19_node_b38 at hD
    obtain ⟨M1, eM1, hD⟩ := g_let hD
    refine mr_putI C hw kc_19 0 (by decide) tf_732 wd_2781 dX19_node_38 (by decide) rfl rfl rfl rfl (fun H locs hw => ?_)
    replace hw : mw_W G ad NF TF FF M1 L H locs := by rw [eM1]; exact hw
    refine lv_aload_n C.1.1 C.1.2.1 dX19_node_41 rfl (lv_at hl 0 rfl) ?_
    refine mr_getI C hw kc_19 0 (by decide) tf_732 wd_2781 dX19_node_42 (by decide) rfl ?_
    refine lv_if_le (tgt := 50) C.1.1 C.1.2.1 dX19_node_45 (by decide) (fun c2 => ?_) (fun c2 => ?_)
    · replace hD := g_pos c2 hD
      refine lv_iload_n C.1.1 C.1.2.1 dX19_node_50 rfl (lv_at hl 2 rfl) ?_
      refine lv_if_ne (tgt := 65) C.1.1 C.1.2.1 dX19_node_51 (by decide) (fun c3 => ?_) (fun c3 => ?_)
      · replace hD := g_neg c3 hD
        refine lv_iload_n C.1.1 C.1.2.1 dX19_node_65 rfl (lv_at hl 2 rfl) ?_
        refine lv_iconst (v := 1) C.1.1 C.1.2.1 dX19_node_66 (by decide) ?_
        refine lv_icmp_ne (tgt := 81) C.1.1 C.1.2.1 dX19_node_67 (by decide) (fun c4 => ?_) (fun c4 => ?_)
        · replace hD := g_neg c4 hD
          refine lv_aload_n C.1.1 C.1.2.1 dX19_node_81 rfl (lv_at hl 0 rfl) ?_
          refine mr_getR C hw kc_19 77 (by decide) tf_732 ff_732_77 wd_2858 dX19_node_82 (by decide) rfl ?_
          refine lv_iload_n C.1.1 C.1.2.1 dX19_node_85 rfl (lv_at hl 1 rfl) ?_
          refine lv_iconst (v := (-1)) C.1.1 C.1.2.1 dX19_node_86 (by decide) ?_
          refine lv_iconst (v := 0) C.1.1 C.1.2.1 dX19_node_87 (by decide) ?_
          obtain ⟨r7, M5, L6, h1, hD⟩ := g_b3 hD
          refine md_cvI (As := [.int a1, .int ((-1)), .int 0]) (rest := []) C hw (tX12_taken l G ad fu a1 ((-1)) 0 M1 L h1) kc_12 (by decide) tf_821 wd_3858 cwX12_taken ⟨Nat.le_of_ble_eq_true rfl, Nat.le_of_ble_eq_true rfl⟩ rfl hl.1 (Nat.le_of_ble_eq_true rfl) dX19_node_88 rfl rfl ⟨Nat.zero_le _, Nat.zero_le _⟩ rfl (fun H locs hw => ?_)
          exact hb91 r7 M5 L6 _ _ ls hD hw (lv_sub hl [] rfl)
        · replace hD := g_pos c4 hD
          refine lv_aload_n C.1.1 C.1.2.1 dX19_node_70 rfl (lv_at hl 0 rfl) ?_
          refine mr_getR C hw kc_19 77 (by decide) tf_732 ff_732_77 wd_2858 dX19_node_71 (by decide) rfl ?_
          refine lv_iload_n C.1.1 C.1.2.1 dX19_node_74 rfl (lv_at hl 1 rfl) ?_
          obtain ⟨r10, M8, L9, h1, hD⟩ := g_b3 hD
          refine md_cvI (As := [.int a1]) (rest := []) C hw (tX12_waiting l G ad fu a1 M1 L h1) kc_12 (by decide) tf_821 wd_4222 cwX12_waiting ⟨Nat.le_of_ble_eq_true rfl, Nat.le_of_ble_eq_true rfl⟩ rfl hl.1 (Nat.le_of_ble_eq_true rfl) dX19_node_75 rfl rfl ⟨Nat.zero_le _, Nat.zero_le _⟩ rfl (fun H locs hw => ?_)
          refine lv_goto (tgt := 91) C.1.1 C.1.2.1 dX19_node_78 (by decide) ?_
          exact hb91 r10 M8 L9 _ _ ls hD hw (lv_sub hl [] rfl)
      · replace hD := g_pos c3 hD
        refine lv_aload_n C.1.1 C.1.2.1 dX19_node_54 rfl (lv_at hl 0 rfl) ?_
        refine mr_getR C hw kc_19 77 (by decide) tf_732 ff_732_77 wd_2858 dX19_node_55 (by decide) rfl ?_
        refine lv_iload_n C.1.1 C.1.2.1 dX19_node_58 rfl (lv_at hl 1 rfl) ?_
        obtain ⟨r13, M11, L12, h1, hD⟩ := g_b3 hD
        refine md_cvI (As := [.int a1]) (rest := []) C hw (tX12_state l G ad fu a1 M1 L h1) kc_12 (by decide) tf_821 wd_4218 cwX12_state ⟨Nat.le_of_ble_eq_true rfl, Nat.le_of_ble_eq_true rfl⟩ rfl hl.1 (Nat.le_of_ble_eq_true rfl) dX19_node_59 rfl rfl ⟨Nat.zero_le _, Nat.zero_le _⟩ rfl (fun H locs hw => ?_)
        refine lv_goto (tgt := 91) C.1.1 C.1.2.1 dX19_node_62 (by decide) ?_
        exact hb91 r13 M11 L12 _ _ ls hD hw (lv_sub hl [] rfl)
    · replace hD := g_neg c2 hD
      refine lv_iconst (v := 0) C.1.1 C.1.2.1 dX19_node_48 (by decide) ?_
      exact mr_iret C hr hlocks hw rfl (Option.some.inj hD) dX19_node_49
  have hb20 : ∀ (M : mwM) (L : mwL) (H : Heap) (locs : List Loc) (ls : Array Slot), fX19_node_b20 fu a1 a2 M L = some (r0, M0, L0) → mw_W G ad NF TF FF M L H locs → lv_has ls 3 [(0, .ref (ad 732)), (1, .int a1), (2, .int a2)] → W p l e ({ frames := 2, cells := 0, slots := 0, locals := 49 }) s m [.ref (ad 732), .int a1, .int a2].toArray below meth c H locs 0 0 (MQ below (mw_Qi G ad NF TF FF (mw_eqI r0 M0 L0)) [.ref (ad 732), .int a1, .int a2].toArray s 0 0 (mw_fr G)) (F0 m 20 ls [.ref (ad 732)]) := by
    intro M L H locs ls hD hw hl
    unfold fX19_node_b20 at hD
    refine lv_iconst (v := 1) C.1.1 C.1.2.1 dX19_node_20 (by decide) ?_
    refine lv_goto (tgt := 38) C.1.1 C.1.2.1 dX19_node_21 (by decide) ?_
    exact hb38 1 M L _ _ ls hD hw (lv_sub hl [0, 1, 2] rfl)
  have hb33 : ∀ (M : mwM) (L : mwL) (H : Heap) (locs : List Loc) (ls : Array Slot), fX19_node_b33 fu a1 a2 M L = some (r0, M0, L0) → mw_W G ad NF TF FF M L H locs → lv_has ls 3 [(0, .ref (ad 732)), (1, .int a1), (2, .int a2)] → W p l e ({ frames := 2, cells := 0, slots := 0, locals := 49 }) s m [.ref (ad 732), .int a1, .int a2].toArray below meth c H locs 0 0 (MQ below (mw_Qi G ad NF TF FF (mw_eqI r0 M0 L0)) [.ref (ad 732), .int a1, .int a2].toArray s 0 0 (mw_fr G)) (F0 m 33 ls [.ref (ad 732)]) := by
    intro M L H locs ls hD hw hl
    unfold fX19_node_b33 at hD
    refine lv_iconst (v := 2) C.1.1 C.1.2.1 dX19_node_33 (by decide) ?_
    refine lv_goto (tgt := 38) C.1.1 C.1.2.1 dX19_node_34 (by decide) ?_
    exact hb38 2 M L _ _ ls hD hw (lv_sub hl [0, 1, 2] rfl)
  unfold DX19_node at hD
  refine lv_aload_n C.1.1 C.1.2.1 dX19_node_0 rfl (lv_at hl 0 rfl) ?_
  refine lv_aload_n C.1.1 C.1.2.1 dX19_node_1 rfl (lv_at hl 0 rfl) ?_
  refine mr_getI C hw kc_19 4 (by decide) tf_732 wd_2785 dX19_node_2 (by decide) rfl ?_
  refine lv_if_eq (tgt := 20) C.1.1 C.1.2.1 dX19_node_5 (by decide) (fun c14 => ?_) (fun c14 => ?_)
  · replace hD := g_pos c14 hD
    exact hb20 M L _ _ ls hD hw (lv_sub hl [0, 1, 2] rfl)
  · replace hD := g_neg c14 hD
    refine lv_iload_n C.1.1 C.1.2.1 dX19_node_8 rfl (lv_at hl 1 rfl) ?_
    refine lv_if_lt (tgt := 20) C.1.1 C.1.2.1 dX19_node_9 (by decide) (fun c15 => ?_) (fun c15 => ?_)
    · replace hD := g_pos c15 hD
      exact hb20 M L _ _ ls hD hw (lv_sub hl [0, 1, 2] rfl)
    · replace hD := g_neg c15 hD
      refine lv_iload_n C.1.1 C.1.2.1 dX19_node_12 rfl (lv_at hl 1 rfl) ?_
      refine lv_aload_n C.1.1 C.1.2.1 dX19_node_13 rfl (lv_at hl 0 rfl) ?_
      refine mr_getI C hw kc_19 19 (by decide) tf_732 wd_2800 dX19_node_14 (by decide) rfl ?_
      refine lv_icmp_le (tgt := 24) C.1.1 C.1.2.1 dX19_node_17 (by decide) (fun c16 => ?_) (fun c16 => ?_)
      · replace hD := g_pos c16 hD
        refine lv_iload_n C.1.1 C.1.2.1 dX19_node_24 rfl (lv_at hl 2 rfl) ?_
        refine lv_if_lt (tgt := 33) C.1.1 C.1.2.1 dX19_node_25 (by decide) (fun c17 => ?_) (fun c17 => ?_)
        · replace hD := g_pos c17 hD
          exact hb33 M L _ _ ls hD hw (lv_sub hl [0, 1, 2] rfl)
        · replace hD := g_neg c17 hD
          refine lv_iload_n C.1.1 C.1.2.1 dX19_node_28 rfl (lv_at hl 2 rfl) ?_
          refine lv_iconst (v := 2) C.1.1 C.1.2.1 dX19_node_29 (by decide) ?_
          refine lv_icmp_le (tgt := 37) C.1.1 C.1.2.1 dX19_node_30 (by decide) (fun c18 => ?_) (fun c18 => ?_)
          · replace hD := g_pos c18 hD
            refine lv_iconst (v := 0) C.1.1 C.1.2.1 dX19_node_37 (by decide) ?_
            exact hb38 0 M L _ _ ls hD hw (lv_sub hl [0, 1, 2] rfl)
          · replace hD := g_neg c18 hD
            exact hb33 M L _ _ ls hD hw (lv_sub hl [0, 1, 2] rfl)
      · replace hD := g_neg c16 hD
        exact hb20 M L _ _ ls hD hw (lv_sub hl [0, 1, 2] rfl)

theorem dX19_error_0 : decode cX19_error 0 = .ok (.aload_n 0, 1) := by decide +kernel
theorem dX19_error_1 : decode cX19_error 1 = .ok (.aload_n 0, 1) := by decide +kernel
theorem dX19_error_2 : decode cX19_error 2 = .ok (.getfield 630, 3) := by decide +kernel
theorem dX19_error_5 : decode cX19_error 5 = .ok (.ifCond .eq 7, 3) := by decide +kernel
theorem dX19_error_8 : decode cX19_error 8 = .ok (.iconst 0, 1) := by decide +kernel
theorem dX19_error_9 : decode cX19_error 9 = .ok (.goto 4, 3) := by decide +kernel
theorem dX19_error_12 : decode cX19_error 12 = .ok (.iconst 1, 1) := by decide +kernel
theorem dX19_error_13 : decode cX19_error 13 = .ok (.putfield 289, 3) := by decide +kernel
theorem dX19_error_16 : decode cX19_error 16 = .ok (.aload_n 0, 1) := by decide +kernel
theorem dX19_error_17 : decode cX19_error 17 = .ok (.getfield 289, 3) := by decide +kernel
theorem dX19_error_20 : decode cX19_error 20 = .ok (.ifCond .le 5, 3) := by decide +kernel
theorem dX19_error_23 : decode cX19_error 23 = .ok (.iconst 0, 1) := by decide +kernel
theorem dX19_error_24 : decode cX19_error 24 = .ok (.ireturn, 1) := by decide +kernel
theorem dX19_error_25 : decode cX19_error 25 = .ok (.aload_n 0, 1) := by decide +kernel
theorem dX19_error_26 : decode cX19_error 26 = .ok (.getfield 184, 3) := by decide +kernel
theorem dX19_error_29 : decode cX19_error 29 = .ok (.iload_n 1, 1) := by decide +kernel
theorem dX19_error_30 : decode cX19_error 30 = .ok (.iload_n 2, 1) := by decide +kernel
theorem dX19_error_31 : decode cX19_error 31 = .ok (.invokevirtual 819, 3) := by decide +kernel
theorem dX19_error_34 : decode cX19_error 34 = .ok (.istore_n 3, 1) := by decide +kernel
theorem dX19_error_35 : decode cX19_error 35 = .ok (.aload_n 0, 1) := by decide +kernel
theorem dX19_error_36 : decode cX19_error 36 = .ok (.aload_n 0, 1) := by decide +kernel
theorem dX19_error_37 : decode cX19_error 37 = .ok (.getfield 184, 3) := by decide +kernel
theorem dX19_error_40 : decode cX19_error 40 = .ok (.invokevirtual 649, 3) := by decide +kernel
theorem dX19_error_43 : decode cX19_error 43 = .ok (.putfield 289, 3) := by decide +kernel
theorem dX19_error_46 : decode cX19_error 46 = .ok (.aload_n 0, 1) := by decide +kernel
theorem dX19_error_47 : decode cX19_error 47 = .ok (.getfield 289, 3) := by decide +kernel
theorem dX19_error_50 : decode cX19_error 50 = .ok (.ifCond .le 7, 3) := by decide +kernel
theorem dX19_error_53 : decode cX19_error 53 = .ok (.iconst 0, 1) := by decide +kernel
theorem dX19_error_54 : decode cX19_error 54 = .ok (.goto 4, 3) := by decide +kernel
theorem dX19_error_57 : decode cX19_error 57 = .ok (.iload_n 3, 1) := by decide +kernel
theorem dX19_error_58 : decode cX19_error 58 = .ok (.ireturn, 1) := by decide +kernel
theorem cwX19_error : mw_cwV yX19_error cX19_error 4 ((some .int)) 2 := ⟨⟨wd_13, wd_4229, by decide +kernel⟩, wd_4227, wd_4228⟩
noncomputable def fX19_error_b58 (fu : Nat) (a1 : Int32) (a2 : Int32) (s0 : Int32) (M : mwM) (L : mwL) : Option (Int32 × mwM × mwL) :=
  some (s0, M, L)
noncomputable def fX19_error_b13 (fu : Nat) (a1 : Int32) (a2 : Int32) (s1 : Int32) (M : mwM) (L : mwL) : Option (Int32 × mwM × mwL) :=
  mlet (mset M 732 0 s1) (fun M1 => (if (M1 732 0) ≤ 0 then mb3 (DX12_error fu a1 a2 M1 L) (fun r5 M3 L4 => mb3 (DX12_thrown fu M3 L4) (fun r8 M6 L7 => mlet (mset M6 732 0 r8) (fun M9 => (if (M9 732 0) ≤ 0 then fX19_error_b58 fu a1 a2 r5 M9 L7 else fX19_error_b58 fu a1 a2 0 M9 L7)))) else some (0, M1, L)))
noncomputable def DX19_error (fu : Nat) (a1 : Int32) (a2 : Int32) (M : mwM) (L : mwL) : Option (Int32 × mwM × mwL) :=
  (if (M 732 4) = 0 then fX19_error_b13 fu a1 a2 1 M L else fX19_error_b13 fu a1 a2 0 M L)
set_option maxHeartbeats 4000000 in
set_option maxRecDepth 100000 in
theorem tX19_error (l : Launch) (G : mwG) (ad : Nat → Nat) (fu : Nat) (a1 : Int32) (a2 : Int32) (M : mwM) (L : mwL) {r0 : Int32} {M0 : mwM} {L0 : mwL} (hD : DX19_error fu a1 a2 M L = some (r0, M0, L0)) : Met l yX19_error (Cond.code yX19_error cX19_error 4 ((some .int)) :: GT) ({ frames := 1, cells := 0, slots := 0, locals := 22 }) (mw_Pre G ad NF TF FF M L [.ref (ad 732), .int a1, .int a2]) (mw_Qi G ad NF TF FF (mw_eqI r0 M0 L0)) 0 0 (mw_fr G) := by
  refine mw_enter (by decide) (Nat.le_of_ble_eq_true rfl) ?_
  intro p e s m below meth c ls C hr hlocks hnm hw hl
  have hl : lv_has ls 4 [(0, .ref (ad 732)), (1, .int a1), (2, .int a2)] := hl
  have hb58 : ∀ (s0 : Int32) (M : mwM) (L : mwL) (H : Heap) (locs : List Loc) (ls : Array Slot), fX19_error_b58 fu a1 a2 s0 M L = some (r0, M0, L0) → mw_W G ad NF TF FF M L H locs → lv_has ls 4 [] → W p l e ({ frames := 1, cells := 0, slots := 0, locals := 22 }) s m [.ref (ad 732), .int a1, .int a2].toArray below meth c H locs 0 0 (MQ below (mw_Qi G ad NF TF FF (mw_eqI r0 M0 L0)) [.ref (ad 732), .int a1, .int a2].toArray s 0 0 (mw_fr G)) (F0 m 58 ls [.int s0]) := by
    intro s0 M L H locs ls hD hw hl
    unfold fX19_error_b58 at hD
    exact mr_iret C hr hlocks hw rfl (Option.some.inj hD) dX19_error_58
  have hb13 : ∀ (s1 : Int32) (M : mwM) (L : mwL) (H : Heap) (locs : List Loc) (ls : Array Slot), fX19_error_b13 fu a1 a2 s1 M L = some (r0, M0, L0) → mw_W G ad NF TF FF M L H locs → lv_has ls 4 [(0, .ref (ad 732)), (1, .int a1), (2, .int a2)] → W p l e ({ frames := 1, cells := 0, slots := 0, locals := 22 }) s m [.ref (ad 732), .int a1, .int a2].toArray below meth c H locs 0 0 (MQ below (mw_Qi G ad NF TF FF (mw_eqI r0 M0 L0)) [.ref (ad 732), .int a1, .int a2].toArray s 0 0 (mw_fr G)) (F0 m 13 ls [.int s1, .ref (ad 732)]) := by
    intro s1 M L H locs ls hD hw hl
    unfold fX19_error_b13 at hD
    obtain ⟨M1, eM1, hD⟩ := g_let hD
    refine mr_putI C hw kc_19 0 (by decide) tf_732 wd_2781 dX19_error_13 (by decide) rfl rfl rfl rfl (fun H locs hw => ?_)
    replace hw : mw_W G ad NF TF FF M1 L H locs := by rw [eM1]; exact hw
    refine lv_aload_n C.1.1 C.1.2.1 dX19_error_16 rfl (lv_at hl 0 rfl) ?_
    refine mr_getI C hw kc_19 0 (by decide) tf_732 wd_2781 dX19_error_17 (by decide) rfl ?_
    refine lv_if_le (tgt := 25) C.1.1 C.1.2.1 dX19_error_20 (by decide) (fun c2 => ?_) (fun c2 => ?_)
    · replace hD := g_pos c2 hD
      refine lv_aload_n C.1.1 C.1.2.1 dX19_error_25 rfl (lv_at hl 0 rfl) ?_
      refine mr_getR C hw kc_19 77 (by decide) tf_732 ff_732_77 wd_2858 dX19_error_26 (by decide) rfl ?_
      refine lv_iload_n C.1.1 C.1.2.1 dX19_error_29 rfl (lv_at hl 1 rfl) ?_
      refine lv_iload_n C.1.1 C.1.2.1 dX19_error_30 rfl (lv_at hl 2 rfl) ?_
      obtain ⟨r5, M3, L4, h1, hD⟩ := g_b3 hD
      refine md_cvI (As := [.int a1, .int a2]) (rest := []) C hw (tX12_error l G ad fu a1 a2 M1 L h1) kc_12 (by decide) tf_821 wd_4230 cwX12_error ⟨Nat.le_of_ble_eq_true rfl, Nat.le_of_ble_eq_true rfl⟩ rfl hl.1 (Nat.le_of_ble_eq_true rfl) dX19_error_31 rfl rfl ⟨Nat.zero_le _, Nat.zero_le _⟩ rfl (fun H locs hw => ?_)
      refine lv_istore_n (lv' := [(3, .int r5), (0, .ref (ad 732)), (1, .int a1), (2, .int a2)]) C.1.1 C.1.2.1 dX19_error_34 rfl hl (by decide) rfl (fun ls hl => ?_)
      refine lv_aload_n C.1.1 C.1.2.1 dX19_error_35 rfl (lv_at hl 1 rfl) ?_
      refine lv_aload_n C.1.1 C.1.2.1 dX19_error_36 rfl (lv_at hl 1 rfl) ?_
      refine mr_getR C hw kc_19 77 (by decide) tf_732 ff_732_77 wd_2858 dX19_error_37 (by decide) rfl ?_
      obtain ⟨r8, M6, L7, h1, hD⟩ := g_b3 hD
      refine md_cvI (As := []) (rest := [.ref (ad 732)]) C hw (tX12_thrown l G ad fu M3 L4 h1) kc_12 (by decide) tf_821 wd_3627 cwX12_thrown ⟨Nat.le_of_ble_eq_true rfl, Nat.le_of_ble_eq_true rfl⟩ rfl hl.1 (Nat.le_of_ble_eq_true rfl) dX19_error_40 rfl rfl ⟨Nat.zero_le _, Nat.zero_le _⟩ rfl (fun H locs hw => ?_)
      obtain ⟨M9, eM9, hD⟩ := g_let hD
      refine mr_putI C hw kc_19 0 (by decide) tf_732 wd_2781 dX19_error_43 (by decide) rfl rfl rfl rfl (fun H locs hw => ?_)
      replace hw : mw_W G ad NF TF FF M9 L7 H locs := by rw [eM9]; exact hw
      refine lv_aload_n C.1.1 C.1.2.1 dX19_error_46 rfl (lv_at hl 1 rfl) ?_
      refine mr_getI C hw kc_19 0 (by decide) tf_732 wd_2781 dX19_error_47 (by decide) rfl ?_
      refine lv_if_le (tgt := 57) C.1.1 C.1.2.1 dX19_error_50 (by decide) (fun c10 => ?_) (fun c10 => ?_)
      · replace hD := g_pos c10 hD
        refine lv_iload_n C.1.1 C.1.2.1 dX19_error_57 rfl (lv_at hl 0 rfl) ?_
        exact hb58 r5 M9 L7 _ _ ls hD hw (lv_sub hl [] rfl)
      · replace hD := g_neg c10 hD
        refine lv_iconst (v := 0) C.1.1 C.1.2.1 dX19_error_53 (by decide) ?_
        refine lv_goto (tgt := 58) C.1.1 C.1.2.1 dX19_error_54 (by decide) ?_
        exact hb58 0 M9 L7 _ _ ls hD hw (lv_sub hl [] rfl)
    · replace hD := g_neg c2 hD
      refine lv_iconst (v := 0) C.1.1 C.1.2.1 dX19_error_23 (by decide) ?_
      exact mr_iret C hr hlocks hw rfl (Option.some.inj hD) dX19_error_24
  unfold DX19_error at hD
  refine lv_aload_n C.1.1 C.1.2.1 dX19_error_0 rfl (lv_at hl 0 rfl) ?_
  refine lv_aload_n C.1.1 C.1.2.1 dX19_error_1 rfl (lv_at hl 0 rfl) ?_
  refine mr_getI C hw kc_19 4 (by decide) tf_732 wd_2785 dX19_error_2 (by decide) rfl ?_
  refine lv_if_eq (tgt := 12) C.1.1 C.1.2.1 dX19_error_5 (by decide) (fun c11 => ?_) (fun c11 => ?_)
  · replace hD := g_pos c11 hD
    refine lv_iconst (v := 1) C.1.1 C.1.2.1 dX19_error_12 (by decide) ?_
    exact hb13 1 M L _ _ ls hD hw (lv_sub hl [0, 1, 2] rfl)
  · replace hD := g_neg c11 hD
    refine lv_iconst (v := 0) C.1.1 C.1.2.1 dX19_error_8 (by decide) ?_
    refine lv_goto (tgt := 13) C.1.1 C.1.2.1 dX19_error_9 (by decide) ?_
    exact hb13 0 M L _ _ ls hD hw (lv_sub hl [0, 1, 2] rfl)

theorem dX19_flip_0 : decode cX19_flip 0 = .ok (.aload_n 0, 1) := by decide +kernel
theorem dX19_flip_1 : decode cX19_flip 1 = .ok (.aload_n 0, 1) := by decide +kernel
theorem dX19_flip_2 : decode cX19_flip 2 = .ok (.getfield 630, 3) := by decide +kernel
theorem dX19_flip_5 : decode cX19_flip 5 = .ok (.ifCond .eq 15, 3) := by decide +kernel
theorem dX19_flip_8 : decode cX19_flip 8 = .ok (.iload_n 1, 1) := by decide +kernel
theorem dX19_flip_9 : decode cX19_flip 9 = .ok (.ifCond .lt 11, 3) := by decide +kernel
theorem dX19_flip_12 : decode cX19_flip 12 = .ok (.iload_n 1, 1) := by decide +kernel
theorem dX19_flip_13 : decode cX19_flip 13 = .ok (.aload_n 0, 1) := by decide +kernel
theorem dX19_flip_14 : decode cX19_flip 14 = .ok (.getfield 435, 3) := by decide +kernel
theorem dX19_flip_17 : decode cX19_flip 17 = .ok (.if_icmp .le 7, 3) := by decide +kernel
theorem dX19_flip_20 : decode cX19_flip 20 = .ok (.iconst 1, 1) := by decide +kernel
theorem dX19_flip_21 : decode cX19_flip 21 = .ok (.goto 23, 3) := by decide +kernel
theorem dX19_flip_24 : decode cX19_flip 24 = .ok (.iload_n 2, 1) := by decide +kernel
theorem dX19_flip_25 : decode cX19_flip 25 = .ok (.aload_n 0, 1) := by decide +kernel
theorem dX19_flip_26 : decode cX19_flip 26 = .ok (.getfield 600, 3) := by decide +kernel
theorem dX19_flip_29 : decode cX19_flip 29 = .ok (.if_icmp .lt 10, 3) := by decide +kernel
theorem dX19_flip_32 : decode cX19_flip 32 = .ok (.iload_n 2, 1) := by decide +kernel
theorem dX19_flip_33 : decode cX19_flip 33 = .ok (.sipush 19999, 3) := by decide +kernel
theorem dX19_flip_36 : decode cX19_flip 36 = .ok (.if_icmp .le 7, 3) := by decide +kernel
theorem dX19_flip_39 : decode cX19_flip 39 = .ok (.iconst 2, 1) := by decide +kernel
theorem dX19_flip_40 : decode cX19_flip 40 = .ok (.goto 4, 3) := by decide +kernel
theorem dX19_flip_43 : decode cX19_flip 43 = .ok (.iconst 0, 1) := by decide +kernel
theorem dX19_flip_44 : decode cX19_flip 44 = .ok (.putfield 289, 3) := by decide +kernel
theorem dX19_flip_47 : decode cX19_flip 47 = .ok (.aload_n 0, 1) := by decide +kernel
theorem dX19_flip_48 : decode cX19_flip 48 = .ok (.getfield 289, 3) := by decide +kernel
theorem dX19_flip_51 : decode cX19_flip 51 = .ok (.ifCond .ne 12, 3) := by decide +kernel
theorem dX19_flip_54 : decode cX19_flip 54 = .ok (.aload_n 0, 1) := by decide +kernel
theorem dX19_flip_55 : decode cX19_flip 55 = .ok (.getfield 184, 3) := by decide +kernel
theorem dX19_flip_58 : decode cX19_flip 58 = .ok (.iload_n 1, 1) := by decide +kernel
theorem dX19_flip_59 : decode cX19_flip 59 = .ok (.iload_n 2, 1) := by decide +kernel
theorem dX19_flip_60 : decode cX19_flip 60 = .ok (.invokevirtual 822, 3) := by decide +kernel
theorem dX19_flip_63 : decode cX19_flip 63 = .ok (.return_, 1) := by decide +kernel
theorem cwX19_flip : mw_cwV yX19_flip cX19_flip 3 (none) 2 := ⟨⟨wd_13, wd_4237, by decide +kernel⟩, wd_4235, wd_4236⟩
noncomputable def fX19_flip_b63 (fu : Nat) (a1 : Int32) (a2 : Int32) (M : mwM) (L : mwL) : Option (mwM × mwL) :=
  some (M, L)
noncomputable def fX19_flip_b44 (fu : Nat) (a1 : Int32) (a2 : Int32) (s1 : Int32) (M : mwM) (L : mwL) : Option (mwM × mwL) :=
  mlet (mset M 732 0 s1) (fun M1 => (if (M1 732 0) = 0 then mb2 (DX12_flip fu a1 a2 M1 L) (fun M3 L4 => fX19_flip_b63 fu a1 a2 M3 L4) else fX19_flip_b63 fu a1 a2 M1 L))
noncomputable def fX19_flip_b20 (fu : Nat) (a1 : Int32) (a2 : Int32) (M : mwM) (L : mwL) : Option (mwM × mwL) :=
  fX19_flip_b44 fu a1 a2 1 M L
noncomputable def fX19_flip_b39 (fu : Nat) (a1 : Int32) (a2 : Int32) (M : mwM) (L : mwL) : Option (mwM × mwL) :=
  fX19_flip_b44 fu a1 a2 2 M L
noncomputable def DX19_flip (fu : Nat) (a1 : Int32) (a2 : Int32) (M : mwM) (L : mwL) : Option (mwM × mwL) :=
  (if (M 732 4) = 0 then fX19_flip_b20 fu a1 a2 M L else (if a1 < 0 then fX19_flip_b20 fu a1 a2 M L else (if a1 ≤ (M 732 19) then (if a2 < (M 732 83) then fX19_flip_b39 fu a1 a2 M L else (if a2 ≤ 19999 then fX19_flip_b44 fu a1 a2 0 M L else fX19_flip_b39 fu a1 a2 M L)) else fX19_flip_b20 fu a1 a2 M L)))
set_option maxHeartbeats 4000000 in
set_option maxRecDepth 100000 in
theorem tX19_flip (l : Launch) (G : mwG) (ad : Nat → Nat) (fu : Nat) (a1 : Int32) (a2 : Int32) (M : mwM) (L : mwL) {M0 : mwM} {L0 : mwL} (hD : DX19_flip fu a1 a2 M L = some (M0, L0)) : Met l yX19_flip (Cond.code yX19_flip cX19_flip 3 (none) :: GT) ({ frames := 2, cells := 0, slots := 0, locals := 43 }) (mw_Pre G ad NF TF FF M L [.ref (ad 732), .int a1, .int a2]) (mw_Qv G ad NF TF FF (mw_eqV M0 L0)) 0 0 (mw_fr G) := by
  refine mw_enter (by decide) (Nat.le_of_ble_eq_true rfl) ?_
  intro p e s m below meth c ls C hr hlocks hnm hw hl
  have hl : lv_has ls 3 [(0, .ref (ad 732)), (1, .int a1), (2, .int a2)] := hl
  have hb63 : ∀ (M : mwM) (L : mwL) (H : Heap) (locs : List Loc) (ls : Array Slot), fX19_flip_b63 fu a1 a2 M L = some (M0, L0) → mw_W G ad NF TF FF M L H locs → lv_has ls 3 [] → W p l e ({ frames := 2, cells := 0, slots := 0, locals := 43 }) s m [.ref (ad 732), .int a1, .int a2].toArray below meth c H locs 0 0 (MQ below (mw_Qv G ad NF TF FF (mw_eqV M0 L0)) [.ref (ad 732), .int a1, .int a2].toArray s 0 0 (mw_fr G)) (F0 m 63 ls []) := by
    intro M L H locs ls hD hw hl
    unfold fX19_flip_b63 at hD
    exact mr_vret C hr hlocks hw (Option.some.inj hD) dX19_flip_63
  have hb44 : ∀ (s1 : Int32) (M : mwM) (L : mwL) (H : Heap) (locs : List Loc) (ls : Array Slot), fX19_flip_b44 fu a1 a2 s1 M L = some (M0, L0) → mw_W G ad NF TF FF M L H locs → lv_has ls 3 [(0, .ref (ad 732)), (1, .int a1), (2, .int a2)] → W p l e ({ frames := 2, cells := 0, slots := 0, locals := 43 }) s m [.ref (ad 732), .int a1, .int a2].toArray below meth c H locs 0 0 (MQ below (mw_Qv G ad NF TF FF (mw_eqV M0 L0)) [.ref (ad 732), .int a1, .int a2].toArray s 0 0 (mw_fr G)) (F0 m 44 ls [.int s1, .ref (ad 732)]) := by
    intro s1 M L H locs ls hD hw hl
    unfold fX19_flip_b44 at hD
    obtain ⟨M1, eM1, hD⟩ := g_let hD
    refine mr_putI C hw kc_19 0 (by decide) tf_732 wd_2781 dX19_flip_44 (by decide) rfl rfl rfl rfl (fun H locs hw => ?_)
    replace hw : mw_W G ad NF TF FF M1 L H locs := by rw [eM1]; exact hw
    refine lv_aload_n C.1.1 C.1.2.1 dX19_flip_47 rfl (lv_at hl 0 rfl) ?_
    refine mr_getI C hw kc_19 0 (by decide) tf_732 wd_2781 dX19_flip_48 (by decide) rfl ?_
    refine lv_if_ne (tgt := 63) C.1.1 C.1.2.1 dX19_flip_51 (by decide) (fun c2 => ?_) (fun c2 => ?_)
    · replace hD := g_neg c2 hD
      exact hb63 M1 L _ _ ls hD hw (lv_sub hl [] rfl)
    · replace hD := g_pos c2 hD
      refine lv_aload_n C.1.1 C.1.2.1 dX19_flip_54 rfl (lv_at hl 0 rfl) ?_
      refine mr_getR C hw kc_19 77 (by decide) tf_732 ff_732_77 wd_2858 dX19_flip_55 (by decide) rfl ?_
      refine lv_iload_n C.1.1 C.1.2.1 dX19_flip_58 rfl (lv_at hl 1 rfl) ?_
      refine lv_iload_n C.1.1 C.1.2.1 dX19_flip_59 rfl (lv_at hl 2 rfl) ?_
      obtain ⟨M3, L4, h1, hD⟩ := g_b2 hD
      refine md_cvV (As := [.int a1, .int a2]) (rest := []) C hw (tX12_flip l G ad fu a1 a2 M1 L h1) kc_12 (by decide) tf_821 wd_4238 cwX12_flip ⟨Nat.le_of_ble_eq_true rfl, Nat.le_of_ble_eq_true rfl⟩ rfl hl.1 (Nat.le_of_ble_eq_true rfl) dX19_flip_60 rfl rfl ⟨Nat.zero_le _, Nat.zero_le _⟩ rfl (fun H locs hw => ?_)
      exact hb63 M3 L4 _ _ ls hD hw (lv_sub hl [] rfl)
  have hb20 : ∀ (M : mwM) (L : mwL) (H : Heap) (locs : List Loc) (ls : Array Slot), fX19_flip_b20 fu a1 a2 M L = some (M0, L0) → mw_W G ad NF TF FF M L H locs → lv_has ls 3 [(0, .ref (ad 732)), (1, .int a1), (2, .int a2)] → W p l e ({ frames := 2, cells := 0, slots := 0, locals := 43 }) s m [.ref (ad 732), .int a1, .int a2].toArray below meth c H locs 0 0 (MQ below (mw_Qv G ad NF TF FF (mw_eqV M0 L0)) [.ref (ad 732), .int a1, .int a2].toArray s 0 0 (mw_fr G)) (F0 m 20 ls [.ref (ad 732)]) := by
    intro M L H locs ls hD hw hl
    unfold fX19_flip_b20 at hD
    refine lv_iconst (v := 1) C.1.1 C.1.2.1 dX19_flip_20 (by decide) ?_
    refine lv_goto (tgt := 44) C.1.1 C.1.2.1 dX19_flip_21 (by decide) ?_
    exact hb44 1 M L _ _ ls hD hw (lv_sub hl [0, 1, 2] rfl)
  have hb39 : ∀ (M : mwM) (L : mwL) (H : Heap) (locs : List Loc) (ls : Array Slot), fX19_flip_b39 fu a1 a2 M L = some (M0, L0) → mw_W G ad NF TF FF M L H locs → lv_has ls 3 [(0, .ref (ad 732)), (1, .int a1), (2, .int a2)] → W p l e ({ frames := 2, cells := 0, slots := 0, locals := 43 }) s m [.ref (ad 732), .int a1, .int a2].toArray below meth c H locs 0 0 (MQ below (mw_Qv G ad NF TF FF (mw_eqV M0 L0)) [.ref (ad 732), .int a1, .int a2].toArray s 0 0 (mw_fr G)) (F0 m 39 ls [.ref (ad 732)]) := by
    intro M L H locs ls hD hw hl
    unfold fX19_flip_b39 at hD
    refine lv_iconst (v := 2) C.1.1 C.1.2.1 dX19_flip_39 (by decide) ?_
    refine lv_goto (tgt := 44) C.1.1 C.1.2.1 dX19_flip_40 (by decide) ?_
    exact hb44 2 M L _ _ ls hD hw (lv_sub hl [0, 1, 2] rfl)
  unfold DX19_flip at hD
  refine lv_aload_n C.1.1 C.1.2.1 dX19_flip_0 rfl (lv_at hl 0 rfl) ?_
  refine lv_aload_n C.1.1 C.1.2.1 dX19_flip_1 rfl (lv_at hl 0 rfl) ?_
  refine mr_getI C hw kc_19 4 (by decide) tf_732 wd_2785 dX19_flip_2 (by decide) rfl ?_
  refine lv_if_eq (tgt := 20) C.1.1 C.1.2.1 dX19_flip_5 (by decide) (fun c5 => ?_) (fun c5 => ?_)
  · replace hD := g_pos c5 hD
    exact hb20 M L _ _ ls hD hw (lv_sub hl [0, 1, 2] rfl)
  · replace hD := g_neg c5 hD
    refine lv_iload_n C.1.1 C.1.2.1 dX19_flip_8 rfl (lv_at hl 1 rfl) ?_
    refine lv_if_lt (tgt := 20) C.1.1 C.1.2.1 dX19_flip_9 (by decide) (fun c6 => ?_) (fun c6 => ?_)
    · replace hD := g_pos c6 hD
      exact hb20 M L _ _ ls hD hw (lv_sub hl [0, 1, 2] rfl)
    · replace hD := g_neg c6 hD
      refine lv_iload_n C.1.1 C.1.2.1 dX19_flip_12 rfl (lv_at hl 1 rfl) ?_
      refine lv_aload_n C.1.1 C.1.2.1 dX19_flip_13 rfl (lv_at hl 0 rfl) ?_
      refine mr_getI C hw kc_19 19 (by decide) tf_732 wd_2800 dX19_flip_14 (by decide) rfl ?_
      refine lv_icmp_le (tgt := 24) C.1.1 C.1.2.1 dX19_flip_17 (by decide) (fun c7 => ?_) (fun c7 => ?_)
      · replace hD := g_pos c7 hD
        refine lv_iload_n C.1.1 C.1.2.1 dX19_flip_24 rfl (lv_at hl 2 rfl) ?_
        refine lv_aload_n C.1.1 C.1.2.1 dX19_flip_25 rfl (lv_at hl 0 rfl) ?_
        refine mr_getI C hw kc_19 83 (by decide) tf_732 wd_2864 dX19_flip_26 (by decide) rfl ?_
        refine lv_icmp_lt (tgt := 39) C.1.1 C.1.2.1 dX19_flip_29 (by decide) (fun c8 => ?_) (fun c8 => ?_)
        · replace hD := g_pos c8 hD
          exact hb39 M L _ _ ls hD hw (lv_sub hl [0, 1, 2] rfl)
        · replace hD := g_neg c8 hD
          refine lv_iload_n C.1.1 C.1.2.1 dX19_flip_32 rfl (lv_at hl 2 rfl) ?_
          refine lv_sipush (v := 19999) C.1.1 C.1.2.1 dX19_flip_33 (by decide) ?_
          refine lv_icmp_le (tgt := 43) C.1.1 C.1.2.1 dX19_flip_36 (by decide) (fun c9 => ?_) (fun c9 => ?_)
          · replace hD := g_pos c9 hD
            refine lv_iconst (v := 0) C.1.1 C.1.2.1 dX19_flip_43 (by decide) ?_
            exact hb44 0 M L _ _ ls hD hw (lv_sub hl [0, 1, 2] rfl)
          · replace hD := g_neg c9 hD
            exact hb39 M L _ _ ls hD hw (lv_sub hl [0, 1, 2] rfl)
      · replace hD := g_neg c7 hD
        exact hb20 M L _ _ ls hD hw (lv_sub hl [0, 1, 2] rfl)

theorem dX19_noController_0 : decode cX19_noController 0 = .ok (.aload_n 0, 1) := by decide +kernel
theorem dX19_noController_1 : decode cX19_noController 1 = .ok (.getfield 630, 3) := by decide +kernel
theorem dX19_noController_4 : decode cX19_noController 4 = .ok (.ifCond .eq 15, 3) := by decide +kernel
theorem dX19_noController_7 : decode cX19_noController 7 = .ok (.iload_n 1, 1) := by decide +kernel
theorem dX19_noController_8 : decode cX19_noController 8 = .ok (.ifCond .lt 11, 3) := by decide +kernel
theorem dX19_noController_11 : decode cX19_noController 11 = .ok (.iload_n 1, 1) := by decide +kernel
theorem dX19_noController_12 : decode cX19_noController 12 = .ok (.aload_n 0, 1) := by decide +kernel
theorem dX19_noController_13 : decode cX19_noController 13 = .ok (.getfield 435, 3) := by decide +kernel
theorem dX19_noController_16 : decode cX19_noController 16 = .ok (.if_icmp .lt 7, 3) := by decide +kernel
theorem dX19_noController_19 : decode cX19_noController 19 = .ok (.iconst 1, 1) := by decide +kernel
theorem dX19_noController_20 : decode cX19_noController 20 = .ok (.goto 4, 3) := by decide +kernel
theorem dX19_noController_23 : decode cX19_noController 23 = .ok (.iconst 0, 1) := by decide +kernel
theorem dX19_noController_24 : decode cX19_noController 24 = .ok (.ireturn, 1) := by decide +kernel
theorem cwX19_noController : mw_cwV yX19_noController cX19_noController 2 ((some .boolean)) 1 := ⟨⟨wd_13, wd_4249, by decide +kernel⟩, wd_4248, sl_340⟩
noncomputable def fX19_noController_b24 (fu : Nat) (a1 : Int32) (s0 : Int32) (M : mwM) (L : mwL) : Option (Int32 × mwM × mwL) :=
  mzz s0 (some (s0, M, L))
noncomputable def fX19_noController_b19 (fu : Nat) (a1 : Int32) (M : mwM) (L : mwL) : Option (Int32 × mwM × mwL) :=
  fX19_noController_b24 fu a1 1 M L
noncomputable def DX19_noController (fu : Nat) (a1 : Int32) (M : mwM) (L : mwL) : Option (Int32 × mwM × mwL) :=
  (if (M 732 4) = 0 then fX19_noController_b19 fu a1 M L else (if a1 < 0 then fX19_noController_b19 fu a1 M L else (if a1 < (M 732 19) then fX19_noController_b24 fu a1 0 M L else fX19_noController_b19 fu a1 M L)))
set_option maxHeartbeats 4000000 in
set_option maxRecDepth 100000 in
theorem tX19_noController (l : Launch) (G : mwG) (ad : Nat → Nat) (fu : Nat) (a1 : Int32) (M : mwM) (L : mwL) {r0 : Int32} {M0 : mwM} {L0 : mwL} (hD : DX19_noController fu a1 M L = some (r0, M0, L0)) : Met l yX19_noController (Cond.code yX19_noController cX19_noController 2 ((some .boolean)) :: GT) ({ frames := 0, cells := 0, slots := 0, locals := 0 }) (mw_Pre G ad NF TF FF M L [.ref (ad 732), .int a1]) (mw_Qi G ad NF TF FF (mw_eqI r0 M0 L0)) 0 0 (mw_fr G) := by
  refine mw_enter (by decide) (Nat.le_of_ble_eq_true rfl) ?_
  intro p e s m below meth c ls C hr hlocks hnm hw hl
  have hl : lv_has ls 2 [(0, .ref (ad 732)), (1, .int a1)] := hl
  have hb24 : ∀ (s0 : Int32) (M : mwM) (L : mwL) (H : Heap) (locs : List Loc) (ls : Array Slot), fX19_noController_b24 fu a1 s0 M L = some (r0, M0, L0) → mw_W G ad NF TF FF M L H locs → lv_has ls 2 [] → W p l e ({ frames := 0, cells := 0, slots := 0, locals := 0 }) s m [.ref (ad 732), .int a1].toArray below meth c H locs 0 0 (MQ below (mw_Qi G ad NF TF FF (mw_eqI r0 M0 L0)) [.ref (ad 732), .int a1].toArray s 0 0 (mw_fr G)) (F0 m 24 ls [.int s0]) := by
    intro s0 M L H locs ls hD hw hl
    unfold fX19_noController_b24 at hD
    obtain ⟨z1, hD⟩ := g_zz hD
    exact mr_iret C hr hlocks hw (nz_zz z1) (Option.some.inj hD) dX19_noController_24
  have hb19 : ∀ (M : mwM) (L : mwL) (H : Heap) (locs : List Loc) (ls : Array Slot), fX19_noController_b19 fu a1 M L = some (r0, M0, L0) → mw_W G ad NF TF FF M L H locs → lv_has ls 2 [] → W p l e ({ frames := 0, cells := 0, slots := 0, locals := 0 }) s m [.ref (ad 732), .int a1].toArray below meth c H locs 0 0 (MQ below (mw_Qi G ad NF TF FF (mw_eqI r0 M0 L0)) [.ref (ad 732), .int a1].toArray s 0 0 (mw_fr G)) (F0 m 19 ls []) := by
    intro M L H locs ls hD hw hl
    unfold fX19_noController_b19 at hD
    refine lv_iconst (v := 1) C.1.1 C.1.2.1 dX19_noController_19 (by decide) ?_
    refine lv_goto (tgt := 24) C.1.1 C.1.2.1 dX19_noController_20 (by decide) ?_
    exact hb24 1 M L _ _ ls hD hw (lv_sub hl [] rfl)
  unfold DX19_noController at hD
  refine lv_aload_n C.1.1 C.1.2.1 dX19_noController_0 rfl (lv_at hl 0 rfl) ?_
  refine mr_getI C hw kc_19 4 (by decide) tf_732 wd_2785 dX19_noController_1 (by decide) rfl ?_
  refine lv_if_eq (tgt := 19) C.1.1 C.1.2.1 dX19_noController_4 (by decide) (fun c2 => ?_) (fun c2 => ?_)
  · replace hD := g_pos c2 hD
    exact hb19 M L _ _ ls hD hw (lv_sub hl [] rfl)
  · replace hD := g_neg c2 hD
    refine lv_iload_n C.1.1 C.1.2.1 dX19_noController_7 rfl (lv_at hl 1 rfl) ?_
    refine lv_if_lt (tgt := 19) C.1.1 C.1.2.1 dX19_noController_8 (by decide) (fun c3 => ?_) (fun c3 => ?_)
    · replace hD := g_pos c3 hD
      exact hb19 M L _ _ ls hD hw (lv_sub hl [] rfl)
    · replace hD := g_neg c3 hD
      refine lv_iload_n C.1.1 C.1.2.1 dX19_noController_11 rfl (lv_at hl 1 rfl) ?_
      refine lv_aload_n C.1.1 C.1.2.1 dX19_noController_12 rfl (lv_at hl 0 rfl) ?_
      refine mr_getI C hw kc_19 19 (by decide) tf_732 wd_2800 dX19_noController_13 (by decide) rfl ?_
      refine lv_icmp_lt (tgt := 23) C.1.1 C.1.2.1 dX19_noController_16 (by decide) (fun c4 => ?_) (fun c4 => ?_)
      · replace hD := g_pos c4 hD
        refine lv_iconst (v := 0) C.1.1 C.1.2.1 dX19_noController_23 (by decide) ?_
        exact hb24 0 M L _ _ ls hD hw (lv_sub hl [] rfl)
      · replace hD := g_neg c4 hD
        exact hb19 M L _ _ ls hD hw (lv_sub hl [] rfl)

theorem dX19_silence_0 : decode cX19_silence 0 = .ok (.aload_n 0, 1) := by decide +kernel
theorem dX19_silence_1 : decode cX19_silence 1 = .ok (.aload_n 0, 1) := by decide +kernel
theorem dX19_silence_2 : decode cX19_silence 2 = .ok (.iload_n 1, 1) := by decide +kernel
theorem dX19_silence_3 : decode cX19_silence 3 = .ok (.invokevirtual 825, 3) := by decide +kernel
theorem dX19_silence_6 : decode cX19_silence 6 = .ok (.ifCond .eq 7, 3) := by decide +kernel
theorem dX19_silence_9 : decode cX19_silence 9 = .ok (.iconst 1, 1) := by decide +kernel
theorem dX19_silence_10 : decode cX19_silence 10 = .ok (.goto 4, 3) := by decide +kernel
theorem dX19_silence_13 : decode cX19_silence 13 = .ok (.iconst 0, 1) := by decide +kernel
theorem dX19_silence_14 : decode cX19_silence 14 = .ok (.putfield 289, 3) := by decide +kernel
theorem dX19_silence_17 : decode cX19_silence 17 = .ok (.aload_n 0, 1) := by decide +kernel
theorem dX19_silence_18 : decode cX19_silence 18 = .ok (.getfield 289, 3) := by decide +kernel
theorem dX19_silence_21 : decode cX19_silence 21 = .ok (.ifCond .le 5, 3) := by decide +kernel
theorem dX19_silence_24 : decode cX19_silence 24 = .ok (.iconst 0, 1) := by decide +kernel
theorem dX19_silence_25 : decode cX19_silence 25 = .ok (.ireturn, 1) := by decide +kernel
theorem dX19_silence_26 : decode cX19_silence 26 = .ok (.aload_n 0, 1) := by decide +kernel
theorem dX19_silence_27 : decode cX19_silence 27 = .ok (.getfield 221, 3) := by decide +kernel
theorem dX19_silence_30 : decode cX19_silence 30 = .ok (.iload_n 1, 1) := by decide +kernel
theorem dX19_silence_31 : decode cX19_silence 31 = .ok (.iload_n 2, 1) := by decide +kernel
theorem dX19_silence_32 : decode cX19_silence 32 = .ok (.bastore, 1) := by decide +kernel
theorem dX19_silence_33 : decode cX19_silence 33 = .ok (.iconst 0, 1) := by decide +kernel
theorem dX19_silence_34 : decode cX19_silence 34 = .ok (.istore_n 3, 1) := by decide +kernel
theorem dX19_silence_35 : decode cX19_silence 35 = .ok (.iconst 0, 1) := by decide +kernel
theorem dX19_silence_36 : decode cX19_silence 36 = .ok (.istore 4, 2) := by decide +kernel
theorem dX19_silence_38 : decode cX19_silence 38 = .ok (.iload 4, 2) := by decide +kernel
theorem dX19_silence_40 : decode cX19_silence 40 = .ok (.bipush 6, 2) := by decide +kernel
theorem dX19_silence_42 : decode cX19_silence 42 = .ok (.if_icmp .ge 27, 3) := by decide +kernel
theorem dX19_silence_45 : decode cX19_silence 45 = .ok (.aload_n 0, 1) := by decide +kernel
theorem dX19_silence_46 : decode cX19_silence 46 = .ok (.getfield 221, 3) := by decide +kernel
theorem dX19_silence_49 : decode cX19_silence 49 = .ok (.iload 4, 2) := by decide +kernel
theorem dX19_silence_51 : decode cX19_silence 51 = .ok (.baload, 1) := by decide +kernel
theorem dX19_silence_52 : decode cX19_silence 52 = .ok (.ifCond .eq 9, 3) := by decide +kernel
theorem dX19_silence_55 : decode cX19_silence 55 = .ok (.iload_n 3, 1) := by decide +kernel
theorem dX19_silence_56 : decode cX19_silence 56 = .ok (.iconst 1, 1) := by decide +kernel
theorem dX19_silence_57 : decode cX19_silence 57 = .ok (.iadd, 1) := by decide +kernel
theorem dX19_silence_58 : decode cX19_silence 58 = .ok (.goto 4, 3) := by decide +kernel
theorem dX19_silence_61 : decode cX19_silence 61 = .ok (.iload_n 3, 1) := by decide +kernel
theorem dX19_silence_62 : decode cX19_silence 62 = .ok (.istore_n 3, 1) := by decide +kernel
theorem dX19_silence_63 : decode cX19_silence 63 = .ok (.iinc 4 1, 3) := by decide +kernel
theorem dX19_silence_66 : decode cX19_silence 66 = .ok (.goto (-28), 3) := by decide +kernel
theorem dX19_silence_69 : decode cX19_silence 69 = .ok (.iload_n 3, 1) := by decide +kernel
theorem dX19_silence_70 : decode cX19_silence 70 = .ok (.ireturn, 1) := by decide +kernel
theorem cwX19_silence : mw_cwV yX19_silence cX19_silence 5 ((some .int)) 2 := ⟨⟨wd_13, wd_4245, by decide +kernel⟩, wd_4243, wd_4244⟩
noncomputable def fX19_silence_b62 (fu : Nat) (a1 : Int32) (a2 : Int32) (r38 : (Int32 × Int32 × mwM × mwL) → Option (Int32 × mwM × mwL)) (v4 : Int32) (s0 : Int32) (M : mwM) (L : mwL) : Option (Int32 × mwM × mwL) :=
  mlet (v4 + 1) (fun x8 => r38 (s0, x8, M, L))
noncomputable def fX19_silence_i38 (fu : Nat) (a1 : Int32) (a2 : Int32) (r38 : (Int32 × Int32 × mwM × mwL) → Option (Int32 × mwM × mwL)) (v3 : Int32) (v4 : Int32) (M : mwM) (L : mwL) : Option (Int32 × mwM × mwL) :=
  (if 6 ≤ v4 then some (v3, M, L) else mck v4 6 ((if (M 923 v4.toNatClampNeg) = 0 then fX19_silence_b62 fu a1 a2 r38 v4 v3 M L else fX19_silence_b62 fu a1 a2 r38 v4 (v3 + 1) M L)))
noncomputable def fX19_silence_h38 (fu : Nat) (a1 : Int32) (a2 : Int32) : Nat → (Int32 × Int32 × mwM × mwL) → Option (Int32 × mwM × mwL) := mloop (fun r38 s => fX19_silence_i38 fu a1 a2 r38 s.1 s.2.1 s.2.2.1 s.2.2.2)
noncomputable def fX19_silence_b14 (fu : Nat) (a1 : Int32) (a2 : Int32) (s1 : Int32) (M : mwM) (L : mwL) : Option (Int32 × mwM × mwL) :=
  mlet (mset M 732 0 s1) (fun M1 => (if (M1 732 0) ≤ 0 then mck a1 6 (mlet (mset M1 923 (a1.toNatClampNeg) (vp_nar .boolean a2)) (fun M4 => fX19_silence_h38 fu a1 a2 fu (0, 0, M4, L))) else some (0, M1, L)))
noncomputable def DX19_silence (fu : Nat) (a1 : Int32) (a2 : Int32) (M : mwM) (L : mwL) : Option (Int32 × mwM × mwL) :=
  mb3 (DX19_noController fu a1 M L) (fun r11 M9 L10 => (if r11 = 0 then fX19_silence_b14 fu a1 a2 0 M9 L10 else fX19_silence_b14 fu a1 a2 1 M9 L10))
set_option maxHeartbeats 4000000 in
set_option maxRecDepth 100000 in
theorem tX19_silence (l : Launch) (G : mwG) (ad : Nat → Nat) (fu : Nat) (a1 : Int32) (a2 : Int32) (M : mwM) (L : mwL) {r0 : Int32} {M0 : mwM} {L0 : mwL} (hD : DX19_silence fu a1 a2 M L = some (r0, M0, L0)) : Met l yX19_silence (Cond.code yX19_silence cX19_silence 5 ((some .int)) :: GT) ({ frames := 1, cells := 0, slots := 0, locals := 21 }) (mw_Pre G ad NF TF FF M L [.ref (ad 732), .int a1, .int a2]) (mw_Qi G ad NF TF FF (mw_eqI r0 M0 L0)) 0 0 (mw_fr G) := by
  refine mw_enter (by decide) (Nat.le_of_ble_eq_true rfl) ?_
  intro p e s m below meth c ls C hr hlocks hnm hw hl
  have hl : lv_has ls 5 [(0, .ref (ad 732)), (1, .int a1), (2, .int a2)] := hl
  have hh38 : ∀ (f : Nat) (v3 : Int32) (v4 : Int32) (M : mwM) (L : mwL) (H : Heap) (locs : List Loc) (ls : Array Slot), fX19_silence_h38 fu a1 a2 f (v3, v4, M, L) = some (r0, M0, L0) → mw_W G ad NF TF FF M L H locs → lv_has ls 5 [(0, .ref (ad 732)), (3, .int v3), (4, .int v4)] → W p l e ({ frames := 1, cells := 0, slots := 0, locals := 21 }) s m [.ref (ad 732), .int a1, .int a2].toArray below meth c H locs 0 0 (MQ below (mw_Qi G ad NF TF FF (mw_eqI r0 M0 L0)) [.ref (ad 732), .int a1, .int a2].toArray s 0 0 (mw_fr G)) (F0 m 38 ls []) := by
    intro f
    induction f with
    | zero => intro v3 v4 M L H locs ls hD; cases hD
    | succ f38 ih38 =>
      intro v3 v4 M L H locs ls hD hw hl
      replace hD : fX19_silence_i38 fu a1 a2 (fX19_silence_h38 fu a1 a2 f38) v3 v4 M L = some (r0, M0, L0) := hD
      have hb62 : ∀ (v4 : Int32) (s0 : Int32) (M : mwM) (L : mwL) (H : Heap) (locs : List Loc) (ls : Array Slot), fX19_silence_b62 fu a1 a2 (fX19_silence_h38 fu a1 a2 f38) v4 s0 M L = some (r0, M0, L0) → mw_W G ad NF TF FF M L H locs → lv_has ls 5 [(0, .ref (ad 732)), (4, .int v4)] → W p l e ({ frames := 1, cells := 0, slots := 0, locals := 21 }) s m [.ref (ad 732), .int a1, .int a2].toArray below meth c H locs 0 0 (MQ below (mw_Qi G ad NF TF FF (mw_eqI r0 M0 L0)) [.ref (ad 732), .int a1, .int a2].toArray s 0 0 (mw_fr G)) (F0 m 62 ls [.int s0]) := by
        intro v4 s0 M L H locs ls hD hw hl
        unfold fX19_silence_b62 at hD
        refine lv_istore_n (lv' := [(3, .int s0), (0, .ref (ad 732)), (4, .int v4)]) C.1.1 C.1.2.1 dX19_silence_62 rfl hl (by decide) rfl (fun ls hl => ?_)
        obtain ⟨x8, ex8, hD⟩ := g_let hD
        refine lv_iinc (v := x8) (lv' := [(4, .int x8), (3, .int s0), (0, .ref (ad 732))]) C.1.1 C.1.2.1 dX19_silence_63 hl (k := 2) rfl (by rw [ex8]; rfl) (by decide) rfl (fun ls hl => ?_)
        refine lv_goto (tgt := 38) C.1.1 C.1.2.1 dX19_silence_66 (by decide) ?_
        exact ih38 s0 x8 M L _ _ ls hD hw (lv_sub hl [2, 1, 0] rfl)
      unfold fX19_silence_i38 at hD
      refine lv_iload C.1.1 C.1.2.1 dX19_silence_38 (lv_at hl 2 rfl) ?_
      refine lv_bipush (v := 6) C.1.1 C.1.2.1 dX19_silence_40 (by decide) ?_
      refine lv_icmp_ge (tgt := 69) C.1.1 C.1.2.1 dX19_silence_42 (by decide) (fun c5 => ?_) (fun c5 => ?_)
      · replace hD := g_pos c5 hD
        refine lv_iload_n C.1.1 C.1.2.1 dX19_silence_69 rfl (lv_at hl 1 rfl) ?_
        exact mr_iret C hr hlocks hw rfl (Option.some.inj hD) dX19_silence_70
      · replace hD := g_neg c5 hD
        refine lv_aload_n C.1.1 C.1.2.1 dX19_silence_45 rfl (lv_at hl 0 rfl) ?_
        refine mr_getR C hw kc_19 84 (by decide) tf_732 ff_732_84 wd_2865 dX19_silence_46 (by decide) rfl ?_
        refine lv_iload C.1.1 C.1.2.1 dX19_silence_49 (lv_at hl 2 rfl) ?_
        obtain ⟨q6, hD⟩ := g_ck hD
        refine mr_zald C hw (by decide) tf_923 q6 dX19_silence_51 ?_
        refine lv_if_eq (tgt := 61) C.1.1 C.1.2.1 dX19_silence_52 (by decide) (fun c7 => ?_) (fun c7 => ?_)
        · replace hD := g_pos c7 hD
          refine lv_iload_n C.1.1 C.1.2.1 dX19_silence_61 rfl (lv_at hl 1 rfl) ?_
          exact hb62 v4 v3 M L _ _ ls hD hw (lv_sub hl [0, 2] rfl)
        · replace hD := g_neg c7 hD
          refine lv_iload_n C.1.1 C.1.2.1 dX19_silence_55 rfl (lv_at hl 1 rfl) ?_
          refine lv_iconst (v := 1) C.1.1 C.1.2.1 dX19_silence_56 (by decide) ?_
          refine lv_iadd C.1.1 C.1.2.1 dX19_silence_57 ?_
          refine lv_goto (tgt := 62) C.1.1 C.1.2.1 dX19_silence_58 (by decide) ?_
          exact hb62 v4 (v3 + 1) M L _ _ ls hD hw (lv_sub hl [0, 2] rfl)
  have hb14 : ∀ (s1 : Int32) (M : mwM) (L : mwL) (H : Heap) (locs : List Loc) (ls : Array Slot), fX19_silence_b14 fu a1 a2 s1 M L = some (r0, M0, L0) → mw_W G ad NF TF FF M L H locs → lv_has ls 5 [(0, .ref (ad 732)), (1, .int a1), (2, .int a2)] → W p l e ({ frames := 1, cells := 0, slots := 0, locals := 21 }) s m [.ref (ad 732), .int a1, .int a2].toArray below meth c H locs 0 0 (MQ below (mw_Qi G ad NF TF FF (mw_eqI r0 M0 L0)) [.ref (ad 732), .int a1, .int a2].toArray s 0 0 (mw_fr G)) (F0 m 14 ls [.int s1, .ref (ad 732)]) := by
    intro s1 M L H locs ls hD hw hl
    unfold fX19_silence_b14 at hD
    obtain ⟨M1, eM1, hD⟩ := g_let hD
    refine mr_putI C hw kc_19 0 (by decide) tf_732 wd_2781 dX19_silence_14 (by decide) rfl rfl rfl rfl (fun H locs hw => ?_)
    replace hw : mw_W G ad NF TF FF M1 L H locs := by rw [eM1]; exact hw
    refine lv_aload_n C.1.1 C.1.2.1 dX19_silence_17 rfl (lv_at hl 0 rfl) ?_
    refine mr_getI C hw kc_19 0 (by decide) tf_732 wd_2781 dX19_silence_18 (by decide) rfl ?_
    refine lv_if_le (tgt := 26) C.1.1 C.1.2.1 dX19_silence_21 (by decide) (fun c2 => ?_) (fun c2 => ?_)
    · replace hD := g_pos c2 hD
      refine lv_aload_n C.1.1 C.1.2.1 dX19_silence_26 rfl (lv_at hl 0 rfl) ?_
      refine mr_getR C hw kc_19 84 (by decide) tf_732 ff_732_84 wd_2865 dX19_silence_27 (by decide) rfl ?_
      refine lv_iload_n C.1.1 C.1.2.1 dX19_silence_30 rfl (lv_at hl 1 rfl) ?_
      refine lv_iload_n C.1.1 C.1.2.1 dX19_silence_31 rfl (lv_at hl 2 rfl) ?_
      obtain ⟨q3, hD⟩ := g_ck hD
      obtain ⟨M4, eM4, hD⟩ := g_let hD
      refine mr_zast C hw (by decide) tf_923 q3 dX19_silence_32 (fun H locs hw => ?_)
      replace hw : mw_W G ad NF TF FF M4 L H locs := by rw [eM4]; exact hw
      refine lv_iconst (v := 0) C.1.1 C.1.2.1 dX19_silence_33 (by decide) ?_
      refine lv_istore_n (lv' := [(3, .int 0), (0, .ref (ad 732)), (1, .int a1), (2, .int a2)]) C.1.1 C.1.2.1 dX19_silence_34 rfl hl (by decide) rfl (fun ls hl => ?_)
      refine lv_iconst (v := 0) C.1.1 C.1.2.1 dX19_silence_35 (by decide) ?_
      refine lv_istore (lv' := [(4, .int 0), (3, .int 0), (0, .ref (ad 732)), (1, .int a1), (2, .int a2)]) C.1.1 C.1.2.1 dX19_silence_36 hl (by decide) rfl (fun ls hl => ?_)
      exact hh38 fu 0 0 M4 L _ _ ls hD hw (lv_sub hl [2, 1, 0] rfl)
    · replace hD := g_neg c2 hD
      refine lv_iconst (v := 0) C.1.1 C.1.2.1 dX19_silence_24 (by decide) ?_
      exact mr_iret C hr hlocks hw rfl (Option.some.inj hD) dX19_silence_25
  unfold DX19_silence at hD
  refine lv_aload_n C.1.1 C.1.2.1 dX19_silence_0 rfl (lv_at hl 0 rfl) ?_
  refine lv_aload_n C.1.1 C.1.2.1 dX19_silence_1 rfl (lv_at hl 0 rfl) ?_
  refine lv_iload_n C.1.1 C.1.2.1 dX19_silence_2 rfl (lv_at hl 1 rfl) ?_
  obtain ⟨r11, M9, L10, h1, hD⟩ := g_b3 hD
  refine md_cvI (As := [.int a1]) (rest := [.ref (ad 732)]) C hw (tX19_noController l G ad fu a1 M L h1) kc_19 (by decide) tf_732 wd_4246 cwX19_noController ⟨Nat.le_of_ble_eq_true rfl, Nat.le_of_ble_eq_true rfl⟩ rfl hl.1 (Nat.le_of_ble_eq_true rfl) dX19_silence_3 rfl rfl ⟨Nat.zero_le _, Nat.zero_le _⟩ rfl (fun H locs hw => ?_)
  refine lv_if_eq (tgt := 13) C.1.1 C.1.2.1 dX19_silence_6 (by decide) (fun c12 => ?_) (fun c12 => ?_)
  · replace hD := g_pos c12 hD
    refine lv_iconst (v := 0) C.1.1 C.1.2.1 dX19_silence_13 (by decide) ?_
    exact hb14 0 M9 L10 _ _ ls hD hw (lv_sub hl [0, 1, 2] rfl)
  · replace hD := g_neg c12 hD
    refine lv_iconst (v := 1) C.1.1 C.1.2.1 dX19_silence_9 (by decide) ?_
    refine lv_goto (tgt := 14) C.1.1 C.1.2.1 dX19_silence_10 (by decide) ?_
    exact hb14 1 M9 L10 _ _ ls hD hw (lv_sub hl [0, 1, 2] rfl)

theorem dX19_running_0 : decode cX19_running 0 = .ok (.aload_n 0, 1) := by decide +kernel
theorem dX19_running_1 : decode cX19_running 1 = .ok (.aload_n 0, 1) := by decide +kernel
theorem dX19_running_2 : decode cX19_running 2 = .ok (.iload_n 1, 1) := by decide +kernel
theorem dX19_running_3 : decode cX19_running 3 = .ok (.invokevirtual 825, 3) := by decide +kernel
theorem dX19_running_6 : decode cX19_running 6 = .ok (.ifCond .ne 15, 3) := by decide +kernel
theorem dX19_running_9 : decode cX19_running 9 = .ok (.iload_n 2, 1) := by decide +kernel
theorem dX19_running_10 : decode cX19_running 10 = .ok (.ifCond .lt 11, 3) := by decide +kernel
theorem dX19_running_13 : decode cX19_running 13 = .ok (.iload_n 2, 1) := by decide +kernel
theorem dX19_running_14 : decode cX19_running 14 = .ok (.aload_n 0, 1) := by decide +kernel
theorem dX19_running_15 : decode cX19_running 15 = .ok (.getfield 600, 3) := by decide +kernel
theorem dX19_running_18 : decode cX19_running 18 = .ok (.if_icmp .lt 7, 3) := by decide +kernel
theorem dX19_running_21 : decode cX19_running 21 = .ok (.iconst 1, 1) := by decide +kernel
theorem dX19_running_22 : decode cX19_running 22 = .ok (.goto 4, 3) := by decide +kernel
theorem dX19_running_25 : decode cX19_running 25 = .ok (.iconst 0, 1) := by decide +kernel
theorem dX19_running_26 : decode cX19_running 26 = .ok (.putfield 289, 3) := by decide +kernel
theorem dX19_running_29 : decode cX19_running 29 = .ok (.aload_n 0, 1) := by decide +kernel
theorem dX19_running_30 : decode cX19_running 30 = .ok (.getfield 289, 3) := by decide +kernel
theorem dX19_running_33 : decode cX19_running 33 = .ok (.ifCond .le 7, 3) := by decide +kernel
theorem dX19_running_36 : decode cX19_running 36 = .ok (.iconst 0, 1) := by decide +kernel
theorem dX19_running_37 : decode cX19_running 37 = .ok (.goto 13, 3) := by decide +kernel
theorem dX19_running_40 : decode cX19_running 40 = .ok (.aload_n 0, 1) := by decide +kernel
theorem dX19_running_41 : decode cX19_running 41 = .ok (.getfield 177, 3) := by decide +kernel
theorem dX19_running_44 : decode cX19_running 44 = .ok (.iload_n 1, 1) := by decide +kernel
theorem dX19_running_45 : decode cX19_running 45 = .ok (.iload_n 2, 1) := by decide +kernel
theorem dX19_running_46 : decode cX19_running 46 = .ok (.i2l, 1) := by decide +kernel
theorem dX19_running_47 : decode cX19_running 47 = .ok (.invokevirtual 828, 3) := by decide +kernel
theorem dX19_running_50 : decode cX19_running 50 = .ok (.ireturn, 1) := by decide +kernel
theorem cwX19_running : mw_cwV yX19_running cX19_running 3 ((some .int)) 2 := ⟨⟨wd_13, wd_4253, by decide +kernel⟩, wd_4251, wd_4252⟩
noncomputable def fX19_running_b50 (fu : Nat) (a1 : Int32) (a2 : Int32) (s0 : Int32) (M : mwM) (L : mwL) : Option (Int32 × mwM × mwL) :=
  some (s0, M, L)
noncomputable def fX19_running_b26 (fu : Nat) (a1 : Int32) (a2 : Int32) (s1 : Int32) (M : mwM) (L : mwL) : Option (Int32 × mwM × mwL) :=
  mlet (mset M 732 0 s1) (fun M1 => (if (M1 732 0) ≤ 0 then mb3 (DX15_running fu a1 a2.toInt64 M1 L) (fun r5 M3 L4 => fX19_running_b50 fu a1 a2 r5 M3 L4) else fX19_running_b50 fu a1 a2 0 M1 L))
noncomputable def fX19_running_b21 (fu : Nat) (a1 : Int32) (a2 : Int32) (M : mwM) (L : mwL) : Option (Int32 × mwM × mwL) :=
  fX19_running_b26 fu a1 a2 1 M L
noncomputable def DX19_running (fu : Nat) (a1 : Int32) (a2 : Int32) (M : mwM) (L : mwL) : Option (Int32 × mwM × mwL) :=
  mb3 (DX19_noController fu a1 M L) (fun r8 M6 L7 => (if r8 = 0 then (if a2 < 0 then fX19_running_b21 fu a1 a2 M6 L7 else (if a2 < (M6 732 83) then fX19_running_b26 fu a1 a2 0 M6 L7 else fX19_running_b21 fu a1 a2 M6 L7)) else fX19_running_b21 fu a1 a2 M6 L7))
set_option maxHeartbeats 4000000 in
set_option maxRecDepth 100000 in
theorem tX19_running (l : Launch) (G : mwG) (ad : Nat → Nat) (fu : Nat) (a1 : Int32) (a2 : Int32) (M : mwM) (L : mwL) {r0 : Int32} {M0 : mwM} {L0 : mwL} (hD : DX19_running fu a1 a2 M L = some (r0, M0, L0)) : Met l yX19_running (Cond.code yX19_running cX19_running 3 ((some .int)) :: GT) ({ frames := 1, cells := 0, slots := 0, locals := 23 }) (mw_Pre G ad NF TF FF M L [.ref (ad 732), .int a1, .int a2]) (mw_Qi G ad NF TF FF (mw_eqI r0 M0 L0)) 0 0 (mw_fr G) := by
  refine mw_enter (by decide) (Nat.le_of_ble_eq_true rfl) ?_
  intro p e s m below meth c ls C hr hlocks hnm hw hl
  have hl : lv_has ls 3 [(0, .ref (ad 732)), (1, .int a1), (2, .int a2)] := hl
  have hb50 : ∀ (s0 : Int32) (M : mwM) (L : mwL) (H : Heap) (locs : List Loc) (ls : Array Slot), fX19_running_b50 fu a1 a2 s0 M L = some (r0, M0, L0) → mw_W G ad NF TF FF M L H locs → lv_has ls 3 [] → W p l e ({ frames := 1, cells := 0, slots := 0, locals := 23 }) s m [.ref (ad 732), .int a1, .int a2].toArray below meth c H locs 0 0 (MQ below (mw_Qi G ad NF TF FF (mw_eqI r0 M0 L0)) [.ref (ad 732), .int a1, .int a2].toArray s 0 0 (mw_fr G)) (F0 m 50 ls [.int s0]) := by
    intro s0 M L H locs ls hD hw hl
    unfold fX19_running_b50 at hD
    exact mr_iret C hr hlocks hw rfl (Option.some.inj hD) dX19_running_50
  have hb26 : ∀ (s1 : Int32) (M : mwM) (L : mwL) (H : Heap) (locs : List Loc) (ls : Array Slot), fX19_running_b26 fu a1 a2 s1 M L = some (r0, M0, L0) → mw_W G ad NF TF FF M L H locs → lv_has ls 3 [(0, .ref (ad 732)), (1, .int a1), (2, .int a2)] → W p l e ({ frames := 1, cells := 0, slots := 0, locals := 23 }) s m [.ref (ad 732), .int a1, .int a2].toArray below meth c H locs 0 0 (MQ below (mw_Qi G ad NF TF FF (mw_eqI r0 M0 L0)) [.ref (ad 732), .int a1, .int a2].toArray s 0 0 (mw_fr G)) (F0 m 26 ls [.int s1, .ref (ad 732)]) := by
    intro s1 M L H locs ls hD hw hl
    unfold fX19_running_b26 at hD
    obtain ⟨M1, eM1, hD⟩ := g_let hD
    refine mr_putI C hw kc_19 0 (by decide) tf_732 wd_2781 dX19_running_26 (by decide) rfl rfl rfl rfl (fun H locs hw => ?_)
    replace hw : mw_W G ad NF TF FF M1 L H locs := by rw [eM1]; exact hw
    refine lv_aload_n C.1.1 C.1.2.1 dX19_running_29 rfl (lv_at hl 0 rfl) ?_
    refine mr_getI C hw kc_19 0 (by decide) tf_732 wd_2781 dX19_running_30 (by decide) rfl ?_
    refine lv_if_le (tgt := 40) C.1.1 C.1.2.1 dX19_running_33 (by decide) (fun c2 => ?_) (fun c2 => ?_)
    · replace hD := g_pos c2 hD
      refine lv_aload_n C.1.1 C.1.2.1 dX19_running_40 rfl (lv_at hl 0 rfl) ?_
      refine mr_getR C hw kc_19 76 (by decide) tf_732 ff_732_76 wd_2857 dX19_running_41 (by decide) rfl ?_
      refine lv_iload_n C.1.1 C.1.2.1 dX19_running_44 rfl (lv_at hl 1 rfl) ?_
      refine lv_iload_n C.1.1 C.1.2.1 dX19_running_45 rfl (lv_at hl 2 rfl) ?_
      refine lv_i2l C.1.1 C.1.2.1 dX19_running_46 rfl ?_
      obtain ⟨r5, M3, L4, h1, hD⟩ := g_b3 hD
      refine md_cvI (As := [.int a1, .long a2.toInt64]) (rest := []) C hw (tX15_running l G ad fu a1 a2.toInt64 M1 L h1) kc_15 (by decide) tf_787 wd_4254 cwX15_running ⟨Nat.le_of_ble_eq_true rfl, Nat.le_of_ble_eq_true rfl⟩ rfl hl.1 (Nat.le_of_ble_eq_true rfl) dX19_running_47 rfl rfl ⟨Nat.zero_le _, Nat.zero_le _⟩ rfl (fun H locs hw => ?_)
      exact hb50 r5 M3 L4 _ _ ls hD hw (lv_sub hl [] rfl)
    · replace hD := g_neg c2 hD
      refine lv_iconst (v := 0) C.1.1 C.1.2.1 dX19_running_36 (by decide) ?_
      refine lv_goto (tgt := 50) C.1.1 C.1.2.1 dX19_running_37 (by decide) ?_
      exact hb50 0 M1 L _ _ ls hD hw (lv_sub hl [] rfl)
  have hb21 : ∀ (M : mwM) (L : mwL) (H : Heap) (locs : List Loc) (ls : Array Slot), fX19_running_b21 fu a1 a2 M L = some (r0, M0, L0) → mw_W G ad NF TF FF M L H locs → lv_has ls 3 [(0, .ref (ad 732)), (1, .int a1), (2, .int a2)] → W p l e ({ frames := 1, cells := 0, slots := 0, locals := 23 }) s m [.ref (ad 732), .int a1, .int a2].toArray below meth c H locs 0 0 (MQ below (mw_Qi G ad NF TF FF (mw_eqI r0 M0 L0)) [.ref (ad 732), .int a1, .int a2].toArray s 0 0 (mw_fr G)) (F0 m 21 ls [.ref (ad 732)]) := by
    intro M L H locs ls hD hw hl
    unfold fX19_running_b21 at hD
    refine lv_iconst (v := 1) C.1.1 C.1.2.1 dX19_running_21 (by decide) ?_
    refine lv_goto (tgt := 26) C.1.1 C.1.2.1 dX19_running_22 (by decide) ?_
    exact hb26 1 M L _ _ ls hD hw (lv_sub hl [0, 1, 2] rfl)
  unfold DX19_running at hD
  refine lv_aload_n C.1.1 C.1.2.1 dX19_running_0 rfl (lv_at hl 0 rfl) ?_
  refine lv_aload_n C.1.1 C.1.2.1 dX19_running_1 rfl (lv_at hl 0 rfl) ?_
  refine lv_iload_n C.1.1 C.1.2.1 dX19_running_2 rfl (lv_at hl 1 rfl) ?_
  obtain ⟨r8, M6, L7, h1, hD⟩ := g_b3 hD
  refine md_cvI (As := [.int a1]) (rest := [.ref (ad 732)]) C hw (tX19_noController l G ad fu a1 M L h1) kc_19 (by decide) tf_732 wd_4246 cwX19_noController ⟨Nat.le_of_ble_eq_true rfl, Nat.le_of_ble_eq_true rfl⟩ rfl hl.1 (Nat.le_of_ble_eq_true rfl) dX19_running_3 rfl rfl ⟨Nat.zero_le _, Nat.zero_le _⟩ rfl (fun H locs hw => ?_)
  refine lv_if_ne (tgt := 21) C.1.1 C.1.2.1 dX19_running_6 (by decide) (fun c9 => ?_) (fun c9 => ?_)
  · replace hD := g_neg c9 hD
    exact hb21 M6 L7 _ _ ls hD hw (lv_sub hl [0, 1, 2] rfl)
  · replace hD := g_pos c9 hD
    refine lv_iload_n C.1.1 C.1.2.1 dX19_running_9 rfl (lv_at hl 2 rfl) ?_
    refine lv_if_lt (tgt := 21) C.1.1 C.1.2.1 dX19_running_10 (by decide) (fun c10 => ?_) (fun c10 => ?_)
    · replace hD := g_pos c10 hD
      exact hb21 M6 L7 _ _ ls hD hw (lv_sub hl [0, 1, 2] rfl)
    · replace hD := g_neg c10 hD
      refine lv_iload_n C.1.1 C.1.2.1 dX19_running_13 rfl (lv_at hl 2 rfl) ?_
      refine lv_aload_n C.1.1 C.1.2.1 dX19_running_14 rfl (lv_at hl 0 rfl) ?_
      refine mr_getI C hw kc_19 83 (by decide) tf_732 wd_2864 dX19_running_15 (by decide) rfl ?_
      refine lv_icmp_lt (tgt := 25) C.1.1 C.1.2.1 dX19_running_18 (by decide) (fun c11 => ?_) (fun c11 => ?_)
      · replace hD := g_pos c11 hD
        refine lv_iconst (v := 0) C.1.1 C.1.2.1 dX19_running_25 (by decide) ?_
        exact hb26 0 M6 L7 _ _ ls hD hw (lv_sub hl [0, 1, 2] rfl)
      · replace hD := g_neg c11 hD
        exact hb21 M6 L7 _ _ ls hD hw (lv_sub hl [0, 1, 2] rfl)

theorem dX19_task_0 : decode cX19_task 0 = .ok (.aload_n 0, 1) := by decide +kernel
theorem dX19_task_1 : decode cX19_task 1 = .ok (.aload_n 0, 1) := by decide +kernel
theorem dX19_task_2 : decode cX19_task 2 = .ok (.getfield 630, 3) := by decide +kernel
theorem dX19_task_5 : decode cX19_task 5 = .ok (.ifCond .eq 15, 3) := by decide +kernel
theorem dX19_task_8 : decode cX19_task 8 = .ok (.iload_n 1, 1) := by decide +kernel
theorem dX19_task_9 : decode cX19_task 9 = .ok (.ifCond .lt 11, 3) := by decide +kernel
theorem dX19_task_12 : decode cX19_task 12 = .ok (.iload_n 1, 1) := by decide +kernel
theorem dX19_task_13 : decode cX19_task 13 = .ok (.aload_n 0, 1) := by decide +kernel
theorem dX19_task_14 : decode cX19_task 14 = .ok (.getfield 448, 3) := by decide +kernel
theorem dX19_task_17 : decode cX19_task 17 = .ok (.if_icmp .lt 7, 3) := by decide +kernel
theorem dX19_task_20 : decode cX19_task 20 = .ok (.iconst 1, 1) := by decide +kernel
theorem dX19_task_21 : decode cX19_task 21 = .ok (.goto 17, 3) := by decide +kernel
theorem dX19_task_24 : decode cX19_task 24 = .ok (.iload_n 2, 1) := by decide +kernel
theorem dX19_task_25 : decode cX19_task 25 = .ok (.ifCond .lt 8, 3) := by decide +kernel
theorem dX19_task_28 : decode cX19_task 28 = .ok (.iload_n 2, 1) := by decide +kernel
theorem dX19_task_29 : decode cX19_task 29 = .ok (.iconst 2, 1) := by decide +kernel
theorem dX19_task_30 : decode cX19_task 30 = .ok (.if_icmp .le 7, 3) := by decide +kernel
theorem dX19_task_33 : decode cX19_task 33 = .ok (.iconst 2, 1) := by decide +kernel
theorem dX19_task_34 : decode cX19_task 34 = .ok (.goto 4, 3) := by decide +kernel
theorem dX19_task_37 : decode cX19_task 37 = .ok (.iconst 0, 1) := by decide +kernel
theorem dX19_task_38 : decode cX19_task 38 = .ok (.putfield 289, 3) := by decide +kernel
theorem dX19_task_41 : decode cX19_task 41 = .ok (.aload_n 0, 1) := by decide +kernel
theorem dX19_task_42 : decode cX19_task 42 = .ok (.getfield 289, 3) := by decide +kernel
theorem dX19_task_45 : decode cX19_task 45 = .ok (.ifCond .le 5, 3) := by decide +kernel
theorem dX19_task_48 : decode cX19_task 48 = .ok (.iconst 0, 1) := by decide +kernel
theorem dX19_task_49 : decode cX19_task 49 = .ok (.ireturn, 1) := by decide +kernel
theorem dX19_task_50 : decode cX19_task 50 = .ok (.iload_n 2, 1) := by decide +kernel
theorem dX19_task_51 : decode cX19_task 51 = .ok (.ifCond .ne 16, 3) := by decide +kernel
theorem dX19_task_54 : decode cX19_task 54 = .ok (.aload_n 0, 1) := by decide +kernel
theorem dX19_task_55 : decode cX19_task 55 = .ok (.getfield 177, 3) := by decide +kernel
theorem dX19_task_58 : decode cX19_task 58 = .ok (.iload_n 1, 1) := by decide +kernel
theorem dX19_task_59 : decode cX19_task 59 = .ok (.iconst 1, 1) := by decide +kernel
theorem dX19_task_60 : decode cX19_task 60 = .ok (.iadd, 1) := by decide +kernel
theorem dX19_task_61 : decode cX19_task 61 = .ok (.invokevirtual 831, 3) := by decide +kernel
theorem dX19_task_64 : decode cX19_task 64 = .ok (.goto 28, 3) := by decide +kernel
theorem dX19_task_67 : decode cX19_task 67 = .ok (.iload_n 2, 1) := by decide +kernel
theorem dX19_task_68 : decode cX19_task 68 = .ok (.iconst 1, 1) := by decide +kernel
theorem dX19_task_69 : decode cX19_task 69 = .ok (.if_icmp .ne 17, 3) := by decide +kernel
theorem dX19_task_72 : decode cX19_task 72 = .ok (.aload_n 0, 1) := by decide +kernel
theorem dX19_task_73 : decode cX19_task 73 = .ok (.getfield 177, 3) := by decide +kernel
theorem dX19_task_76 : decode cX19_task 76 = .ok (.iload_n 1, 1) := by decide +kernel
theorem dX19_task_77 : decode cX19_task 77 = .ok (.iconst 1, 1) := by decide +kernel
theorem dX19_task_78 : decode cX19_task 78 = .ok (.iadd, 1) := by decide +kernel
theorem dX19_task_79 : decode cX19_task 79 = .ok (.invokevirtual 791, 3) := by decide +kernel
theorem dX19_task_82 : decode cX19_task 82 = .ok (.l2i, 1) := by decide +kernel
theorem dX19_task_83 : decode cX19_task 83 = .ok (.goto 9, 3) := by decide +kernel
theorem dX19_task_86 : decode cX19_task 86 = .ok (.aload_n 0, 1) := by decide +kernel
theorem dX19_task_87 : decode cX19_task 87 = .ok (.getfield 55, 3) := by decide +kernel
theorem dX19_task_90 : decode cX19_task 90 = .ok (.iload_n 1, 1) := by decide +kernel
theorem dX19_task_91 : decode cX19_task 91 = .ok (.iaload, 1) := by decide +kernel
theorem dX19_task_92 : decode cX19_task 92 = .ok (.ireturn, 1) := by decide +kernel
theorem cwX19_task : mw_cwV yX19_task cX19_task 3 ((some .int)) 2 := ⟨⟨wd_13, wd_4261, by decide +kernel⟩, wd_4259, wd_4260⟩
noncomputable def fX19_task_b92 (fu : Nat) (a1 : Int32) (a2 : Int32) (s0 : Int32) (M : mwM) (L : mwL) : Option (Int32 × mwM × mwL) :=
  some (s0, M, L)
noncomputable def fX19_task_b38 (fu : Nat) (a1 : Int32) (a2 : Int32) (s1 : Int32) (M : mwM) (L : mwL) : Option (Int32 × mwM × mwL) :=
  mlet (mset M 732 0 s1) (fun M1 => (if (M1 732 0) ≤ 0 then (if a2 = 0 then mb3 (DX15_state fu (a1 + 1) M1 L) (fun r11 M9 L10 => fX19_task_b92 fu a1 a2 r11 M9 L10) else (if a2 = 1 then mb3 (DX15_used fu (a1 + 1) M1 L) (fun r8 M6 L7 => fX19_task_b92 fu a1 a2 r8.toInt32 M6 L7) else mck a1 12 (fX19_task_b92 fu a1 a2 (M1 748 a1.toNatClampNeg) M1 L))) else some (0, M1, L)))
noncomputable def fX19_task_b20 (fu : Nat) (a1 : Int32) (a2 : Int32) (M : mwM) (L : mwL) : Option (Int32 × mwM × mwL) :=
  fX19_task_b38 fu a1 a2 1 M L
noncomputable def fX19_task_b33 (fu : Nat) (a1 : Int32) (a2 : Int32) (M : mwM) (L : mwL) : Option (Int32 × mwM × mwL) :=
  fX19_task_b38 fu a1 a2 2 M L
noncomputable def DX19_task (fu : Nat) (a1 : Int32) (a2 : Int32) (M : mwM) (L : mwL) : Option (Int32 × mwM × mwL) :=
  (if (M 732 4) = 0 then fX19_task_b20 fu a1 a2 M L else (if a1 < 0 then fX19_task_b20 fu a1 a2 M L else (if a1 < (M 732 24) then (if a2 < 0 then fX19_task_b33 fu a1 a2 M L else (if a2 ≤ 2 then fX19_task_b38 fu a1 a2 0 M L else fX19_task_b33 fu a1 a2 M L)) else fX19_task_b20 fu a1 a2 M L)))
set_option maxHeartbeats 4000000 in
set_option maxRecDepth 100000 in
theorem tX19_task (l : Launch) (G : mwG) (ad : Nat → Nat) (fu : Nat) (a1 : Int32) (a2 : Int32) (M : mwM) (L : mwL) {r0 : Int32} {M0 : mwM} {L0 : mwL} (hD : DX19_task fu a1 a2 M L = some (r0, M0, L0)) : Met l yX19_task (Cond.code yX19_task cX19_task 3 ((some .int)) :: GT) ({ frames := 2, cells := 0, slots := 0, locals := 42 }) (mw_Pre G ad NF TF FF M L [.ref (ad 732), .int a1, .int a2]) (mw_Qi G ad NF TF FF (mw_eqI r0 M0 L0)) 0 0 (mw_fr G) := by
  refine mw_enter (by decide) (Nat.le_of_ble_eq_true rfl) ?_
  intro p e s m below meth c ls C hr hlocks hnm hw hl
  have hl : lv_has ls 3 [(0, .ref (ad 732)), (1, .int a1), (2, .int a2)] := hl
  have hb92 : ∀ (s0 : Int32) (M : mwM) (L : mwL) (H : Heap) (locs : List Loc) (ls : Array Slot), fX19_task_b92 fu a1 a2 s0 M L = some (r0, M0, L0) → mw_W G ad NF TF FF M L H locs → lv_has ls 3 [] → W p l e ({ frames := 2, cells := 0, slots := 0, locals := 42 }) s m [.ref (ad 732), .int a1, .int a2].toArray below meth c H locs 0 0 (MQ below (mw_Qi G ad NF TF FF (mw_eqI r0 M0 L0)) [.ref (ad 732), .int a1, .int a2].toArray s 0 0 (mw_fr G)) (F0 m 92 ls [.int s0]) := by
    intro s0 M L H locs ls hD hw hl
    unfold fX19_task_b92 at hD
    exact mr_iret C hr hlocks hw rfl (Option.some.inj hD) dX19_task_92
  have hb38 : ∀ (s1 : Int32) (M : mwM) (L : mwL) (H : Heap) (locs : List Loc) (ls : Array Slot), fX19_task_b38 fu a1 a2 s1 M L = some (r0, M0, L0) → mw_W G ad NF TF FF M L H locs → lv_has ls 3 [(0, .ref (ad 732)), (1, .int a1), (2, .int a2)] → W p l e ({ frames := 2, cells := 0, slots := 0, locals := 42 }) s m [.ref (ad 732), .int a1, .int a2].toArray below meth c H locs 0 0 (MQ below (mw_Qi G ad NF TF FF (mw_eqI r0 M0 L0)) [.ref (ad 732), .int a1, .int a2].toArray s 0 0 (mw_fr G)) (F0 m 38 ls [.int s1, .ref (ad 732)]) := by
    intro s1 M L H locs ls hD hw hl
    unfold fX19_task_b38 at hD
    obtain ⟨M1, eM1, hD⟩ := g_let hD
    refine mr_putI C hw kc_19 0 (by decide) tf_732 wd_2781 dX19_task_38 (by decide) rfl rfl rfl rfl (fun H locs hw => ?_)
    replace hw : mw_W G ad NF TF FF M1 L H locs := by rw [eM1]; exact hw
    refine lv_aload_n C.1.1 C.1.2.1 dX19_task_41 rfl (lv_at hl 0 rfl) ?_
    refine mr_getI C hw kc_19 0 (by decide) tf_732 wd_2781 dX19_task_42 (by decide) rfl ?_
    refine lv_if_le (tgt := 50) C.1.1 C.1.2.1 dX19_task_45 (by decide) (fun c2 => ?_) (fun c2 => ?_)
    · replace hD := g_pos c2 hD
      refine lv_iload_n C.1.1 C.1.2.1 dX19_task_50 rfl (lv_at hl 2 rfl) ?_
      refine lv_if_ne (tgt := 67) C.1.1 C.1.2.1 dX19_task_51 (by decide) (fun c3 => ?_) (fun c3 => ?_)
      · replace hD := g_neg c3 hD
        refine lv_iload_n C.1.1 C.1.2.1 dX19_task_67 rfl (lv_at hl 2 rfl) ?_
        refine lv_iconst (v := 1) C.1.1 C.1.2.1 dX19_task_68 (by decide) ?_
        refine lv_icmp_ne (tgt := 86) C.1.1 C.1.2.1 dX19_task_69 (by decide) (fun c4 => ?_) (fun c4 => ?_)
        · replace hD := g_neg c4 hD
          refine lv_aload_n C.1.1 C.1.2.1 dX19_task_86 rfl (lv_at hl 0 rfl) ?_
          refine mr_getR C hw kc_19 32 (by decide) tf_732 ff_732_32 wd_2813 dX19_task_87 (by decide) rfl ?_
          refine lv_iload_n C.1.1 C.1.2.1 dX19_task_90 rfl (lv_at hl 1 rfl) ?_
          obtain ⟨q5, hD⟩ := g_ck hD
          refine mr_iald C hw (by decide) tf_748 q5 dX19_task_91 ?_
          exact hb92 (M1 748 a1.toNatClampNeg) M1 L _ _ ls hD hw (lv_sub hl [] rfl)
        · replace hD := g_pos c4 hD
          refine lv_aload_n C.1.1 C.1.2.1 dX19_task_72 rfl (lv_at hl 0 rfl) ?_
          refine mr_getR C hw kc_19 76 (by decide) tf_732 ff_732_76 wd_2857 dX19_task_73 (by decide) rfl ?_
          refine lv_iload_n C.1.1 C.1.2.1 dX19_task_76 rfl (lv_at hl 1 rfl) ?_
          refine lv_iconst (v := 1) C.1.1 C.1.2.1 dX19_task_77 (by decide) ?_
          refine lv_iadd C.1.1 C.1.2.1 dX19_task_78 ?_
          obtain ⟨r8, M6, L7, h1, hD⟩ := g_b3 hD
          refine md_cvL (As := [.int (a1 + 1)]) (rest := []) C hw (tX15_used l G ad fu (a1 + 1) M1 L h1) kc_15 (by decide) tf_787 wd_3768 cwX15_used ⟨Nat.le_of_ble_eq_true rfl, Nat.le_of_ble_eq_true rfl⟩ rfl hl.1 (Nat.le_of_ble_eq_true rfl) dX19_task_79 rfl rfl ⟨Nat.zero_le _, Nat.zero_le _⟩ rfl (fun H locs hw => ?_)
          refine lv_l2i C.1.1 C.1.2.1 dX19_task_82 rfl ?_
          refine lv_goto (tgt := 92) C.1.1 C.1.2.1 dX19_task_83 (by decide) ?_
          exact hb92 r8.toInt32 M6 L7 _ _ ls hD hw (lv_sub hl [] rfl)
      · replace hD := g_pos c3 hD
        refine lv_aload_n C.1.1 C.1.2.1 dX19_task_54 rfl (lv_at hl 0 rfl) ?_
        refine mr_getR C hw kc_19 76 (by decide) tf_732 ff_732_76 wd_2857 dX19_task_55 (by decide) rfl ?_
        refine lv_iload_n C.1.1 C.1.2.1 dX19_task_58 rfl (lv_at hl 1 rfl) ?_
        refine lv_iconst (v := 1) C.1.1 C.1.2.1 dX19_task_59 (by decide) ?_
        refine lv_iadd C.1.1 C.1.2.1 dX19_task_60 ?_
        obtain ⟨r11, M9, L10, h1, hD⟩ := g_b3 hD
        refine md_cvI (As := [.int (a1 + 1)]) (rest := []) C hw (tX15_state l G ad fu (a1 + 1) M1 L h1) kc_15 (by decide) tf_787 wd_4262 cwX15_state ⟨Nat.le_of_ble_eq_true rfl, Nat.le_of_ble_eq_true rfl⟩ rfl hl.1 (Nat.le_of_ble_eq_true rfl) dX19_task_61 rfl rfl ⟨Nat.zero_le _, Nat.zero_le _⟩ rfl (fun H locs hw => ?_)
        refine lv_goto (tgt := 92) C.1.1 C.1.2.1 dX19_task_64 (by decide) ?_
        exact hb92 r11 M9 L10 _ _ ls hD hw (lv_sub hl [] rfl)
    · replace hD := g_neg c2 hD
      refine lv_iconst (v := 0) C.1.1 C.1.2.1 dX19_task_48 (by decide) ?_
      exact mr_iret C hr hlocks hw rfl (Option.some.inj hD) dX19_task_49
  have hb20 : ∀ (M : mwM) (L : mwL) (H : Heap) (locs : List Loc) (ls : Array Slot), fX19_task_b20 fu a1 a2 M L = some (r0, M0, L0) → mw_W G ad NF TF FF M L H locs → lv_has ls 3 [(0, .ref (ad 732)), (1, .int a1), (2, .int a2)] → W p l e ({ frames := 2, cells := 0, slots := 0, locals := 42 }) s m [.ref (ad 732), .int a1, .int a2].toArray below meth c H locs 0 0 (MQ below (mw_Qi G ad NF TF FF (mw_eqI r0 M0 L0)) [.ref (ad 732), .int a1, .int a2].toArray s 0 0 (mw_fr G)) (F0 m 20 ls [.ref (ad 732)]) := by
    intro M L H locs ls hD hw hl
    unfold fX19_task_b20 at hD
    refine lv_iconst (v := 1) C.1.1 C.1.2.1 dX19_task_20 (by decide) ?_
    refine lv_goto (tgt := 38) C.1.1 C.1.2.1 dX19_task_21 (by decide) ?_
    exact hb38 1 M L _ _ ls hD hw (lv_sub hl [0, 1, 2] rfl)
  have hb33 : ∀ (M : mwM) (L : mwL) (H : Heap) (locs : List Loc) (ls : Array Slot), fX19_task_b33 fu a1 a2 M L = some (r0, M0, L0) → mw_W G ad NF TF FF M L H locs → lv_has ls 3 [(0, .ref (ad 732)), (1, .int a1), (2, .int a2)] → W p l e ({ frames := 2, cells := 0, slots := 0, locals := 42 }) s m [.ref (ad 732), .int a1, .int a2].toArray below meth c H locs 0 0 (MQ below (mw_Qi G ad NF TF FF (mw_eqI r0 M0 L0)) [.ref (ad 732), .int a1, .int a2].toArray s 0 0 (mw_fr G)) (F0 m 33 ls [.ref (ad 732)]) := by
    intro M L H locs ls hD hw hl
    unfold fX19_task_b33 at hD
    refine lv_iconst (v := 2) C.1.1 C.1.2.1 dX19_task_33 (by decide) ?_
    refine lv_goto (tgt := 38) C.1.1 C.1.2.1 dX19_task_34 (by decide) ?_
    exact hb38 2 M L _ _ ls hD hw (lv_sub hl [0, 1, 2] rfl)
  unfold DX19_task at hD
  refine lv_aload_n C.1.1 C.1.2.1 dX19_task_0 rfl (lv_at hl 0 rfl) ?_
  refine lv_aload_n C.1.1 C.1.2.1 dX19_task_1 rfl (lv_at hl 0 rfl) ?_
  refine mr_getI C hw kc_19 4 (by decide) tf_732 wd_2785 dX19_task_2 (by decide) rfl ?_
  refine lv_if_eq (tgt := 20) C.1.1 C.1.2.1 dX19_task_5 (by decide) (fun c12 => ?_) (fun c12 => ?_)
  · replace hD := g_pos c12 hD
    exact hb20 M L _ _ ls hD hw (lv_sub hl [0, 1, 2] rfl)
  · replace hD := g_neg c12 hD
    refine lv_iload_n C.1.1 C.1.2.1 dX19_task_8 rfl (lv_at hl 1 rfl) ?_
    refine lv_if_lt (tgt := 20) C.1.1 C.1.2.1 dX19_task_9 (by decide) (fun c13 => ?_) (fun c13 => ?_)
    · replace hD := g_pos c13 hD
      exact hb20 M L _ _ ls hD hw (lv_sub hl [0, 1, 2] rfl)
    · replace hD := g_neg c13 hD
      refine lv_iload_n C.1.1 C.1.2.1 dX19_task_12 rfl (lv_at hl 1 rfl) ?_
      refine lv_aload_n C.1.1 C.1.2.1 dX19_task_13 rfl (lv_at hl 0 rfl) ?_
      refine mr_getI C hw kc_19 24 (by decide) tf_732 wd_2805 dX19_task_14 (by decide) rfl ?_
      refine lv_icmp_lt (tgt := 24) C.1.1 C.1.2.1 dX19_task_17 (by decide) (fun c14 => ?_) (fun c14 => ?_)
      · replace hD := g_pos c14 hD
        refine lv_iload_n C.1.1 C.1.2.1 dX19_task_24 rfl (lv_at hl 2 rfl) ?_
        refine lv_if_lt (tgt := 33) C.1.1 C.1.2.1 dX19_task_25 (by decide) (fun c15 => ?_) (fun c15 => ?_)
        · replace hD := g_pos c15 hD
          exact hb33 M L _ _ ls hD hw (lv_sub hl [0, 1, 2] rfl)
        · replace hD := g_neg c15 hD
          refine lv_iload_n C.1.1 C.1.2.1 dX19_task_28 rfl (lv_at hl 2 rfl) ?_
          refine lv_iconst (v := 2) C.1.1 C.1.2.1 dX19_task_29 (by decide) ?_
          refine lv_icmp_le (tgt := 37) C.1.1 C.1.2.1 dX19_task_30 (by decide) (fun c16 => ?_) (fun c16 => ?_)
          · replace hD := g_pos c16 hD
            refine lv_iconst (v := 0) C.1.1 C.1.2.1 dX19_task_37 (by decide) ?_
            exact hb38 0 M L _ _ ls hD hw (lv_sub hl [0, 1, 2] rfl)
          · replace hD := g_neg c16 hD
            exact hb33 M L _ _ ls hD hw (lv_sub hl [0, 1, 2] rfl)
      · replace hD := g_neg c14 hD
        exact hb20 M L _ _ ls hD hw (lv_sub hl [0, 1, 2] rfl)

theorem dX19_noChart_0 : decode cX19_noChart 0 = .ok (.aload_n 0, 1) := by decide +kernel
theorem dX19_noChart_1 : decode cX19_noChart 1 = .ok (.getfield 630, 3) := by decide +kernel
theorem dX19_noChart_4 : decode cX19_noChart 4 = .ok (.ifCond .eq 15, 3) := by decide +kernel
theorem dX19_noChart_7 : decode cX19_noChart 7 = .ok (.iload_n 1, 1) := by decide +kernel
theorem dX19_noChart_8 : decode cX19_noChart 8 = .ok (.ifCond .lt 11, 3) := by decide +kernel
theorem dX19_noChart_11 : decode cX19_noChart 11 = .ok (.iload_n 1, 1) := by decide +kernel
theorem dX19_noChart_12 : decode cX19_noChart 12 = .ok (.aload_n 0, 1) := by decide +kernel
theorem dX19_noChart_13 : decode cX19_noChart 13 = .ok (.getfield 456, 3) := by decide +kernel
theorem dX19_noChart_16 : decode cX19_noChart 16 = .ok (.if_icmp .lt 7, 3) := by decide +kernel
theorem dX19_noChart_19 : decode cX19_noChart 19 = .ok (.iconst 1, 1) := by decide +kernel
theorem dX19_noChart_20 : decode cX19_noChart 20 = .ok (.goto 4, 3) := by decide +kernel
theorem dX19_noChart_23 : decode cX19_noChart 23 = .ok (.iconst 0, 1) := by decide +kernel
theorem dX19_noChart_24 : decode cX19_noChart 24 = .ok (.ireturn, 1) := by decide +kernel
theorem cwX19_noChart : mw_cwV yX19_noChart cX19_noChart 2 ((some .boolean)) 1 := ⟨⟨wd_13, wd_4273, by decide +kernel⟩, wd_4272, sl_341⟩
noncomputable def fX19_noChart_b24 (fu : Nat) (a1 : Int32) (s0 : Int32) (M : mwM) (L : mwL) : Option (Int32 × mwM × mwL) :=
  mzz s0 (some (s0, M, L))
noncomputable def fX19_noChart_b19 (fu : Nat) (a1 : Int32) (M : mwM) (L : mwL) : Option (Int32 × mwM × mwL) :=
  fX19_noChart_b24 fu a1 1 M L
noncomputable def DX19_noChart (fu : Nat) (a1 : Int32) (M : mwM) (L : mwL) : Option (Int32 × mwM × mwL) :=
  (if (M 732 4) = 0 then fX19_noChart_b19 fu a1 M L else (if a1 < 0 then fX19_noChart_b19 fu a1 M L else (if a1 < (M 732 33) then fX19_noChart_b24 fu a1 0 M L else fX19_noChart_b19 fu a1 M L)))
set_option maxHeartbeats 4000000 in
set_option maxRecDepth 100000 in
theorem tX19_noChart (l : Launch) (G : mwG) (ad : Nat → Nat) (fu : Nat) (a1 : Int32) (M : mwM) (L : mwL) {r0 : Int32} {M0 : mwM} {L0 : mwL} (hD : DX19_noChart fu a1 M L = some (r0, M0, L0)) : Met l yX19_noChart (Cond.code yX19_noChart cX19_noChart 2 ((some .boolean)) :: GT) ({ frames := 0, cells := 0, slots := 0, locals := 0 }) (mw_Pre G ad NF TF FF M L [.ref (ad 732), .int a1]) (mw_Qi G ad NF TF FF (mw_eqI r0 M0 L0)) 0 0 (mw_fr G) := by
  refine mw_enter (by decide) (Nat.le_of_ble_eq_true rfl) ?_
  intro p e s m below meth c ls C hr hlocks hnm hw hl
  have hl : lv_has ls 2 [(0, .ref (ad 732)), (1, .int a1)] := hl
  have hb24 : ∀ (s0 : Int32) (M : mwM) (L : mwL) (H : Heap) (locs : List Loc) (ls : Array Slot), fX19_noChart_b24 fu a1 s0 M L = some (r0, M0, L0) → mw_W G ad NF TF FF M L H locs → lv_has ls 2 [] → W p l e ({ frames := 0, cells := 0, slots := 0, locals := 0 }) s m [.ref (ad 732), .int a1].toArray below meth c H locs 0 0 (MQ below (mw_Qi G ad NF TF FF (mw_eqI r0 M0 L0)) [.ref (ad 732), .int a1].toArray s 0 0 (mw_fr G)) (F0 m 24 ls [.int s0]) := by
    intro s0 M L H locs ls hD hw hl
    unfold fX19_noChart_b24 at hD
    obtain ⟨z1, hD⟩ := g_zz hD
    exact mr_iret C hr hlocks hw (nz_zz z1) (Option.some.inj hD) dX19_noChart_24
  have hb19 : ∀ (M : mwM) (L : mwL) (H : Heap) (locs : List Loc) (ls : Array Slot), fX19_noChart_b19 fu a1 M L = some (r0, M0, L0) → mw_W G ad NF TF FF M L H locs → lv_has ls 2 [] → W p l e ({ frames := 0, cells := 0, slots := 0, locals := 0 }) s m [.ref (ad 732), .int a1].toArray below meth c H locs 0 0 (MQ below (mw_Qi G ad NF TF FF (mw_eqI r0 M0 L0)) [.ref (ad 732), .int a1].toArray s 0 0 (mw_fr G)) (F0 m 19 ls []) := by
    intro M L H locs ls hD hw hl
    unfold fX19_noChart_b19 at hD
    refine lv_iconst (v := 1) C.1.1 C.1.2.1 dX19_noChart_19 (by decide) ?_
    refine lv_goto (tgt := 24) C.1.1 C.1.2.1 dX19_noChart_20 (by decide) ?_
    exact hb24 1 M L _ _ ls hD hw (lv_sub hl [] rfl)
  unfold DX19_noChart at hD
  refine lv_aload_n C.1.1 C.1.2.1 dX19_noChart_0 rfl (lv_at hl 0 rfl) ?_
  refine mr_getI C hw kc_19 4 (by decide) tf_732 wd_2785 dX19_noChart_1 (by decide) rfl ?_
  refine lv_if_eq (tgt := 19) C.1.1 C.1.2.1 dX19_noChart_4 (by decide) (fun c2 => ?_) (fun c2 => ?_)
  · replace hD := g_pos c2 hD
    exact hb19 M L _ _ ls hD hw (lv_sub hl [] rfl)
  · replace hD := g_neg c2 hD
    refine lv_iload_n C.1.1 C.1.2.1 dX19_noChart_7 rfl (lv_at hl 1 rfl) ?_
    refine lv_if_lt (tgt := 19) C.1.1 C.1.2.1 dX19_noChart_8 (by decide) (fun c3 => ?_) (fun c3 => ?_)
    · replace hD := g_pos c3 hD
      exact hb19 M L _ _ ls hD hw (lv_sub hl [] rfl)
    · replace hD := g_neg c3 hD
      refine lv_iload_n C.1.1 C.1.2.1 dX19_noChart_11 rfl (lv_at hl 1 rfl) ?_
      refine lv_aload_n C.1.1 C.1.2.1 dX19_noChart_12 rfl (lv_at hl 0 rfl) ?_
      refine mr_getI C hw kc_19 33 (by decide) tf_732 wd_2814 dX19_noChart_13 (by decide) rfl ?_
      refine lv_icmp_lt (tgt := 23) C.1.1 C.1.2.1 dX19_noChart_16 (by decide) (fun c4 => ?_) (fun c4 => ?_)
      · replace hD := g_pos c4 hD
        refine lv_iconst (v := 0) C.1.1 C.1.2.1 dX19_noChart_23 (by decide) ?_
        exact hb24 0 M L _ _ ls hD hw (lv_sub hl [] rfl)
      · replace hD := g_neg c4 hD
        exact hb19 M L _ _ ls hD hw (lv_sub hl [] rfl)

theorem dX19_active_0 : decode cX19_active 0 = .ok (.aload_n 0, 1) := by decide +kernel
theorem dX19_active_1 : decode cX19_active 1 = .ok (.aload_n 0, 1) := by decide +kernel
theorem dX19_active_2 : decode cX19_active 2 = .ok (.iload_n 1, 1) := by decide +kernel
theorem dX19_active_3 : decode cX19_active 3 = .ok (.invokevirtual 832, 3) := by decide +kernel
theorem dX19_active_6 : decode cX19_active 6 = .ok (.ifCond .ne 17, 3) := by decide +kernel
theorem dX19_active_9 : decode cX19_active 9 = .ok (.iload_n 2, 1) := by decide +kernel
theorem dX19_active_10 : decode cX19_active 10 = .ok (.ifCond .lt 13, 3) := by decide +kernel
theorem dX19_active_13 : decode cX19_active 13 = .ok (.iload_n 2, 1) := by decide +kernel
theorem dX19_active_14 : decode cX19_active 14 = .ok (.aload_n 0, 1) := by decide +kernel
theorem dX19_active_15 : decode cX19_active 15 = .ok (.getfield 73, 3) := by decide +kernel
theorem dX19_active_18 : decode cX19_active 18 = .ok (.iload_n 1, 1) := by decide +kernel
theorem dX19_active_19 : decode cX19_active 19 = .ok (.iaload, 1) := by decide +kernel
theorem dX19_active_20 : decode cX19_active 20 = .ok (.if_icmp .le 7, 3) := by decide +kernel
theorem dX19_active_23 : decode cX19_active 23 = .ok (.iconst 1, 1) := by decide +kernel
theorem dX19_active_24 : decode cX19_active 24 = .ok (.goto 4, 3) := by decide +kernel
theorem dX19_active_27 : decode cX19_active 27 = .ok (.iconst 0, 1) := by decide +kernel
theorem dX19_active_28 : decode cX19_active 28 = .ok (.putfield 289, 3) := by decide +kernel
theorem dX19_active_31 : decode cX19_active 31 = .ok (.aload_n 0, 1) := by decide +kernel
theorem dX19_active_32 : decode cX19_active 32 = .ok (.getfield 289, 3) := by decide +kernel
theorem dX19_active_35 : decode cX19_active 35 = .ok (.ifCond .le 7, 3) := by decide +kernel
theorem dX19_active_38 : decode cX19_active 38 = .ok (.iconst 0, 1) := by decide +kernel
theorem dX19_active_39 : decode cX19_active 39 = .ok (.goto 13, 3) := by decide +kernel
theorem dX19_active_42 : decode cX19_active 42 = .ok (.aload_n 0, 1) := by decide +kernel
theorem dX19_active_43 : decode cX19_active 43 = .ok (.getfield 217, 3) := by decide +kernel
theorem dX19_active_46 : decode cX19_active 46 = .ok (.iload_n 1, 1) := by decide +kernel
theorem dX19_active_47 : decode cX19_active 47 = .ok (.aaload, 1) := by decide +kernel
theorem dX19_active_48 : decode cX19_active 48 = .ok (.iload_n 2, 1) := by decide +kernel
theorem dX19_active_49 : decode cX19_active 49 = .ok (.invokevirtual 835, 3) := by decide +kernel
theorem dX19_active_52 : decode cX19_active 52 = .ok (.ireturn, 1) := by decide +kernel
theorem cwX19_active : mw_cwV yX19_active cX19_active 3 ((some .int)) 2 := ⟨⟨wd_13, wd_4269, by decide +kernel⟩, wd_4267, wd_4268⟩
noncomputable def fX19_active_b52 (fu : Nat) (a1 : Int32) (a2 : Int32) (s0 : Int32) (M : mwM) (L : mwL) : Option (Int32 × mwM × mwL) :=
  some (s0, M, L)
noncomputable def fX19_active_b28 (fu : Nat) (a1 : Int32) (a2 : Int32) (s1 : Int32) (M : mwM) (L : mwL) : Option (Int32 × mwM × mwL) :=
  mlet (mset M 732 0 s1) (fun M1 => (if (M1 732 0) ≤ 0 then mck a1 12 (mb3 (DX13_active fu ((964 + 53 * a1.toNatClampNeg)) a2 M1 L) (fun r6 M4 L5 => fX19_active_b52 fu a1 a2 r6 M4 L5)) else fX19_active_b52 fu a1 a2 0 M1 L))
noncomputable def fX19_active_b23 (fu : Nat) (a1 : Int32) (a2 : Int32) (M : mwM) (L : mwL) : Option (Int32 × mwM × mwL) :=
  fX19_active_b28 fu a1 a2 1 M L
noncomputable def DX19_active (fu : Nat) (a1 : Int32) (a2 : Int32) (M : mwM) (L : mwL) : Option (Int32 × mwM × mwL) :=
  mb3 (DX19_noChart fu a1 M L) (fun r9 M7 L8 => (if r9 = 0 then (if a2 < 0 then fX19_active_b23 fu a1 a2 M7 L8 else mck a1 12 ((if a2 ≤ (M7 754 a1.toNatClampNeg) then fX19_active_b28 fu a1 a2 0 M7 L8 else fX19_active_b23 fu a1 a2 M7 L8))) else fX19_active_b23 fu a1 a2 M7 L8))
set_option maxHeartbeats 4000000 in
set_option maxRecDepth 100000 in
theorem tX19_active (l : Launch) (G : mwG) (ad : Nat → Nat) (fu : Nat) (a1 : Int32) (a2 : Int32) (M : mwM) (L : mwL) {r0 : Int32} {M0 : mwM} {L0 : mwL} (hD : DX19_active fu a1 a2 M L = some (r0, M0, L0)) : Met l yX19_active (Cond.code yX19_active cX19_active 3 ((some .int)) :: GT) ({ frames := 3, cells := 0, slots := 0, locals := 66 }) (mw_Pre G ad NF TF FF M L [.ref (ad 732), .int a1, .int a2]) (mw_Qi G ad NF TF FF (mw_eqI r0 M0 L0)) 0 0 (mw_fr G) := by
  refine mw_enter (by decide) (Nat.le_of_ble_eq_true rfl) ?_
  intro p e s m below meth c ls C hr hlocks hnm hw hl
  have hl : lv_has ls 3 [(0, .ref (ad 732)), (1, .int a1), (2, .int a2)] := hl
  have hb52 : ∀ (s0 : Int32) (M : mwM) (L : mwL) (H : Heap) (locs : List Loc) (ls : Array Slot), fX19_active_b52 fu a1 a2 s0 M L = some (r0, M0, L0) → mw_W G ad NF TF FF M L H locs → lv_has ls 3 [] → W p l e ({ frames := 3, cells := 0, slots := 0, locals := 66 }) s m [.ref (ad 732), .int a1, .int a2].toArray below meth c H locs 0 0 (MQ below (mw_Qi G ad NF TF FF (mw_eqI r0 M0 L0)) [.ref (ad 732), .int a1, .int a2].toArray s 0 0 (mw_fr G)) (F0 m 52 ls [.int s0]) := by
    intro s0 M L H locs ls hD hw hl
    unfold fX19_active_b52 at hD
    exact mr_iret C hr hlocks hw rfl (Option.some.inj hD) dX19_active_52
  have hb28 : ∀ (s1 : Int32) (M : mwM) (L : mwL) (H : Heap) (locs : List Loc) (ls : Array Slot), fX19_active_b28 fu a1 a2 s1 M L = some (r0, M0, L0) → mw_W G ad NF TF FF M L H locs → lv_has ls 3 [(0, .ref (ad 732)), (1, .int a1), (2, .int a2)] → W p l e ({ frames := 3, cells := 0, slots := 0, locals := 66 }) s m [.ref (ad 732), .int a1, .int a2].toArray below meth c H locs 0 0 (MQ below (mw_Qi G ad NF TF FF (mw_eqI r0 M0 L0)) [.ref (ad 732), .int a1, .int a2].toArray s 0 0 (mw_fr G)) (F0 m 28 ls [.int s1, .ref (ad 732)]) := by
    intro s1 M L H locs ls hD hw hl
    unfold fX19_active_b28 at hD
    obtain ⟨M1, eM1, hD⟩ := g_let hD
    refine mr_putI C hw kc_19 0 (by decide) tf_732 wd_2781 dX19_active_28 (by decide) rfl rfl rfl rfl (fun H locs hw => ?_)
    replace hw : mw_W G ad NF TF FF M1 L H locs := by rw [eM1]; exact hw
    refine lv_aload_n C.1.1 C.1.2.1 dX19_active_31 rfl (lv_at hl 0 rfl) ?_
    refine mr_getI C hw kc_19 0 (by decide) tf_732 wd_2781 dX19_active_32 (by decide) rfl ?_
    refine lv_if_le (tgt := 42) C.1.1 C.1.2.1 dX19_active_35 (by decide) (fun c2 => ?_) (fun c2 => ?_)
    · replace hD := g_pos c2 hD
      refine lv_aload_n C.1.1 C.1.2.1 dX19_active_42 rfl (lv_at hl 0 rfl) ?_
      refine mr_getR C hw kc_19 82 (by decide) tf_732 ff_732_82 wd_2863 dX19_active_43 (by decide) rfl ?_
      refine lv_iload_n C.1.1 C.1.2.1 dX19_active_46 rfl (lv_at hl 1 rfl) ?_
      obtain ⟨q3, hD⟩ := g_ck hD
      refine mr_aald C hw (by decide) tf_922 (by decide) (by decide) rfl rfl q3 (fr_922 _ (g_lt q3)) dX19_active_47 ?_
      refine lv_iload_n C.1.1 C.1.2.1 dX19_active_48 rfl (lv_at hl 2 rfl) ?_
      obtain ⟨r6, M4, L5, h1, hD⟩ := g_b3 hD
      refine md_cvI (As := [.int a2]) (rest := []) C hw (tX13_active l G ad fu ((964 + 53 * a1.toNatClampNeg)) a2 M1 L h1 (isMc_of (g_lt q3))) kc_13 (Mc_N0 (isMc_of (g_lt q3))) (Mc_T0 (isMc_of (g_lt q3))) wd_4274 cwX13_active ⟨Nat.le_of_ble_eq_true rfl, Nat.le_of_ble_eq_true rfl⟩ rfl hl.1 (Nat.le_of_ble_eq_true rfl) dX19_active_49 rfl rfl ⟨Nat.zero_le _, Nat.zero_le _⟩ rfl (fun H locs hw => ?_)
      exact hb52 r6 M4 L5 _ _ ls hD hw (lv_sub hl [] rfl)
    · replace hD := g_neg c2 hD
      refine lv_iconst (v := 0) C.1.1 C.1.2.1 dX19_active_38 (by decide) ?_
      refine lv_goto (tgt := 52) C.1.1 C.1.2.1 dX19_active_39 (by decide) ?_
      exact hb52 0 M1 L _ _ ls hD hw (lv_sub hl [] rfl)
  have hb23 : ∀ (M : mwM) (L : mwL) (H : Heap) (locs : List Loc) (ls : Array Slot), fX19_active_b23 fu a1 a2 M L = some (r0, M0, L0) → mw_W G ad NF TF FF M L H locs → lv_has ls 3 [(0, .ref (ad 732)), (1, .int a1), (2, .int a2)] → W p l e ({ frames := 3, cells := 0, slots := 0, locals := 66 }) s m [.ref (ad 732), .int a1, .int a2].toArray below meth c H locs 0 0 (MQ below (mw_Qi G ad NF TF FF (mw_eqI r0 M0 L0)) [.ref (ad 732), .int a1, .int a2].toArray s 0 0 (mw_fr G)) (F0 m 23 ls [.ref (ad 732)]) := by
    intro M L H locs ls hD hw hl
    unfold fX19_active_b23 at hD
    refine lv_iconst (v := 1) C.1.1 C.1.2.1 dX19_active_23 (by decide) ?_
    refine lv_goto (tgt := 28) C.1.1 C.1.2.1 dX19_active_24 (by decide) ?_
    exact hb28 1 M L _ _ ls hD hw (lv_sub hl [0, 1, 2] rfl)
  unfold DX19_active at hD
  refine lv_aload_n C.1.1 C.1.2.1 dX19_active_0 rfl (lv_at hl 0 rfl) ?_
  refine lv_aload_n C.1.1 C.1.2.1 dX19_active_1 rfl (lv_at hl 0 rfl) ?_
  refine lv_iload_n C.1.1 C.1.2.1 dX19_active_2 rfl (lv_at hl 1 rfl) ?_
  obtain ⟨r9, M7, L8, h1, hD⟩ := g_b3 hD
  refine md_cvI (As := [.int a1]) (rest := [.ref (ad 732)]) C hw (tX19_noChart l G ad fu a1 M L h1) kc_19 (by decide) tf_732 wd_4270 cwX19_noChart ⟨Nat.le_of_ble_eq_true rfl, Nat.le_of_ble_eq_true rfl⟩ rfl hl.1 (Nat.le_of_ble_eq_true rfl) dX19_active_3 rfl rfl ⟨Nat.zero_le _, Nat.zero_le _⟩ rfl (fun H locs hw => ?_)
  refine lv_if_ne (tgt := 23) C.1.1 C.1.2.1 dX19_active_6 (by decide) (fun c10 => ?_) (fun c10 => ?_)
  · replace hD := g_neg c10 hD
    exact hb23 M7 L8 _ _ ls hD hw (lv_sub hl [0, 1, 2] rfl)
  · replace hD := g_pos c10 hD
    refine lv_iload_n C.1.1 C.1.2.1 dX19_active_9 rfl (lv_at hl 2 rfl) ?_
    refine lv_if_lt (tgt := 23) C.1.1 C.1.2.1 dX19_active_10 (by decide) (fun c11 => ?_) (fun c11 => ?_)
    · replace hD := g_pos c11 hD
      exact hb23 M7 L8 _ _ ls hD hw (lv_sub hl [0, 1, 2] rfl)
    · replace hD := g_neg c11 hD
      refine lv_iload_n C.1.1 C.1.2.1 dX19_active_13 rfl (lv_at hl 2 rfl) ?_
      refine lv_aload_n C.1.1 C.1.2.1 dX19_active_14 rfl (lv_at hl 0 rfl) ?_
      refine mr_getR C hw kc_19 39 (by decide) tf_732 ff_732_39 wd_2820 dX19_active_15 (by decide) rfl ?_
      refine lv_iload_n C.1.1 C.1.2.1 dX19_active_18 rfl (lv_at hl 1 rfl) ?_
      obtain ⟨q12, hD⟩ := g_ck hD
      refine mr_iald C hw (by decide) tf_754 q12 dX19_active_19 ?_
      refine lv_icmp_le (tgt := 27) C.1.1 C.1.2.1 dX19_active_20 (by decide) (fun c13 => ?_) (fun c13 => ?_)
      · replace hD := g_pos c13 hD
        refine lv_iconst (v := 0) C.1.1 C.1.2.1 dX19_active_27 (by decide) ?_
        exact hb28 0 M7 L8 _ _ ls hD hw (lv_sub hl [0, 1, 2] rfl)
      · replace hD := g_neg c13 hD
        exact hb23 M7 L8 _ _ ls hD hw (lv_sub hl [0, 1, 2] rfl)

theorem dX19_value_0 : decode cX19_value 0 = .ok (.aload_n 0, 1) := by decide +kernel
theorem dX19_value_1 : decode cX19_value 1 = .ok (.aload_n 0, 1) := by decide +kernel
theorem dX19_value_2 : decode cX19_value 2 = .ok (.iload_n 1, 1) := by decide +kernel
theorem dX19_value_3 : decode cX19_value 3 = .ok (.invokevirtual 832, 3) := by decide +kernel
theorem dX19_value_6 : decode cX19_value 6 = .ok (.ifCond .ne 13, 3) := by decide +kernel
theorem dX19_value_9 : decode cX19_value 9 = .ok (.iload_n 2, 1) := by decide +kernel
theorem dX19_value_10 : decode cX19_value 10 = .ok (.ifCond .lt 9, 3) := by decide +kernel
theorem dX19_value_13 : decode cX19_value 13 = .ok (.iload_n 2, 1) := by decide +kernel
theorem dX19_value_14 : decode cX19_value 14 = .ok (.bipush 31, 2) := by decide +kernel
theorem dX19_value_16 : decode cX19_value 16 = .ok (.if_icmp .le 7, 3) := by decide +kernel
theorem dX19_value_19 : decode cX19_value 19 = .ok (.iconst 1, 1) := by decide +kernel
theorem dX19_value_20 : decode cX19_value 20 = .ok (.goto 4, 3) := by decide +kernel
theorem dX19_value_23 : decode cX19_value 23 = .ok (.iconst 0, 1) := by decide +kernel
theorem dX19_value_24 : decode cX19_value 24 = .ok (.putfield 289, 3) := by decide +kernel
theorem dX19_value_27 : decode cX19_value 27 = .ok (.aload_n 0, 1) := by decide +kernel
theorem dX19_value_28 : decode cX19_value 28 = .ok (.getfield 289, 3) := by decide +kernel
theorem dX19_value_31 : decode cX19_value 31 = .ok (.ifCond .le 7, 3) := by decide +kernel
theorem dX19_value_34 : decode cX19_value 34 = .ok (.lconst 0, 1) := by decide +kernel
theorem dX19_value_35 : decode cX19_value 35 = .ok (.goto 13, 3) := by decide +kernel
theorem dX19_value_38 : decode cX19_value 38 = .ok (.aload_n 0, 1) := by decide +kernel
theorem dX19_value_39 : decode cX19_value 39 = .ok (.getfield 217, 3) := by decide +kernel
theorem dX19_value_42 : decode cX19_value 42 = .ok (.iload_n 1, 1) := by decide +kernel
theorem dX19_value_43 : decode cX19_value 43 = .ok (.aaload, 1) := by decide +kernel
theorem dX19_value_44 : decode cX19_value 44 = .ok (.iload_n 2, 1) := by decide +kernel
theorem dX19_value_45 : decode cX19_value 45 = .ok (.invokevirtual 661, 3) := by decide +kernel
theorem dX19_value_48 : decode cX19_value 48 = .ok (.lreturn, 1) := by decide +kernel
theorem cwX19_value : mw_cwV yX19_value cX19_value 3 ((some .long)) 2 := ⟨⟨wd_13, wd_4281, by decide +kernel⟩, wd_4279, wd_4280⟩
noncomputable def fX19_value_b48 (fu : Nat) (a1 : Int32) (a2 : Int32) (s0 : Int64) (M : mwM) (L : mwL) : Option (Int64 × mwM × mwL) :=
  some (s0, M, L)
noncomputable def fX19_value_b24 (fu : Nat) (a1 : Int32) (a2 : Int32) (s1 : Int32) (M : mwM) (L : mwL) : Option (Int64 × mwM × mwL) :=
  mlet (mset M 732 0 s1) (fun M1 => (if (M1 732 0) ≤ 0 then mck a1 12 (mb3 (DX13_value fu ((964 + 53 * a1.toNatClampNeg)) a2 M1 L) (fun r6 M4 L5 => fX19_value_b48 fu a1 a2 r6 M4 L5)) else fX19_value_b48 fu a1 a2 0 M1 L))
noncomputable def fX19_value_b19 (fu : Nat) (a1 : Int32) (a2 : Int32) (M : mwM) (L : mwL) : Option (Int64 × mwM × mwL) :=
  fX19_value_b24 fu a1 a2 1 M L
noncomputable def DX19_value (fu : Nat) (a1 : Int32) (a2 : Int32) (M : mwM) (L : mwL) : Option (Int64 × mwM × mwL) :=
  mb3 (DX19_noChart fu a1 M L) (fun r9 M7 L8 => (if r9 = 0 then (if a2 < 0 then fX19_value_b19 fu a1 a2 M7 L8 else (if a2 ≤ 31 then fX19_value_b24 fu a1 a2 0 M7 L8 else fX19_value_b19 fu a1 a2 M7 L8)) else fX19_value_b19 fu a1 a2 M7 L8))
set_option maxHeartbeats 4000000 in
set_option maxRecDepth 100000 in
theorem tX19_value (l : Launch) (G : mwG) (ad : Nat → Nat) (fu : Nat) (a1 : Int32) (a2 : Int32) (M : mwM) (L : mwL) {r0 : Int64} {M0 : mwM} {L0 : mwL} (hD : DX19_value fu a1 a2 M L = some (r0, M0, L0)) : Met l yX19_value (Cond.code yX19_value cX19_value 3 ((some .long)) :: GT) ({ frames := 1, cells := 0, slots := 0, locals := 21 }) (mw_Pre G ad NF TF FF M L [.ref (ad 732), .int a1, .int a2]) (mw_Ql G ad NF TF FF (mw_eqL r0 M0 L0)) 0 0 (mw_fr G) := by
  refine mw_enter (by decide) (Nat.le_of_ble_eq_true rfl) ?_
  intro p e s m below meth c ls C hr hlocks hnm hw hl
  have hl : lv_has ls 3 [(0, .ref (ad 732)), (1, .int a1), (2, .int a2)] := hl
  have hb48 : ∀ (s0 : Int64) (M : mwM) (L : mwL) (H : Heap) (locs : List Loc) (ls : Array Slot), fX19_value_b48 fu a1 a2 s0 M L = some (r0, M0, L0) → mw_W G ad NF TF FF M L H locs → lv_has ls 3 [] → W p l e ({ frames := 1, cells := 0, slots := 0, locals := 21 }) s m [.ref (ad 732), .int a1, .int a2].toArray below meth c H locs 0 0 (MQ below (mw_Ql G ad NF TF FF (mw_eqL r0 M0 L0)) [.ref (ad 732), .int a1, .int a2].toArray s 0 0 (mw_fr G)) (F0 m 48 ls [.long s0]) := by
    intro s0 M L H locs ls hD hw hl
    unfold fX19_value_b48 at hD
    exact mr_lret C hr hlocks hw (Option.some.inj hD) dX19_value_48
  have hb24 : ∀ (s1 : Int32) (M : mwM) (L : mwL) (H : Heap) (locs : List Loc) (ls : Array Slot), fX19_value_b24 fu a1 a2 s1 M L = some (r0, M0, L0) → mw_W G ad NF TF FF M L H locs → lv_has ls 3 [(0, .ref (ad 732)), (1, .int a1), (2, .int a2)] → W p l e ({ frames := 1, cells := 0, slots := 0, locals := 21 }) s m [.ref (ad 732), .int a1, .int a2].toArray below meth c H locs 0 0 (MQ below (mw_Ql G ad NF TF FF (mw_eqL r0 M0 L0)) [.ref (ad 732), .int a1, .int a2].toArray s 0 0 (mw_fr G)) (F0 m 24 ls [.int s1, .ref (ad 732)]) := by
    intro s1 M L H locs ls hD hw hl
    unfold fX19_value_b24 at hD
    obtain ⟨M1, eM1, hD⟩ := g_let hD
    refine mr_putI C hw kc_19 0 (by decide) tf_732 wd_2781 dX19_value_24 (by decide) rfl rfl rfl rfl (fun H locs hw => ?_)
    replace hw : mw_W G ad NF TF FF M1 L H locs := by rw [eM1]; exact hw
    refine lv_aload_n C.1.1 C.1.2.1 dX19_value_27 rfl (lv_at hl 0 rfl) ?_
    refine mr_getI C hw kc_19 0 (by decide) tf_732 wd_2781 dX19_value_28 (by decide) rfl ?_
    refine lv_if_le (tgt := 38) C.1.1 C.1.2.1 dX19_value_31 (by decide) (fun c2 => ?_) (fun c2 => ?_)
    · replace hD := g_pos c2 hD
      refine lv_aload_n C.1.1 C.1.2.1 dX19_value_38 rfl (lv_at hl 0 rfl) ?_
      refine mr_getR C hw kc_19 82 (by decide) tf_732 ff_732_82 wd_2863 dX19_value_39 (by decide) rfl ?_
      refine lv_iload_n C.1.1 C.1.2.1 dX19_value_42 rfl (lv_at hl 1 rfl) ?_
      obtain ⟨q3, hD⟩ := g_ck hD
      refine mr_aald C hw (by decide) tf_922 (by decide) (by decide) rfl rfl q3 (fr_922 _ (g_lt q3)) dX19_value_43 ?_
      refine lv_iload_n C.1.1 C.1.2.1 dX19_value_44 rfl (lv_at hl 2 rfl) ?_
      obtain ⟨r6, M4, L5, h1, hD⟩ := g_b3 hD
      refine md_cvL (As := [.int a2]) (rest := []) C hw (tX13_value l G ad fu ((964 + 53 * a1.toNatClampNeg)) a2 M1 L h1 (isMc_of (g_lt q3))) kc_13 (Mc_N0 (isMc_of (g_lt q3))) (Mc_T0 (isMc_of (g_lt q3))) wd_3550 cwX13_value ⟨Nat.le_of_ble_eq_true rfl, Nat.le_of_ble_eq_true rfl⟩ rfl hl.1 (Nat.le_of_ble_eq_true rfl) dX19_value_45 rfl rfl ⟨Nat.zero_le _, Nat.zero_le _⟩ rfl (fun H locs hw => ?_)
      exact hb48 r6 M4 L5 _ _ ls hD hw (lv_sub hl [] rfl)
    · replace hD := g_neg c2 hD
      refine lv_lconst (v := 0) C.1.1 C.1.2.1 dX19_value_34 (by decide) ?_
      refine lv_goto (tgt := 48) C.1.1 C.1.2.1 dX19_value_35 (by decide) ?_
      exact hb48 0 M1 L _ _ ls hD hw (lv_sub hl [] rfl)
  have hb19 : ∀ (M : mwM) (L : mwL) (H : Heap) (locs : List Loc) (ls : Array Slot), fX19_value_b19 fu a1 a2 M L = some (r0, M0, L0) → mw_W G ad NF TF FF M L H locs → lv_has ls 3 [(0, .ref (ad 732)), (1, .int a1), (2, .int a2)] → W p l e ({ frames := 1, cells := 0, slots := 0, locals := 21 }) s m [.ref (ad 732), .int a1, .int a2].toArray below meth c H locs 0 0 (MQ below (mw_Ql G ad NF TF FF (mw_eqL r0 M0 L0)) [.ref (ad 732), .int a1, .int a2].toArray s 0 0 (mw_fr G)) (F0 m 19 ls [.ref (ad 732)]) := by
    intro M L H locs ls hD hw hl
    unfold fX19_value_b19 at hD
    refine lv_iconst (v := 1) C.1.1 C.1.2.1 dX19_value_19 (by decide) ?_
    refine lv_goto (tgt := 24) C.1.1 C.1.2.1 dX19_value_20 (by decide) ?_
    exact hb24 1 M L _ _ ls hD hw (lv_sub hl [0, 1, 2] rfl)
  unfold DX19_value at hD
  refine lv_aload_n C.1.1 C.1.2.1 dX19_value_0 rfl (lv_at hl 0 rfl) ?_
  refine lv_aload_n C.1.1 C.1.2.1 dX19_value_1 rfl (lv_at hl 0 rfl) ?_
  refine lv_iload_n C.1.1 C.1.2.1 dX19_value_2 rfl (lv_at hl 1 rfl) ?_
  obtain ⟨r9, M7, L8, h1, hD⟩ := g_b3 hD
  refine md_cvI (As := [.int a1]) (rest := [.ref (ad 732)]) C hw (tX19_noChart l G ad fu a1 M L h1) kc_19 (by decide) tf_732 wd_4270 cwX19_noChart ⟨Nat.le_of_ble_eq_true rfl, Nat.le_of_ble_eq_true rfl⟩ rfl hl.1 (Nat.le_of_ble_eq_true rfl) dX19_value_3 rfl rfl ⟨Nat.zero_le _, Nat.zero_le _⟩ rfl (fun H locs hw => ?_)
  refine lv_if_ne (tgt := 19) C.1.1 C.1.2.1 dX19_value_6 (by decide) (fun c10 => ?_) (fun c10 => ?_)
  · replace hD := g_neg c10 hD
    exact hb19 M7 L8 _ _ ls hD hw (lv_sub hl [0, 1, 2] rfl)
  · replace hD := g_pos c10 hD
    refine lv_iload_n C.1.1 C.1.2.1 dX19_value_9 rfl (lv_at hl 2 rfl) ?_
    refine lv_if_lt (tgt := 19) C.1.1 C.1.2.1 dX19_value_10 (by decide) (fun c11 => ?_) (fun c11 => ?_)
    · replace hD := g_pos c11 hD
      exact hb19 M7 L8 _ _ ls hD hw (lv_sub hl [0, 1, 2] rfl)
    · replace hD := g_neg c11 hD
      refine lv_iload_n C.1.1 C.1.2.1 dX19_value_13 rfl (lv_at hl 2 rfl) ?_
      refine lv_bipush (v := 31) C.1.1 C.1.2.1 dX19_value_14 (by decide) ?_
      refine lv_icmp_le (tgt := 23) C.1.1 C.1.2.1 dX19_value_16 (by decide) (fun c12 => ?_) (fun c12 => ?_)
      · replace hD := g_pos c12 hD
        refine lv_iconst (v := 0) C.1.1 C.1.2.1 dX19_value_23 (by decide) ?_
        exact hb24 0 M7 L8 _ _ ls hD hw (lv_sub hl [0, 1, 2] rfl)
      · replace hD := g_neg c12 hD
        exact hb19 M7 L8 _ _ ls hD hw (lv_sub hl [0, 1, 2] rfl)

theorem dX19_chart_0 : decode cX19_chart 0 = .ok (.aload_n 0, 1) := by decide +kernel
theorem dX19_chart_1 : decode cX19_chart 1 = .ok (.aload_n 0, 1) := by decide +kernel
theorem dX19_chart_2 : decode cX19_chart 2 = .ok (.iload_n 1, 1) := by decide +kernel
theorem dX19_chart_3 : decode cX19_chart 3 = .ok (.invokevirtual 832, 3) := by decide +kernel
theorem dX19_chart_6 : decode cX19_chart 6 = .ok (.ifCond .eq 7, 3) := by decide +kernel
theorem dX19_chart_9 : decode cX19_chart 9 = .ok (.iconst 1, 1) := by decide +kernel
theorem dX19_chart_10 : decode cX19_chart 10 = .ok (.goto 18, 3) := by decide +kernel
theorem dX19_chart_13 : decode cX19_chart 13 = .ok (.iload_n 2, 1) := by decide +kernel
theorem dX19_chart_14 : decode cX19_chart 14 = .ok (.ifCond .lt 9, 3) := by decide +kernel
theorem dX19_chart_17 : decode cX19_chart 17 = .ok (.iload_n 2, 1) := by decide +kernel
theorem dX19_chart_18 : decode cX19_chart 18 = .ok (.bipush 7, 2) := by decide +kernel
theorem dX19_chart_20 : decode cX19_chart 20 = .ok (.if_icmp .le 7, 3) := by decide +kernel
theorem dX19_chart_23 : decode cX19_chart 23 = .ok (.iconst 2, 1) := by decide +kernel
theorem dX19_chart_24 : decode cX19_chart 24 = .ok (.goto 4, 3) := by decide +kernel
theorem dX19_chart_27 : decode cX19_chart 27 = .ok (.iconst 0, 1) := by decide +kernel
theorem dX19_chart_28 : decode cX19_chart 28 = .ok (.putfield 289, 3) := by decide +kernel
theorem dX19_chart_31 : decode cX19_chart 31 = .ok (.aload_n 0, 1) := by decide +kernel
theorem dX19_chart_32 : decode cX19_chart 32 = .ok (.getfield 289, 3) := by decide +kernel
theorem dX19_chart_35 : decode cX19_chart 35 = .ok (.ifCond .le 5, 3) := by decide +kernel
theorem dX19_chart_38 : decode cX19_chart 38 = .ok (.iconst 0, 1) := by decide +kernel
theorem dX19_chart_39 : decode cX19_chart 39 = .ok (.ireturn, 1) := by decide +kernel
theorem dX19_chart_40 : decode cX19_chart 40 = .ok (.iload_n 2, 1) := by decide +kernel
theorem dX19_chart_41 : decode cX19_chart 41 = .ok (.iconst 3, 1) := by decide +kernel
theorem dX19_chart_42 : decode cX19_chart 42 = .ok (.if_icmp .ge 40, 3) := by decide +kernel
theorem dX19_chart_45 : decode cX19_chart 45 = .ok (.iload_n 2, 1) := by decide +kernel
theorem dX19_chart_46 : decode cX19_chart 46 = .ok (.ifCond .ne 15, 3) := by decide +kernel
theorem dX19_chart_49 : decode cX19_chart 49 = .ok (.aload_n 0, 1) := by decide +kernel
theorem dX19_chart_50 : decode cX19_chart 50 = .ok (.getfield 217, 3) := by decide +kernel
theorem dX19_chart_53 : decode cX19_chart 53 = .ok (.iload_n 1, 1) := by decide +kernel
theorem dX19_chart_54 : decode cX19_chart 54 = .ok (.aaload, 1) := by decide +kernel
theorem dX19_chart_55 : decode cX19_chart 55 = .ok (.invokevirtual 838, 3) := by decide +kernel
theorem dX19_chart_58 : decode cX19_chart 58 = .ok (.goto 23, 3) := by decide +kernel
theorem dX19_chart_61 : decode cX19_chart 61 = .ok (.iload_n 2, 1) := by decide +kernel
theorem dX19_chart_62 : decode cX19_chart 62 = .ok (.iconst 1, 1) := by decide +kernel
theorem dX19_chart_63 : decode cX19_chart 63 = .ok (.if_icmp .ne 12, 3) := by decide +kernel
theorem dX19_chart_66 : decode cX19_chart 66 = .ok (.aload_n 0, 1) := by decide +kernel
theorem dX19_chart_67 : decode cX19_chart 67 = .ok (.getfield 67, 3) := by decide +kernel
theorem dX19_chart_70 : decode cX19_chart 70 = .ok (.iload_n 1, 1) := by decide +kernel
theorem dX19_chart_71 : decode cX19_chart 71 = .ok (.iaload, 1) := by decide +kernel
theorem dX19_chart_72 : decode cX19_chart 72 = .ok (.goto 9, 3) := by decide +kernel
theorem dX19_chart_75 : decode cX19_chart 75 = .ok (.aload_n 0, 1) := by decide +kernel
theorem dX19_chart_76 : decode cX19_chart 76 = .ok (.getfield 64, 3) := by decide +kernel
theorem dX19_chart_79 : decode cX19_chart 79 = .ok (.iload_n 1, 1) := by decide +kernel
theorem dX19_chart_80 : decode cX19_chart 80 = .ok (.iaload, 1) := by decide +kernel
theorem dX19_chart_81 : decode cX19_chart 81 = .ok (.ireturn, 1) := by decide +kernel
theorem dX19_chart_82 : decode cX19_chart 82 = .ok (.aload_n 0, 1) := by decide +kernel
theorem dX19_chart_83 : decode cX19_chart 83 = .ok (.getfield 217, 3) := by decide +kernel
theorem dX19_chart_86 : decode cX19_chart 86 = .ok (.iload_n 1, 1) := by decide +kernel
theorem dX19_chart_87 : decode cX19_chart 87 = .ok (.aaload, 1) := by decide +kernel
theorem dX19_chart_88 : decode cX19_chart 88 = .ok (.iload_n 2, 1) := by decide +kernel
theorem dX19_chart_89 : decode cX19_chart 89 = .ok (.iconst 3, 1) := by decide +kernel
theorem dX19_chart_90 : decode cX19_chart 90 = .ok (.isub, 1) := by decide +kernel
theorem dX19_chart_91 : decode cX19_chart 91 = .ok (.invokevirtual 841, 3) := by decide +kernel
theorem dX19_chart_94 : decode cX19_chart 94 = .ok (.ireturn, 1) := by decide +kernel
theorem cwX19_chart : mw_cwV yX19_chart cX19_chart 3 ((some .int)) 2 := ⟨⟨wd_13, wd_4285, by decide +kernel⟩, wd_4283, wd_4284⟩
noncomputable def fX19_chart_b81 (fu : Nat) (a1 : Int32) (a2 : Int32) (s0 : Int32) (M : mwM) (L : mwL) : Option (Int32 × mwM × mwL) :=
  some (s0, M, L)
noncomputable def fX19_chart_b28 (fu : Nat) (a1 : Int32) (a2 : Int32) (s1 : Int32) (M : mwM) (L : mwL) : Option (Int32 × mwM × mwL) :=
  mlet (mset M 732 0 s1) (fun M1 => (if (M1 732 0) ≤ 0 then (if 3 ≤ a2 then mck a1 12 (mb3 (DX13_covered fu ((964 + 53 * a1.toNatClampNeg)) (a2 - 3) M1 L) (fun r7 M5 L6 => some (r7, M5, L6))) else (if a2 = 0 then mck a1 12 (mb3 (DX13_dropped fu ((964 + 53 * a1.toNatClampNeg)) M1 L) (fun r15 M13 L14 => fX19_chart_b81 fu a1 a2 r15 M13 L14)) else (if a2 = 1 then mck a1 12 (fX19_chart_b81 fu a1 a2 (M1 752 a1.toNatClampNeg) M1 L) else mck a1 12 (fX19_chart_b81 fu a1 a2 (M1 751 a1.toNatClampNeg) M1 L)))) else some (0, M1, L)))
noncomputable def fX19_chart_b23 (fu : Nat) (a1 : Int32) (a2 : Int32) (M : mwM) (L : mwL) : Option (Int32 × mwM × mwL) :=
  fX19_chart_b28 fu a1 a2 2 M L
noncomputable def DX19_chart (fu : Nat) (a1 : Int32) (a2 : Int32) (M : mwM) (L : mwL) : Option (Int32 × mwM × mwL) :=
  mb3 (DX19_noChart fu a1 M L) (fun r18 M16 L17 => (if r18 = 0 then (if a2 < 0 then fX19_chart_b23 fu a1 a2 M16 L17 else (if a2 ≤ 7 then fX19_chart_b28 fu a1 a2 0 M16 L17 else fX19_chart_b23 fu a1 a2 M16 L17)) else fX19_chart_b28 fu a1 a2 1 M16 L17))
set_option maxHeartbeats 4000000 in
set_option maxRecDepth 100000 in
theorem tX19_chart (l : Launch) (G : mwG) (ad : Nat → Nat) (fu : Nat) (a1 : Int32) (a2 : Int32) (M : mwM) (L : mwL) {r0 : Int32} {M0 : mwM} {L0 : mwL} (hD : DX19_chart fu a1 a2 M L = some (r0, M0, L0)) : Met l yX19_chart (Cond.code yX19_chart cX19_chart 3 ((some .int)) :: GT) ({ frames := 1, cells := 0, slots := 0, locals := 23 }) (mw_Pre G ad NF TF FF M L [.ref (ad 732), .int a1, .int a2]) (mw_Qi G ad NF TF FF (mw_eqI r0 M0 L0)) 0 0 (mw_fr G) := by
  refine mw_enter (by decide) (Nat.le_of_ble_eq_true rfl) ?_
  intro p e s m below meth c ls C hr hlocks hnm hw hl
  have hl : lv_has ls 3 [(0, .ref (ad 732)), (1, .int a1), (2, .int a2)] := hl
  have hb81 : ∀ (s0 : Int32) (M : mwM) (L : mwL) (H : Heap) (locs : List Loc) (ls : Array Slot), fX19_chart_b81 fu a1 a2 s0 M L = some (r0, M0, L0) → mw_W G ad NF TF FF M L H locs → lv_has ls 3 [] → W p l e ({ frames := 1, cells := 0, slots := 0, locals := 23 }) s m [.ref (ad 732), .int a1, .int a2].toArray below meth c H locs 0 0 (MQ below (mw_Qi G ad NF TF FF (mw_eqI r0 M0 L0)) [.ref (ad 732), .int a1, .int a2].toArray s 0 0 (mw_fr G)) (F0 m 81 ls [.int s0]) := by
    intro s0 M L H locs ls hD hw hl
    unfold fX19_chart_b81 at hD
    exact mr_iret C hr hlocks hw rfl (Option.some.inj hD) dX19_chart_81
  have hb28 : ∀ (s1 : Int32) (M : mwM) (L : mwL) (H : Heap) (locs : List Loc) (ls : Array Slot), fX19_chart_b28 fu a1 a2 s1 M L = some (r0, M0, L0) → mw_W G ad NF TF FF M L H locs → lv_has ls 3 [(0, .ref (ad 732)), (1, .int a1), (2, .int a2)] → W p l e ({ frames := 1, cells := 0, slots := 0, locals := 23 }) s m [.ref (ad 732), .int a1, .int a2].toArray below meth c H locs 0 0 (MQ below (mw_Qi G ad NF TF FF (mw_eqI r0 M0 L0)) [.ref (ad 732), .int a1, .int a2].toArray s 0 0 (mw_fr G)) (F0 m 28 ls [.int s1, .ref (ad 732)]) := by
    intro s1 M L H locs ls hD hw hl
    unfold fX19_chart_b28 at hD
    obtain ⟨M1, eM1, hD⟩ := g_let hD
    refine mr_putI C hw kc_19 0 (by decide) tf_732 wd_2781 dX19_chart_28 (by decide) rfl rfl rfl rfl (fun H locs hw => ?_)
    replace hw : mw_W G ad NF TF FF M1 L H locs := by rw [eM1]; exact hw
    refine lv_aload_n C.1.1 C.1.2.1 dX19_chart_31 rfl (lv_at hl 0 rfl) ?_
    refine mr_getI C hw kc_19 0 (by decide) tf_732 wd_2781 dX19_chart_32 (by decide) rfl ?_
    refine lv_if_le (tgt := 40) C.1.1 C.1.2.1 dX19_chart_35 (by decide) (fun c2 => ?_) (fun c2 => ?_)
    · replace hD := g_pos c2 hD
      refine lv_iload_n C.1.1 C.1.2.1 dX19_chart_40 rfl (lv_at hl 2 rfl) ?_
      refine lv_iconst (v := 3) C.1.1 C.1.2.1 dX19_chart_41 (by decide) ?_
      refine lv_icmp_ge (tgt := 82) C.1.1 C.1.2.1 dX19_chart_42 (by decide) (fun c3 => ?_) (fun c3 => ?_)
      · replace hD := g_pos c3 hD
        refine lv_aload_n C.1.1 C.1.2.1 dX19_chart_82 rfl (lv_at hl 0 rfl) ?_
        refine mr_getR C hw kc_19 82 (by decide) tf_732 ff_732_82 wd_2863 dX19_chart_83 (by decide) rfl ?_
        refine lv_iload_n C.1.1 C.1.2.1 dX19_chart_86 rfl (lv_at hl 1 rfl) ?_
        obtain ⟨q4, hD⟩ := g_ck hD
        refine mr_aald C hw (by decide) tf_922 (by decide) (by decide) rfl rfl q4 (fr_922 _ (g_lt q4)) dX19_chart_87 ?_
        refine lv_iload_n C.1.1 C.1.2.1 dX19_chart_88 rfl (lv_at hl 2 rfl) ?_
        refine lv_iconst (v := 3) C.1.1 C.1.2.1 dX19_chart_89 (by decide) ?_
        refine lv_isub C.1.1 C.1.2.1 dX19_chart_90 ?_
        obtain ⟨r7, M5, L6, h1, hD⟩ := g_b3 hD
        refine md_cvI (As := [.int (a2 - 3)]) (rest := []) C hw (tX13_covered l G ad fu ((964 + 53 * a1.toNatClampNeg)) (a2 - 3) M1 L h1 (isMc_of (g_lt q4))) kc_13 (Mc_N0 (isMc_of (g_lt q4))) (Mc_T0 (isMc_of (g_lt q4))) wd_4290 cwX13_covered ⟨Nat.le_of_ble_eq_true rfl, Nat.le_of_ble_eq_true rfl⟩ rfl hl.1 (Nat.le_of_ble_eq_true rfl) dX19_chart_91 rfl rfl ⟨Nat.zero_le _, Nat.zero_le _⟩ rfl (fun H locs hw => ?_)
        exact mr_iret C hr hlocks hw rfl (Option.some.inj hD) dX19_chart_94
      · replace hD := g_neg c3 hD
        refine lv_iload_n C.1.1 C.1.2.1 dX19_chart_45 rfl (lv_at hl 2 rfl) ?_
        refine lv_if_ne (tgt := 61) C.1.1 C.1.2.1 dX19_chart_46 (by decide) (fun c8 => ?_) (fun c8 => ?_)
        · replace hD := g_neg c8 hD
          refine lv_iload_n C.1.1 C.1.2.1 dX19_chart_61 rfl (lv_at hl 2 rfl) ?_
          refine lv_iconst (v := 1) C.1.1 C.1.2.1 dX19_chart_62 (by decide) ?_
          refine lv_icmp_ne (tgt := 75) C.1.1 C.1.2.1 dX19_chart_63 (by decide) (fun c9 => ?_) (fun c9 => ?_)
          · replace hD := g_neg c9 hD
            refine lv_aload_n C.1.1 C.1.2.1 dX19_chart_75 rfl (lv_at hl 0 rfl) ?_
            refine mr_getR C hw kc_19 36 (by decide) tf_732 ff_732_36 wd_2817 dX19_chart_76 (by decide) rfl ?_
            refine lv_iload_n C.1.1 C.1.2.1 dX19_chart_79 rfl (lv_at hl 1 rfl) ?_
            obtain ⟨q10, hD⟩ := g_ck hD
            refine mr_iald C hw (by decide) tf_751 q10 dX19_chart_80 ?_
            exact hb81 (M1 751 a1.toNatClampNeg) M1 L _ _ ls hD hw (lv_sub hl [] rfl)
          · replace hD := g_pos c9 hD
            refine lv_aload_n C.1.1 C.1.2.1 dX19_chart_66 rfl (lv_at hl 0 rfl) ?_
            refine mr_getR C hw kc_19 37 (by decide) tf_732 ff_732_37 wd_2818 dX19_chart_67 (by decide) rfl ?_
            refine lv_iload_n C.1.1 C.1.2.1 dX19_chart_70 rfl (lv_at hl 1 rfl) ?_
            obtain ⟨q11, hD⟩ := g_ck hD
            refine mr_iald C hw (by decide) tf_752 q11 dX19_chart_71 ?_
            refine lv_goto (tgt := 81) C.1.1 C.1.2.1 dX19_chart_72 (by decide) ?_
            exact hb81 (M1 752 a1.toNatClampNeg) M1 L _ _ ls hD hw (lv_sub hl [] rfl)
        · replace hD := g_pos c8 hD
          refine lv_aload_n C.1.1 C.1.2.1 dX19_chart_49 rfl (lv_at hl 0 rfl) ?_
          refine mr_getR C hw kc_19 82 (by decide) tf_732 ff_732_82 wd_2863 dX19_chart_50 (by decide) rfl ?_
          refine lv_iload_n C.1.1 C.1.2.1 dX19_chart_53 rfl (lv_at hl 1 rfl) ?_
          obtain ⟨q12, hD⟩ := g_ck hD
          refine mr_aald C hw (by decide) tf_922 (by decide) (by decide) rfl rfl q12 (fr_922 _ (g_lt q12)) dX19_chart_54 ?_
          obtain ⟨r15, M13, L14, h1, hD⟩ := g_b3 hD
          refine md_cvI (As := []) (rest := []) C hw (tX13_dropped l G ad fu ((964 + 53 * a1.toNatClampNeg)) M1 L h1 (isMc_of (g_lt q12))) kc_13 (Mc_N0 (isMc_of (g_lt q12))) (Mc_T0 (isMc_of (g_lt q12))) wd_4286 cwX13_dropped ⟨Nat.le_of_ble_eq_true rfl, Nat.le_of_ble_eq_true rfl⟩ rfl hl.1 (Nat.le_of_ble_eq_true rfl) dX19_chart_55 rfl rfl ⟨Nat.zero_le _, Nat.zero_le _⟩ rfl (fun H locs hw => ?_)
          refine lv_goto (tgt := 81) C.1.1 C.1.2.1 dX19_chart_58 (by decide) ?_
          exact hb81 r15 M13 L14 _ _ ls hD hw (lv_sub hl [] rfl)
    · replace hD := g_neg c2 hD
      refine lv_iconst (v := 0) C.1.1 C.1.2.1 dX19_chart_38 (by decide) ?_
      exact mr_iret C hr hlocks hw rfl (Option.some.inj hD) dX19_chart_39
  have hb23 : ∀ (M : mwM) (L : mwL) (H : Heap) (locs : List Loc) (ls : Array Slot), fX19_chart_b23 fu a1 a2 M L = some (r0, M0, L0) → mw_W G ad NF TF FF M L H locs → lv_has ls 3 [(0, .ref (ad 732)), (1, .int a1), (2, .int a2)] → W p l e ({ frames := 1, cells := 0, slots := 0, locals := 23 }) s m [.ref (ad 732), .int a1, .int a2].toArray below meth c H locs 0 0 (MQ below (mw_Qi G ad NF TF FF (mw_eqI r0 M0 L0)) [.ref (ad 732), .int a1, .int a2].toArray s 0 0 (mw_fr G)) (F0 m 23 ls [.ref (ad 732)]) := by
    intro M L H locs ls hD hw hl
    unfold fX19_chart_b23 at hD
    refine lv_iconst (v := 2) C.1.1 C.1.2.1 dX19_chart_23 (by decide) ?_
    refine lv_goto (tgt := 28) C.1.1 C.1.2.1 dX19_chart_24 (by decide) ?_
    exact hb28 2 M L _ _ ls hD hw (lv_sub hl [0, 1, 2] rfl)
  unfold DX19_chart at hD
  refine lv_aload_n C.1.1 C.1.2.1 dX19_chart_0 rfl (lv_at hl 0 rfl) ?_
  refine lv_aload_n C.1.1 C.1.2.1 dX19_chart_1 rfl (lv_at hl 0 rfl) ?_
  refine lv_iload_n C.1.1 C.1.2.1 dX19_chart_2 rfl (lv_at hl 1 rfl) ?_
  obtain ⟨r18, M16, L17, h1, hD⟩ := g_b3 hD
  refine md_cvI (As := [.int a1]) (rest := [.ref (ad 732)]) C hw (tX19_noChart l G ad fu a1 M L h1) kc_19 (by decide) tf_732 wd_4270 cwX19_noChart ⟨Nat.le_of_ble_eq_true rfl, Nat.le_of_ble_eq_true rfl⟩ rfl hl.1 (Nat.le_of_ble_eq_true rfl) dX19_chart_3 rfl rfl ⟨Nat.zero_le _, Nat.zero_le _⟩ rfl (fun H locs hw => ?_)
  refine lv_if_eq (tgt := 13) C.1.1 C.1.2.1 dX19_chart_6 (by decide) (fun c19 => ?_) (fun c19 => ?_)
  · replace hD := g_pos c19 hD
    refine lv_iload_n C.1.1 C.1.2.1 dX19_chart_13 rfl (lv_at hl 2 rfl) ?_
    refine lv_if_lt (tgt := 23) C.1.1 C.1.2.1 dX19_chart_14 (by decide) (fun c20 => ?_) (fun c20 => ?_)
    · replace hD := g_pos c20 hD
      exact hb23 M16 L17 _ _ ls hD hw (lv_sub hl [0, 1, 2] rfl)
    · replace hD := g_neg c20 hD
      refine lv_iload_n C.1.1 C.1.2.1 dX19_chart_17 rfl (lv_at hl 2 rfl) ?_
      refine lv_bipush (v := 7) C.1.1 C.1.2.1 dX19_chart_18 (by decide) ?_
      refine lv_icmp_le (tgt := 27) C.1.1 C.1.2.1 dX19_chart_20 (by decide) (fun c21 => ?_) (fun c21 => ?_)
      · replace hD := g_pos c21 hD
        refine lv_iconst (v := 0) C.1.1 C.1.2.1 dX19_chart_27 (by decide) ?_
        exact hb28 0 M16 L17 _ _ ls hD hw (lv_sub hl [0, 1, 2] rfl)
      · replace hD := g_neg c21 hD
        exact hb23 M16 L17 _ _ ls hD hw (lv_sub hl [0, 1, 2] rfl)
  · replace hD := g_neg c19 hD
    refine lv_iconst (v := 1) C.1.1 C.1.2.1 dX19_chart_9 (by decide) ?_
    refine lv_goto (tgt := 28) C.1.1 C.1.2.1 dX19_chart_10 (by decide) ?_
    exact hb28 1 M16 L17 _ _ ls hD hw (lv_sub hl [0, 1, 2] rfl)

theorem dX19_trouble_0 : decode cX19_trouble 0 = .ok (.aload_n 0, 1) := by decide +kernel
theorem dX19_trouble_1 : decode cX19_trouble 1 = .ok (.aload_n 0, 1) := by decide +kernel
theorem dX19_trouble_2 : decode cX19_trouble 2 = .ok (.getfield 630, 3) := by decide +kernel
theorem dX19_trouble_5 : decode cX19_trouble 5 = .ok (.ifCond .eq 15, 3) := by decide +kernel
theorem dX19_trouble_8 : decode cX19_trouble 8 = .ok (.iload_n 1, 1) := by decide +kernel
theorem dX19_trouble_9 : decode cX19_trouble 9 = .ok (.ifCond .lt 11, 3) := by decide +kernel
theorem dX19_trouble_12 : decode cX19_trouble 12 = .ok (.iload_n 1, 1) := by decide +kernel
theorem dX19_trouble_13 : decode cX19_trouble 13 = .ok (.aload_n 0, 1) := by decide +kernel
theorem dX19_trouble_14 : decode cX19_trouble 14 = .ok (.getfield 558, 3) := by decide +kernel
theorem dX19_trouble_17 : decode cX19_trouble 17 = .ok (.if_icmp .lt 7, 3) := by decide +kernel
theorem dX19_trouble_20 : decode cX19_trouble 20 = .ok (.iconst 1, 1) := by decide +kernel
theorem dX19_trouble_21 : decode cX19_trouble 21 = .ok (.goto 17, 3) := by decide +kernel
theorem dX19_trouble_24 : decode cX19_trouble 24 = .ok (.iload_n 2, 1) := by decide +kernel
theorem dX19_trouble_25 : decode cX19_trouble 25 = .ok (.ifCond .lt 8, 3) := by decide +kernel
theorem dX19_trouble_28 : decode cX19_trouble 28 = .ok (.iload_n 2, 1) := by decide +kernel
theorem dX19_trouble_29 : decode cX19_trouble 29 = .ok (.iconst 4, 1) := by decide +kernel
theorem dX19_trouble_30 : decode cX19_trouble 30 = .ok (.if_icmp .le 7, 3) := by decide +kernel
theorem dX19_trouble_33 : decode cX19_trouble 33 = .ok (.iconst 2, 1) := by decide +kernel
theorem dX19_trouble_34 : decode cX19_trouble 34 = .ok (.goto 4, 3) := by decide +kernel
theorem dX19_trouble_37 : decode cX19_trouble 37 = .ok (.iconst 0, 1) := by decide +kernel
theorem dX19_trouble_38 : decode cX19_trouble 38 = .ok (.putfield 289, 3) := by decide +kernel
theorem dX19_trouble_41 : decode cX19_trouble 41 = .ok (.aload_n 0, 1) := by decide +kernel
theorem dX19_trouble_42 : decode cX19_trouble 42 = .ok (.getfield 289, 3) := by decide +kernel
theorem dX19_trouble_45 : decode cX19_trouble 45 = .ok (.ifCond .le 5, 3) := by decide +kernel
theorem dX19_trouble_48 : decode cX19_trouble 48 = .ok (.iconst 0, 1) := by decide +kernel
theorem dX19_trouble_49 : decode cX19_trouble 49 = .ok (.ireturn, 1) := by decide +kernel
theorem dX19_trouble_50 : decode cX19_trouble 50 = .ok (.aload_n 0, 1) := by decide +kernel
theorem dX19_trouble_51 : decode cX19_trouble 51 = .ok (.getfield 144, 3) := by decide +kernel
theorem dX19_trouble_54 : decode cX19_trouble 54 = .ok (.iload_n 1, 1) := by decide +kernel
theorem dX19_trouble_55 : decode cX19_trouble 55 = .ok (.iaload, 1) := by decide +kernel
theorem dX19_trouble_56 : decode cX19_trouble 56 = .ok (.istore_n 3, 1) := by decide +kernel
theorem dX19_trouble_57 : decode cX19_trouble 57 = .ok (.iload_n 2, 1) := by decide +kernel
theorem dX19_trouble_58 : decode cX19_trouble 58 = .ok (.iconst 2, 1) := by decide +kernel
theorem dX19_trouble_59 : decode cX19_trouble 59 = .ok (.if_icmp .ge 27, 3) := by decide +kernel
theorem dX19_trouble_62 : decode cX19_trouble 62 = .ok (.iload_n 2, 1) := by decide +kernel
theorem dX19_trouble_63 : decode cX19_trouble 63 = .ok (.ifCond .ne 14, 3) := by decide +kernel
theorem dX19_trouble_66 : decode cX19_trouble 66 = .ok (.aload_n 0, 1) := by decide +kernel
theorem dX19_trouble_67 : decode cX19_trouble 67 = .ok (.getfield 205, 3) := by decide +kernel
theorem dX19_trouble_70 : decode cX19_trouble 70 = .ok (.iload_n 3, 1) := by decide +kernel
theorem dX19_trouble_71 : decode cX19_trouble 71 = .ok (.invokevirtual 774, 3) := by decide +kernel
theorem dX19_trouble_74 : decode cX19_trouble 74 = .ok (.goto 11, 3) := by decide +kernel
theorem dX19_trouble_77 : decode cX19_trouble 77 = .ok (.aload_n 0, 1) := by decide +kernel
theorem dX19_trouble_78 : decode cX19_trouble 78 = .ok (.getfield 205, 3) := by decide +kernel
theorem dX19_trouble_81 : decode cX19_trouble 81 = .ok (.iload_n 3, 1) := by decide +kernel
theorem dX19_trouble_82 : decode cX19_trouble 82 = .ok (.invokevirtual 844, 3) := by decide +kernel
theorem dX19_trouble_85 : decode cX19_trouble 85 = .ok (.ireturn, 1) := by decide +kernel
theorem dX19_trouble_86 : decode cX19_trouble 86 = .ok (.iload_n 2, 1) := by decide +kernel
theorem dX19_trouble_87 : decode cX19_trouble 87 = .ok (.iconst 4, 1) := by decide +kernel
theorem dX19_trouble_88 : decode cX19_trouble 88 = .ok (.if_icmp .ne 15, 3) := by decide +kernel
theorem dX19_trouble_91 : decode cX19_trouble 91 = .ok (.aload_n 0, 1) := by decide +kernel
theorem dX19_trouble_92 : decode cX19_trouble 92 = .ok (.getfield 205, 3) := by decide +kernel
theorem dX19_trouble_95 : decode cX19_trouble 95 = .ok (.iload_n 1, 1) := by decide +kernel
theorem dX19_trouble_96 : decode cX19_trouble 96 = .ok (.iconst 0, 1) := by decide +kernel
theorem dX19_trouble_97 : decode cX19_trouble 97 = .ok (.invokevirtual 771, 3) := by decide +kernel
theorem dX19_trouble_100 : decode cX19_trouble 100 = .ok (.goto 15, 3) := by decide +kernel
theorem dX19_trouble_103 : decode cX19_trouble 103 = .ok (.aload_n 0, 1) := by decide +kernel
theorem dX19_trouble_104 : decode cX19_trouble 104 = .ok (.getfield 205, 3) := by decide +kernel
theorem dX19_trouble_107 : decode cX19_trouble 107 = .ok (.iload_n 3, 1) := by decide +kernel
theorem dX19_trouble_108 : decode cX19_trouble 108 = .ok (.iload_n 2, 1) := by decide +kernel
theorem dX19_trouble_109 : decode cX19_trouble 109 = .ok (.iconst 2, 1) := by decide +kernel
theorem dX19_trouble_110 : decode cX19_trouble 110 = .ok (.isub, 1) := by decide +kernel
theorem dX19_trouble_111 : decode cX19_trouble 111 = .ok (.iconst 1, 1) := by decide +kernel
theorem dX19_trouble_112 : decode cX19_trouble 112 = .ok (.invokevirtual 847, 3) := by decide +kernel
theorem dX19_trouble_115 : decode cX19_trouble 115 = .ok (.ireturn, 1) := by decide +kernel
theorem cwX19_trouble : mw_cwV yX19_trouble cX19_trouble 4 ((some .int)) 2 := ⟨⟨wd_13, wd_4297, by decide +kernel⟩, wd_4295, wd_4296⟩
noncomputable def fX19_trouble_b115 (fu : Nat) (a1 : Int32) (a2 : Int32) (s0 : Int32) (M : mwM) (L : mwL) : Option (Int32 × mwM × mwL) :=
  some (s0, M, L)
noncomputable def fX19_trouble_b85 (fu : Nat) (a1 : Int32) (a2 : Int32) (s0 : Int32) (M : mwM) (L : mwL) : Option (Int32 × mwM × mwL) :=
  some (s0, M, L)
noncomputable def fX19_trouble_b38 (fu : Nat) (a1 : Int32) (a2 : Int32) (s1 : Int32) (M : mwM) (L : mwL) : Option (Int32 × mwM × mwL) :=
  mlet (mset M 732 0 s1) (fun M1 => (if (M1 732 0) ≤ 0 then mck a1 30 (mlet (M1 777 a1.toNatClampNeg) (fun x4 => (if 2 ≤ a2 then (if a2 = 4 then mb3 (DX18_stored fu a1 0 M1 L) (fun r12 M10 L11 => fX19_trouble_b115 fu a1 a2 r12 M10 L11) else mb3 (DX18_snapshot fu x4 (a2 - 2) 1 M1 L) (fun r9 M7 L8 => fX19_trouble_b115 fu a1 a2 r9 M7 L8)) else (if a2 = 0 then mb3 (DX18_status fu x4 M1 L) (fun r19 M17 L18 => fX19_trouble_b85 fu a1 a2 r19 M17 L18) else mb3 (DX18_age fu x4 M1 L) (fun r16 M14 L15 => fX19_trouble_b85 fu a1 a2 r16 M14 L15))))) else some (0, M1, L)))
noncomputable def fX19_trouble_b20 (fu : Nat) (a1 : Int32) (a2 : Int32) (M : mwM) (L : mwL) : Option (Int32 × mwM × mwL) :=
  fX19_trouble_b38 fu a1 a2 1 M L
noncomputable def fX19_trouble_b33 (fu : Nat) (a1 : Int32) (a2 : Int32) (M : mwM) (L : mwL) : Option (Int32 × mwM × mwL) :=
  fX19_trouble_b38 fu a1 a2 2 M L
noncomputable def DX19_trouble (fu : Nat) (a1 : Int32) (a2 : Int32) (M : mwM) (L : mwL) : Option (Int32 × mwM × mwL) :=
  (if (M 732 4) = 0 then fX19_trouble_b20 fu a1 a2 M L else (if a1 < 0 then fX19_trouble_b20 fu a1 a2 M L else (if a1 < (M 732 62) then (if a2 < 0 then fX19_trouble_b33 fu a1 a2 M L else (if a2 ≤ 4 then fX19_trouble_b38 fu a1 a2 0 M L else fX19_trouble_b33 fu a1 a2 M L)) else fX19_trouble_b20 fu a1 a2 M L)))
set_option maxHeartbeats 4000000 in
set_option maxRecDepth 100000 in
theorem tX19_trouble (l : Launch) (G : mwG) (ad : Nat → Nat) (fu : Nat) (a1 : Int32) (a2 : Int32) (M : mwM) (L : mwL) {r0 : Int32} {M0 : mwM} {L0 : mwL} (hD : DX19_trouble fu a1 a2 M L = some (r0, M0, L0)) : Met l yX19_trouble (Cond.code yX19_trouble cX19_trouble 4 ((some .int)) :: GT) ({ frames := 3, cells := 0, slots := 0, locals := 66 }) (mw_Pre G ad NF TF FF M L [.ref (ad 732), .int a1, .int a2]) (mw_Qi G ad NF TF FF (mw_eqI r0 M0 L0)) 0 0 (mw_fr G) := by
  refine mw_enter (by decide) (Nat.le_of_ble_eq_true rfl) ?_
  intro p e s m below meth c ls C hr hlocks hnm hw hl
  have hl : lv_has ls 4 [(0, .ref (ad 732)), (1, .int a1), (2, .int a2)] := hl
  have hb115 : ∀ (s0 : Int32) (M : mwM) (L : mwL) (H : Heap) (locs : List Loc) (ls : Array Slot), fX19_trouble_b115 fu a1 a2 s0 M L = some (r0, M0, L0) → mw_W G ad NF TF FF M L H locs → lv_has ls 4 [] → W p l e ({ frames := 3, cells := 0, slots := 0, locals := 66 }) s m [.ref (ad 732), .int a1, .int a2].toArray below meth c H locs 0 0 (MQ below (mw_Qi G ad NF TF FF (mw_eqI r0 M0 L0)) [.ref (ad 732), .int a1, .int a2].toArray s 0 0 (mw_fr G)) (F0 m 115 ls [.int s0]) := by
    intro s0 M L H locs ls hD hw hl
    unfold fX19_trouble_b115 at hD
    exact mr_iret C hr hlocks hw rfl (Option.some.inj hD) dX19_trouble_115
  have hb85 : ∀ (s0 : Int32) (M : mwM) (L : mwL) (H : Heap) (locs : List Loc) (ls : Array Slot), fX19_trouble_b85 fu a1 a2 s0 M L = some (r0, M0, L0) → mw_W G ad NF TF FF M L H locs → lv_has ls 4 [] → W p l e ({ frames := 3, cells := 0, slots := 0, locals := 66 }) s m [.ref (ad 732), .int a1, .int a2].toArray below meth c H locs 0 0 (MQ below (mw_Qi G ad NF TF FF (mw_eqI r0 M0 L0)) [.ref (ad 732), .int a1, .int a2].toArray s 0 0 (mw_fr G)) (F0 m 85 ls [.int s0]) := by
    intro s0 M L H locs ls hD hw hl
    unfold fX19_trouble_b85 at hD
    exact mr_iret C hr hlocks hw rfl (Option.some.inj hD) dX19_trouble_85
  have hb38 : ∀ (s1 : Int32) (M : mwM) (L : mwL) (H : Heap) (locs : List Loc) (ls : Array Slot), fX19_trouble_b38 fu a1 a2 s1 M L = some (r0, M0, L0) → mw_W G ad NF TF FF M L H locs → lv_has ls 4 [(0, .ref (ad 732)), (1, .int a1), (2, .int a2)] → W p l e ({ frames := 3, cells := 0, slots := 0, locals := 66 }) s m [.ref (ad 732), .int a1, .int a2].toArray below meth c H locs 0 0 (MQ below (mw_Qi G ad NF TF FF (mw_eqI r0 M0 L0)) [.ref (ad 732), .int a1, .int a2].toArray s 0 0 (mw_fr G)) (F0 m 38 ls [.int s1, .ref (ad 732)]) := by
    intro s1 M L H locs ls hD hw hl
    unfold fX19_trouble_b38 at hD
    obtain ⟨M1, eM1, hD⟩ := g_let hD
    refine mr_putI C hw kc_19 0 (by decide) tf_732 wd_2781 dX19_trouble_38 (by decide) rfl rfl rfl rfl (fun H locs hw => ?_)
    replace hw : mw_W G ad NF TF FF M1 L H locs := by rw [eM1]; exact hw
    refine lv_aload_n C.1.1 C.1.2.1 dX19_trouble_41 rfl (lv_at hl 0 rfl) ?_
    refine mr_getI C hw kc_19 0 (by decide) tf_732 wd_2781 dX19_trouble_42 (by decide) rfl ?_
    refine lv_if_le (tgt := 50) C.1.1 C.1.2.1 dX19_trouble_45 (by decide) (fun c2 => ?_) (fun c2 => ?_)
    · replace hD := g_pos c2 hD
      refine lv_aload_n C.1.1 C.1.2.1 dX19_trouble_50 rfl (lv_at hl 0 rfl) ?_
      refine mr_getR C hw kc_19 65 (by decide) tf_732 ff_732_65 wd_2846 dX19_trouble_51 (by decide) rfl ?_
      refine lv_iload_n C.1.1 C.1.2.1 dX19_trouble_54 rfl (lv_at hl 1 rfl) ?_
      obtain ⟨q3, hD⟩ := g_ck hD
      refine mr_iald C hw (by decide) tf_777 q3 dX19_trouble_55 ?_
      obtain ⟨x4, ex4, hD⟩ := g_let hD
      refine W.eq (g2 := F0 m 56 ls (.int x4 :: [])) (by rw [ex4]) ?_
      refine lv_istore_n (lv' := [(3, .int x4), (0, .ref (ad 732)), (1, .int a1), (2, .int a2)]) C.1.1 C.1.2.1 dX19_trouble_56 rfl hl (by decide) rfl (fun ls hl => ?_)
      refine lv_iload_n C.1.1 C.1.2.1 dX19_trouble_57 rfl (lv_at hl 3 rfl) ?_
      refine lv_iconst (v := 2) C.1.1 C.1.2.1 dX19_trouble_58 (by decide) ?_
      refine lv_icmp_ge (tgt := 86) C.1.1 C.1.2.1 dX19_trouble_59 (by decide) (fun c5 => ?_) (fun c5 => ?_)
      · replace hD := g_pos c5 hD
        refine lv_iload_n C.1.1 C.1.2.1 dX19_trouble_86 rfl (lv_at hl 3 rfl) ?_
        refine lv_iconst (v := 4) C.1.1 C.1.2.1 dX19_trouble_87 (by decide) ?_
        refine lv_icmp_ne (tgt := 103) C.1.1 C.1.2.1 dX19_trouble_88 (by decide) (fun c6 => ?_) (fun c6 => ?_)
        · replace hD := g_neg c6 hD
          refine lv_aload_n C.1.1 C.1.2.1 dX19_trouble_103 rfl (lv_at hl 1 rfl) ?_
          refine mr_getR C hw kc_19 80 (by decide) tf_732 ff_732_80 wd_2861 dX19_trouble_104 (by decide) rfl ?_
          refine lv_iload_n C.1.1 C.1.2.1 dX19_trouble_107 rfl (lv_at hl 0 rfl) ?_
          refine lv_iload_n C.1.1 C.1.2.1 dX19_trouble_108 rfl (lv_at hl 3 rfl) ?_
          refine lv_iconst (v := 2) C.1.1 C.1.2.1 dX19_trouble_109 (by decide) ?_
          refine lv_isub C.1.1 C.1.2.1 dX19_trouble_110 ?_
          refine lv_iconst (v := 1) C.1.1 C.1.2.1 dX19_trouble_111 (by decide) ?_
          obtain ⟨r9, M7, L8, h1, hD⟩ := g_b3 hD
          refine md_cvI (As := [.int x4, .int (a2 - 2), .int 1]) (rest := []) C hw (tX18_snapshot l G ad fu x4 (a2 - 2) 1 M1 L h1) kc_18 (by decide) tf_902 wd_4302 cwX18_snapshot ⟨Nat.le_of_ble_eq_true rfl, Nat.le_of_ble_eq_true rfl⟩ rfl hl.1 (Nat.le_of_ble_eq_true rfl) dX19_trouble_112 rfl rfl ⟨Nat.zero_le _, Nat.zero_le _⟩ rfl (fun H locs hw => ?_)
          exact hb115 r9 M7 L8 _ _ ls hD hw (lv_sub hl [] rfl)
        · replace hD := g_pos c6 hD
          refine lv_aload_n C.1.1 C.1.2.1 dX19_trouble_91 rfl (lv_at hl 1 rfl) ?_
          refine mr_getR C hw kc_19 80 (by decide) tf_732 ff_732_80 wd_2861 dX19_trouble_92 (by decide) rfl ?_
          refine lv_iload_n C.1.1 C.1.2.1 dX19_trouble_95 rfl (lv_at hl 2 rfl) ?_
          refine lv_iconst (v := 0) C.1.1 C.1.2.1 dX19_trouble_96 (by decide) ?_
          obtain ⟨r12, M10, L11, h1, hD⟩ := g_b3 hD
          refine md_cvI (As := [.int a1, .int 0]) (rest := []) C hw (tX18_stored l G ad fu a1 0 M1 L h1) kc_18 (by decide) tf_902 wd_4016 cwX18_stored ⟨Nat.le_of_ble_eq_true rfl, Nat.le_of_ble_eq_true rfl⟩ rfl hl.1 (Nat.le_of_ble_eq_true rfl) dX19_trouble_97 rfl rfl ⟨Nat.zero_le _, Nat.zero_le _⟩ rfl (fun H locs hw => ?_)
          refine lv_goto (tgt := 115) C.1.1 C.1.2.1 dX19_trouble_100 (by decide) ?_
          exact hb115 r12 M10 L11 _ _ ls hD hw (lv_sub hl [] rfl)
      · replace hD := g_neg c5 hD
        refine lv_iload_n C.1.1 C.1.2.1 dX19_trouble_62 rfl (lv_at hl 3 rfl) ?_
        refine lv_if_ne (tgt := 77) C.1.1 C.1.2.1 dX19_trouble_63 (by decide) (fun c13 => ?_) (fun c13 => ?_)
        · replace hD := g_neg c13 hD
          refine lv_aload_n C.1.1 C.1.2.1 dX19_trouble_77 rfl (lv_at hl 1 rfl) ?_
          refine mr_getR C hw kc_19 80 (by decide) tf_732 ff_732_80 wd_2861 dX19_trouble_78 (by decide) rfl ?_
          refine lv_iload_n C.1.1 C.1.2.1 dX19_trouble_81 rfl (lv_at hl 0 rfl) ?_
          obtain ⟨r16, M14, L15, h1, hD⟩ := g_b3 hD
          refine md_cvI (As := [.int x4]) (rest := []) C hw (tX18_age l G ad fu x4 M1 L h1) kc_18 (by decide) tf_902 wd_4298 cwX18_age ⟨Nat.le_of_ble_eq_true rfl, Nat.le_of_ble_eq_true rfl⟩ rfl hl.1 (Nat.le_of_ble_eq_true rfl) dX19_trouble_82 rfl rfl ⟨Nat.zero_le _, Nat.zero_le _⟩ rfl (fun H locs hw => ?_)
          exact hb85 r16 M14 L15 _ _ ls hD hw (lv_sub hl [] rfl)
        · replace hD := g_pos c13 hD
          refine lv_aload_n C.1.1 C.1.2.1 dX19_trouble_66 rfl (lv_at hl 1 rfl) ?_
          refine mr_getR C hw kc_19 80 (by decide) tf_732 ff_732_80 wd_2861 dX19_trouble_67 (by decide) rfl ?_
          refine lv_iload_n C.1.1 C.1.2.1 dX19_trouble_70 rfl (lv_at hl 0 rfl) ?_
          obtain ⟨r19, M17, L18, h1, hD⟩ := g_b3 hD
          refine md_cvI (As := [.int x4]) (rest := []) C hw (tX18_status l G ad fu x4 M1 L h1) kc_18 (by decide) tf_902 wd_4020 cwX18_status ⟨Nat.le_of_ble_eq_true rfl, Nat.le_of_ble_eq_true rfl⟩ rfl hl.1 (Nat.le_of_ble_eq_true rfl) dX19_trouble_71 rfl rfl ⟨Nat.zero_le _, Nat.zero_le _⟩ rfl (fun H locs hw => ?_)
          refine lv_goto (tgt := 85) C.1.1 C.1.2.1 dX19_trouble_74 (by decide) ?_
          exact hb85 r19 M17 L18 _ _ ls hD hw (lv_sub hl [] rfl)
    · replace hD := g_neg c2 hD
      refine lv_iconst (v := 0) C.1.1 C.1.2.1 dX19_trouble_48 (by decide) ?_
      exact mr_iret C hr hlocks hw rfl (Option.some.inj hD) dX19_trouble_49
  have hb20 : ∀ (M : mwM) (L : mwL) (H : Heap) (locs : List Loc) (ls : Array Slot), fX19_trouble_b20 fu a1 a2 M L = some (r0, M0, L0) → mw_W G ad NF TF FF M L H locs → lv_has ls 4 [(0, .ref (ad 732)), (1, .int a1), (2, .int a2)] → W p l e ({ frames := 3, cells := 0, slots := 0, locals := 66 }) s m [.ref (ad 732), .int a1, .int a2].toArray below meth c H locs 0 0 (MQ below (mw_Qi G ad NF TF FF (mw_eqI r0 M0 L0)) [.ref (ad 732), .int a1, .int a2].toArray s 0 0 (mw_fr G)) (F0 m 20 ls [.ref (ad 732)]) := by
    intro M L H locs ls hD hw hl
    unfold fX19_trouble_b20 at hD
    refine lv_iconst (v := 1) C.1.1 C.1.2.1 dX19_trouble_20 (by decide) ?_
    refine lv_goto (tgt := 38) C.1.1 C.1.2.1 dX19_trouble_21 (by decide) ?_
    exact hb38 1 M L _ _ ls hD hw (lv_sub hl [0, 1, 2] rfl)
  have hb33 : ∀ (M : mwM) (L : mwL) (H : Heap) (locs : List Loc) (ls : Array Slot), fX19_trouble_b33 fu a1 a2 M L = some (r0, M0, L0) → mw_W G ad NF TF FF M L H locs → lv_has ls 4 [(0, .ref (ad 732)), (1, .int a1), (2, .int a2)] → W p l e ({ frames := 3, cells := 0, slots := 0, locals := 66 }) s m [.ref (ad 732), .int a1, .int a2].toArray below meth c H locs 0 0 (MQ below (mw_Qi G ad NF TF FF (mw_eqI r0 M0 L0)) [.ref (ad 732), .int a1, .int a2].toArray s 0 0 (mw_fr G)) (F0 m 33 ls [.ref (ad 732)]) := by
    intro M L H locs ls hD hw hl
    unfold fX19_trouble_b33 at hD
    refine lv_iconst (v := 2) C.1.1 C.1.2.1 dX19_trouble_33 (by decide) ?_
    refine lv_goto (tgt := 38) C.1.1 C.1.2.1 dX19_trouble_34 (by decide) ?_
    exact hb38 2 M L _ _ ls hD hw (lv_sub hl [0, 1, 2] rfl)
  unfold DX19_trouble at hD
  refine lv_aload_n C.1.1 C.1.2.1 dX19_trouble_0 rfl (lv_at hl 0 rfl) ?_
  refine lv_aload_n C.1.1 C.1.2.1 dX19_trouble_1 rfl (lv_at hl 0 rfl) ?_
  refine mr_getI C hw kc_19 4 (by decide) tf_732 wd_2785 dX19_trouble_2 (by decide) rfl ?_
  refine lv_if_eq (tgt := 20) C.1.1 C.1.2.1 dX19_trouble_5 (by decide) (fun c20 => ?_) (fun c20 => ?_)
  · replace hD := g_pos c20 hD
    exact hb20 M L _ _ ls hD hw (lv_sub hl [0, 1, 2] rfl)
  · replace hD := g_neg c20 hD
    refine lv_iload_n C.1.1 C.1.2.1 dX19_trouble_8 rfl (lv_at hl 1 rfl) ?_
    refine lv_if_lt (tgt := 20) C.1.1 C.1.2.1 dX19_trouble_9 (by decide) (fun c21 => ?_) (fun c21 => ?_)
    · replace hD := g_pos c21 hD
      exact hb20 M L _ _ ls hD hw (lv_sub hl [0, 1, 2] rfl)
    · replace hD := g_neg c21 hD
      refine lv_iload_n C.1.1 C.1.2.1 dX19_trouble_12 rfl (lv_at hl 1 rfl) ?_
      refine lv_aload_n C.1.1 C.1.2.1 dX19_trouble_13 rfl (lv_at hl 0 rfl) ?_
      refine mr_getI C hw kc_19 62 (by decide) tf_732 wd_2843 dX19_trouble_14 (by decide) rfl ?_
      refine lv_icmp_lt (tgt := 24) C.1.1 C.1.2.1 dX19_trouble_17 (by decide) (fun c22 => ?_) (fun c22 => ?_)
      · replace hD := g_pos c22 hD
        refine lv_iload_n C.1.1 C.1.2.1 dX19_trouble_24 rfl (lv_at hl 2 rfl) ?_
        refine lv_if_lt (tgt := 33) C.1.1 C.1.2.1 dX19_trouble_25 (by decide) (fun c23 => ?_) (fun c23 => ?_)
        · replace hD := g_pos c23 hD
          exact hb33 M L _ _ ls hD hw (lv_sub hl [0, 1, 2] rfl)
        · replace hD := g_neg c23 hD
          refine lv_iload_n C.1.1 C.1.2.1 dX19_trouble_28 rfl (lv_at hl 2 rfl) ?_
          refine lv_iconst (v := 4) C.1.1 C.1.2.1 dX19_trouble_29 (by decide) ?_
          refine lv_icmp_le (tgt := 37) C.1.1 C.1.2.1 dX19_trouble_30 (by decide) (fun c24 => ?_) (fun c24 => ?_)
          · replace hD := g_pos c24 hD
            refine lv_iconst (v := 0) C.1.1 C.1.2.1 dX19_trouble_37 (by decide) ?_
            exact hb38 0 M L _ _ ls hD hw (lv_sub hl [0, 1, 2] rfl)
          · replace hD := g_neg c24 hD
            exact hb33 M L _ _ ls hD hw (lv_sub hl [0, 1, 2] rfl)
      · replace hD := g_neg c22 hD
        exact hb20 M L _ _ ls hD hw (lv_sub hl [0, 1, 2] rfl)

theorem dX19_cycle_0 : decode cX19_cycle 0 = .ok (.aload_n 0, 1) := by decide +kernel
theorem dX19_cycle_1 : decode cX19_cycle 1 = .ok (.aload_n 0, 1) := by decide +kernel
theorem dX19_cycle_2 : decode cX19_cycle 2 = .ok (.getfield 630, 3) := by decide +kernel
theorem dX19_cycle_5 : decode cX19_cycle 5 = .ok (.ifCond .eq 7, 3) := by decide +kernel
theorem dX19_cycle_8 : decode cX19_cycle 8 = .ok (.iconst 0, 1) := by decide +kernel
theorem dX19_cycle_9 : decode cX19_cycle 9 = .ok (.goto 4, 3) := by decide +kernel
theorem dX19_cycle_12 : decode cX19_cycle 12 = .ok (.iconst 1, 1) := by decide +kernel
theorem dX19_cycle_13 : decode cX19_cycle 13 = .ok (.putfield 289, 3) := by decide +kernel
theorem dX19_cycle_16 : decode cX19_cycle 16 = .ok (.aload_n 0, 1) := by decide +kernel
theorem dX19_cycle_17 : decode cX19_cycle 17 = .ok (.getfield 289, 3) := by decide +kernel
theorem dX19_cycle_20 : decode cX19_cycle 20 = .ok (.ifCond .le 7, 3) := by decide +kernel
theorem dX19_cycle_23 : decode cX19_cycle 23 = .ok (.iconst 0, 1) := by decide +kernel
theorem dX19_cycle_24 : decode cX19_cycle 24 = .ok (.goto 11, 3) := by decide +kernel
theorem dX19_cycle_27 : decode cX19_cycle 27 = .ok (.aload_n 0, 1) := by decide +kernel
theorem dX19_cycle_28 : decode cX19_cycle 28 = .ok (.getfield 205, 3) := by decide +kernel
theorem dX19_cycle_31 : decode cX19_cycle 31 = .ok (.iload_n 1, 1) := by decide +kernel
theorem dX19_cycle_32 : decode cX19_cycle 32 = .ok (.invokevirtual 850, 3) := by decide +kernel
theorem dX19_cycle_35 : decode cX19_cycle 35 = .ok (.ireturn, 1) := by decide +kernel
theorem cwX19_cycle : mw_cwV yX19_cycle cX19_cycle 2 ((some .int)) 1 := ⟨⟨wd_13, wd_4309, by decide +kernel⟩, wd_4307, wd_4308⟩
noncomputable def fX19_cycle_b35 (fu : Nat) (a1 : Int32) (s0 : Int32) (M : mwM) (L : mwL) : Option (Int32 × mwM × mwL) :=
  some (s0, M, L)
noncomputable def fX19_cycle_b13 (fu : Nat) (a1 : Int32) (s1 : Int32) (M : mwM) (L : mwL) : Option (Int32 × mwM × mwL) :=
  mlet (mset M 732 0 s1) (fun M1 => (if (M1 732 0) ≤ 0 then mb3 (DX18_cycle fu a1 M1 L) (fun r5 M3 L4 => fX19_cycle_b35 fu a1 r5 M3 L4) else fX19_cycle_b35 fu a1 0 M1 L))
noncomputable def DX19_cycle (fu : Nat) (a1 : Int32) (M : mwM) (L : mwL) : Option (Int32 × mwM × mwL) :=
  (if (M 732 4) = 0 then fX19_cycle_b13 fu a1 1 M L else fX19_cycle_b13 fu a1 0 M L)
set_option maxHeartbeats 4000000 in
set_option maxRecDepth 100000 in
theorem tX19_cycle (l : Launch) (G : mwG) (ad : Nat → Nat) (fu : Nat) (a1 : Int32) (M : mwM) (L : mwL) {r0 : Int32} {M0 : mwM} {L0 : mwL} (hD : DX19_cycle fu a1 M L = some (r0, M0, L0)) : Met l yX19_cycle (Cond.code yX19_cycle cX19_cycle 2 ((some .int)) :: GT) ({ frames := 3, cells := 0, slots := 0, locals := 66 }) (mw_Pre G ad NF TF FF M L [.ref (ad 732), .int a1]) (mw_Qi G ad NF TF FF (mw_eqI r0 M0 L0)) 0 0 (mw_fr G) := by
  refine mw_enter (by decide) (Nat.le_of_ble_eq_true rfl) ?_
  intro p e s m below meth c ls C hr hlocks hnm hw hl
  have hl : lv_has ls 2 [(0, .ref (ad 732)), (1, .int a1)] := hl
  have hb35 : ∀ (s0 : Int32) (M : mwM) (L : mwL) (H : Heap) (locs : List Loc) (ls : Array Slot), fX19_cycle_b35 fu a1 s0 M L = some (r0, M0, L0) → mw_W G ad NF TF FF M L H locs → lv_has ls 2 [] → W p l e ({ frames := 3, cells := 0, slots := 0, locals := 66 }) s m [.ref (ad 732), .int a1].toArray below meth c H locs 0 0 (MQ below (mw_Qi G ad NF TF FF (mw_eqI r0 M0 L0)) [.ref (ad 732), .int a1].toArray s 0 0 (mw_fr G)) (F0 m 35 ls [.int s0]) := by
    intro s0 M L H locs ls hD hw hl
    unfold fX19_cycle_b35 at hD
    exact mr_iret C hr hlocks hw rfl (Option.some.inj hD) dX19_cycle_35
  have hb13 : ∀ (s1 : Int32) (M : mwM) (L : mwL) (H : Heap) (locs : List Loc) (ls : Array Slot), fX19_cycle_b13 fu a1 s1 M L = some (r0, M0, L0) → mw_W G ad NF TF FF M L H locs → lv_has ls 2 [(0, .ref (ad 732)), (1, .int a1)] → W p l e ({ frames := 3, cells := 0, slots := 0, locals := 66 }) s m [.ref (ad 732), .int a1].toArray below meth c H locs 0 0 (MQ below (mw_Qi G ad NF TF FF (mw_eqI r0 M0 L0)) [.ref (ad 732), .int a1].toArray s 0 0 (mw_fr G)) (F0 m 13 ls [.int s1, .ref (ad 732)]) := by
    intro s1 M L H locs ls hD hw hl
    unfold fX19_cycle_b13 at hD
    obtain ⟨M1, eM1, hD⟩ := g_let hD
    refine mr_putI C hw kc_19 0 (by decide) tf_732 wd_2781 dX19_cycle_13 (by decide) rfl rfl rfl rfl (fun H locs hw => ?_)
    replace hw : mw_W G ad NF TF FF M1 L H locs := by rw [eM1]; exact hw
    refine lv_aload_n C.1.1 C.1.2.1 dX19_cycle_16 rfl (lv_at hl 0 rfl) ?_
    refine mr_getI C hw kc_19 0 (by decide) tf_732 wd_2781 dX19_cycle_17 (by decide) rfl ?_
    refine lv_if_le (tgt := 27) C.1.1 C.1.2.1 dX19_cycle_20 (by decide) (fun c2 => ?_) (fun c2 => ?_)
    · replace hD := g_pos c2 hD
      refine lv_aload_n C.1.1 C.1.2.1 dX19_cycle_27 rfl (lv_at hl 0 rfl) ?_
      refine mr_getR C hw kc_19 80 (by decide) tf_732 ff_732_80 wd_2861 dX19_cycle_28 (by decide) rfl ?_
      refine lv_iload_n C.1.1 C.1.2.1 dX19_cycle_31 rfl (lv_at hl 1 rfl) ?_
      obtain ⟨r5, M3, L4, h1, hD⟩ := g_b3 hD
      refine md_cvI (As := [.int a1]) (rest := []) C hw (tX18_cycle l G ad fu a1 M1 L h1) kc_18 (by decide) tf_902 wd_4310 cwX18_cycle ⟨Nat.le_of_ble_eq_true rfl, Nat.le_of_ble_eq_true rfl⟩ rfl hl.1 (Nat.le_of_ble_eq_true rfl) dX19_cycle_32 rfl rfl ⟨Nat.zero_le _, Nat.zero_le _⟩ rfl (fun H locs hw => ?_)
      exact hb35 r5 M3 L4 _ _ ls hD hw (lv_sub hl [] rfl)
    · replace hD := g_neg c2 hD
      refine lv_iconst (v := 0) C.1.1 C.1.2.1 dX19_cycle_23 (by decide) ?_
      refine lv_goto (tgt := 35) C.1.1 C.1.2.1 dX19_cycle_24 (by decide) ?_
      exact hb35 0 M1 L _ _ ls hD hw (lv_sub hl [] rfl)
  unfold DX19_cycle at hD
  refine lv_aload_n C.1.1 C.1.2.1 dX19_cycle_0 rfl (lv_at hl 0 rfl) ?_
  refine lv_aload_n C.1.1 C.1.2.1 dX19_cycle_1 rfl (lv_at hl 0 rfl) ?_
  refine mr_getI C hw kc_19 4 (by decide) tf_732 wd_2785 dX19_cycle_2 (by decide) rfl ?_
  refine lv_if_eq (tgt := 12) C.1.1 C.1.2.1 dX19_cycle_5 (by decide) (fun c6 => ?_) (fun c6 => ?_)
  · replace hD := g_pos c6 hD
    refine lv_iconst (v := 1) C.1.1 C.1.2.1 dX19_cycle_12 (by decide) ?_
    exact hb13 1 M L _ _ ls hD hw (lv_sub hl [0, 1] rfl)
  · replace hD := g_neg c6 hD
    refine lv_iconst (v := 0) C.1.1 C.1.2.1 dX19_cycle_8 (by decide) ?_
    refine lv_goto (tgt := 13) C.1.1 C.1.2.1 dX19_cycle_9 (by decide) ?_
    exact hb13 0 M L _ _ ls hD hw (lv_sub hl [0, 1] rfl)

theorem dX19_counted_0 : decode cX19_counted 0 = .ok (.aload_n 0, 1) := by decide +kernel
theorem dX19_counted_1 : decode cX19_counted 1 = .ok (.iload_n 1, 1) := by decide +kernel
theorem dX19_counted_2 : decode cX19_counted 2 = .ok (.ifCond .lt 8, 3) := by decide +kernel
theorem dX19_counted_5 : decode cX19_counted 5 = .ok (.iload_n 1, 1) := by decide +kernel
theorem dX19_counted_6 : decode cX19_counted 6 = .ok (.iconst 4, 1) := by decide +kernel
theorem dX19_counted_7 : decode cX19_counted 7 = .ok (.if_icmp .le 7, 3) := by decide +kernel
theorem dX19_counted_10 : decode cX19_counted 10 = .ok (.iconst 1, 1) := by decide +kernel
theorem dX19_counted_11 : decode cX19_counted 11 = .ok (.goto 4, 3) := by decide +kernel
theorem dX19_counted_14 : decode cX19_counted 14 = .ok (.iconst 0, 1) := by decide +kernel
theorem dX19_counted_15 : decode cX19_counted 15 = .ok (.putfield 289, 3) := by decide +kernel
theorem dX19_counted_18 : decode cX19_counted 18 = .ok (.aload_n 0, 1) := by decide +kernel
theorem dX19_counted_19 : decode cX19_counted 19 = .ok (.getfield 289, 3) := by decide +kernel
theorem dX19_counted_22 : decode cX19_counted 22 = .ok (.ifCond .gt 10, 3) := by decide +kernel
theorem dX19_counted_25 : decode cX19_counted 25 = .ok (.aload_n 0, 1) := by decide +kernel
theorem dX19_counted_26 : decode cX19_counted 26 = .ok (.getfield 630, 3) := by decide +kernel
theorem dX19_counted_29 : decode cX19_counted 29 = .ok (.ifCond .ne 7, 3) := by decide +kernel
theorem dX19_counted_32 : decode cX19_counted 32 = .ok (.iconst 0, 1) := by decide +kernel
theorem dX19_counted_33 : decode cX19_counted 33 = .ok (.goto 9, 3) := by decide +kernel
theorem dX19_counted_36 : decode cX19_counted 36 = .ok (.aload_n 0, 1) := by decide +kernel
theorem dX19_counted_37 : decode cX19_counted 37 = .ok (.getfield 273, 3) := by decide +kernel
theorem dX19_counted_40 : decode cX19_counted 40 = .ok (.iload_n 1, 1) := by decide +kernel
theorem dX19_counted_41 : decode cX19_counted 41 = .ok (.iaload, 1) := by decide +kernel
theorem dX19_counted_42 : decode cX19_counted 42 = .ok (.ireturn, 1) := by decide +kernel
theorem cwX19_counted : mw_cwV yX19_counted cX19_counted 2 ((some .int)) 1 := ⟨⟨wd_13, wd_4317, by decide +kernel⟩, wd_4315, wd_4316⟩
noncomputable def fX19_counted_b42 (fu : Nat) (a1 : Int32) (s0 : Int32) (M : mwM) (L : mwL) : Option (Int32 × mwM × mwL) :=
  some (s0, M, L)
noncomputable def fX19_counted_b32 (fu : Nat) (a1 : Int32) (M : mwM) (L : mwL) : Option (Int32 × mwM × mwL) :=
  fX19_counted_b42 fu a1 0 M L
noncomputable def fX19_counted_b15 (fu : Nat) (a1 : Int32) (s1 : Int32) (M : mwM) (L : mwL) : Option (Int32 × mwM × mwL) :=
  mlet (mset M 732 0 s1) (fun M1 => (if 0 < (M1 732 0) then fX19_counted_b32 fu a1 M1 L else (if (M1 732 4) = 0 then fX19_counted_b32 fu a1 M1 L else mck a1 5 (fX19_counted_b42 fu a1 (M1 939 a1.toNatClampNeg) M1 L))))
noncomputable def fX19_counted_b10 (fu : Nat) (a1 : Int32) (M : mwM) (L : mwL) : Option (Int32 × mwM × mwL) :=
  fX19_counted_b15 fu a1 1 M L
noncomputable def DX19_counted (fu : Nat) (a1 : Int32) (M : mwM) (L : mwL) : Option (Int32 × mwM × mwL) :=
  (if a1 < 0 then fX19_counted_b10 fu a1 M L else (if a1 ≤ 4 then fX19_counted_b15 fu a1 0 M L else fX19_counted_b10 fu a1 M L))
set_option maxHeartbeats 4000000 in
set_option maxRecDepth 100000 in
theorem tX19_counted (l : Launch) (G : mwG) (ad : Nat → Nat) (fu : Nat) (a1 : Int32) (M : mwM) (L : mwL) {r0 : Int32} {M0 : mwM} {L0 : mwL} (hD : DX19_counted fu a1 M L = some (r0, M0, L0)) : Met l yX19_counted (Cond.code yX19_counted cX19_counted 2 ((some .int)) :: GT) ({ frames := 0, cells := 0, slots := 0, locals := 0 }) (mw_Pre G ad NF TF FF M L [.ref (ad 732), .int a1]) (mw_Qi G ad NF TF FF (mw_eqI r0 M0 L0)) 0 0 (mw_fr G) := by
  refine mw_enter (by decide) (Nat.le_of_ble_eq_true rfl) ?_
  intro p e s m below meth c ls C hr hlocks hnm hw hl
  have hl : lv_has ls 2 [(0, .ref (ad 732)), (1, .int a1)] := hl
  have hb42 : ∀ (s0 : Int32) (M : mwM) (L : mwL) (H : Heap) (locs : List Loc) (ls : Array Slot), fX19_counted_b42 fu a1 s0 M L = some (r0, M0, L0) → mw_W G ad NF TF FF M L H locs → lv_has ls 2 [] → W p l e ({ frames := 0, cells := 0, slots := 0, locals := 0 }) s m [.ref (ad 732), .int a1].toArray below meth c H locs 0 0 (MQ below (mw_Qi G ad NF TF FF (mw_eqI r0 M0 L0)) [.ref (ad 732), .int a1].toArray s 0 0 (mw_fr G)) (F0 m 42 ls [.int s0]) := by
    intro s0 M L H locs ls hD hw hl
    unfold fX19_counted_b42 at hD
    exact mr_iret C hr hlocks hw rfl (Option.some.inj hD) dX19_counted_42
  have hb32 : ∀ (M : mwM) (L : mwL) (H : Heap) (locs : List Loc) (ls : Array Slot), fX19_counted_b32 fu a1 M L = some (r0, M0, L0) → mw_W G ad NF TF FF M L H locs → lv_has ls 2 [] → W p l e ({ frames := 0, cells := 0, slots := 0, locals := 0 }) s m [.ref (ad 732), .int a1].toArray below meth c H locs 0 0 (MQ below (mw_Qi G ad NF TF FF (mw_eqI r0 M0 L0)) [.ref (ad 732), .int a1].toArray s 0 0 (mw_fr G)) (F0 m 32 ls []) := by
    intro M L H locs ls hD hw hl
    unfold fX19_counted_b32 at hD
    refine lv_iconst (v := 0) C.1.1 C.1.2.1 dX19_counted_32 (by decide) ?_
    refine lv_goto (tgt := 42) C.1.1 C.1.2.1 dX19_counted_33 (by decide) ?_
    exact hb42 0 M L _ _ ls hD hw (lv_sub hl [] rfl)
  have hb15 : ∀ (s1 : Int32) (M : mwM) (L : mwL) (H : Heap) (locs : List Loc) (ls : Array Slot), fX19_counted_b15 fu a1 s1 M L = some (r0, M0, L0) → mw_W G ad NF TF FF M L H locs → lv_has ls 2 [(0, .ref (ad 732)), (1, .int a1)] → W p l e ({ frames := 0, cells := 0, slots := 0, locals := 0 }) s m [.ref (ad 732), .int a1].toArray below meth c H locs 0 0 (MQ below (mw_Qi G ad NF TF FF (mw_eqI r0 M0 L0)) [.ref (ad 732), .int a1].toArray s 0 0 (mw_fr G)) (F0 m 15 ls [.int s1, .ref (ad 732)]) := by
    intro s1 M L H locs ls hD hw hl
    unfold fX19_counted_b15 at hD
    obtain ⟨M1, eM1, hD⟩ := g_let hD
    refine mr_putI C hw kc_19 0 (by decide) tf_732 wd_2781 dX19_counted_15 (by decide) rfl rfl rfl rfl (fun H locs hw => ?_)
    replace hw : mw_W G ad NF TF FF M1 L H locs := by rw [eM1]; exact hw
    refine lv_aload_n C.1.1 C.1.2.1 dX19_counted_18 rfl (lv_at hl 0 rfl) ?_
    refine mr_getI C hw kc_19 0 (by decide) tf_732 wd_2781 dX19_counted_19 (by decide) rfl ?_
    refine lv_if_gt (tgt := 32) C.1.1 C.1.2.1 dX19_counted_22 (by decide) (fun c2 => ?_) (fun c2 => ?_)
    · replace hD := g_pos c2 hD
      exact hb32 M1 L _ _ ls hD hw (lv_sub hl [] rfl)
    · replace hD := g_neg c2 hD
      refine lv_aload_n C.1.1 C.1.2.1 dX19_counted_25 rfl (lv_at hl 0 rfl) ?_
      refine mr_getI C hw kc_19 4 (by decide) tf_732 wd_2785 dX19_counted_26 (by decide) rfl ?_
      refine lv_if_ne (tgt := 36) C.1.1 C.1.2.1 dX19_counted_29 (by decide) (fun c3 => ?_) (fun c3 => ?_)
      · replace hD := g_neg c3 hD
        refine lv_aload_n C.1.1 C.1.2.1 dX19_counted_36 rfl (lv_at hl 0 rfl) ?_
        refine mr_getR C hw kc_19 109 (by decide) tf_732 ff_732_109 wd_2890 dX19_counted_37 (by decide) rfl ?_
        refine lv_iload_n C.1.1 C.1.2.1 dX19_counted_40 rfl (lv_at hl 1 rfl) ?_
        obtain ⟨q4, hD⟩ := g_ck hD
        refine mr_iald C hw (by decide) tf_939 q4 dX19_counted_41 ?_
        exact hb42 (M1 939 a1.toNatClampNeg) M1 L _ _ ls hD hw (lv_sub hl [] rfl)
      · replace hD := g_pos c3 hD
        exact hb32 M1 L _ _ ls hD hw (lv_sub hl [] rfl)
  have hb10 : ∀ (M : mwM) (L : mwL) (H : Heap) (locs : List Loc) (ls : Array Slot), fX19_counted_b10 fu a1 M L = some (r0, M0, L0) → mw_W G ad NF TF FF M L H locs → lv_has ls 2 [(0, .ref (ad 732)), (1, .int a1)] → W p l e ({ frames := 0, cells := 0, slots := 0, locals := 0 }) s m [.ref (ad 732), .int a1].toArray below meth c H locs 0 0 (MQ below (mw_Qi G ad NF TF FF (mw_eqI r0 M0 L0)) [.ref (ad 732), .int a1].toArray s 0 0 (mw_fr G)) (F0 m 10 ls [.ref (ad 732)]) := by
    intro M L H locs ls hD hw hl
    unfold fX19_counted_b10 at hD
    refine lv_iconst (v := 1) C.1.1 C.1.2.1 dX19_counted_10 (by decide) ?_
    refine lv_goto (tgt := 15) C.1.1 C.1.2.1 dX19_counted_11 (by decide) ?_
    exact hb15 1 M L _ _ ls hD hw (lv_sub hl [0, 1] rfl)
  unfold DX19_counted at hD
  refine lv_aload_n C.1.1 C.1.2.1 dX19_counted_0 rfl (lv_at hl 0 rfl) ?_
  refine lv_iload_n C.1.1 C.1.2.1 dX19_counted_1 rfl (lv_at hl 1 rfl) ?_
  refine lv_if_lt (tgt := 10) C.1.1 C.1.2.1 dX19_counted_2 (by decide) (fun c5 => ?_) (fun c5 => ?_)
  · replace hD := g_pos c5 hD
    exact hb10 M L _ _ ls hD hw (lv_sub hl [0, 1] rfl)
  · replace hD := g_neg c5 hD
    refine lv_iload_n C.1.1 C.1.2.1 dX19_counted_5 rfl (lv_at hl 1 rfl) ?_
    refine lv_iconst (v := 4) C.1.1 C.1.2.1 dX19_counted_6 (by decide) ?_
    refine lv_icmp_le (tgt := 14) C.1.1 C.1.2.1 dX19_counted_7 (by decide) (fun c6 => ?_) (fun c6 => ?_)
    · replace hD := g_pos c6 hD
      refine lv_iconst (v := 0) C.1.1 C.1.2.1 dX19_counted_14 (by decide) ?_
      exact hb15 0 M L _ _ ls hD hw (lv_sub hl [0, 1] rfl)
    · replace hD := g_neg c6 hD
      exact hb10 M L _ _ ls hD hw (lv_sub hl [0, 1] rfl)

theorem dX19_say__0 : decode cX19_say_ 0 = .ok (.aload_n 0, 1) := by decide +kernel
theorem dX19_say__1 : decode cX19_say_ 1 = .ok (.iconst 0, 1) := by decide +kernel
theorem dX19_say__2 : decode cX19_say_ 2 = .ok (.putfield 289, 3) := by decide +kernel
theorem dX19_say__5 : decode cX19_say_ 5 = .ok (.aload_n 0, 1) := by decide +kernel
theorem dX19_say__6 : decode cX19_say_ 6 = .ok (.getfield 854, 3) := by decide +kernel
theorem dX19_say__9 : decode cX19_say_ 9 = .ok (.bipush 100, 2) := by decide +kernel
theorem dX19_say__11 : decode cX19_say_ 11 = .ok (.if_icmp .ge 27, 3) := by decide +kernel
theorem dX19_say__14 : decode cX19_say_ 14 = .ok (.aload_n 0, 1) := by decide +kernel
theorem dX19_say__15 : decode cX19_say_ 15 = .ok (.getfield 276, 3) := by decide +kernel
theorem dX19_say__18 : decode cX19_say_ 18 = .ok (.aload_n 0, 1) := by decide +kernel
theorem dX19_say__19 : decode cX19_say_ 19 = .ok (.getfield 854, 3) := by decide +kernel
theorem dX19_say__22 : decode cX19_say_ 22 = .ok (.iload_n 1, 1) := by decide +kernel
theorem dX19_say__23 : decode cX19_say_ 23 = .ok (.sipush 255, 3) := by decide +kernel
theorem dX19_say__26 : decode cX19_say_ 26 = .ok (.iand, 1) := by decide +kernel
theorem dX19_say__27 : decode cX19_say_ 27 = .ok (.iastore, 1) := by decide +kernel
theorem dX19_say__28 : decode cX19_say_ 28 = .ok (.aload_n 0, 1) := by decide +kernel
theorem dX19_say__29 : decode cX19_say_ 29 = .ok (.dup, 1) := by decide +kernel
theorem dX19_say__30 : decode cX19_say_ 30 = .ok (.getfield 854, 3) := by decide +kernel
theorem dX19_say__33 : decode cX19_say_ 33 = .ok (.iconst 1, 1) := by decide +kernel
theorem dX19_say__34 : decode cX19_say_ 34 = .ok (.iadd, 1) := by decide +kernel
theorem dX19_say__35 : decode cX19_say_ 35 = .ok (.putfield 854, 3) := by decide +kernel
theorem dX19_say__38 : decode cX19_say_ 38 = .ok (.aload_n 0, 1) := by decide +kernel
theorem dX19_say__39 : decode cX19_say_ 39 = .ok (.getfield 854, 3) := by decide +kernel
theorem dX19_say__42 : decode cX19_say_ 42 = .ok (.ireturn, 1) := by decide +kernel
theorem cwX19_say_ : mw_cwV yX19_say_ cX19_say_ 2 ((some .int)) 1 := ⟨⟨wd_13, wd_4321, by decide +kernel⟩, wd_4319, wd_4320⟩
noncomputable def fX19_say__b38 (fu : Nat) (a1 : Int32) (M : mwM) (L : mwL) : Option (Int32 × mwM × mwL) :=
  some (M 732 110, M, L)
noncomputable def DX19_say_ (fu : Nat) (a1 : Int32) (M : mwM) (L : mwL) : Option (Int32 × mwM × mwL) :=
  mlet (mset M 732 0 0) (fun M1 => (if 100 ≤ (M1 732 110) then fX19_say__b38 fu a1 M1 L else mck (M1 732 110) 100 (mlet (mset M1 940 ((M1 732 110).toNatClampNeg) (a1 &&& 255)) (fun M4 => mlet (mset M4 732 110 ((M4 732 110) + 1)) (fun M5 => fX19_say__b38 fu a1 M5 L)))))
set_option maxHeartbeats 4000000 in
set_option maxRecDepth 100000 in
theorem tX19_say_ (l : Launch) (G : mwG) (ad : Nat → Nat) (fu : Nat) (a1 : Int32) (M : mwM) (L : mwL) {r0 : Int32} {M0 : mwM} {L0 : mwL} (hD : DX19_say_ fu a1 M L = some (r0, M0, L0)) : Met l yX19_say_ (Cond.code yX19_say_ cX19_say_ 2 ((some .int)) :: GT) ({ frames := 0, cells := 0, slots := 0, locals := 0 }) (mw_Pre G ad NF TF FF M L [.ref (ad 732), .int a1]) (mw_Qi G ad NF TF FF (mw_eqI r0 M0 L0)) 0 0 (mw_fr G) := by
  refine mw_enter (by decide) (Nat.le_of_ble_eq_true rfl) ?_
  intro p e s m below meth c ls C hr hlocks hnm hw hl
  have hl : lv_has ls 2 [(0, .ref (ad 732)), (1, .int a1)] := hl
  have hb38 : ∀ (M : mwM) (L : mwL) (H : Heap) (locs : List Loc) (ls : Array Slot), fX19_say__b38 fu a1 M L = some (r0, M0, L0) → mw_W G ad NF TF FF M L H locs → lv_has ls 2 [(0, .ref (ad 732))] → W p l e ({ frames := 0, cells := 0, slots := 0, locals := 0 }) s m [.ref (ad 732), .int a1].toArray below meth c H locs 0 0 (MQ below (mw_Qi G ad NF TF FF (mw_eqI r0 M0 L0)) [.ref (ad 732), .int a1].toArray s 0 0 (mw_fr G)) (F0 m 38 ls []) := by
    intro M L H locs ls hD hw hl
    unfold fX19_say__b38 at hD
    refine lv_aload_n C.1.1 C.1.2.1 dX19_say__38 rfl (lv_at hl 0 rfl) ?_
    refine mr_getI C hw kc_19 110 (by decide) tf_732 wd_2891 dX19_say__39 (by decide) rfl ?_
    exact mr_iret C hr hlocks hw rfl (Option.some.inj hD) dX19_say__42
  unfold DX19_say_ at hD
  refine lv_aload_n C.1.1 C.1.2.1 dX19_say__0 rfl (lv_at hl 0 rfl) ?_
  refine lv_iconst (v := 0) C.1.1 C.1.2.1 dX19_say__1 (by decide) ?_
  obtain ⟨M1, eM1, hD⟩ := g_let hD
  refine mr_putI C hw kc_19 0 (by decide) tf_732 wd_2781 dX19_say__2 (by decide) rfl rfl rfl rfl (fun H locs hw => ?_)
  replace hw : mw_W G ad NF TF FF M1 L H locs := by rw [eM1]; exact hw
  refine lv_aload_n C.1.1 C.1.2.1 dX19_say__5 rfl (lv_at hl 0 rfl) ?_
  refine mr_getI C hw kc_19 110 (by decide) tf_732 wd_2891 dX19_say__6 (by decide) rfl ?_
  refine lv_bipush (v := 100) C.1.1 C.1.2.1 dX19_say__9 (by decide) ?_
  refine lv_icmp_ge (tgt := 38) C.1.1 C.1.2.1 dX19_say__11 (by decide) (fun c2 => ?_) (fun c2 => ?_)
  · replace hD := g_pos c2 hD
    exact hb38 M1 L _ _ ls hD hw (lv_sub hl [0] rfl)
  · replace hD := g_neg c2 hD
    refine lv_aload_n C.1.1 C.1.2.1 dX19_say__14 rfl (lv_at hl 0 rfl) ?_
    refine mr_getR C hw kc_19 111 (by decide) tf_732 ff_732_111 wd_2892 dX19_say__15 (by decide) rfl ?_
    refine lv_aload_n C.1.1 C.1.2.1 dX19_say__18 rfl (lv_at hl 0 rfl) ?_
    refine mr_getI C hw kc_19 110 (by decide) tf_732 wd_2891 dX19_say__19 (by decide) rfl ?_
    refine lv_iload_n C.1.1 C.1.2.1 dX19_say__22 rfl (lv_at hl 1 rfl) ?_
    refine lv_sipush (v := 255) C.1.1 C.1.2.1 dX19_say__23 (by decide) ?_
    refine lv_iand C.1.1 C.1.2.1 dX19_say__26 ?_
    obtain ⟨q3, hD⟩ := g_ck hD
    obtain ⟨M4, eM4, hD⟩ := g_let hD
    refine mr_iast C hw (by decide) tf_940 q3 dX19_say__27 (fun H locs hw => ?_)
    replace hw : mw_W G ad NF TF FF M4 L H locs := by rw [eM4]; exact hw
    refine lv_aload_n C.1.1 C.1.2.1 dX19_say__28 rfl (lv_at hl 0 rfl) ?_
    refine lv_dup C.1.1 C.1.2.1 dX19_say__29 rfl ?_
    refine mr_getI C hw kc_19 110 (by decide) tf_732 wd_2891 dX19_say__30 (by decide) rfl ?_
    refine lv_iconst (v := 1) C.1.1 C.1.2.1 dX19_say__33 (by decide) ?_
    refine lv_iadd C.1.1 C.1.2.1 dX19_say__34 ?_
    obtain ⟨M5, eM5, hD⟩ := g_let hD
    refine mr_putI C hw kc_19 110 (by decide) tf_732 wd_2891 dX19_say__35 (by decide) rfl rfl rfl rfl (fun H locs hw => ?_)
    replace hw : mw_W G ad NF TF FF M5 L H locs := by rw [eM5]; exact hw
    exact hb38 M5 L _ _ ls hD hw (lv_sub hl [0] rfl)

theorem dX19_ask_0 : decode cX19_ask 0 = .ok (.aload_n 0, 1) := by decide +kernel
theorem dX19_ask_1 : decode cX19_ask 1 = .ok (.aload_n 0, 1) := by decide +kernel
theorem dX19_ask_2 : decode cX19_ask 2 = .ok (.iload_n 1, 1) := by decide +kernel
theorem dX19_ask_3 : decode cX19_ask 3 = .ok (.invokevirtual 825, 3) := by decide +kernel
theorem dX19_ask_6 : decode cX19_ask 6 = .ok (.ifCond .eq 7, 3) := by decide +kernel
theorem dX19_ask_9 : decode cX19_ask 9 = .ok (.iconst 1, 1) := by decide +kernel
theorem dX19_ask_10 : decode cX19_ask 10 = .ok (.goto 31, 3) := by decide +kernel
theorem dX19_ask_13 : decode cX19_ask 13 = .ok (.aload_n 0, 1) := by decide +kernel
theorem dX19_ask_14 : decode cX19_ask 14 = .ok (.getfield 854, 3) := by decide +kernel
theorem dX19_ask_17 : decode cX19_ask 17 = .ok (.ifCond .eq 19, 3) := by decide +kernel
theorem dX19_ask_20 : decode cX19_ask 20 = .ok (.aload_n 0, 1) := by decide +kernel
theorem dX19_ask_21 : decode cX19_ask 21 = .ok (.getfield 245, 3) := by decide +kernel
theorem dX19_ask_24 : decode cX19_ask 24 = .ok (.ifCond .ge 12, 3) := by decide +kernel
theorem dX19_ask_27 : decode cX19_ask 27 = .ok (.aload_n 0, 1) := by decide +kernel
theorem dX19_ask_28 : decode cX19_ask 28 = .ok (.getfield 603, 3) := by decide +kernel
theorem dX19_ask_31 : decode cX19_ask 31 = .ok (.bipush 98, 2) := by decide +kernel
theorem dX19_ask_33 : decode cX19_ask 33 = .ok (.if_icmp .le 7, 3) := by decide +kernel
theorem dX19_ask_36 : decode cX19_ask 36 = .ok (.iconst 2, 1) := by decide +kernel
theorem dX19_ask_37 : decode cX19_ask 37 = .ok (.goto 4, 3) := by decide +kernel
theorem dX19_ask_40 : decode cX19_ask 40 = .ok (.iconst 0, 1) := by decide +kernel
theorem dX19_ask_41 : decode cX19_ask 41 = .ok (.putfield 289, 3) := by decide +kernel
theorem dX19_ask_44 : decode cX19_ask 44 = .ok (.aload_n 0, 1) := by decide +kernel
theorem dX19_ask_45 : decode cX19_ask 45 = .ok (.getfield 289, 3) := by decide +kernel
theorem dX19_ask_48 : decode cX19_ask 48 = .ok (.ifCond .le 5, 3) := by decide +kernel
theorem dX19_ask_51 : decode cX19_ask 51 = .ok (.iconst 0, 1) := by decide +kernel
theorem dX19_ask_52 : decode cX19_ask 52 = .ok (.ireturn, 1) := by decide +kernel
theorem dX19_ask_53 : decode cX19_ask 53 = .ok (.aload_n 0, 1) := by decide +kernel
theorem dX19_ask_54 : decode cX19_ask 54 = .ok (.getfield 854, 3) := by decide +kernel
theorem dX19_ask_57 : decode cX19_ask 57 = .ok (.istore_n 2, 1) := by decide +kernel
theorem dX19_ask_58 : decode cX19_ask 58 = .ok (.iconst 0, 1) := by decide +kernel
theorem dX19_ask_59 : decode cX19_ask 59 = .ok (.istore_n 3, 1) := by decide +kernel
theorem dX19_ask_60 : decode cX19_ask 60 = .ok (.iload_n 3, 1) := by decide +kernel
theorem dX19_ask_61 : decode cX19_ask 61 = .ok (.iload_n 2, 1) := by decide +kernel
theorem dX19_ask_62 : decode cX19_ask 62 = .ok (.if_icmp .ge 21, 3) := by decide +kernel
theorem dX19_ask_65 : decode cX19_ask 65 = .ok (.aload_n 0, 1) := by decide +kernel
theorem dX19_ask_66 : decode cX19_ask 66 = .ok (.getfield 255, 3) := by decide +kernel
theorem dX19_ask_69 : decode cX19_ask 69 = .ok (.iload_n 3, 1) := by decide +kernel
theorem dX19_ask_70 : decode cX19_ask 70 = .ok (.aload_n 0, 1) := by decide +kernel
theorem dX19_ask_71 : decode cX19_ask 71 = .ok (.getfield 276, 3) := by decide +kernel
theorem dX19_ask_74 : decode cX19_ask 74 = .ok (.iload_n 3, 1) := by decide +kernel
theorem dX19_ask_75 : decode cX19_ask 75 = .ok (.iaload, 1) := by decide +kernel
theorem dX19_ask_76 : decode cX19_ask 76 = .ok (.iastore, 1) := by decide +kernel
theorem dX19_ask_77 : decode cX19_ask 77 = .ok (.iinc 3 1, 3) := by decide +kernel
theorem dX19_ask_80 : decode cX19_ask 80 = .ok (.goto (-20), 3) := by decide +kernel
theorem dX19_ask_83 : decode cX19_ask 83 = .ok (.aload_n 0, 1) := by decide +kernel
theorem dX19_ask_84 : decode cX19_ask 84 = .ok (.iload_n 2, 1) := by decide +kernel
theorem dX19_ask_85 : decode cX19_ask 85 = .ok (.putfield 730, 3) := by decide +kernel
theorem dX19_ask_88 : decode cX19_ask 88 = .ok (.aload_n 0, 1) := by decide +kernel
theorem dX19_ask_89 : decode cX19_ask 89 = .ok (.iconst 0, 1) := by decide +kernel
theorem dX19_ask_90 : decode cX19_ask 90 = .ok (.putfield 854, 3) := by decide +kernel
theorem dX19_ask_93 : decode cX19_ask 93 = .ok (.aload_n 0, 1) := by decide +kernel
theorem dX19_ask_94 : decode cX19_ask 94 = .ok (.iload_n 1, 1) := by decide +kernel
theorem dX19_ask_95 : decode cX19_ask 95 = .ok (.putfield 245, 3) := by decide +kernel
theorem dX19_ask_98 : decode cX19_ask 98 = .ok (.aload_n 0, 1) := by decide +kernel
theorem dX19_ask_99 : decode cX19_ask 99 = .ok (.iconst 0, 1) := by decide +kernel
theorem dX19_ask_100 : decode cX19_ask 100 = .ok (.putfield 618, 3) := by decide +kernel
theorem dX19_ask_103 : decode cX19_ask 103 = .ok (.aload_n 0, 1) := by decide +kernel
theorem dX19_ask_104 : decode cX19_ask 104 = .ok (.iload_n 1, 1) := by decide +kernel
theorem dX19_ask_105 : decode cX19_ask 105 = .ok (.iconst 1, 1) := by decide +kernel
theorem dX19_ask_106 : decode cX19_ask 106 = .ok (.invokevirtual 726, 3) := by decide +kernel
theorem dX19_ask_109 : decode cX19_ask 109 = .ok (.iload_n 2, 1) := by decide +kernel
theorem dX19_ask_110 : decode cX19_ask 110 = .ok (.ireturn, 1) := by decide +kernel
theorem cwX19_ask : mw_cwV yX19_ask cX19_ask 4 ((some .int)) 1 := ⟨⟨wd_13, wd_4325, by decide +kernel⟩, wd_4323, wd_4324⟩
noncomputable def fX19_ask_i60 (fu : Nat) (a1 : Int32) (r60 : (Int32 × Int32 × mwM × mwL) → Option (Int32 × mwM × mwL)) (v2 : Int32) (v3 : Int32) (M : mwM) (L : mwL) : Option (Int32 × mwM × mwL) :=
  (if v2 ≤ v3 then mlet (mset M 732 102 v2) (fun M5 => mlet (mset M5 732 110 0) (fun M6 => mlet (mset M6 732 97 a1) (fun M7 => mlet (mset M7 732 98 0) (fun M8 => mb2 (DX19_say fu a1 1 M8 L) (fun M9 L10 => some (v2, M9, L10)))))) else mck v3 100 (mck v3 128 (mlet (mset M 933 (v3.toNatClampNeg) (M 940 v3.toNatClampNeg)) (fun M13 => mlet (v3 + 1) (fun x14 => r60 (v2, x14, M13, L))))))
noncomputable def fX19_ask_h60 (fu : Nat) (a1 : Int32) : Nat → (Int32 × Int32 × mwM × mwL) → Option (Int32 × mwM × mwL) := mloop (fun r60 s => fX19_ask_i60 fu a1 r60 s.1 s.2.1 s.2.2.1 s.2.2.2)
noncomputable def fX19_ask_b41 (fu : Nat) (a1 : Int32) (s1 : Int32) (M : mwM) (L : mwL) : Option (Int32 × mwM × mwL) :=
  mlet (mset M 732 0 s1) (fun M1 => (if (M1 732 0) ≤ 0 then mlet (M1 732 110) (fun x3 => fX19_ask_h60 fu a1 fu (x3, 0, M1, L)) else some (0, M1, L)))
noncomputable def fX19_ask_b36 (fu : Nat) (a1 : Int32) (M : mwM) (L : mwL) : Option (Int32 × mwM × mwL) :=
  fX19_ask_b41 fu a1 2 M L
noncomputable def DX19_ask (fu : Nat) (a1 : Int32) (M : mwM) (L : mwL) : Option (Int32 × mwM × mwL) :=
  mb3 (DX19_noController fu a1 M L) (fun r17 M15 L16 => (if r17 = 0 then (if (M15 732 110) = 0 then fX19_ask_b36 fu a1 M15 L16 else (if 0 ≤ (M15 732 97) then fX19_ask_b36 fu a1 M15 L16 else (if (M15 732 88) ≤ 98 then fX19_ask_b41 fu a1 0 M15 L16 else fX19_ask_b36 fu a1 M15 L16))) else fX19_ask_b41 fu a1 1 M15 L16))
set_option maxHeartbeats 4000000 in
set_option maxRecDepth 100000 in
theorem tX19_ask (l : Launch) (G : mwG) (ad : Nat → Nat) (fu : Nat) (a1 : Int32) (M : mwM) (L : mwL) {r0 : Int32} {M0 : mwM} {L0 : mwL} (hD : DX19_ask fu a1 M L = some (r0, M0, L0)) : Met l yX19_ask (Cond.code yX19_ask cX19_ask 4 ((some .int)) :: GT) ({ frames := 3, cells := 0, slots := 0, locals := 68 }) (mw_Pre G ad NF TF FF M L [.ref (ad 732), .int a1]) (mw_Qi G ad NF TF FF (mw_eqI r0 M0 L0)) 0 0 (mw_fr G) := by
  refine mw_enter (by decide) (Nat.le_of_ble_eq_true rfl) ?_
  intro p e s m below meth c ls C hr hlocks hnm hw hl
  have hl : lv_has ls 4 [(0, .ref (ad 732)), (1, .int a1)] := hl
  have hh60 : ∀ (f : Nat) (v2 : Int32) (v3 : Int32) (M : mwM) (L : mwL) (H : Heap) (locs : List Loc) (ls : Array Slot), fX19_ask_h60 fu a1 f (v2, v3, M, L) = some (r0, M0, L0) → mw_W G ad NF TF FF M L H locs → lv_has ls 4 [(0, .ref (ad 732)), (1, .int a1), (2, .int v2), (3, .int v3)] → W p l e ({ frames := 3, cells := 0, slots := 0, locals := 68 }) s m [.ref (ad 732), .int a1].toArray below meth c H locs 0 0 (MQ below (mw_Qi G ad NF TF FF (mw_eqI r0 M0 L0)) [.ref (ad 732), .int a1].toArray s 0 0 (mw_fr G)) (F0 m 60 ls []) := by
    intro f
    induction f with
    | zero => intro v2 v3 M L H locs ls hD; cases hD
    | succ f60 ih60 =>
      intro v2 v3 M L H locs ls hD hw hl
      replace hD : fX19_ask_i60 fu a1 (fX19_ask_h60 fu a1 f60) v2 v3 M L = some (r0, M0, L0) := hD
      unfold fX19_ask_i60 at hD
      refine lv_iload_n C.1.1 C.1.2.1 dX19_ask_60 rfl (lv_at hl 3 rfl) ?_
      refine lv_iload_n C.1.1 C.1.2.1 dX19_ask_61 rfl (lv_at hl 2 rfl) ?_
      refine lv_icmp_ge (tgt := 83) C.1.1 C.1.2.1 dX19_ask_62 (by decide) (fun c4 => ?_) (fun c4 => ?_)
      · replace hD := g_pos c4 hD
        refine lv_aload_n C.1.1 C.1.2.1 dX19_ask_83 rfl (lv_at hl 0 rfl) ?_
        refine lv_iload_n C.1.1 C.1.2.1 dX19_ask_84 rfl (lv_at hl 2 rfl) ?_
        obtain ⟨M5, eM5, hD⟩ := g_let hD
        refine mr_putI C hw kc_19 102 (by decide) tf_732 wd_2883 dX19_ask_85 (by decide) rfl rfl rfl rfl (fun H locs hw => ?_)
        replace hw : mw_W G ad NF TF FF M5 L H locs := by rw [eM5]; exact hw
        refine lv_aload_n C.1.1 C.1.2.1 dX19_ask_88 rfl (lv_at hl 0 rfl) ?_
        refine lv_iconst (v := 0) C.1.1 C.1.2.1 dX19_ask_89 (by decide) ?_
        obtain ⟨M6, eM6, hD⟩ := g_let hD
        refine mr_putI C hw kc_19 110 (by decide) tf_732 wd_2891 dX19_ask_90 (by decide) rfl rfl rfl rfl (fun H locs hw => ?_)
        replace hw : mw_W G ad NF TF FF M6 L H locs := by rw [eM6]; exact hw
        refine lv_aload_n C.1.1 C.1.2.1 dX19_ask_93 rfl (lv_at hl 0 rfl) ?_
        refine lv_iload_n C.1.1 C.1.2.1 dX19_ask_94 rfl (lv_at hl 1 rfl) ?_
        obtain ⟨M7, eM7, hD⟩ := g_let hD
        refine mr_putI C hw kc_19 97 (by decide) tf_732 wd_2878 dX19_ask_95 (by decide) rfl rfl rfl rfl (fun H locs hw => ?_)
        replace hw : mw_W G ad NF TF FF M7 L H locs := by rw [eM7]; exact hw
        refine lv_aload_n C.1.1 C.1.2.1 dX19_ask_98 rfl (lv_at hl 0 rfl) ?_
        refine lv_iconst (v := 0) C.1.1 C.1.2.1 dX19_ask_99 (by decide) ?_
        obtain ⟨M8, eM8, hD⟩ := g_let hD
        refine mr_putI C hw kc_19 98 (by decide) tf_732 wd_2879 dX19_ask_100 (by decide) rfl rfl rfl rfl (fun H locs hw => ?_)
        replace hw : mw_W G ad NF TF FF M8 L H locs := by rw [eM8]; exact hw
        refine lv_aload_n C.1.1 C.1.2.1 dX19_ask_103 rfl (lv_at hl 0 rfl) ?_
        refine lv_iload_n C.1.1 C.1.2.1 dX19_ask_104 rfl (lv_at hl 1 rfl) ?_
        refine lv_iconst (v := 1) C.1.1 C.1.2.1 dX19_ask_105 (by decide) ?_
        obtain ⟨M9, L10, h1, hD⟩ := g_b2 hD
        refine md_cvV (As := [.int a1, .int 1]) (rest := []) C hw (tX19_say l G ad fu a1 1 M8 L h1) kc_19 (by decide) tf_732 wd_4042 cwX19_say ⟨Nat.le_of_ble_eq_true rfl, Nat.le_of_ble_eq_true rfl⟩ rfl hl.1 (Nat.le_of_ble_eq_true rfl) dX19_ask_106 rfl rfl ⟨Nat.zero_le _, Nat.zero_le _⟩ rfl (fun H locs hw => ?_)
        refine lv_iload_n C.1.1 C.1.2.1 dX19_ask_109 rfl (lv_at hl 2 rfl) ?_
        exact mr_iret C hr hlocks hw rfl (Option.some.inj hD) dX19_ask_110
      · replace hD := g_neg c4 hD
        refine lv_aload_n C.1.1 C.1.2.1 dX19_ask_65 rfl (lv_at hl 0 rfl) ?_
        refine mr_getR C hw kc_19 101 (by decide) tf_732 ff_732_101 wd_2882 dX19_ask_66 (by decide) rfl ?_
        refine lv_iload_n C.1.1 C.1.2.1 dX19_ask_69 rfl (lv_at hl 3 rfl) ?_
        refine lv_aload_n C.1.1 C.1.2.1 dX19_ask_70 rfl (lv_at hl 0 rfl) ?_
        refine mr_getR C hw kc_19 111 (by decide) tf_732 ff_732_111 wd_2892 dX19_ask_71 (by decide) rfl ?_
        refine lv_iload_n C.1.1 C.1.2.1 dX19_ask_74 rfl (lv_at hl 3 rfl) ?_
        obtain ⟨q11, hD⟩ := g_ck hD
        refine mr_iald C hw (by decide) tf_940 q11 dX19_ask_75 ?_
        obtain ⟨q12, hD⟩ := g_ck hD
        obtain ⟨M13, eM13, hD⟩ := g_let hD
        refine mr_iast C hw (by decide) tf_933 q12 dX19_ask_76 (fun H locs hw => ?_)
        replace hw : mw_W G ad NF TF FF M13 L H locs := by rw [eM13]; exact hw
        obtain ⟨x14, ex14, hD⟩ := g_let hD
        refine lv_iinc (v := x14) (lv' := [(3, .int x14), (0, .ref (ad 732)), (1, .int a1), (2, .int v2)]) C.1.1 C.1.2.1 dX19_ask_77 hl (k := 3) rfl (by rw [ex14]; rfl) (by decide) rfl (fun ls hl => ?_)
        refine lv_goto (tgt := 60) C.1.1 C.1.2.1 dX19_ask_80 (by decide) ?_
        exact ih60 v2 x14 M13 L _ _ ls hD hw (lv_sub hl [1, 2, 3, 0] rfl)
  have hb41 : ∀ (s1 : Int32) (M : mwM) (L : mwL) (H : Heap) (locs : List Loc) (ls : Array Slot), fX19_ask_b41 fu a1 s1 M L = some (r0, M0, L0) → mw_W G ad NF TF FF M L H locs → lv_has ls 4 [(0, .ref (ad 732)), (1, .int a1)] → W p l e ({ frames := 3, cells := 0, slots := 0, locals := 68 }) s m [.ref (ad 732), .int a1].toArray below meth c H locs 0 0 (MQ below (mw_Qi G ad NF TF FF (mw_eqI r0 M0 L0)) [.ref (ad 732), .int a1].toArray s 0 0 (mw_fr G)) (F0 m 41 ls [.int s1, .ref (ad 732)]) := by
    intro s1 M L H locs ls hD hw hl
    unfold fX19_ask_b41 at hD
    obtain ⟨M1, eM1, hD⟩ := g_let hD
    refine mr_putI C hw kc_19 0 (by decide) tf_732 wd_2781 dX19_ask_41 (by decide) rfl rfl rfl rfl (fun H locs hw => ?_)
    replace hw : mw_W G ad NF TF FF M1 L H locs := by rw [eM1]; exact hw
    refine lv_aload_n C.1.1 C.1.2.1 dX19_ask_44 rfl (lv_at hl 0 rfl) ?_
    refine mr_getI C hw kc_19 0 (by decide) tf_732 wd_2781 dX19_ask_45 (by decide) rfl ?_
    refine lv_if_le (tgt := 53) C.1.1 C.1.2.1 dX19_ask_48 (by decide) (fun c2 => ?_) (fun c2 => ?_)
    · replace hD := g_pos c2 hD
      refine lv_aload_n C.1.1 C.1.2.1 dX19_ask_53 rfl (lv_at hl 0 rfl) ?_
      refine mr_getI C hw kc_19 110 (by decide) tf_732 wd_2891 dX19_ask_54 (by decide) rfl ?_
      obtain ⟨x3, ex3, hD⟩ := g_let hD
      refine W.eq (g2 := F0 m 57 ls (.int x3 :: [])) (by rw [ex3]) ?_
      refine lv_istore_n (lv' := [(2, .int x3), (0, .ref (ad 732)), (1, .int a1)]) C.1.1 C.1.2.1 dX19_ask_57 rfl hl (by decide) rfl (fun ls hl => ?_)
      refine lv_iconst (v := 0) C.1.1 C.1.2.1 dX19_ask_58 (by decide) ?_
      refine lv_istore_n (lv' := [(3, .int 0), (2, .int x3), (0, .ref (ad 732)), (1, .int a1)]) C.1.1 C.1.2.1 dX19_ask_59 rfl hl (by decide) rfl (fun ls hl => ?_)
      exact hh60 fu x3 0 M1 L _ _ ls hD hw (lv_sub hl [2, 3, 1, 0] rfl)
    · replace hD := g_neg c2 hD
      refine lv_iconst (v := 0) C.1.1 C.1.2.1 dX19_ask_51 (by decide) ?_
      exact mr_iret C hr hlocks hw rfl (Option.some.inj hD) dX19_ask_52
  have hb36 : ∀ (M : mwM) (L : mwL) (H : Heap) (locs : List Loc) (ls : Array Slot), fX19_ask_b36 fu a1 M L = some (r0, M0, L0) → mw_W G ad NF TF FF M L H locs → lv_has ls 4 [(0, .ref (ad 732)), (1, .int a1)] → W p l e ({ frames := 3, cells := 0, slots := 0, locals := 68 }) s m [.ref (ad 732), .int a1].toArray below meth c H locs 0 0 (MQ below (mw_Qi G ad NF TF FF (mw_eqI r0 M0 L0)) [.ref (ad 732), .int a1].toArray s 0 0 (mw_fr G)) (F0 m 36 ls [.ref (ad 732)]) := by
    intro M L H locs ls hD hw hl
    unfold fX19_ask_b36 at hD
    refine lv_iconst (v := 2) C.1.1 C.1.2.1 dX19_ask_36 (by decide) ?_
    refine lv_goto (tgt := 41) C.1.1 C.1.2.1 dX19_ask_37 (by decide) ?_
    exact hb41 2 M L _ _ ls hD hw (lv_sub hl [0, 1] rfl)
  unfold DX19_ask at hD
  refine lv_aload_n C.1.1 C.1.2.1 dX19_ask_0 rfl (lv_at hl 0 rfl) ?_
  refine lv_aload_n C.1.1 C.1.2.1 dX19_ask_1 rfl (lv_at hl 0 rfl) ?_
  refine lv_iload_n C.1.1 C.1.2.1 dX19_ask_2 rfl (lv_at hl 1 rfl) ?_
  obtain ⟨r17, M15, L16, h1, hD⟩ := g_b3 hD
  refine md_cvI (As := [.int a1]) (rest := [.ref (ad 732)]) C hw (tX19_noController l G ad fu a1 M L h1) kc_19 (by decide) tf_732 wd_4246 cwX19_noController ⟨Nat.le_of_ble_eq_true rfl, Nat.le_of_ble_eq_true rfl⟩ rfl hl.1 (Nat.le_of_ble_eq_true rfl) dX19_ask_3 rfl rfl ⟨Nat.zero_le _, Nat.zero_le _⟩ rfl (fun H locs hw => ?_)
  refine lv_if_eq (tgt := 13) C.1.1 C.1.2.1 dX19_ask_6 (by decide) (fun c18 => ?_) (fun c18 => ?_)
  · replace hD := g_pos c18 hD
    refine lv_aload_n C.1.1 C.1.2.1 dX19_ask_13 rfl (lv_at hl 0 rfl) ?_
    refine mr_getI C hw kc_19 110 (by decide) tf_732 wd_2891 dX19_ask_14 (by decide) rfl ?_
    refine lv_if_eq (tgt := 36) C.1.1 C.1.2.1 dX19_ask_17 (by decide) (fun c19 => ?_) (fun c19 => ?_)
    · replace hD := g_pos c19 hD
      exact hb36 M15 L16 _ _ ls hD hw (lv_sub hl [0, 1] rfl)
    · replace hD := g_neg c19 hD
      refine lv_aload_n C.1.1 C.1.2.1 dX19_ask_20 rfl (lv_at hl 0 rfl) ?_
      refine mr_getI C hw kc_19 97 (by decide) tf_732 wd_2878 dX19_ask_21 (by decide) rfl ?_
      refine lv_if_ge (tgt := 36) C.1.1 C.1.2.1 dX19_ask_24 (by decide) (fun c20 => ?_) (fun c20 => ?_)
      · replace hD := g_pos c20 hD
        exact hb36 M15 L16 _ _ ls hD hw (lv_sub hl [0, 1] rfl)
      · replace hD := g_neg c20 hD
        refine lv_aload_n C.1.1 C.1.2.1 dX19_ask_27 rfl (lv_at hl 0 rfl) ?_
        refine mr_getI C hw kc_19 88 (by decide) tf_732 wd_2869 dX19_ask_28 (by decide) rfl ?_
        refine lv_bipush (v := 98) C.1.1 C.1.2.1 dX19_ask_31 (by decide) ?_
        refine lv_icmp_le (tgt := 40) C.1.1 C.1.2.1 dX19_ask_33 (by decide) (fun c21 => ?_) (fun c21 => ?_)
        · replace hD := g_pos c21 hD
          refine lv_iconst (v := 0) C.1.1 C.1.2.1 dX19_ask_40 (by decide) ?_
          exact hb41 0 M15 L16 _ _ ls hD hw (lv_sub hl [0, 1] rfl)
        · replace hD := g_neg c21 hD
          exact hb36 M15 L16 _ _ ls hD hw (lv_sub hl [0, 1] rfl)
  · replace hD := g_neg c18 hD
    refine lv_iconst (v := 1) C.1.1 C.1.2.1 dX19_ask_9 (by decide) ?_
    refine lv_goto (tgt := 41) C.1.1 C.1.2.1 dX19_ask_10 (by decide) ?_
    exact hb41 1 M15 L16 _ _ ls hD hw (lv_sub hl [0, 1] rfl)

theorem dX19_asking_0 : decode cX19_asking 0 = .ok (.aload_n 0, 1) := by decide +kernel
theorem dX19_asking_1 : decode cX19_asking 1 = .ok (.iconst 0, 1) := by decide +kernel
theorem dX19_asking_2 : decode cX19_asking 2 = .ok (.putfield 289, 3) := by decide +kernel
theorem dX19_asking_5 : decode cX19_asking 5 = .ok (.aload_n 0, 1) := by decide +kernel
theorem dX19_asking_6 : decode cX19_asking 6 = .ok (.getfield 630, 3) := by decide +kernel
theorem dX19_asking_9 : decode cX19_asking 9 = .ok (.ifCond .eq 10, 3) := by decide +kernel
theorem dX19_asking_12 : decode cX19_asking 12 = .ok (.aload_n 0, 1) := by decide +kernel
theorem dX19_asking_13 : decode cX19_asking 13 = .ok (.getfield 245, 3) := by decide +kernel
theorem dX19_asking_16 : decode cX19_asking 16 = .ok (.goto 4, 3) := by decide +kernel
theorem dX19_asking_19 : decode cX19_asking 19 = .ok (.iconst (-1), 1) := by decide +kernel
theorem dX19_asking_20 : decode cX19_asking 20 = .ok (.ireturn, 1) := by decide +kernel
theorem cwX19_asking : mw_cwV yX19_asking cX19_asking 1 ((some .int)) 0 := ⟨⟨wd_13, wd_4329, by decide +kernel⟩, wd_4327, wd_4328⟩
noncomputable def fX19_asking_b20 (fu : Nat) (s0 : Int32) (M : mwM) (L : mwL) : Option (Int32 × mwM × mwL) :=
  some (s0, M, L)
noncomputable def DX19_asking (fu : Nat) (M : mwM) (L : mwL) : Option (Int32 × mwM × mwL) :=
  mlet (mset M 732 0 0) (fun M1 => (if (M1 732 4) = 0 then fX19_asking_b20 fu ((-1)) M1 L else fX19_asking_b20 fu (M1 732 97) M1 L))
set_option maxHeartbeats 4000000 in
set_option maxRecDepth 100000 in
theorem tX19_asking (l : Launch) (G : mwG) (ad : Nat → Nat) (fu : Nat) (M : mwM) (L : mwL) {r0 : Int32} {M0 : mwM} {L0 : mwL} (hD : DX19_asking fu M L = some (r0, M0, L0)) : Met l yX19_asking (Cond.code yX19_asking cX19_asking 1 ((some .int)) :: GT) ({ frames := 0, cells := 0, slots := 0, locals := 0 }) (mw_Pre G ad NF TF FF M L [.ref (ad 732)]) (mw_Qi G ad NF TF FF (mw_eqI r0 M0 L0)) 0 0 (mw_fr G) := by
  refine mw_enter (by decide) (Nat.le_of_ble_eq_true rfl) ?_
  intro p e s m below meth c ls C hr hlocks hnm hw hl
  have hl : lv_has ls 1 [(0, .ref (ad 732))] := hl
  have hb20 : ∀ (s0 : Int32) (M : mwM) (L : mwL) (H : Heap) (locs : List Loc) (ls : Array Slot), fX19_asking_b20 fu s0 M L = some (r0, M0, L0) → mw_W G ad NF TF FF M L H locs → lv_has ls 1 [] → W p l e ({ frames := 0, cells := 0, slots := 0, locals := 0 }) s m [.ref (ad 732)].toArray below meth c H locs 0 0 (MQ below (mw_Qi G ad NF TF FF (mw_eqI r0 M0 L0)) [.ref (ad 732)].toArray s 0 0 (mw_fr G)) (F0 m 20 ls [.int s0]) := by
    intro s0 M L H locs ls hD hw hl
    unfold fX19_asking_b20 at hD
    exact mr_iret C hr hlocks hw rfl (Option.some.inj hD) dX19_asking_20
  unfold DX19_asking at hD
  refine lv_aload_n C.1.1 C.1.2.1 dX19_asking_0 rfl (lv_at hl 0 rfl) ?_
  refine lv_iconst (v := 0) C.1.1 C.1.2.1 dX19_asking_1 (by decide) ?_
  obtain ⟨M1, eM1, hD⟩ := g_let hD
  refine mr_putI C hw kc_19 0 (by decide) tf_732 wd_2781 dX19_asking_2 (by decide) rfl rfl rfl rfl (fun H locs hw => ?_)
  replace hw : mw_W G ad NF TF FF M1 L H locs := by rw [eM1]; exact hw
  refine lv_aload_n C.1.1 C.1.2.1 dX19_asking_5 rfl (lv_at hl 0 rfl) ?_
  refine mr_getI C hw kc_19 4 (by decide) tf_732 wd_2785 dX19_asking_6 (by decide) rfl ?_
  refine lv_if_eq (tgt := 19) C.1.1 C.1.2.1 dX19_asking_9 (by decide) (fun c2 => ?_) (fun c2 => ?_)
  · replace hD := g_pos c2 hD
    refine lv_iconst (v := (-1)) C.1.1 C.1.2.1 dX19_asking_19 (by decide) ?_
    exact hb20 ((-1)) M1 L _ _ ls hD hw (lv_sub hl [] rfl)
  · replace hD := g_neg c2 hD
    refine lv_aload_n C.1.1 C.1.2.1 dX19_asking_12 rfl (lv_at hl 0 rfl) ?_
    refine mr_getI C hw kc_19 97 (by decide) tf_732 wd_2878 dX19_asking_13 (by decide) rfl ?_
    refine lv_goto (tgt := 20) C.1.1 C.1.2.1 dX19_asking_16 (by decide) ?_
    exact hb20 (M1 732 97) M1 L _ _ ls hD hw (lv_sub hl [] rfl)

theorem dX19_answer_0 : decode cX19_answer 0 = .ok (.aload_n 0, 1) := by decide +kernel
theorem dX19_answer_1 : decode cX19_answer 1 = .ok (.aload_n 0, 1) := by decide +kernel
theorem dX19_answer_2 : decode cX19_answer 2 = .ok (.getfield 630, 3) := by decide +kernel
theorem dX19_answer_5 : decode cX19_answer 5 = .ok (.ifCond .eq 15, 3) := by decide +kernel
theorem dX19_answer_8 : decode cX19_answer 8 = .ok (.iload_n 1, 1) := by decide +kernel
theorem dX19_answer_9 : decode cX19_answer 9 = .ok (.ifCond .lt 11, 3) := by decide +kernel
theorem dX19_answer_12 : decode cX19_answer 12 = .ok (.iload_n 1, 1) := by decide +kernel
theorem dX19_answer_13 : decode cX19_answer 13 = .ok (.aload_n 0, 1) := by decide +kernel
theorem dX19_answer_14 : decode cX19_answer 14 = .ok (.getfield 618, 3) := by decide +kernel
theorem dX19_answer_17 : decode cX19_answer 17 = .ok (.if_icmp .lt 7, 3) := by decide +kernel
theorem dX19_answer_20 : decode cX19_answer 20 = .ok (.iconst 1, 1) := by decide +kernel
theorem dX19_answer_21 : decode cX19_answer 21 = .ok (.goto 4, 3) := by decide +kernel
theorem dX19_answer_24 : decode cX19_answer 24 = .ok (.iconst 0, 1) := by decide +kernel
theorem dX19_answer_25 : decode cX19_answer 25 = .ok (.putfield 289, 3) := by decide +kernel
theorem dX19_answer_28 : decode cX19_answer 28 = .ok (.aload_n 0, 1) := by decide +kernel
theorem dX19_answer_29 : decode cX19_answer 29 = .ok (.getfield 289, 3) := by decide +kernel
theorem dX19_answer_32 : decode cX19_answer 32 = .ok (.ifCond .le 7, 3) := by decide +kernel
theorem dX19_answer_35 : decode cX19_answer 35 = .ok (.iconst 0, 1) := by decide +kernel
theorem dX19_answer_36 : decode cX19_answer 36 = .ok (.goto 9, 3) := by decide +kernel
theorem dX19_answer_39 : decode cX19_answer 39 = .ok (.aload_n 0, 1) := by decide +kernel
theorem dX19_answer_40 : decode cX19_answer 40 = .ok (.getfield 249, 3) := by decide +kernel
theorem dX19_answer_43 : decode cX19_answer 43 = .ok (.iload_n 1, 1) := by decide +kernel
theorem dX19_answer_44 : decode cX19_answer 44 = .ok (.iaload, 1) := by decide +kernel
theorem dX19_answer_45 : decode cX19_answer 45 = .ok (.ireturn, 1) := by decide +kernel
theorem cwX19_answer : mw_cwV yX19_answer cX19_answer 2 ((some .int)) 1 := ⟨⟨wd_13, wd_4333, by decide +kernel⟩, wd_4331, wd_4332⟩
noncomputable def fX19_answer_b45 (fu : Nat) (a1 : Int32) (s0 : Int32) (M : mwM) (L : mwL) : Option (Int32 × mwM × mwL) :=
  some (s0, M, L)
noncomputable def fX19_answer_b25 (fu : Nat) (a1 : Int32) (s1 : Int32) (M : mwM) (L : mwL) : Option (Int32 × mwM × mwL) :=
  mlet (mset M 732 0 s1) (fun M1 => (if (M1 732 0) ≤ 0 then mck a1 128 (fX19_answer_b45 fu a1 (M1 931 a1.toNatClampNeg) M1 L) else fX19_answer_b45 fu a1 0 M1 L))
noncomputable def fX19_answer_b20 (fu : Nat) (a1 : Int32) (M : mwM) (L : mwL) : Option (Int32 × mwM × mwL) :=
  fX19_answer_b25 fu a1 1 M L
noncomputable def DX19_answer (fu : Nat) (a1 : Int32) (M : mwM) (L : mwL) : Option (Int32 × mwM × mwL) :=
  (if (M 732 4) = 0 then fX19_answer_b20 fu a1 M L else (if a1 < 0 then fX19_answer_b20 fu a1 M L else (if a1 < (M 732 98) then fX19_answer_b25 fu a1 0 M L else fX19_answer_b20 fu a1 M L)))
set_option maxHeartbeats 4000000 in
set_option maxRecDepth 100000 in
theorem tX19_answer (l : Launch) (G : mwG) (ad : Nat → Nat) (fu : Nat) (a1 : Int32) (M : mwM) (L : mwL) {r0 : Int32} {M0 : mwM} {L0 : mwL} (hD : DX19_answer fu a1 M L = some (r0, M0, L0)) : Met l yX19_answer (Cond.code yX19_answer cX19_answer 2 ((some .int)) :: GT) ({ frames := 0, cells := 0, slots := 0, locals := 0 }) (mw_Pre G ad NF TF FF M L [.ref (ad 732), .int a1]) (mw_Qi G ad NF TF FF (mw_eqI r0 M0 L0)) 0 0 (mw_fr G) := by
  refine mw_enter (by decide) (Nat.le_of_ble_eq_true rfl) ?_
  intro p e s m below meth c ls C hr hlocks hnm hw hl
  have hl : lv_has ls 2 [(0, .ref (ad 732)), (1, .int a1)] := hl
  have hb45 : ∀ (s0 : Int32) (M : mwM) (L : mwL) (H : Heap) (locs : List Loc) (ls : Array Slot), fX19_answer_b45 fu a1 s0 M L = some (r0, M0, L0) → mw_W G ad NF TF FF M L H locs → lv_has ls 2 [] → W p l e ({ frames := 0, cells := 0, slots := 0, locals := 0 }) s m [.ref (ad 732), .int a1].toArray below meth c H locs 0 0 (MQ below (mw_Qi G ad NF TF FF (mw_eqI r0 M0 L0)) [.ref (ad 732), .int a1].toArray s 0 0 (mw_fr G)) (F0 m 45 ls [.int s0]) := by
    intro s0 M L H locs ls hD hw hl
    unfold fX19_answer_b45 at hD
    exact mr_iret C hr hlocks hw rfl (Option.some.inj hD) dX19_answer_45
  have hb25 : ∀ (s1 : Int32) (M : mwM) (L : mwL) (H : Heap) (locs : List Loc) (ls : Array Slot), fX19_answer_b25 fu a1 s1 M L = some (r0, M0, L0) → mw_W G ad NF TF FF M L H locs → lv_has ls 2 [(0, .ref (ad 732)), (1, .int a1)] → W p l e ({ frames := 0, cells := 0, slots := 0, locals := 0 }) s m [.ref (ad 732), .int a1].toArray below meth c H locs 0 0 (MQ below (mw_Qi G ad NF TF FF (mw_eqI r0 M0 L0)) [.ref (ad 732), .int a1].toArray s 0 0 (mw_fr G)) (F0 m 25 ls [.int s1, .ref (ad 732)]) := by
    intro s1 M L H locs ls hD hw hl
    unfold fX19_answer_b25 at hD
    obtain ⟨M1, eM1, hD⟩ := g_let hD
    refine mr_putI C hw kc_19 0 (by decide) tf_732 wd_2781 dX19_answer_25 (by decide) rfl rfl rfl rfl (fun H locs hw => ?_)
    replace hw : mw_W G ad NF TF FF M1 L H locs := by rw [eM1]; exact hw
    refine lv_aload_n C.1.1 C.1.2.1 dX19_answer_28 rfl (lv_at hl 0 rfl) ?_
    refine mr_getI C hw kc_19 0 (by decide) tf_732 wd_2781 dX19_answer_29 (by decide) rfl ?_
    refine lv_if_le (tgt := 39) C.1.1 C.1.2.1 dX19_answer_32 (by decide) (fun c2 => ?_) (fun c2 => ?_)
    · replace hD := g_pos c2 hD
      refine lv_aload_n C.1.1 C.1.2.1 dX19_answer_39 rfl (lv_at hl 0 rfl) ?_
      refine mr_getR C hw kc_19 99 (by decide) tf_732 ff_732_99 wd_2880 dX19_answer_40 (by decide) rfl ?_
      refine lv_iload_n C.1.1 C.1.2.1 dX19_answer_43 rfl (lv_at hl 1 rfl) ?_
      obtain ⟨q3, hD⟩ := g_ck hD
      refine mr_iald C hw (by decide) tf_931 q3 dX19_answer_44 ?_
      exact hb45 (M1 931 a1.toNatClampNeg) M1 L _ _ ls hD hw (lv_sub hl [] rfl)
    · replace hD := g_neg c2 hD
      refine lv_iconst (v := 0) C.1.1 C.1.2.1 dX19_answer_35 (by decide) ?_
      refine lv_goto (tgt := 45) C.1.1 C.1.2.1 dX19_answer_36 (by decide) ?_
      exact hb45 0 M1 L _ _ ls hD hw (lv_sub hl [] rfl)
  have hb20 : ∀ (M : mwM) (L : mwL) (H : Heap) (locs : List Loc) (ls : Array Slot), fX19_answer_b20 fu a1 M L = some (r0, M0, L0) → mw_W G ad NF TF FF M L H locs → lv_has ls 2 [(0, .ref (ad 732)), (1, .int a1)] → W p l e ({ frames := 0, cells := 0, slots := 0, locals := 0 }) s m [.ref (ad 732), .int a1].toArray below meth c H locs 0 0 (MQ below (mw_Qi G ad NF TF FF (mw_eqI r0 M0 L0)) [.ref (ad 732), .int a1].toArray s 0 0 (mw_fr G)) (F0 m 20 ls [.ref (ad 732)]) := by
    intro M L H locs ls hD hw hl
    unfold fX19_answer_b20 at hD
    refine lv_iconst (v := 1) C.1.1 C.1.2.1 dX19_answer_20 (by decide) ?_
    refine lv_goto (tgt := 25) C.1.1 C.1.2.1 dX19_answer_21 (by decide) ?_
    exact hb25 1 M L _ _ ls hD hw (lv_sub hl [0, 1] rfl)
  unfold DX19_answer at hD
  refine lv_aload_n C.1.1 C.1.2.1 dX19_answer_0 rfl (lv_at hl 0 rfl) ?_
  refine lv_aload_n C.1.1 C.1.2.1 dX19_answer_1 rfl (lv_at hl 0 rfl) ?_
  refine mr_getI C hw kc_19 4 (by decide) tf_732 wd_2785 dX19_answer_2 (by decide) rfl ?_
  refine lv_if_eq (tgt := 20) C.1.1 C.1.2.1 dX19_answer_5 (by decide) (fun c4 => ?_) (fun c4 => ?_)
  · replace hD := g_pos c4 hD
    exact hb20 M L _ _ ls hD hw (lv_sub hl [0, 1] rfl)
  · replace hD := g_neg c4 hD
    refine lv_iload_n C.1.1 C.1.2.1 dX19_answer_8 rfl (lv_at hl 1 rfl) ?_
    refine lv_if_lt (tgt := 20) C.1.1 C.1.2.1 dX19_answer_9 (by decide) (fun c5 => ?_) (fun c5 => ?_)
    · replace hD := g_pos c5 hD
      exact hb20 M L _ _ ls hD hw (lv_sub hl [0, 1] rfl)
    · replace hD := g_neg c5 hD
      refine lv_iload_n C.1.1 C.1.2.1 dX19_answer_12 rfl (lv_at hl 1 rfl) ?_
      refine lv_aload_n C.1.1 C.1.2.1 dX19_answer_13 rfl (lv_at hl 0 rfl) ?_
      refine mr_getI C hw kc_19 98 (by decide) tf_732 wd_2879 dX19_answer_14 (by decide) rfl ?_
      refine lv_icmp_lt (tgt := 24) C.1.1 C.1.2.1 dX19_answer_17 (by decide) (fun c6 => ?_) (fun c6 => ?_)
      · replace hD := g_pos c6 hD
        refine lv_iconst (v := 0) C.1.1 C.1.2.1 dX19_answer_24 (by decide) ?_
        exact hb25 0 M L _ _ ls hD hw (lv_sub hl [0, 1] rfl)
      · replace hD := g_neg c6 hD
        exact hb20 M L _ _ ls hD hw (lv_sub hl [0, 1] rfl)
