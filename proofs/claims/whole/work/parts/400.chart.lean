theorem dX2_clearState_0 : decode cX2_clearState 0 = .ok (.iconst 0, 1) := by decide +kernel
theorem dX2_clearState_1 : decode cX2_clearState 1 = .ok (.istore_n 2, 1) := by decide +kernel
theorem dX2_clearState_2 : decode cX2_clearState 2 = .ok (.iload_n 2, 1) := by decide +kernel
theorem dX2_clearState_3 : decode cX2_clearState 3 = .ok (.bipush 15, 2) := by decide +kernel
theorem dX2_clearState_5 : decode cX2_clearState 5 = .ok (.if_icmp .gt 18, 3) := by decide +kernel
theorem dX2_clearState_8 : decode cX2_clearState 8 = .ok (.aload_n 0, 1) := by decide +kernel
theorem dX2_clearState_9 : decode cX2_clearState 9 = .ok (.getfield 13, 3) := by decide +kernel
theorem dX2_clearState_12 : decode cX2_clearState 12 = .ok (.iload_n 2, 1) := by decide +kernel
theorem dX2_clearState_13 : decode cX2_clearState 13 = .ok (.aaload, 1) := by decide +kernel
theorem dX2_clearState_14 : decode cX2_clearState 14 = .ok (.iload_n 1, 1) := by decide +kernel
theorem dX2_clearState_15 : decode cX2_clearState 15 = .ok (.iconst 0, 1) := by decide +kernel
theorem dX2_clearState_16 : decode cX2_clearState 16 = .ok (.iastore, 1) := by decide +kernel
theorem dX2_clearState_17 : decode cX2_clearState 17 = .ok (.iinc 2 1, 3) := by decide +kernel
theorem dX2_clearState_20 : decode cX2_clearState 20 = .ok (.goto (-18), 3) := by decide +kernel
theorem dX2_clearState_23 : decode cX2_clearState 23 = .ok (.return_, 1) := by decide +kernel
theorem cwX2_clearState : mw_cwV yX2_clearState cX2_clearState 3 (none) 1 := ⟨⟨wd_12, wd_985, by decide +kernel⟩, wd_984, sl_24⟩
set_option maxHeartbeats 4000000 in
set_option maxRecDepth 100000 in
theorem tX2_clearState (l : Launch) (G : mwG) (ad : Nat → Nat) (fu : Nat) (k : Nat) (a1 : Int32) (M : mwM) (L : mwL) {M0 : mwM} {L0 : mwL} (hD : DX2_clearState fu k a1 M L = some (M0, L0)) (hk0 : isCh k) : Met l yX2_clearState (Cond.code yX2_clearState cX2_clearState 3 (none) :: GT) ({ frames := 0, cells := 0, slots := 0, locals := 0 }) (mw_Pre G ad NF TF FF M L [.ref (ad k), .int a1]) (mw_Qv G ad NF TF FF (mw_eqV M0 L0)) 0 0 (mw_fr G) := by
  refine mw_enter (by decide) (Nat.le_of_ble_eq_true rfl) ?_
  intro p e s m below meth c ls C hr hlocks hnm hw hl
  have hl : lv_has ls 3 [(0, .ref (ad k)), (1, .int a1)] := hl
  have hh2 : ∀ (f : Nat) (v2 : Int32) (M : mwM) (L : mwL) (H : Heap) (locs : List Loc) (ls : Array Slot), fX2_clearState_h2 fu k a1 f (v2, M, L) = some (M0, L0) → mw_W G ad NF TF FF M L H locs → lv_has ls 3 [(0, .ref (ad k)), (1, .int a1), (2, .int v2)] → W p l e ({ frames := 0, cells := 0, slots := 0, locals := 0 }) s m [.ref (ad k), .int a1].toArray below meth c H locs 0 0 (MQ below (mw_Qv G ad NF TF FF (mw_eqV M0 L0)) [.ref (ad k), .int a1].toArray s 0 0 (mw_fr G)) (F0 m 2 ls []) := by
    intro f
    induction f with
    | zero => intro v2 M L H locs ls hD; cases hD
    | succ f2 ih2 =>
      intro v2 M L H locs ls hD hw hl
      replace hD : fX2_clearState_i2 fu k a1 (fX2_clearState_h2 fu k a1 f2) v2 M L = some (M0, L0) := hD
      unfold fX2_clearState_i2 at hD
      refine lv_iload_n C.1.1 C.1.2.1 dX2_clearState_2 rfl (lv_at hl 2 rfl) ?_
      refine lv_bipush (v := 15) C.1.1 C.1.2.1 dX2_clearState_3 (by decide) ?_
      refine lv_icmp_gt (tgt := 23) C.1.1 C.1.2.1 dX2_clearState_5 (by decide) (fun c1 => ?_) (fun c1 => ?_)
      · replace hD := g_pos c1 hD
        exact mr_vret C hr hlocks hw (Option.some.inj hD) dX2_clearState_23
      · replace hD := g_neg c1 hD
        refine lv_aload_n C.1.1 C.1.2.1 dX2_clearState_8 rfl (lv_at hl 0 rfl) ?_
        refine mr_getR C hw kc_2 0 (Ch_N0 hk0) (Ch_T0 hk0) (Ch_F0_0 hk0) wd_444 dX2_clearState_9 (by decide) rfl ?_
        refine lv_iload_n C.1.1 C.1.2.1 dX2_clearState_12 rfl (lv_at hl 2 rfl) ?_
        obtain ⟨q2, hD⟩ := g_ck hD
        refine mr_aald C hw (Ch_N1 hk0) (Ch_T1 hk0) (by decide) (by decide) rfl rfl q2 (Ch_R1 hk0 _ (g_lt q2)).1 dX2_clearState_13 ?_
        refine lv_iload_n C.1.1 C.1.2.1 dX2_clearState_14 rfl (lv_at hl 1 rfl) ?_
        refine lv_iconst (v := 0) C.1.1 C.1.2.1 dX2_clearState_15 (by decide) ?_
        obtain ⟨q3, hD⟩ := g_ck hD
        obtain ⟨M4, eM4, hD⟩ := g_let hD
        refine mr_iast C hw (Ch_R1 hk0 _ (g_lt q2)).2.2 (Ch_R1 hk0 _ (g_lt q2)).2.1 q3 dX2_clearState_16 (fun H locs hw => ?_)
        replace hw : mw_W G ad NF TF FF M4 L H locs := by rw [eM4]; exact hw
        obtain ⟨x5, ex5, hD⟩ := g_let hD
        refine lv_iinc (v := x5) (lv' := [(2, .int x5), (0, .ref (ad k)), (1, .int a1)]) C.1.1 C.1.2.1 dX2_clearState_17 hl (k := 2) rfl (by rw [ex5]; rfl) (by decide) rfl (fun ls hl => ?_)
        refine lv_goto (tgt := 2) C.1.1 C.1.2.1 dX2_clearState_20 (by decide) ?_
        exact ih2 x5 M4 L _ _ ls hD hw (lv_sub hl [1, 2, 0] rfl)
  unfold DX2_clearState at hD
  refine lv_iconst (v := 0) C.1.1 C.1.2.1 dX2_clearState_0 (by decide) ?_
  refine lv_istore_n (lv' := [(2, .int 0), (0, .ref (ad k)), (1, .int a1)]) C.1.1 C.1.2.1 dX2_clearState_1 rfl hl (by decide) rfl (fun ls hl => ?_)
  exact hh2 fu 0 M L _ _ ls hD hw (lv_sub hl [1, 2, 0] rfl)

theorem dX2_begin_0 : decode cX2_begin 0 = .ok (.aload_n 0, 1) := by decide +kernel
theorem dX2_begin_1 : decode cX2_begin 1 = .ok (.iload_n 1, 1) := by decide +kernel
theorem dX2_begin_2 : decode cX2_begin 2 = .ok (.putfield 30, 3) := by decide +kernel
theorem dX2_begin_5 : decode cX2_begin 5 = .ok (.aload_n 0, 1) := by decide +kernel
theorem dX2_begin_6 : decode cX2_begin 6 = .ok (.iload_n 2, 1) := by decide +kernel
theorem dX2_begin_7 : decode cX2_begin 7 = .ok (.putfield 34, 3) := by decide +kernel
theorem dX2_begin_10 : decode cX2_begin 10 = .ok (.aload_n 0, 1) := by decide +kernel
theorem dX2_begin_11 : decode cX2_begin 11 = .ok (.iconst 0, 1) := by decide +kernel
theorem dX2_begin_12 : decode cX2_begin 12 = .ok (.putfield 37, 3) := by decide +kernel
theorem dX2_begin_15 : decode cX2_begin 15 = .ok (.aload_n 0, 1) := by decide +kernel
theorem dX2_begin_16 : decode cX2_begin 16 = .ok (.iconst 0, 1) := by decide +kernel
theorem dX2_begin_17 : decode cX2_begin 17 = .ok (.putfield 40, 3) := by decide +kernel
theorem dX2_begin_20 : decode cX2_begin 20 = .ok (.aload_n 0, 1) := by decide +kernel
theorem dX2_begin_21 : decode cX2_begin 21 = .ok (.iconst 0, 1) := by decide +kernel
theorem dX2_begin_22 : decode cX2_begin 22 = .ok (.putfield 43, 3) := by decide +kernel
theorem dX2_begin_25 : decode cX2_begin 25 = .ok (.aload_n 0, 1) := by decide +kernel
theorem dX2_begin_26 : decode cX2_begin 26 = .ok (.iconst 0, 1) := by decide +kernel
theorem dX2_begin_27 : decode cX2_begin 27 = .ok (.putfield 46, 3) := by decide +kernel
theorem dX2_begin_30 : decode cX2_begin 30 = .ok (.aload_n 0, 1) := by decide +kernel
theorem dX2_begin_31 : decode cX2_begin 31 = .ok (.iconst 0, 1) := by decide +kernel
theorem dX2_begin_32 : decode cX2_begin 32 = .ok (.putfield 49, 3) := by decide +kernel
theorem dX2_begin_35 : decode cX2_begin 35 = .ok (.aload_n 0, 1) := by decide +kernel
theorem dX2_begin_36 : decode cX2_begin 36 = .ok (.iconst 0, 1) := by decide +kernel
theorem dX2_begin_37 : decode cX2_begin 37 = .ok (.putfield 52, 3) := by decide +kernel
theorem dX2_begin_40 : decode cX2_begin 40 = .ok (.aload_n 0, 1) := by decide +kernel
theorem dX2_begin_41 : decode cX2_begin 41 = .ok (.iconst 0, 1) := by decide +kernel
theorem dX2_begin_42 : decode cX2_begin 42 = .ok (.putfield 55, 3) := by decide +kernel
theorem dX2_begin_45 : decode cX2_begin 45 = .ok (.aload_n 0, 1) := by decide +kernel
theorem dX2_begin_46 : decode cX2_begin 46 = .ok (.iconst 0, 1) := by decide +kernel
theorem dX2_begin_47 : decode cX2_begin 47 = .ok (.putfield 58, 3) := by decide +kernel
theorem dX2_begin_50 : decode cX2_begin 50 = .ok (.aload_n 0, 1) := by decide +kernel
theorem dX2_begin_51 : decode cX2_begin 51 = .ok (.iconst 0, 1) := by decide +kernel
theorem dX2_begin_52 : decode cX2_begin 52 = .ok (.putfield 61, 3) := by decide +kernel
theorem dX2_begin_55 : decode cX2_begin 55 = .ok (.aload_n 0, 1) := by decide +kernel
theorem dX2_begin_56 : decode cX2_begin 56 = .ok (.iconst 0, 1) := by decide +kernel
theorem dX2_begin_57 : decode cX2_begin 57 = .ok (.putfield 64, 3) := by decide +kernel
theorem dX2_begin_60 : decode cX2_begin 60 = .ok (.iconst 0, 1) := by decide +kernel
theorem dX2_begin_61 : decode cX2_begin 61 = .ok (.istore_n 3, 1) := by decide +kernel
theorem dX2_begin_62 : decode cX2_begin 62 = .ok (.iload_n 3, 1) := by decide +kernel
theorem dX2_begin_63 : decode cX2_begin 63 = .ok (.bipush 32, 2) := by decide +kernel
theorem dX2_begin_65 : decode cX2_begin 65 = .ok (.if_icmp .ge 16, 3) := by decide +kernel
theorem dX2_begin_68 : decode cX2_begin 68 = .ok (.aload_n 0, 1) := by decide +kernel
theorem dX2_begin_69 : decode cX2_begin 69 = .ok (.getfield 22, 3) := by decide +kernel
theorem dX2_begin_72 : decode cX2_begin 72 = .ok (.iload_n 3, 1) := by decide +kernel
theorem dX2_begin_73 : decode cX2_begin 73 = .ok (.lconst 0, 1) := by decide +kernel
theorem dX2_begin_74 : decode cX2_begin 74 = .ok (.lastore, 1) := by decide +kernel
theorem dX2_begin_75 : decode cX2_begin 75 = .ok (.iinc 3 1, 3) := by decide +kernel
theorem dX2_begin_78 : decode cX2_begin 78 = .ok (.goto (-16), 3) := by decide +kernel
theorem dX2_begin_81 : decode cX2_begin 81 = .ok (.aload_n 0, 1) := by decide +kernel
theorem dX2_begin_82 : decode cX2_begin 82 = .ok (.iconst 0, 1) := by decide +kernel
theorem dX2_begin_83 : decode cX2_begin 83 = .ok (.invokevirtual 68, 3) := by decide +kernel
theorem dX2_begin_86 : decode cX2_begin 86 = .ok (.return_, 1) := by decide +kernel
theorem cwX2_begin : mw_cwV yX2_begin cX2_begin 4 (none) 2 := ⟨⟨wd_12, wd_981, by decide +kernel⟩, wd_979, wd_980⟩
set_option maxHeartbeats 4000000 in
set_option maxRecDepth 100000 in
theorem tX2_begin (l : Launch) (G : mwG) (ad : Nat → Nat) (fu : Nat) (k : Nat) (a1 : Int32) (a2 : Int32) (M : mwM) (L : mwL) {M0 : mwM} {L0 : mwL} (hD : DX2_begin fu k a1 a2 M L = some (M0, L0)) (hk0 : isCh k) : Met l yX2_begin (Cond.code yX2_begin cX2_begin 4 (none) :: GT) ({ frames := 1, cells := 0, slots := 0, locals := 22 }) (mw_Pre G ad NF TF FF M L [.ref (ad k), .int a1, .int a2]) (mw_Qv G ad NF TF FF (mw_eqV M0 L0)) 0 0 (mw_fr G) := by
  refine mw_enter (by decide) (Nat.le_of_ble_eq_true rfl) ?_
  intro p e s m below meth c ls C hr hlocks hnm hw hl
  have hl : lv_has ls 4 [(0, .ref (ad k)), (1, .int a1), (2, .int a2)] := hl
  have hh62 : ∀ (f : Nat) (v3 : Int32) (M : mwM) (L : mwL) (H : Heap) (locs : List Loc) (ls : Array Slot), fX2_begin_h62 fu k a1 a2 f (v3, M, L) = some (M0, L0) → mw_W G ad NF TF FF M L H locs → lv_has ls 4 [(0, .ref (ad k)), (3, .int v3)] → W p l e ({ frames := 1, cells := 0, slots := 0, locals := 22 }) s m [.ref (ad k), .int a1, .int a2].toArray below meth c H locs 0 0 (MQ below (mw_Qv G ad NF TF FF (mw_eqV M0 L0)) [.ref (ad k), .int a1, .int a2].toArray s 0 0 (mw_fr G)) (F0 m 62 ls []) := by
    intro f
    induction f with
    | zero => intro v3 M L H locs ls hD; cases hD
    | succ f62 ih62 =>
      intro v3 M L H locs ls hD hw hl
      replace hD : fX2_begin_i62 fu k a1 a2 (fX2_begin_h62 fu k a1 a2 f62) v3 M L = some (M0, L0) := hD
      unfold fX2_begin_i62 at hD
      refine lv_iload_n C.1.1 C.1.2.1 dX2_begin_62 rfl (lv_at hl 1 rfl) ?_
      refine lv_bipush (v := 32) C.1.1 C.1.2.1 dX2_begin_63 (by decide) ?_
      refine lv_icmp_ge (tgt := 81) C.1.1 C.1.2.1 dX2_begin_65 (by decide) (fun c1 => ?_) (fun c1 => ?_)
      · replace hD := g_pos c1 hD
        refine lv_aload_n C.1.1 C.1.2.1 dX2_begin_81 rfl (lv_at hl 0 rfl) ?_
        refine lv_iconst (v := 0) C.1.1 C.1.2.1 dX2_begin_82 (by decide) ?_
        obtain ⟨M2, L3, h1, hD⟩ := g_b2 hD
        refine md_cvV (As := [.int 0]) (rest := []) C hw (tX2_clearState l G ad fu k 0 M L h1 hk0) kc_2 (Ch_N0 hk0) (Ch_T0 hk0) wd_982 cwX2_clearState ⟨Nat.le_of_ble_eq_true rfl, Nat.le_of_ble_eq_true rfl⟩ rfl hl.1 (Nat.le_of_ble_eq_true rfl) dX2_begin_83 rfl rfl ⟨Nat.zero_le _, Nat.zero_le _⟩ rfl (fun H locs hw => ?_)
        exact mr_vret C hr hlocks hw (Option.some.inj hD) dX2_begin_86
      · replace hD := g_neg c1 hD
        refine lv_aload_n C.1.1 C.1.2.1 dX2_begin_68 rfl (lv_at hl 0 rfl) ?_
        refine mr_getR C hw kc_2 3 (Ch_N0 hk0) (Ch_T0 hk0) (Ch_F0_3 hk0) wd_447 dX2_begin_69 (by decide) rfl ?_
        refine lv_iload_n C.1.1 C.1.2.1 dX2_begin_72 rfl (lv_at hl 1 rfl) ?_
        refine lv_lconst (v := 0) C.1.1 C.1.2.1 dX2_begin_73 (by decide) ?_
        obtain ⟨q4, hD⟩ := g_ck hD
        obtain ⟨L5, eL5, hD⟩ := g_let hD
        refine mr_last C hw (Ch_N34 hk0) (Ch_T34 hk0) q4 dX2_begin_74 (fun H locs hw => ?_)
        replace hw : mw_W G ad NF TF FF M L5 H locs := by rw [eL5]; exact hw
        obtain ⟨x6, ex6, hD⟩ := g_let hD
        refine lv_iinc (v := x6) (lv' := [(3, .int x6), (0, .ref (ad k))]) C.1.1 C.1.2.1 dX2_begin_75 hl (k := 1) rfl (by rw [ex6]; rfl) (by decide) rfl (fun ls hl => ?_)
        refine lv_goto (tgt := 62) C.1.1 C.1.2.1 dX2_begin_78 (by decide) ?_
        exact ih62 x6 M L5 _ _ ls hD hw (lv_sub hl [1, 0] rfl)
  unfold DX2_begin at hD
  refine lv_aload_n C.1.1 C.1.2.1 dX2_begin_0 rfl (lv_at hl 0 rfl) ?_
  refine lv_iload_n C.1.1 C.1.2.1 dX2_begin_1 rfl (lv_at hl 1 rfl) ?_
  obtain ⟨M7, eM7, hD⟩ := g_let hD
  refine mr_putI C hw kc_2 5 (Ch_N0 hk0) (Ch_T0 hk0) wd_453 dX2_begin_2 (by decide) rfl rfl rfl rfl (fun H locs hw => ?_)
  replace hw : mw_W G ad NF TF FF M7 L H locs := by rw [eM7]; exact hw
  refine lv_aload_n C.1.1 C.1.2.1 dX2_begin_5 rfl (lv_at hl 0 rfl) ?_
  refine lv_iload_n C.1.1 C.1.2.1 dX2_begin_6 rfl (lv_at hl 2 rfl) ?_
  obtain ⟨M8, eM8, hD⟩ := g_let hD
  refine mr_putI C hw kc_2 6 (Ch_N0 hk0) (Ch_T0 hk0) wd_457 dX2_begin_7 (by decide) rfl rfl rfl rfl (fun H locs hw => ?_)
  replace hw : mw_W G ad NF TF FF M8 L H locs := by rw [eM8]; exact hw
  refine lv_aload_n C.1.1 C.1.2.1 dX2_begin_10 rfl (lv_at hl 0 rfl) ?_
  refine lv_iconst (v := 0) C.1.1 C.1.2.1 dX2_begin_11 (by decide) ?_
  obtain ⟨M9, eM9, hD⟩ := g_let hD
  refine mr_putI C hw kc_2 7 (Ch_N0 hk0) (Ch_T0 hk0) wd_458 dX2_begin_12 (by decide) rfl rfl rfl rfl (fun H locs hw => ?_)
  replace hw : mw_W G ad NF TF FF M9 L H locs := by rw [eM9]; exact hw
  refine lv_aload_n C.1.1 C.1.2.1 dX2_begin_15 rfl (lv_at hl 0 rfl) ?_
  refine lv_iconst (v := 0) C.1.1 C.1.2.1 dX2_begin_16 (by decide) ?_
  obtain ⟨M10, eM10, hD⟩ := g_let hD
  refine mr_putI C hw kc_2 8 (Ch_N0 hk0) (Ch_T0 hk0) wd_460 dX2_begin_17 (by decide) rfl rfl rfl rfl (fun H locs hw => ?_)
  replace hw : mw_W G ad NF TF FF M10 L H locs := by rw [eM10]; exact hw
  refine lv_aload_n C.1.1 C.1.2.1 dX2_begin_20 rfl (lv_at hl 0 rfl) ?_
  refine lv_iconst (v := 0) C.1.1 C.1.2.1 dX2_begin_21 (by decide) ?_
  obtain ⟨M11, eM11, hD⟩ := g_let hD
  refine mr_putI C hw kc_2 9 (Ch_N0 hk0) (Ch_T0 hk0) wd_462 dX2_begin_22 (by decide) rfl rfl rfl rfl (fun H locs hw => ?_)
  replace hw : mw_W G ad NF TF FF M11 L H locs := by rw [eM11]; exact hw
  refine lv_aload_n C.1.1 C.1.2.1 dX2_begin_25 rfl (lv_at hl 0 rfl) ?_
  refine lv_iconst (v := 0) C.1.1 C.1.2.1 dX2_begin_26 (by decide) ?_
  obtain ⟨M12, eM12, hD⟩ := g_let hD
  refine mr_putI C hw kc_2 10 (Ch_N0 hk0) (Ch_T0 hk0) wd_463 dX2_begin_27 (by decide) rfl rfl rfl rfl (fun H locs hw => ?_)
  replace hw : mw_W G ad NF TF FF M12 L H locs := by rw [eM12]; exact hw
  refine lv_aload_n C.1.1 C.1.2.1 dX2_begin_30 rfl (lv_at hl 0 rfl) ?_
  refine lv_iconst (v := 0) C.1.1 C.1.2.1 dX2_begin_31 (by decide) ?_
  obtain ⟨M13, eM13, hD⟩ := g_let hD
  refine mr_putI C hw kc_2 11 (Ch_N0 hk0) (Ch_T0 hk0) wd_464 dX2_begin_32 (by decide) rfl rfl rfl rfl (fun H locs hw => ?_)
  replace hw : mw_W G ad NF TF FF M13 L H locs := by rw [eM13]; exact hw
  refine lv_aload_n C.1.1 C.1.2.1 dX2_begin_35 rfl (lv_at hl 0 rfl) ?_
  refine lv_iconst (v := 0) C.1.1 C.1.2.1 dX2_begin_36 (by decide) ?_
  obtain ⟨M14, eM14, hD⟩ := g_let hD
  refine mr_putI C hw kc_2 12 (Ch_N0 hk0) (Ch_T0 hk0) wd_466 dX2_begin_37 (by decide) rfl rfl rfl rfl (fun H locs hw => ?_)
  replace hw : mw_W G ad NF TF FF M14 L H locs := by rw [eM14]; exact hw
  refine lv_aload_n C.1.1 C.1.2.1 dX2_begin_40 rfl (lv_at hl 0 rfl) ?_
  refine lv_iconst (v := 0) C.1.1 C.1.2.1 dX2_begin_41 (by decide) ?_
  obtain ⟨M15, eM15, hD⟩ := g_let hD
  refine mr_putI C hw kc_2 13 (Ch_N0 hk0) (Ch_T0 hk0) wd_467 dX2_begin_42 (by decide) rfl rfl rfl rfl (fun H locs hw => ?_)
  replace hw : mw_W G ad NF TF FF M15 L H locs := by rw [eM15]; exact hw
  refine lv_aload_n C.1.1 C.1.2.1 dX2_begin_45 rfl (lv_at hl 0 rfl) ?_
  refine lv_iconst (v := 0) C.1.1 C.1.2.1 dX2_begin_46 (by decide) ?_
  obtain ⟨M16, eM16, hD⟩ := g_let hD
  refine mr_putI C hw kc_2 14 (Ch_N0 hk0) (Ch_T0 hk0) wd_469 dX2_begin_47 (by decide) rfl rfl rfl rfl (fun H locs hw => ?_)
  replace hw : mw_W G ad NF TF FF M16 L H locs := by rw [eM16]; exact hw
  refine lv_aload_n C.1.1 C.1.2.1 dX2_begin_50 rfl (lv_at hl 0 rfl) ?_
  refine lv_iconst (v := 0) C.1.1 C.1.2.1 dX2_begin_51 (by decide) ?_
  obtain ⟨M17, eM17, hD⟩ := g_let hD
  refine mr_putI C hw kc_2 15 (Ch_N0 hk0) (Ch_T0 hk0) wd_471 dX2_begin_52 (by decide) rfl rfl rfl rfl (fun H locs hw => ?_)
  replace hw : mw_W G ad NF TF FF M17 L H locs := by rw [eM17]; exact hw
  refine lv_aload_n C.1.1 C.1.2.1 dX2_begin_55 rfl (lv_at hl 0 rfl) ?_
  refine lv_iconst (v := 0) C.1.1 C.1.2.1 dX2_begin_56 (by decide) ?_
  obtain ⟨M18, eM18, hD⟩ := g_let hD
  refine mr_putI C hw kc_2 16 (Ch_N0 hk0) (Ch_T0 hk0) wd_472 dX2_begin_57 (by decide) rfl rfl (by decide +kernel) (by decide +kernel) (fun H locs hw => ?_)
  replace hw : mw_W G ad NF TF FF M18 L H locs := by rw [eM18]; exact hw
  refine lv_iconst (v := 0) C.1.1 C.1.2.1 dX2_begin_60 (by decide) ?_
  refine lv_istore_n (lv' := [(3, .int 0), (0, .ref (ad k)), (1, .int a1), (2, .int a2)]) C.1.1 C.1.2.1 dX2_begin_61 rfl hl (by decide) rfl (fun ls hl => ?_)
  exact hh62 fu 0 M18 L _ _ ls hD hw (lv_sub hl [1, 0] rfl)

theorem dX2_isMark_0 : decode cX2_isMark 0 = .ok (.aload_n 0, 1) := by decide +kernel
theorem dX2_isMark_1 : decode cX2_isMark 1 = .ok (.getfield 13, 3) := by decide +kernel
theorem dX2_isMark_4 : decode cX2_isMark 4 = .ok (.iconst 1, 1) := by decide +kernel
theorem dX2_isMark_5 : decode cX2_isMark 5 = .ok (.aaload, 1) := by decide +kernel
theorem dX2_isMark_6 : decode cX2_isMark 6 = .ok (.iload_n 1, 1) := by decide +kernel
theorem dX2_isMark_7 : decode cX2_isMark 7 = .ok (.iaload, 1) := by decide +kernel
theorem dX2_isMark_8 : decode cX2_isMark 8 = .ok (.iconst 2, 1) := by decide +kernel
theorem dX2_isMark_9 : decode cX2_isMark 9 = .ok (.if_icmp .lt 7, 3) := by decide +kernel
theorem dX2_isMark_12 : decode cX2_isMark 12 = .ok (.iconst 1, 1) := by decide +kernel
theorem dX2_isMark_13 : decode cX2_isMark 13 = .ok (.goto 4, 3) := by decide +kernel
theorem dX2_isMark_16 : decode cX2_isMark 16 = .ok (.iconst 0, 1) := by decide +kernel
theorem dX2_isMark_17 : decode cX2_isMark 17 = .ok (.ireturn, 1) := by decide +kernel
theorem cwX2_isMark : mw_cwV yX2_isMark cX2_isMark 2 ((some .boolean)) 1 := ⟨⟨wd_12, wd_1009, by decide +kernel⟩, wd_1008, sl_28⟩
set_option maxHeartbeats 4000000 in
set_option maxRecDepth 100000 in
theorem tX2_isMark (l : Launch) (G : mwG) (ad : Nat → Nat) (fu : Nat) (k : Nat) (a1 : Int32) (M : mwM) (L : mwL) {r0 : Int32} {M0 : mwM} {L0 : mwL} (hD : DX2_isMark fu k a1 M L = some (r0, M0, L0)) (hk0 : isCh k) : Met l yX2_isMark (Cond.code yX2_isMark cX2_isMark 2 ((some .boolean)) :: GT) ({ frames := 0, cells := 0, slots := 0, locals := 0 }) (mw_Pre G ad NF TF FF M L [.ref (ad k), .int a1]) (mw_Qi G ad NF TF FF (mw_eqI r0 M0 L0)) 0 0 (mw_fr G) := by
  refine mw_enter (by decide) (Nat.le_of_ble_eq_true rfl) ?_
  intro p e s m below meth c ls C hr hlocks hnm hw hl
  have hl : lv_has ls 2 [(0, .ref (ad k)), (1, .int a1)] := hl
  have hb17 : ∀ (s0 : Int32) (M : mwM) (L : mwL) (H : Heap) (locs : List Loc) (ls : Array Slot), fX2_isMark_b17 fu k a1 s0 M L = some (r0, M0, L0) → mw_W G ad NF TF FF M L H locs → lv_has ls 2 [] → W p l e ({ frames := 0, cells := 0, slots := 0, locals := 0 }) s m [.ref (ad k), .int a1].toArray below meth c H locs 0 0 (MQ below (mw_Qi G ad NF TF FF (mw_eqI r0 M0 L0)) [.ref (ad k), .int a1].toArray s 0 0 (mw_fr G)) (F0 m 17 ls [.int s0]) := by
    intro s0 M L H locs ls hD hw hl
    unfold fX2_isMark_b17 at hD
    obtain ⟨z1, hD⟩ := g_zz hD
    exact mr_iret C hr hlocks hw (nz_zz z1) (Option.some.inj hD) dX2_isMark_17
  unfold DX2_isMark at hD
  refine lv_aload_n C.1.1 C.1.2.1 dX2_isMark_0 rfl (lv_at hl 0 rfl) ?_
  refine mr_getR C hw kc_2 0 (Ch_N0 hk0) (Ch_T0 hk0) (Ch_F0_0 hk0) wd_444 dX2_isMark_1 (by decide) rfl ?_
  refine lv_iconst (v := 1) C.1.1 C.1.2.1 dX2_isMark_4 (by decide) ?_
  refine mr_aald C hw (Ch_N1 hk0) (Ch_T1 hk0) (by decide) (by decide) rfl rfl (show vp_in 1 18 from by unfold vp_in; decide) (Ch_R1 hk0 _ (by decide : 1 < 18)).1 dX2_isMark_5 ?_
  refine lv_iload_n C.1.1 C.1.2.1 dX2_isMark_6 rfl (lv_at hl 1 rfl) ?_
  obtain ⟨q3, hD⟩ := g_ck hD
  refine mr_iald C hw (Ch_N3 hk0) (Ch_T3 hk0) q3 dX2_isMark_7 ?_
  refine lv_iconst (v := 2) C.1.1 C.1.2.1 dX2_isMark_8 (by decide) ?_
  refine lv_icmp_lt (tgt := 16) C.1.1 C.1.2.1 dX2_isMark_9 (by decide) (fun c4 => ?_) (fun c4 => ?_)
  · replace hD := g_pos c4 hD
    refine lv_iconst (v := 0) C.1.1 C.1.2.1 dX2_isMark_16 (by decide) ?_
    exact hb17 0 M L _ _ ls hD hw (lv_sub hl [] rfl)
  · replace hD := g_neg c4 hD
    refine lv_iconst (v := 1) C.1.1 C.1.2.1 dX2_isMark_12 (by decide) ?_
    refine lv_goto (tgt := 17) C.1.1 C.1.2.1 dX2_isMark_13 (by decide) ?_
    exact hb17 1 M L _ _ ls hD hw (lv_sub hl [] rfl)

theorem dX2_putInOrder_0 : decode cX2_putInOrder 0 = .ok (.iload_n 2, 1) := by decide +kernel
theorem dX2_putInOrder_1 : decode cX2_putInOrder 1 = .ok (.aload_n 0, 1) := by decide +kernel
theorem dX2_putInOrder_2 : decode cX2_putInOrder 2 = .ok (.getfield 13, 3) := by decide +kernel
theorem dX2_putInOrder_5 : decode cX2_putInOrder 5 = .ok (.iconst 2, 1) := by decide +kernel
theorem dX2_putInOrder_6 : decode cX2_putInOrder 6 = .ok (.aaload, 1) := by decide +kernel
theorem dX2_putInOrder_7 : decode cX2_putInOrder 7 = .ok (.aload_n 0, 1) := by decide +kernel
theorem dX2_putInOrder_8 : decode cX2_putInOrder 8 = .ok (.getfield 37, 3) := by decide +kernel
theorem dX2_putInOrder_11 : decode cX2_putInOrder 11 = .ok (.iaload, 1) := by decide +kernel
theorem dX2_putInOrder_12 : decode cX2_putInOrder 12 = .ok (.imul, 1) := by decide +kernel
theorem dX2_putInOrder_13 : decode cX2_putInOrder 13 = .ok (.istore_n 3, 1) := by decide +kernel
theorem dX2_putInOrder_14 : decode cX2_putInOrder 14 = .ok (.aload_n 0, 1) := by decide +kernel
theorem dX2_putInOrder_15 : decode cX2_putInOrder 15 = .ok (.getfield 37, 3) := by decide +kernel
theorem dX2_putInOrder_18 : decode cX2_putInOrder 18 = .ok (.istore 4, 2) := by decide +kernel
theorem dX2_putInOrder_20 : decode cX2_putInOrder 20 = .ok (.iload 4, 2) := by decide +kernel
theorem dX2_putInOrder_22 : decode cX2_putInOrder 22 = .ok (.iconst 1, 1) := by decide +kernel
theorem dX2_putInOrder_23 : decode cX2_putInOrder 23 = .ok (.if_icmp .le 53, 3) := by decide +kernel
theorem dX2_putInOrder_26 : decode cX2_putInOrder 26 = .ok (.iload_n 2, 1) := by decide +kernel
theorem dX2_putInOrder_27 : decode cX2_putInOrder 27 = .ok (.aload_n 0, 1) := by decide +kernel
theorem dX2_putInOrder_28 : decode cX2_putInOrder 28 = .ok (.getfield 13, 3) := by decide +kernel
theorem dX2_putInOrder_31 : decode cX2_putInOrder 31 = .ok (.iconst 2, 1) := by decide +kernel
theorem dX2_putInOrder_32 : decode cX2_putInOrder 32 = .ok (.aaload, 1) := by decide +kernel
theorem dX2_putInOrder_33 : decode cX2_putInOrder 33 = .ok (.aload_n 0, 1) := by decide +kernel
theorem dX2_putInOrder_34 : decode cX2_putInOrder 34 = .ok (.getfield 13, 3) := by decide +kernel
theorem dX2_putInOrder_37 : decode cX2_putInOrder 37 = .ok (.iload_n 1, 1) := by decide +kernel
theorem dX2_putInOrder_38 : decode cX2_putInOrder 38 = .ok (.aaload, 1) := by decide +kernel
theorem dX2_putInOrder_39 : decode cX2_putInOrder 39 = .ok (.iload 4, 2) := by decide +kernel
theorem dX2_putInOrder_41 : decode cX2_putInOrder 41 = .ok (.iconst 1, 1) := by decide +kernel
theorem dX2_putInOrder_42 : decode cX2_putInOrder 42 = .ok (.isub, 1) := by decide +kernel
theorem dX2_putInOrder_43 : decode cX2_putInOrder 43 = .ok (.iaload, 1) := by decide +kernel
theorem dX2_putInOrder_44 : decode cX2_putInOrder 44 = .ok (.iaload, 1) := by decide +kernel
theorem dX2_putInOrder_45 : decode cX2_putInOrder 45 = .ok (.imul, 1) := by decide +kernel
theorem dX2_putInOrder_46 : decode cX2_putInOrder 46 = .ok (.iload_n 3, 1) := by decide +kernel
theorem dX2_putInOrder_47 : decode cX2_putInOrder 47 = .ok (.if_icmp .le 29, 3) := by decide +kernel
theorem dX2_putInOrder_50 : decode cX2_putInOrder 50 = .ok (.aload_n 0, 1) := by decide +kernel
theorem dX2_putInOrder_51 : decode cX2_putInOrder 51 = .ok (.getfield 13, 3) := by decide +kernel
theorem dX2_putInOrder_54 : decode cX2_putInOrder 54 = .ok (.iload_n 1, 1) := by decide +kernel
theorem dX2_putInOrder_55 : decode cX2_putInOrder 55 = .ok (.aaload, 1) := by decide +kernel
theorem dX2_putInOrder_56 : decode cX2_putInOrder 56 = .ok (.iload 4, 2) := by decide +kernel
theorem dX2_putInOrder_58 : decode cX2_putInOrder 58 = .ok (.aload_n 0, 1) := by decide +kernel
theorem dX2_putInOrder_59 : decode cX2_putInOrder 59 = .ok (.getfield 13, 3) := by decide +kernel
theorem dX2_putInOrder_62 : decode cX2_putInOrder 62 = .ok (.iload_n 1, 1) := by decide +kernel
theorem dX2_putInOrder_63 : decode cX2_putInOrder 63 = .ok (.aaload, 1) := by decide +kernel
theorem dX2_putInOrder_64 : decode cX2_putInOrder 64 = .ok (.iload 4, 2) := by decide +kernel
theorem dX2_putInOrder_66 : decode cX2_putInOrder 66 = .ok (.iconst 1, 1) := by decide +kernel
theorem dX2_putInOrder_67 : decode cX2_putInOrder 67 = .ok (.isub, 1) := by decide +kernel
theorem dX2_putInOrder_68 : decode cX2_putInOrder 68 = .ok (.iaload, 1) := by decide +kernel
theorem dX2_putInOrder_69 : decode cX2_putInOrder 69 = .ok (.iastore, 1) := by decide +kernel
theorem dX2_putInOrder_70 : decode cX2_putInOrder 70 = .ok (.iinc 4 (-1), 3) := by decide +kernel
theorem dX2_putInOrder_73 : decode cX2_putInOrder 73 = .ok (.goto (-53), 3) := by decide +kernel
theorem dX2_putInOrder_76 : decode cX2_putInOrder 76 = .ok (.aload_n 0, 1) := by decide +kernel
theorem dX2_putInOrder_77 : decode cX2_putInOrder 77 = .ok (.getfield 13, 3) := by decide +kernel
theorem dX2_putInOrder_80 : decode cX2_putInOrder 80 = .ok (.iload_n 1, 1) := by decide +kernel
theorem dX2_putInOrder_81 : decode cX2_putInOrder 81 = .ok (.aaload, 1) := by decide +kernel
theorem dX2_putInOrder_82 : decode cX2_putInOrder 82 = .ok (.iload 4, 2) := by decide +kernel
theorem dX2_putInOrder_84 : decode cX2_putInOrder 84 = .ok (.aload_n 0, 1) := by decide +kernel
theorem dX2_putInOrder_85 : decode cX2_putInOrder 85 = .ok (.getfield 37, 3) := by decide +kernel
theorem dX2_putInOrder_88 : decode cX2_putInOrder 88 = .ok (.iastore, 1) := by decide +kernel
theorem dX2_putInOrder_89 : decode cX2_putInOrder 89 = .ok (.return_, 1) := by decide +kernel
theorem cwX2_putInOrder : mw_cwV yX2_putInOrder cX2_putInOrder 5 (none) 2 := ⟨⟨wd_12, wd_1013, by decide +kernel⟩, wd_1012, sl_29⟩
set_option maxHeartbeats 4000000 in
set_option maxRecDepth 100000 in
theorem tX2_putInOrder (l : Launch) (G : mwG) (ad : Nat → Nat) (fu : Nat) (k : Nat) (a1 : Int32) (a2 : Int32) (M : mwM) (L : mwL) {M0 : mwM} {L0 : mwL} (hD : DX2_putInOrder fu k a1 a2 M L = some (M0, L0)) (hk0 : isCh k) : Met l yX2_putInOrder (Cond.code yX2_putInOrder cX2_putInOrder 5 (none) :: GT) ({ frames := 0, cells := 0, slots := 0, locals := 0 }) (mw_Pre G ad NF TF FF M L [.ref (ad k), .int a1, .int a2]) (mw_Qv G ad NF TF FF (mw_eqV M0 L0)) 0 0 (mw_fr G) := by
  refine mw_enter (by decide) (Nat.le_of_ble_eq_true rfl) ?_
  intro p e s m below meth c ls C hr hlocks hnm hw hl
  have hl : lv_has ls 5 [(0, .ref (ad k)), (1, .int a1), (2, .int a2)] := hl
  have hb76 : ∀ (v4 : Int32) (M : mwM) (L : mwL) (H : Heap) (locs : List Loc) (ls : Array Slot), fX2_putInOrder_b76 fu k a1 a2 v4 M L = some (M0, L0) → mw_W G ad NF TF FF M L H locs → lv_has ls 5 [(0, .ref (ad k)), (1, .int a1), (4, .int v4)] → W p l e ({ frames := 0, cells := 0, slots := 0, locals := 0 }) s m [.ref (ad k), .int a1, .int a2].toArray below meth c H locs 0 0 (MQ below (mw_Qv G ad NF TF FF (mw_eqV M0 L0)) [.ref (ad k), .int a1, .int a2].toArray s 0 0 (mw_fr G)) (F0 m 76 ls []) := by
    intro v4 M L H locs ls hD hw hl
    unfold fX2_putInOrder_b76 at hD
    refine lv_aload_n C.1.1 C.1.2.1 dX2_putInOrder_76 rfl (lv_at hl 0 rfl) ?_
    refine mr_getR C hw kc_2 0 (Ch_N0 hk0) (Ch_T0 hk0) (Ch_F0_0 hk0) wd_444 dX2_putInOrder_77 (by decide) rfl ?_
    refine lv_iload_n C.1.1 C.1.2.1 dX2_putInOrder_80 rfl (lv_at hl 1 rfl) ?_
    obtain ⟨q13, hD⟩ := g_ck hD
    refine mr_aald C hw (Ch_N1 hk0) (Ch_T1 hk0) (by decide) (by decide) rfl rfl q13 (Ch_R1 hk0 _ (g_lt q13)).1 dX2_putInOrder_81 ?_
    refine lv_iload C.1.1 C.1.2.1 dX2_putInOrder_82 (lv_at hl 2 rfl) ?_
    refine lv_aload_n C.1.1 C.1.2.1 dX2_putInOrder_84 rfl (lv_at hl 0 rfl) ?_
    refine mr_getI C hw kc_2 7 (Ch_N0 hk0) (Ch_T0 hk0) wd_458 dX2_putInOrder_85 (by decide) rfl ?_
    obtain ⟨q14, hD⟩ := g_ck hD
    obtain ⟨M15, eM15, hD⟩ := g_let hD
    refine mr_iast C hw (Ch_R1 hk0 _ (g_lt q13)).2.2 (Ch_R1 hk0 _ (g_lt q13)).2.1 q14 dX2_putInOrder_88 (fun H locs hw => ?_)
    replace hw : mw_W G ad NF TF FF M15 L H locs := by rw [eM15]; exact hw
    exact mr_vret C hr hlocks hw (Option.some.inj hD) dX2_putInOrder_89
  have hh20 : ∀ (f : Nat) (v3 : Int32) (v4 : Int32) (M : mwM) (L : mwL) (H : Heap) (locs : List Loc) (ls : Array Slot), fX2_putInOrder_h20 fu k a1 a2 f (v3, v4, M, L) = some (M0, L0) → mw_W G ad NF TF FF M L H locs → lv_has ls 5 [(0, .ref (ad k)), (1, .int a1), (2, .int a2), (3, .int v3), (4, .int v4)] → W p l e ({ frames := 0, cells := 0, slots := 0, locals := 0 }) s m [.ref (ad k), .int a1, .int a2].toArray below meth c H locs 0 0 (MQ below (mw_Qv G ad NF TF FF (mw_eqV M0 L0)) [.ref (ad k), .int a1, .int a2].toArray s 0 0 (mw_fr G)) (F0 m 20 ls []) := by
    intro f
    induction f with
    | zero => intro v3 v4 M L H locs ls hD; cases hD
    | succ f20 ih20 =>
      intro v3 v4 M L H locs ls hD hw hl
      replace hD : fX2_putInOrder_i20 fu k a1 a2 (fX2_putInOrder_h20 fu k a1 a2 f20) v3 v4 M L = some (M0, L0) := hD
      unfold fX2_putInOrder_i20 at hD
      refine lv_iload C.1.1 C.1.2.1 dX2_putInOrder_20 (lv_at hl 4 rfl) ?_
      refine lv_iconst (v := 1) C.1.1 C.1.2.1 dX2_putInOrder_22 (by decide) ?_
      refine lv_icmp_le (tgt := 76) C.1.1 C.1.2.1 dX2_putInOrder_23 (by decide) (fun c1 => ?_) (fun c1 => ?_)
      · replace hD := g_pos c1 hD
        exact hb76 v4 M L _ _ ls hD hw (lv_sub hl [0, 1, 4] rfl)
      · replace hD := g_neg c1 hD
        refine lv_iload_n C.1.1 C.1.2.1 dX2_putInOrder_26 rfl (lv_at hl 2 rfl) ?_
        refine lv_aload_n C.1.1 C.1.2.1 dX2_putInOrder_27 rfl (lv_at hl 0 rfl) ?_
        refine mr_getR C hw kc_2 0 (Ch_N0 hk0) (Ch_T0 hk0) (Ch_F0_0 hk0) wd_444 dX2_putInOrder_28 (by decide) rfl ?_
        refine lv_iconst (v := 2) C.1.1 C.1.2.1 dX2_putInOrder_31 (by decide) ?_
        refine mr_aald C hw (Ch_N1 hk0) (Ch_T1 hk0) (by decide) (by decide) rfl rfl (show vp_in 2 18 from by unfold vp_in; decide) (Ch_R1 hk0 _ (by decide : 2 < 18)).1 dX2_putInOrder_32 ?_
        refine lv_aload_n C.1.1 C.1.2.1 dX2_putInOrder_33 rfl (lv_at hl 0 rfl) ?_
        refine mr_getR C hw kc_2 0 (Ch_N0 hk0) (Ch_T0 hk0) (Ch_F0_0 hk0) wd_444 dX2_putInOrder_34 (by decide) rfl ?_
        refine lv_iload_n C.1.1 C.1.2.1 dX2_putInOrder_37 rfl (lv_at hl 1 rfl) ?_
        obtain ⟨q3, hD⟩ := g_ck hD
        refine mr_aald C hw (Ch_N1 hk0) (Ch_T1 hk0) (by decide) (by decide) rfl rfl q3 (Ch_R1 hk0 _ (g_lt q3)).1 dX2_putInOrder_38 ?_
        refine lv_iload C.1.1 C.1.2.1 dX2_putInOrder_39 (lv_at hl 4 rfl) ?_
        refine lv_iconst (v := 1) C.1.1 C.1.2.1 dX2_putInOrder_41 (by decide) ?_
        refine lv_isub C.1.1 C.1.2.1 dX2_putInOrder_42 ?_
        obtain ⟨q4, hD⟩ := g_ck hD
        refine mr_iald C hw (Ch_R1 hk0 _ (g_lt q3)).2.2 (Ch_R1 hk0 _ (g_lt q3)).2.1 q4 dX2_putInOrder_43 ?_
        obtain ⟨q5, hD⟩ := g_ck hD
        refine mr_iald C hw (Ch_N4 hk0) (Ch_T4 hk0) q5 dX2_putInOrder_44 ?_
        refine lv_imul C.1.1 C.1.2.1 dX2_putInOrder_45 ?_
        refine lv_iload_n C.1.1 C.1.2.1 dX2_putInOrder_46 rfl (lv_at hl 3 rfl) ?_
        refine lv_icmp_le (tgt := 76) C.1.1 C.1.2.1 dX2_putInOrder_47 (by decide) (fun c6 => ?_) (fun c6 => ?_)
        · replace hD := g_pos c6 hD
          exact hb76 v4 M L _ _ ls hD hw (lv_sub hl [0, 1, 4] rfl)
        · replace hD := g_neg c6 hD
          refine lv_aload_n C.1.1 C.1.2.1 dX2_putInOrder_50 rfl (lv_at hl 0 rfl) ?_
          refine mr_getR C hw kc_2 0 (Ch_N0 hk0) (Ch_T0 hk0) (Ch_F0_0 hk0) wd_444 dX2_putInOrder_51 (by decide) rfl ?_
          refine lv_iload_n C.1.1 C.1.2.1 dX2_putInOrder_54 rfl (lv_at hl 1 rfl) ?_
          obtain ⟨q7, hD⟩ := g_ck hD
          refine mr_aald C hw (Ch_N1 hk0) (Ch_T1 hk0) (by decide) (by decide) rfl rfl q7 (Ch_R1 hk0 _ (g_lt q7)).1 dX2_putInOrder_55 ?_
          refine lv_iload C.1.1 C.1.2.1 dX2_putInOrder_56 (lv_at hl 4 rfl) ?_
          refine lv_aload_n C.1.1 C.1.2.1 dX2_putInOrder_58 rfl (lv_at hl 0 rfl) ?_
          refine mr_getR C hw kc_2 0 (Ch_N0 hk0) (Ch_T0 hk0) (Ch_F0_0 hk0) wd_444 dX2_putInOrder_59 (by decide) rfl ?_
          refine lv_iload_n C.1.1 C.1.2.1 dX2_putInOrder_62 rfl (lv_at hl 1 rfl) ?_
          obtain ⟨q8, hD⟩ := g_ck hD
          refine mr_aald C hw (Ch_N1 hk0) (Ch_T1 hk0) (by decide) (by decide) rfl rfl q8 (Ch_R1 hk0 _ (g_lt q8)).1 dX2_putInOrder_63 ?_
          refine lv_iload C.1.1 C.1.2.1 dX2_putInOrder_64 (lv_at hl 4 rfl) ?_
          refine lv_iconst (v := 1) C.1.1 C.1.2.1 dX2_putInOrder_66 (by decide) ?_
          refine lv_isub C.1.1 C.1.2.1 dX2_putInOrder_67 ?_
          obtain ⟨q9, hD⟩ := g_ck hD
          refine mr_iald C hw (Ch_R1 hk0 _ (g_lt q8)).2.2 (Ch_R1 hk0 _ (g_lt q8)).2.1 q9 dX2_putInOrder_68 ?_
          obtain ⟨q10, hD⟩ := g_ck hD
          obtain ⟨M11, eM11, hD⟩ := g_let hD
          refine mr_iast C hw (Ch_R1 hk0 _ (g_lt q7)).2.2 (Ch_R1 hk0 _ (g_lt q7)).2.1 q10 dX2_putInOrder_69 (fun H locs hw => ?_)
          replace hw : mw_W G ad NF TF FF M11 L H locs := by rw [eM11]; exact hw
          obtain ⟨x12, ex12, hD⟩ := g_let hD
          refine lv_iinc (v := x12) (lv' := [(4, .int x12), (0, .ref (ad k)), (1, .int a1), (2, .int a2), (3, .int v3)]) C.1.1 C.1.2.1 dX2_putInOrder_70 hl (k := 4) rfl (by rw [ex12]; rfl) (by decide) rfl (fun ls hl => ?_)
          refine lv_goto (tgt := 20) C.1.1 C.1.2.1 dX2_putInOrder_73 (by decide) ?_
          exact ih20 v3 x12 M11 L _ _ ls hD hw (lv_sub hl [1, 2, 3, 4, 0] rfl)
  unfold DX2_putInOrder at hD
  refine lv_iload_n C.1.1 C.1.2.1 dX2_putInOrder_0 rfl (lv_at hl 2 rfl) ?_
  refine lv_aload_n C.1.1 C.1.2.1 dX2_putInOrder_1 rfl (lv_at hl 0 rfl) ?_
  refine mr_getR C hw kc_2 0 (Ch_N0 hk0) (Ch_T0 hk0) (Ch_F0_0 hk0) wd_444 dX2_putInOrder_2 (by decide) rfl ?_
  refine lv_iconst (v := 2) C.1.1 C.1.2.1 dX2_putInOrder_5 (by decide) ?_
  refine mr_aald C hw (Ch_N1 hk0) (Ch_T1 hk0) (by decide) (by decide) rfl rfl (show vp_in 2 18 from by unfold vp_in; decide) (Ch_R1 hk0 _ (by decide : 2 < 18)).1 dX2_putInOrder_6 ?_
  refine lv_aload_n C.1.1 C.1.2.1 dX2_putInOrder_7 rfl (lv_at hl 0 rfl) ?_
  refine mr_getI C hw kc_2 7 (Ch_N0 hk0) (Ch_T0 hk0) wd_458 dX2_putInOrder_8 (by decide) rfl ?_
  obtain ⟨q17, hD⟩ := g_ck hD
  refine mr_iald C hw (Ch_N4 hk0) (Ch_T4 hk0) q17 dX2_putInOrder_11 ?_
  refine lv_imul C.1.1 C.1.2.1 dX2_putInOrder_12 ?_
  obtain ⟨x18, ex18, hD⟩ := g_let hD
  refine W.eq (g2 := F0 m 13 ls (.int x18 :: [])) (by rw [ex18]) ?_
  refine lv_istore_n (lv' := [(3, .int x18), (0, .ref (ad k)), (1, .int a1), (2, .int a2)]) C.1.1 C.1.2.1 dX2_putInOrder_13 rfl hl (by decide) rfl (fun ls hl => ?_)
  refine lv_aload_n C.1.1 C.1.2.1 dX2_putInOrder_14 rfl (lv_at hl 1 rfl) ?_
  refine mr_getI C hw kc_2 7 (Ch_N0 hk0) (Ch_T0 hk0) wd_458 dX2_putInOrder_15 (by decide) rfl ?_
  obtain ⟨x19, ex19, hD⟩ := g_let hD
  refine W.eq (g2 := F0 m 18 ls (.int x19 :: [])) (by rw [ex19]) ?_
  refine lv_istore (lv' := [(4, .int x19), (3, .int x18), (0, .ref (ad k)), (1, .int a1), (2, .int a2)]) C.1.1 C.1.2.1 dX2_putInOrder_18 hl (by decide) rfl (fun ls hl => ?_)
  exact hh20 fu x18 x19 M L _ _ ls hD hw (lv_sub hl [2, 3, 4, 1, 0] rfl)

theorem dX2_addState_0 : decode cX2_addState 0 = .ok (.aload_n 0, 1) := by decide +kernel
theorem dX2_addState_1 : decode cX2_addState 1 = .ok (.getfield 13, 3) := by decide +kernel
theorem dX2_addState_4 : decode cX2_addState 4 = .ok (.iconst 2, 1) := by decide +kernel
theorem dX2_addState_5 : decode cX2_addState 5 = .ok (.aaload, 1) := by decide +kernel
theorem dX2_addState_6 : decode cX2_addState 6 = .ok (.iload_n 1, 1) := by decide +kernel
theorem dX2_addState_7 : decode cX2_addState 7 = .ok (.iaload, 1) := by decide +kernel
theorem dX2_addState_8 : decode cX2_addState 8 = .ok (.iconst 1, 1) := by decide +kernel
theorem dX2_addState_9 : decode cX2_addState 9 = .ok (.iadd, 1) := by decide +kernel
theorem dX2_addState_10 : decode cX2_addState 10 = .ok (.istore_n 3, 1) := by decide +kernel
theorem dX2_addState_11 : decode cX2_addState 11 = .ok (.aload_n 0, 1) := by decide +kernel
theorem dX2_addState_12 : decode cX2_addState 12 = .ok (.iload_n 1, 1) := by decide +kernel
theorem dX2_addState_13 : decode cX2_addState 13 = .ok (.invokevirtual 72, 3) := by decide +kernel
theorem dX2_addState_16 : decode cX2_addState 16 = .ok (.ifCond .ne 9, 3) := by decide +kernel
theorem dX2_addState_19 : decode cX2_addState 19 = .ok (.iload_n 3, 1) := by decide +kernel
theorem dX2_addState_20 : decode cX2_addState 20 = .ok (.bipush 40, 2) := by decide +kernel
theorem dX2_addState_22 : decode cX2_addState 22 = .ok (.if_icmp .le 6, 3) := by decide +kernel
theorem dX2_addState_25 : decode cX2_addState 25 = .ok (.bipush (-2), 2) := by decide +kernel
theorem dX2_addState_27 : decode cX2_addState 27 = .ok (.ireturn, 1) := by decide +kernel
theorem dX2_addState_28 : decode cX2_addState 28 = .ok (.aload_n 0, 1) := by decide +kernel
theorem dX2_addState_29 : decode cX2_addState 29 = .ok (.getfield 37, 3) := by decide +kernel
theorem dX2_addState_32 : decode cX2_addState 32 = .ok (.sipush 200, 3) := by decide +kernel
theorem dX2_addState_35 : decode cX2_addState 35 = .ok (.if_icmp .lt 6, 3) := by decide +kernel
theorem dX2_addState_38 : decode cX2_addState 38 = .ok (.bipush (-4), 2) := by decide +kernel
theorem dX2_addState_40 : decode cX2_addState 40 = .ok (.ireturn, 1) := by decide +kernel
theorem dX2_addState_41 : decode cX2_addState 41 = .ok (.aload_n 0, 1) := by decide +kernel
theorem dX2_addState_42 : decode cX2_addState 42 = .ok (.dup, 1) := by decide +kernel
theorem dX2_addState_43 : decode cX2_addState 43 = .ok (.getfield 37, 3) := by decide +kernel
theorem dX2_addState_46 : decode cX2_addState 46 = .ok (.iconst 1, 1) := by decide +kernel
theorem dX2_addState_47 : decode cX2_addState 47 = .ok (.iadd, 1) := by decide +kernel
theorem dX2_addState_48 : decode cX2_addState 48 = .ok (.putfield 37, 3) := by decide +kernel
theorem dX2_addState_51 : decode cX2_addState 51 = .ok (.aload_n 0, 1) := by decide +kernel
theorem dX2_addState_52 : decode cX2_addState 52 = .ok (.aload_n 0, 1) := by decide +kernel
theorem dX2_addState_53 : decode cX2_addState 53 = .ok (.getfield 37, 3) := by decide +kernel
theorem dX2_addState_56 : decode cX2_addState 56 = .ok (.invokevirtual 68, 3) := by decide +kernel
theorem dX2_addState_59 : decode cX2_addState 59 = .ok (.aload_n 0, 1) := by decide +kernel
theorem dX2_addState_60 : decode cX2_addState 60 = .ok (.getfield 13, 3) := by decide +kernel
theorem dX2_addState_63 : decode cX2_addState 63 = .ok (.iconst 0, 1) := by decide +kernel
theorem dX2_addState_64 : decode cX2_addState 64 = .ok (.aaload, 1) := by decide +kernel
theorem dX2_addState_65 : decode cX2_addState 65 = .ok (.aload_n 0, 1) := by decide +kernel
theorem dX2_addState_66 : decode cX2_addState 66 = .ok (.getfield 37, 3) := by decide +kernel
theorem dX2_addState_69 : decode cX2_addState 69 = .ok (.iload_n 1, 1) := by decide +kernel
theorem dX2_addState_70 : decode cX2_addState 70 = .ok (.iastore, 1) := by decide +kernel
theorem dX2_addState_71 : decode cX2_addState 71 = .ok (.aload_n 0, 1) := by decide +kernel
theorem dX2_addState_72 : decode cX2_addState 72 = .ok (.getfield 13, 3) := by decide +kernel
theorem dX2_addState_75 : decode cX2_addState 75 = .ok (.iconst 1, 1) := by decide +kernel
theorem dX2_addState_76 : decode cX2_addState 76 = .ok (.aaload, 1) := by decide +kernel
theorem dX2_addState_77 : decode cX2_addState 77 = .ok (.aload_n 0, 1) := by decide +kernel
theorem dX2_addState_78 : decode cX2_addState 78 = .ok (.getfield 37, 3) := by decide +kernel
theorem dX2_addState_81 : decode cX2_addState 81 = .ok (.iload_n 2, 1) := by decide +kernel
theorem dX2_addState_82 : decode cX2_addState 82 = .ok (.iastore, 1) := by decide +kernel
theorem dX2_addState_83 : decode cX2_addState 83 = .ok (.aload_n 0, 1) := by decide +kernel
theorem dX2_addState_84 : decode cX2_addState 84 = .ok (.getfield 13, 3) := by decide +kernel
theorem dX2_addState_87 : decode cX2_addState 87 = .ok (.iconst 2, 1) := by decide +kernel
theorem dX2_addState_88 : decode cX2_addState 88 = .ok (.aaload, 1) := by decide +kernel
theorem dX2_addState_89 : decode cX2_addState 89 = .ok (.aload_n 0, 1) := by decide +kernel
theorem dX2_addState_90 : decode cX2_addState 90 = .ok (.getfield 37, 3) := by decide +kernel
theorem dX2_addState_93 : decode cX2_addState 93 = .ok (.iload_n 3, 1) := by decide +kernel
theorem dX2_addState_94 : decode cX2_addState 94 = .ok (.iastore, 1) := by decide +kernel
theorem dX2_addState_95 : decode cX2_addState 95 = .ok (.aload_n 0, 1) := by decide +kernel
theorem dX2_addState_96 : decode cX2_addState 96 = .ok (.getfield 13, 3) := by decide +kernel
theorem dX2_addState_99 : decode cX2_addState 99 = .ok (.iconst 4, 1) := by decide +kernel
theorem dX2_addState_100 : decode cX2_addState 100 = .ok (.aaload, 1) := by decide +kernel
theorem dX2_addState_101 : decode cX2_addState 101 = .ok (.iload_n 1, 1) := by decide +kernel
theorem dX2_addState_102 : decode cX2_addState 102 = .ok (.iaload, 1) := by decide +kernel
theorem dX2_addState_103 : decode cX2_addState 103 = .ok (.ifCond .ne 26, 3) := by decide +kernel
theorem dX2_addState_106 : decode cX2_addState 106 = .ok (.aload_n 0, 1) := by decide +kernel
theorem dX2_addState_107 : decode cX2_addState 107 = .ok (.aload_n 0, 1) := by decide +kernel
theorem dX2_addState_108 : decode cX2_addState 108 = .ok (.getfield 37, 3) := by decide +kernel
theorem dX2_addState_111 : decode cX2_addState 111 = .ok (.invokevirtual 72, 3) := by decide +kernel
theorem dX2_addState_114 : decode cX2_addState 114 = .ok (.ifCond .ne 15, 3) := by decide +kernel
theorem dX2_addState_117 : decode cX2_addState 117 = .ok (.aload_n 0, 1) := by decide +kernel
theorem dX2_addState_118 : decode cX2_addState 118 = .ok (.getfield 13, 3) := by decide +kernel
theorem dX2_addState_121 : decode cX2_addState 121 = .ok (.iconst 4, 1) := by decide +kernel
theorem dX2_addState_122 : decode cX2_addState 122 = .ok (.aaload, 1) := by decide +kernel
theorem dX2_addState_123 : decode cX2_addState 123 = .ok (.iload_n 1, 1) := by decide +kernel
theorem dX2_addState_124 : decode cX2_addState 124 = .ok (.aload_n 0, 1) := by decide +kernel
theorem dX2_addState_125 : decode cX2_addState 125 = .ok (.getfield 37, 3) := by decide +kernel
theorem dX2_addState_128 : decode cX2_addState 128 = .ok (.iastore, 1) := by decide +kernel
theorem dX2_addState_129 : decode cX2_addState 129 = .ok (.aload_n 0, 1) := by decide +kernel
theorem dX2_addState_130 : decode cX2_addState 130 = .ok (.bipush 16, 2) := by decide +kernel
theorem dX2_addState_132 : decode cX2_addState 132 = .ok (.iconst 1, 1) := by decide +kernel
theorem dX2_addState_133 : decode cX2_addState 133 = .ok (.invokevirtual 76, 3) := by decide +kernel
theorem dX2_addState_136 : decode cX2_addState 136 = .ok (.aload_n 0, 1) := by decide +kernel
theorem dX2_addState_137 : decode cX2_addState 137 = .ok (.bipush 17, 2) := by decide +kernel
theorem dX2_addState_139 : decode cX2_addState 139 = .ok (.iconst (-1), 1) := by decide +kernel
theorem dX2_addState_140 : decode cX2_addState 140 = .ok (.invokevirtual 76, 3) := by decide +kernel
theorem dX2_addState_143 : decode cX2_addState 143 = .ok (.aload_n 0, 1) := by decide +kernel
theorem dX2_addState_144 : decode cX2_addState 144 = .ok (.getfield 37, 3) := by decide +kernel
theorem dX2_addState_147 : decode cX2_addState 147 = .ok (.ireturn, 1) := by decide +kernel
theorem cwX2_addState : mw_cwV yX2_addState cX2_addState 4 ((some .int)) 2 := ⟨⟨wd_12, wd_1005, by decide +kernel⟩, wd_1003, wd_1004⟩
set_option maxHeartbeats 4000000 in
set_option maxRecDepth 100000 in
theorem tX2_addState (l : Launch) (G : mwG) (ad : Nat → Nat) (fu : Nat) (k : Nat) (a1 : Int32) (a2 : Int32) (M : mwM) (L : mwL) {r0 : Int32} {M0 : mwM} {L0 : mwL} (hD : DX2_addState fu k a1 a2 M L = some (r0, M0, L0)) (hk0 : isCh k) : Met l yX2_addState (Cond.code yX2_addState cX2_addState 4 ((some .int)) :: GT) ({ frames := 1, cells := 0, slots := 0, locals := 24 }) (mw_Pre G ad NF TF FF M L [.ref (ad k), .int a1, .int a2]) (mw_Qi G ad NF TF FF (mw_eqI r0 M0 L0)) 0 0 (mw_fr G) := by
  refine mw_enter (by decide) (Nat.le_of_ble_eq_true rfl) ?_
  intro p e s m below meth c ls C hr hlocks hnm hw hl
  have hl : lv_has ls 4 [(0, .ref (ad k)), (1, .int a1), (2, .int a2)] := hl
  have hb25 : ∀ (M : mwM) (L : mwL) (H : Heap) (locs : List Loc) (ls : Array Slot), fX2_addState_b25 fu k a1 a2 M L = some (r0, M0, L0) → mw_W G ad NF TF FF M L H locs → lv_has ls 4 [] → W p l e ({ frames := 1, cells := 0, slots := 0, locals := 24 }) s m [.ref (ad k), .int a1, .int a2].toArray below meth c H locs 0 0 (MQ below (mw_Qi G ad NF TF FF (mw_eqI r0 M0 L0)) [.ref (ad k), .int a1, .int a2].toArray s 0 0 (mw_fr G)) (F0 m 25 ls []) := by
    intro M L H locs ls hD hw hl
    unfold fX2_addState_b25 at hD
    refine lv_bipush (v := (-2)) C.1.1 C.1.2.1 dX2_addState_25 (by decide) ?_
    exact mr_iret C hr hlocks hw rfl (Option.some.inj hD) dX2_addState_27
  have hb129 : ∀ (M : mwM) (L : mwL) (H : Heap) (locs : List Loc) (ls : Array Slot), fX2_addState_b129 fu k a1 a2 M L = some (r0, M0, L0) → mw_W G ad NF TF FF M L H locs → lv_has ls 4 [(0, .ref (ad k))] → W p l e ({ frames := 1, cells := 0, slots := 0, locals := 24 }) s m [.ref (ad k), .int a1, .int a2].toArray below meth c H locs 0 0 (MQ below (mw_Qi G ad NF TF FF (mw_eqI r0 M0 L0)) [.ref (ad k), .int a1, .int a2].toArray s 0 0 (mw_fr G)) (F0 m 129 ls []) := by
    intro M L H locs ls hD hw hl
    unfold fX2_addState_b129 at hD
    refine lv_aload_n C.1.1 C.1.2.1 dX2_addState_129 rfl (lv_at hl 0 rfl) ?_
    refine lv_bipush (v := 16) C.1.1 C.1.2.1 dX2_addState_130 (by decide) ?_
    refine lv_iconst (v := 1) C.1.1 C.1.2.1 dX2_addState_132 (by decide) ?_
    obtain ⟨M1, L2, h1, hD⟩ := g_b2 hD
    refine md_cvV (As := [.int 16, .int 1]) (rest := []) C hw (tX2_putInOrder l G ad fu k 16 1 M L h1 hk0) kc_2 (Ch_N0 hk0) (Ch_T0 hk0) wd_1010 cwX2_putInOrder ⟨Nat.le_of_ble_eq_true rfl, Nat.le_of_ble_eq_true rfl⟩ rfl hl.1 (Nat.le_of_ble_eq_true rfl) dX2_addState_133 rfl rfl ⟨Nat.zero_le _, Nat.zero_le _⟩ rfl (fun H locs hw => ?_)
    refine lv_aload_n C.1.1 C.1.2.1 dX2_addState_136 rfl (lv_at hl 0 rfl) ?_
    refine lv_bipush (v := 17) C.1.1 C.1.2.1 dX2_addState_137 (by decide) ?_
    refine lv_iconst (v := (-1)) C.1.1 C.1.2.1 dX2_addState_139 (by decide) ?_
    obtain ⟨M3, L4, h1, hD⟩ := g_b2 hD
    refine md_cvV (As := [.int 17, .int ((-1))]) (rest := []) C hw (tX2_putInOrder l G ad fu k 17 ((-1)) M1 L2 h1 hk0) kc_2 (Ch_N0 hk0) (Ch_T0 hk0) wd_1010 cwX2_putInOrder ⟨Nat.le_of_ble_eq_true rfl, Nat.le_of_ble_eq_true rfl⟩ rfl hl.1 (Nat.le_of_ble_eq_true rfl) dX2_addState_140 rfl rfl ⟨Nat.zero_le _, Nat.zero_le _⟩ rfl (fun H locs hw => ?_)
    refine lv_aload_n C.1.1 C.1.2.1 dX2_addState_143 rfl (lv_at hl 0 rfl) ?_
    refine mr_getI C hw kc_2 7 (Ch_N0 hk0) (Ch_T0 hk0) wd_458 dX2_addState_144 (by decide) rfl ?_
    exact mr_iret C hr hlocks hw rfl (Option.some.inj hD) dX2_addState_147
  unfold DX2_addState at hD
  refine lv_aload_n C.1.1 C.1.2.1 dX2_addState_0 rfl (lv_at hl 0 rfl) ?_
  refine mr_getR C hw kc_2 0 (Ch_N0 hk0) (Ch_T0 hk0) (Ch_F0_0 hk0) wd_444 dX2_addState_1 (by decide) rfl ?_
  refine lv_iconst (v := 2) C.1.1 C.1.2.1 dX2_addState_4 (by decide) ?_
  refine mr_aald C hw (Ch_N1 hk0) (Ch_T1 hk0) (by decide) (by decide) rfl rfl (show vp_in 2 18 from by unfold vp_in; decide) (Ch_R1 hk0 _ (by decide : 2 < 18)).1 dX2_addState_5 ?_
  refine lv_iload_n C.1.1 C.1.2.1 dX2_addState_6 rfl (lv_at hl 1 rfl) ?_
  obtain ⟨q6, hD⟩ := g_ck hD
  refine mr_iald C hw (Ch_N4 hk0) (Ch_T4 hk0) q6 dX2_addState_7 ?_
  refine lv_iconst (v := 1) C.1.1 C.1.2.1 dX2_addState_8 (by decide) ?_
  refine lv_iadd C.1.1 C.1.2.1 dX2_addState_9 ?_
  obtain ⟨x7, ex7, hD⟩ := g_let hD
  refine W.eq (g2 := F0 m 10 ls (.int x7 :: [])) (by rw [ex7]) ?_
  refine lv_istore_n (lv' := [(3, .int x7), (0, .ref (ad k)), (1, .int a1), (2, .int a2)]) C.1.1 C.1.2.1 dX2_addState_10 rfl hl (by decide) rfl (fun ls hl => ?_)
  refine lv_aload_n C.1.1 C.1.2.1 dX2_addState_11 rfl (lv_at hl 1 rfl) ?_
  refine lv_iload_n C.1.1 C.1.2.1 dX2_addState_12 rfl (lv_at hl 2 rfl) ?_
  obtain ⟨r10, M8, L9, h1, hD⟩ := g_b3 hD
  refine md_cvI (As := [.int a1]) (rest := []) C hw (tX2_isMark l G ad fu k a1 M L h1 hk0) kc_2 (Ch_N0 hk0) (Ch_T0 hk0) wd_1006 cwX2_isMark ⟨Nat.le_of_ble_eq_true rfl, Nat.le_of_ble_eq_true rfl⟩ rfl hl.1 (Nat.le_of_ble_eq_true rfl) dX2_addState_13 rfl rfl ⟨Nat.zero_le _, Nat.zero_le _⟩ rfl (fun H locs hw => ?_)
  refine lv_if_ne (tgt := 25) C.1.1 C.1.2.1 dX2_addState_16 (by decide) (fun c11 => ?_) (fun c11 => ?_)
  · replace hD := g_neg c11 hD
    exact hb25 M8 L9 _ _ ls hD hw (lv_sub hl [] rfl)
  · replace hD := g_pos c11 hD
    refine lv_iload_n C.1.1 C.1.2.1 dX2_addState_19 rfl (lv_at hl 0 rfl) ?_
    refine lv_bipush (v := 40) C.1.1 C.1.2.1 dX2_addState_20 (by decide) ?_
    refine lv_icmp_le (tgt := 28) C.1.1 C.1.2.1 dX2_addState_22 (by decide) (fun c12 => ?_) (fun c12 => ?_)
    · replace hD := g_pos c12 hD
      refine lv_aload_n C.1.1 C.1.2.1 dX2_addState_28 rfl (lv_at hl 1 rfl) ?_
      refine mr_getI C hw kc_2 7 (Ch_N0 hk0) (Ch_T0 hk0) wd_458 dX2_addState_29 (by decide) rfl ?_
      refine lv_sipush (v := 200) C.1.1 C.1.2.1 dX2_addState_32 (by decide) ?_
      refine lv_icmp_lt (tgt := 41) C.1.1 C.1.2.1 dX2_addState_35 (by decide) (fun c13 => ?_) (fun c13 => ?_)
      · replace hD := g_pos c13 hD
        refine lv_aload_n C.1.1 C.1.2.1 dX2_addState_41 rfl (lv_at hl 1 rfl) ?_
        refine lv_dup C.1.1 C.1.2.1 dX2_addState_42 rfl ?_
        refine mr_getI C hw kc_2 7 (Ch_N0 hk0) (Ch_T0 hk0) wd_458 dX2_addState_43 (by decide) rfl ?_
        refine lv_iconst (v := 1) C.1.1 C.1.2.1 dX2_addState_46 (by decide) ?_
        refine lv_iadd C.1.1 C.1.2.1 dX2_addState_47 ?_
        obtain ⟨M14, eM14, hD⟩ := g_let hD
        refine mr_putI C hw kc_2 7 (Ch_N0 hk0) (Ch_T0 hk0) wd_458 dX2_addState_48 (by decide) rfl rfl rfl rfl (fun H locs hw => ?_)
        replace hw : mw_W G ad NF TF FF M14 L9 H locs := by rw [eM14]; exact hw
        refine lv_aload_n C.1.1 C.1.2.1 dX2_addState_51 rfl (lv_at hl 1 rfl) ?_
        refine lv_aload_n C.1.1 C.1.2.1 dX2_addState_52 rfl (lv_at hl 1 rfl) ?_
        refine mr_getI C hw kc_2 7 (Ch_N0 hk0) (Ch_T0 hk0) wd_458 dX2_addState_53 (by decide) rfl ?_
        obtain ⟨M15, L16, h1, hD⟩ := g_b2 hD
        refine md_cvV (As := [.int (M14 k 7)]) (rest := []) C hw (tX2_clearState l G ad fu k (M14 k 7) M14 L9 h1 hk0) kc_2 (Ch_N0 hk0) (Ch_T0 hk0) wd_982 cwX2_clearState ⟨Nat.le_of_ble_eq_true rfl, Nat.le_of_ble_eq_true rfl⟩ rfl hl.1 (Nat.le_of_ble_eq_true rfl) dX2_addState_56 rfl rfl ⟨Nat.zero_le _, Nat.zero_le _⟩ rfl (fun H locs hw => ?_)
        refine lv_aload_n C.1.1 C.1.2.1 dX2_addState_59 rfl (lv_at hl 1 rfl) ?_
        refine mr_getR C hw kc_2 0 (Ch_N0 hk0) (Ch_T0 hk0) (Ch_F0_0 hk0) wd_444 dX2_addState_60 (by decide) rfl ?_
        refine lv_iconst (v := 0) C.1.1 C.1.2.1 dX2_addState_63 (by decide) ?_
        refine mr_aald C hw (Ch_N1 hk0) (Ch_T1 hk0) (by decide) (by decide) rfl rfl (show vp_in 0 18 from by unfold vp_in; decide) (Ch_R1 hk0 _ (by decide : 0 < 18)).1 dX2_addState_64 ?_
        refine lv_aload_n C.1.1 C.1.2.1 dX2_addState_65 rfl (lv_at hl 1 rfl) ?_
        refine mr_getI C hw kc_2 7 (Ch_N0 hk0) (Ch_T0 hk0) wd_458 dX2_addState_66 (by decide) rfl ?_
        refine lv_iload_n C.1.1 C.1.2.1 dX2_addState_69 rfl (lv_at hl 2 rfl) ?_
        obtain ⟨q18, hD⟩ := g_ck hD
        obtain ⟨M19, eM19, hD⟩ := g_let hD
        refine mr_iast C hw (Ch_N2 hk0) (Ch_T2 hk0) q18 dX2_addState_70 (fun H locs hw => ?_)
        replace hw : mw_W G ad NF TF FF M19 L16 H locs := by rw [eM19]; exact hw
        refine lv_aload_n C.1.1 C.1.2.1 dX2_addState_71 rfl (lv_at hl 1 rfl) ?_
        refine mr_getR C hw kc_2 0 (Ch_N0 hk0) (Ch_T0 hk0) (Ch_F0_0 hk0) wd_444 dX2_addState_72 (by decide) rfl ?_
        refine lv_iconst (v := 1) C.1.1 C.1.2.1 dX2_addState_75 (by decide) ?_
        refine mr_aald C hw (Ch_N1 hk0) (Ch_T1 hk0) (by decide) (by decide) rfl rfl (show vp_in 1 18 from by unfold vp_in; decide) (Ch_R1 hk0 _ (by decide : 1 < 18)).1 dX2_addState_76 ?_
        refine lv_aload_n C.1.1 C.1.2.1 dX2_addState_77 rfl (lv_at hl 1 rfl) ?_
        refine mr_getI C hw kc_2 7 (Ch_N0 hk0) (Ch_T0 hk0) wd_458 dX2_addState_78 (by decide) rfl ?_
        refine lv_iload_n C.1.1 C.1.2.1 dX2_addState_81 rfl (lv_at hl 3 rfl) ?_
        obtain ⟨q21, hD⟩ := g_ck hD
        obtain ⟨M22, eM22, hD⟩ := g_let hD
        refine mr_iast C hw (Ch_N3 hk0) (Ch_T3 hk0) q21 dX2_addState_82 (fun H locs hw => ?_)
        replace hw : mw_W G ad NF TF FF M22 L16 H locs := by rw [eM22]; exact hw
        refine lv_aload_n C.1.1 C.1.2.1 dX2_addState_83 rfl (lv_at hl 1 rfl) ?_
        refine mr_getR C hw kc_2 0 (Ch_N0 hk0) (Ch_T0 hk0) (Ch_F0_0 hk0) wd_444 dX2_addState_84 (by decide) rfl ?_
        refine lv_iconst (v := 2) C.1.1 C.1.2.1 dX2_addState_87 (by decide) ?_
        refine mr_aald C hw (Ch_N1 hk0) (Ch_T1 hk0) (by decide) (by decide) rfl rfl (show vp_in 2 18 from by unfold vp_in; decide) (Ch_R1 hk0 _ (by decide : 2 < 18)).1 dX2_addState_88 ?_
        refine lv_aload_n C.1.1 C.1.2.1 dX2_addState_89 rfl (lv_at hl 1 rfl) ?_
        refine mr_getI C hw kc_2 7 (Ch_N0 hk0) (Ch_T0 hk0) wd_458 dX2_addState_90 (by decide) rfl ?_
        refine lv_iload_n C.1.1 C.1.2.1 dX2_addState_93 rfl (lv_at hl 0 rfl) ?_
        obtain ⟨q24, hD⟩ := g_ck hD
        obtain ⟨M25, eM25, hD⟩ := g_let hD
        refine mr_iast C hw (Ch_N4 hk0) (Ch_T4 hk0) q24 dX2_addState_94 (fun H locs hw => ?_)
        replace hw : mw_W G ad NF TF FF M25 L16 H locs := by rw [eM25]; exact hw
        refine lv_aload_n C.1.1 C.1.2.1 dX2_addState_95 rfl (lv_at hl 1 rfl) ?_
        refine mr_getR C hw kc_2 0 (Ch_N0 hk0) (Ch_T0 hk0) (Ch_F0_0 hk0) wd_444 dX2_addState_96 (by decide) rfl ?_
        refine lv_iconst (v := 4) C.1.1 C.1.2.1 dX2_addState_99 (by decide) ?_
        refine mr_aald C hw (Ch_N1 hk0) (Ch_T1 hk0) (by decide) (by decide) rfl rfl (show vp_in 4 18 from by unfold vp_in; decide) (Ch_R1 hk0 _ (by decide : 4 < 18)).1 dX2_addState_100 ?_
        refine lv_iload_n C.1.1 C.1.2.1 dX2_addState_101 rfl (lv_at hl 2 rfl) ?_
        obtain ⟨q27, hD⟩ := g_ck hD
        refine mr_iald C hw (Ch_N6 hk0) (Ch_T6 hk0) q27 dX2_addState_102 ?_
        refine lv_if_ne (tgt := 129) C.1.1 C.1.2.1 dX2_addState_103 (by decide) (fun c28 => ?_) (fun c28 => ?_)
        · replace hD := g_neg c28 hD
          exact hb129 M25 L16 _ _ ls hD hw (lv_sub hl [1] rfl)
        · replace hD := g_pos c28 hD
          refine lv_aload_n C.1.1 C.1.2.1 dX2_addState_106 rfl (lv_at hl 1 rfl) ?_
          refine lv_aload_n C.1.1 C.1.2.1 dX2_addState_107 rfl (lv_at hl 1 rfl) ?_
          refine mr_getI C hw kc_2 7 (Ch_N0 hk0) (Ch_T0 hk0) wd_458 dX2_addState_108 (by decide) rfl ?_
          obtain ⟨r31, M29, L30, h1, hD⟩ := g_b3 hD
          refine md_cvI (As := [.int (M25 k 7)]) (rest := []) C hw (tX2_isMark l G ad fu k (M25 k 7) M25 L16 h1 hk0) kc_2 (Ch_N0 hk0) (Ch_T0 hk0) wd_1006 cwX2_isMark ⟨Nat.le_of_ble_eq_true rfl, Nat.le_of_ble_eq_true rfl⟩ rfl hl.1 (Nat.le_of_ble_eq_true rfl) dX2_addState_111 rfl rfl ⟨Nat.zero_le _, Nat.zero_le _⟩ rfl (fun H locs hw => ?_)
          refine lv_if_ne (tgt := 129) C.1.1 C.1.2.1 dX2_addState_114 (by decide) (fun c32 => ?_) (fun c32 => ?_)
          · replace hD := g_neg c32 hD
            exact hb129 M29 L30 _ _ ls hD hw (lv_sub hl [1] rfl)
          · replace hD := g_pos c32 hD
            refine lv_aload_n C.1.1 C.1.2.1 dX2_addState_117 rfl (lv_at hl 1 rfl) ?_
            refine mr_getR C hw kc_2 0 (Ch_N0 hk0) (Ch_T0 hk0) (Ch_F0_0 hk0) wd_444 dX2_addState_118 (by decide) rfl ?_
            refine lv_iconst (v := 4) C.1.1 C.1.2.1 dX2_addState_121 (by decide) ?_
            refine mr_aald C hw (Ch_N1 hk0) (Ch_T1 hk0) (by decide) (by decide) rfl rfl (show vp_in 4 18 from by unfold vp_in; decide) (Ch_R1 hk0 _ (by decide : 4 < 18)).1 dX2_addState_122 ?_
            refine lv_iload_n C.1.1 C.1.2.1 dX2_addState_123 rfl (lv_at hl 2 rfl) ?_
            refine lv_aload_n C.1.1 C.1.2.1 dX2_addState_124 rfl (lv_at hl 1 rfl) ?_
            refine mr_getI C hw kc_2 7 (Ch_N0 hk0) (Ch_T0 hk0) wd_458 dX2_addState_125 (by decide) rfl ?_
            obtain ⟨q34, hD⟩ := g_ck hD
            obtain ⟨M35, eM35, hD⟩ := g_let hD
            refine mr_iast C hw (Ch_N6 hk0) (Ch_T6 hk0) q34 dX2_addState_128 (fun H locs hw => ?_)
            replace hw : mw_W G ad NF TF FF M35 L30 H locs := by rw [eM35]; exact hw
            exact hb129 M35 L30 _ _ ls hD hw (lv_sub hl [1] rfl)
      · replace hD := g_neg c13 hD
        refine lv_bipush (v := (-4)) C.1.1 C.1.2.1 dX2_addState_38 (by decide) ?_
        exact mr_iret C hr hlocks hw rfl (Option.some.inj hD) dX2_addState_40
    · replace hD := g_neg c12 hD
      exact hb25 M8 L9 _ _ ls hD hw (lv_sub hl [] rfl)

theorem dX2_addEdge_0 : decode cX2_addEdge 0 = .ok (.aload_n 0, 1) := by decide +kernel
theorem dX2_addEdge_1 : decode cX2_addEdge 1 = .ok (.getfield 13, 3) := by decide +kernel
theorem dX2_addEdge_4 : decode cX2_addEdge 4 = .ok (.iconst 1, 1) := by decide +kernel
theorem dX2_addEdge_5 : decode cX2_addEdge 5 = .ok (.aaload, 1) := by decide +kernel
theorem dX2_addEdge_6 : decode cX2_addEdge 6 = .ok (.iload_n 1, 1) := by decide +kernel
theorem dX2_addEdge_7 : decode cX2_addEdge 7 = .ok (.iaload, 1) := by decide +kernel
theorem dX2_addEdge_8 : decode cX2_addEdge 8 = .ok (.iconst 2, 1) := by decide +kernel
theorem dX2_addEdge_9 : decode cX2_addEdge 9 = .ok (.if_icmp .eq 15, 3) := by decide +kernel
theorem dX2_addEdge_12 : decode cX2_addEdge 12 = .ok (.aload_n 0, 1) := by decide +kernel
theorem dX2_addEdge_13 : decode cX2_addEdge 13 = .ok (.getfield 13, 3) := by decide +kernel
theorem dX2_addEdge_16 : decode cX2_addEdge 16 = .ok (.iconst 1, 1) := by decide +kernel
theorem dX2_addEdge_17 : decode cX2_addEdge 17 = .ok (.aaload, 1) := by decide +kernel
theorem dX2_addEdge_18 : decode cX2_addEdge 18 = .ok (.iload_n 1, 1) := by decide +kernel
theorem dX2_addEdge_19 : decode cX2_addEdge 19 = .ok (.iaload, 1) := by decide +kernel
theorem dX2_addEdge_20 : decode cX2_addEdge 20 = .ok (.iconst 3, 1) := by decide +kernel
theorem dX2_addEdge_21 : decode cX2_addEdge 21 = .ok (.if_icmp .ne 6, 3) := by decide +kernel
theorem dX2_addEdge_24 : decode cX2_addEdge 24 = .ok (.bipush (-2), 2) := by decide +kernel
theorem dX2_addEdge_26 : decode cX2_addEdge 26 = .ok (.ireturn, 1) := by decide +kernel
theorem dX2_addEdge_27 : decode cX2_addEdge 27 = .ok (.aload_n 0, 1) := by decide +kernel
theorem dX2_addEdge_28 : decode cX2_addEdge 28 = .ok (.getfield 40, 3) := by decide +kernel
theorem dX2_addEdge_31 : decode cX2_addEdge 31 = .ok (.sipush 400, 3) := by decide +kernel
theorem dX2_addEdge_34 : decode cX2_addEdge 34 = .ok (.if_icmp .lt 6, 3) := by decide +kernel
theorem dX2_addEdge_37 : decode cX2_addEdge 37 = .ok (.bipush (-4), 2) := by decide +kernel
theorem dX2_addEdge_39 : decode cX2_addEdge 39 = .ok (.ireturn, 1) := by decide +kernel
theorem dX2_addEdge_40 : decode cX2_addEdge 40 = .ok (.aload_n 0, 1) := by decide +kernel
theorem dX2_addEdge_41 : decode cX2_addEdge 41 = .ok (.dup, 1) := by decide +kernel
theorem dX2_addEdge_42 : decode cX2_addEdge 42 = .ok (.getfield 40, 3) := by decide +kernel
theorem dX2_addEdge_45 : decode cX2_addEdge 45 = .ok (.iconst 1, 1) := by decide +kernel
theorem dX2_addEdge_46 : decode cX2_addEdge 46 = .ok (.iadd, 1) := by decide +kernel
theorem dX2_addEdge_47 : decode cX2_addEdge 47 = .ok (.putfield 40, 3) := by decide +kernel
theorem dX2_addEdge_50 : decode cX2_addEdge 50 = .ok (.aload_n 0, 1) := by decide +kernel
theorem dX2_addEdge_51 : decode cX2_addEdge 51 = .ok (.getfield 16, 3) := by decide +kernel
theorem dX2_addEdge_54 : decode cX2_addEdge 54 = .ok (.iconst 0, 1) := by decide +kernel
theorem dX2_addEdge_55 : decode cX2_addEdge 55 = .ok (.aaload, 1) := by decide +kernel
theorem dX2_addEdge_56 : decode cX2_addEdge 56 = .ok (.aload_n 0, 1) := by decide +kernel
theorem dX2_addEdge_57 : decode cX2_addEdge 57 = .ok (.getfield 40, 3) := by decide +kernel
theorem dX2_addEdge_60 : decode cX2_addEdge 60 = .ok (.iload_n 1, 1) := by decide +kernel
theorem dX2_addEdge_61 : decode cX2_addEdge 61 = .ok (.iastore, 1) := by decide +kernel
theorem dX2_addEdge_62 : decode cX2_addEdge 62 = .ok (.aload_n 0, 1) := by decide +kernel
theorem dX2_addEdge_63 : decode cX2_addEdge 63 = .ok (.getfield 16, 3) := by decide +kernel
theorem dX2_addEdge_66 : decode cX2_addEdge 66 = .ok (.iconst 1, 1) := by decide +kernel
theorem dX2_addEdge_67 : decode cX2_addEdge 67 = .ok (.aaload, 1) := by decide +kernel
theorem dX2_addEdge_68 : decode cX2_addEdge 68 = .ok (.aload_n 0, 1) := by decide +kernel
theorem dX2_addEdge_69 : decode cX2_addEdge 69 = .ok (.getfield 40, 3) := by decide +kernel
theorem dX2_addEdge_72 : decode cX2_addEdge 72 = .ok (.iload_n 2, 1) := by decide +kernel
theorem dX2_addEdge_73 : decode cX2_addEdge 73 = .ok (.iastore, 1) := by decide +kernel
theorem dX2_addEdge_74 : decode cX2_addEdge 74 = .ok (.aload_n 0, 1) := by decide +kernel
theorem dX2_addEdge_75 : decode cX2_addEdge 75 = .ok (.getfield 16, 3) := by decide +kernel
theorem dX2_addEdge_78 : decode cX2_addEdge 78 = .ok (.iconst 2, 1) := by decide +kernel
theorem dX2_addEdge_79 : decode cX2_addEdge 79 = .ok (.aaload, 1) := by decide +kernel
theorem dX2_addEdge_80 : decode cX2_addEdge 80 = .ok (.aload_n 0, 1) := by decide +kernel
theorem dX2_addEdge_81 : decode cX2_addEdge 81 = .ok (.getfield 40, 3) := by decide +kernel
theorem dX2_addEdge_84 : decode cX2_addEdge 84 = .ok (.iload_n 3, 1) := by decide +kernel
theorem dX2_addEdge_85 : decode cX2_addEdge 85 = .ok (.iastore, 1) := by decide +kernel
theorem dX2_addEdge_86 : decode cX2_addEdge 86 = .ok (.aload_n 0, 1) := by decide +kernel
theorem dX2_addEdge_87 : decode cX2_addEdge 87 = .ok (.getfield 16, 3) := by decide +kernel
theorem dX2_addEdge_90 : decode cX2_addEdge 90 = .ok (.iconst 3, 1) := by decide +kernel
theorem dX2_addEdge_91 : decode cX2_addEdge 91 = .ok (.aaload, 1) := by decide +kernel
theorem dX2_addEdge_92 : decode cX2_addEdge 92 = .ok (.aload_n 0, 1) := by decide +kernel
theorem dX2_addEdge_93 : decode cX2_addEdge 93 = .ok (.getfield 40, 3) := by decide +kernel
theorem dX2_addEdge_96 : decode cX2_addEdge 96 = .ok (.iload 4, 2) := by decide +kernel
theorem dX2_addEdge_98 : decode cX2_addEdge 98 = .ok (.iastore, 1) := by decide +kernel
theorem dX2_addEdge_99 : decode cX2_addEdge 99 = .ok (.aload_n 0, 1) := by decide +kernel
theorem dX2_addEdge_100 : decode cX2_addEdge 100 = .ok (.getfield 16, 3) := by decide +kernel
theorem dX2_addEdge_103 : decode cX2_addEdge 103 = .ok (.iconst 5, 1) := by decide +kernel
theorem dX2_addEdge_104 : decode cX2_addEdge 104 = .ok (.aaload, 1) := by decide +kernel
theorem dX2_addEdge_105 : decode cX2_addEdge 105 = .ok (.aload_n 0, 1) := by decide +kernel
theorem dX2_addEdge_106 : decode cX2_addEdge 106 = .ok (.getfield 40, 3) := by decide +kernel
theorem dX2_addEdge_109 : decode cX2_addEdge 109 = .ok (.iconst 0, 1) := by decide +kernel
theorem dX2_addEdge_110 : decode cX2_addEdge 110 = .ok (.iastore, 1) := by decide +kernel
theorem dX2_addEdge_111 : decode cX2_addEdge 111 = .ok (.aload_n 0, 1) := by decide +kernel
theorem dX2_addEdge_112 : decode cX2_addEdge 112 = .ok (.getfield 40, 3) := by decide +kernel
theorem dX2_addEdge_115 : decode cX2_addEdge 115 = .ok (.ireturn, 1) := by decide +kernel
theorem cwX2_addEdge : mw_cwV yX2_addEdge cX2_addEdge 5 ((some .int)) 4 := ⟨⟨wd_12, wd_1043, by decide +kernel⟩, wd_1041, wd_1042⟩
set_option maxHeartbeats 4000000 in
set_option maxRecDepth 100000 in
theorem tX2_addEdge (l : Launch) (G : mwG) (ad : Nat → Nat) (fu : Nat) (k : Nat) (a1 : Int32) (a2 : Int32) (a3 : Int32) (a4 : Int32) (M : mwM) (L : mwL) {r0 : Int32} {M0 : mwM} {L0 : mwL} (hD : DX2_addEdge fu k a1 a2 a3 a4 M L = some (r0, M0, L0)) (hk0 : isCh k) : Met l yX2_addEdge (Cond.code yX2_addEdge cX2_addEdge 5 ((some .int)) :: GT) ({ frames := 0, cells := 0, slots := 0, locals := 0 }) (mw_Pre G ad NF TF FF M L [.ref (ad k), .int a1, .int a2, .int a3, .int a4]) (mw_Qi G ad NF TF FF (mw_eqI r0 M0 L0)) 0 0 (mw_fr G) := by
  refine mw_enter (by decide) (Nat.le_of_ble_eq_true rfl) ?_
  intro p e s m below meth c ls C hr hlocks hnm hw hl
  have hl : lv_has ls 5 [(0, .ref (ad k)), (1, .int a1), (2, .int a2), (3, .int a3), (4, .int a4)] := hl
  have hb24 : ∀ (M : mwM) (L : mwL) (H : Heap) (locs : List Loc) (ls : Array Slot), fX2_addEdge_b24 fu k a1 a2 a3 a4 M L = some (r0, M0, L0) → mw_W G ad NF TF FF M L H locs → lv_has ls 5 [] → W p l e ({ frames := 0, cells := 0, slots := 0, locals := 0 }) s m [.ref (ad k), .int a1, .int a2, .int a3, .int a4].toArray below meth c H locs 0 0 (MQ below (mw_Qi G ad NF TF FF (mw_eqI r0 M0 L0)) [.ref (ad k), .int a1, .int a2, .int a3, .int a4].toArray s 0 0 (mw_fr G)) (F0 m 24 ls []) := by
    intro M L H locs ls hD hw hl
    unfold fX2_addEdge_b24 at hD
    refine lv_bipush (v := (-2)) C.1.1 C.1.2.1 dX2_addEdge_24 (by decide) ?_
    exact mr_iret C hr hlocks hw rfl (Option.some.inj hD) dX2_addEdge_26
  unfold DX2_addEdge at hD
  refine lv_aload_n C.1.1 C.1.2.1 dX2_addEdge_0 rfl (lv_at hl 0 rfl) ?_
  refine mr_getR C hw kc_2 0 (Ch_N0 hk0) (Ch_T0 hk0) (Ch_F0_0 hk0) wd_444 dX2_addEdge_1 (by decide) rfl ?_
  refine lv_iconst (v := 1) C.1.1 C.1.2.1 dX2_addEdge_4 (by decide) ?_
  refine mr_aald C hw (Ch_N1 hk0) (Ch_T1 hk0) (by decide) (by decide) rfl rfl (show vp_in 1 18 from by unfold vp_in; decide) (Ch_R1 hk0 _ (by decide : 1 < 18)).1 dX2_addEdge_5 ?_
  refine lv_iload_n C.1.1 C.1.2.1 dX2_addEdge_6 rfl (lv_at hl 1 rfl) ?_
  obtain ⟨q2, hD⟩ := g_ck hD
  refine mr_iald C hw (Ch_N3 hk0) (Ch_T3 hk0) q2 dX2_addEdge_7 ?_
  refine lv_iconst (v := 2) C.1.1 C.1.2.1 dX2_addEdge_8 (by decide) ?_
  refine lv_icmp_eq (tgt := 24) C.1.1 C.1.2.1 dX2_addEdge_9 (by decide) (fun c3 => ?_) (fun c3 => ?_)
  · replace hD := g_pos c3 hD
    exact hb24 M L _ _ ls hD hw (lv_sub hl [] rfl)
  · replace hD := g_neg c3 hD
    refine lv_aload_n C.1.1 C.1.2.1 dX2_addEdge_12 rfl (lv_at hl 0 rfl) ?_
    refine mr_getR C hw kc_2 0 (Ch_N0 hk0) (Ch_T0 hk0) (Ch_F0_0 hk0) wd_444 dX2_addEdge_13 (by decide) rfl ?_
    refine lv_iconst (v := 1) C.1.1 C.1.2.1 dX2_addEdge_16 (by decide) ?_
    refine mr_aald C hw (Ch_N1 hk0) (Ch_T1 hk0) (by decide) (by decide) rfl rfl (show vp_in 1 18 from by unfold vp_in; decide) (Ch_R1 hk0 _ (by decide : 1 < 18)).1 dX2_addEdge_17 ?_
    refine lv_iload_n C.1.1 C.1.2.1 dX2_addEdge_18 rfl (lv_at hl 1 rfl) ?_
    obtain ⟨q5, hD⟩ := g_ck hD
    refine mr_iald C hw (Ch_N3 hk0) (Ch_T3 hk0) q5 dX2_addEdge_19 ?_
    refine lv_iconst (v := 3) C.1.1 C.1.2.1 dX2_addEdge_20 (by decide) ?_
    refine lv_icmp_ne (tgt := 27) C.1.1 C.1.2.1 dX2_addEdge_21 (by decide) (fun c6 => ?_) (fun c6 => ?_)
    · replace hD := g_neg c6 hD
      refine lv_aload_n C.1.1 C.1.2.1 dX2_addEdge_27 rfl (lv_at hl 0 rfl) ?_
      refine mr_getI C hw kc_2 8 (Ch_N0 hk0) (Ch_T0 hk0) wd_460 dX2_addEdge_28 (by decide) rfl ?_
      refine lv_sipush (v := 400) C.1.1 C.1.2.1 dX2_addEdge_31 (by decide) ?_
      refine lv_icmp_lt (tgt := 40) C.1.1 C.1.2.1 dX2_addEdge_34 (by decide) (fun c7 => ?_) (fun c7 => ?_)
      · replace hD := g_pos c7 hD
        refine lv_aload_n C.1.1 C.1.2.1 dX2_addEdge_40 rfl (lv_at hl 0 rfl) ?_
        refine lv_dup C.1.1 C.1.2.1 dX2_addEdge_41 rfl ?_
        refine mr_getI C hw kc_2 8 (Ch_N0 hk0) (Ch_T0 hk0) wd_460 dX2_addEdge_42 (by decide) rfl ?_
        refine lv_iconst (v := 1) C.1.1 C.1.2.1 dX2_addEdge_45 (by decide) ?_
        refine lv_iadd C.1.1 C.1.2.1 dX2_addEdge_46 ?_
        obtain ⟨M8, eM8, hD⟩ := g_let hD
        refine mr_putI C hw kc_2 8 (Ch_N0 hk0) (Ch_T0 hk0) wd_460 dX2_addEdge_47 (by decide) rfl rfl rfl rfl (fun H locs hw => ?_)
        replace hw : mw_W G ad NF TF FF M8 L H locs := by rw [eM8]; exact hw
        refine lv_aload_n C.1.1 C.1.2.1 dX2_addEdge_50 rfl (lv_at hl 0 rfl) ?_
        refine mr_getR C hw kc_2 1 (Ch_N0 hk0) (Ch_T0 hk0) (Ch_F0_1 hk0) wd_445 dX2_addEdge_51 (by decide) rfl ?_
        refine lv_iconst (v := 0) C.1.1 C.1.2.1 dX2_addEdge_54 (by decide) ?_
        refine mr_aald C hw (Ch_N20 hk0) (Ch_T20 hk0) (by decide) (by decide) rfl rfl (show vp_in 0 7 from by unfold vp_in; decide) (Ch_R20 hk0 _ (by decide : 0 < 7)).1 dX2_addEdge_55 ?_
        refine lv_aload_n C.1.1 C.1.2.1 dX2_addEdge_56 rfl (lv_at hl 0 rfl) ?_
        refine mr_getI C hw kc_2 8 (Ch_N0 hk0) (Ch_T0 hk0) wd_460 dX2_addEdge_57 (by decide) rfl ?_
        refine lv_iload_n C.1.1 C.1.2.1 dX2_addEdge_60 rfl (lv_at hl 1 rfl) ?_
        obtain ⟨q10, hD⟩ := g_ck hD
        obtain ⟨M11, eM11, hD⟩ := g_let hD
        refine mr_iast C hw (Ch_N21 hk0) (Ch_T21 hk0) q10 dX2_addEdge_61 (fun H locs hw => ?_)
        replace hw : mw_W G ad NF TF FF M11 L H locs := by rw [eM11]; exact hw
        refine lv_aload_n C.1.1 C.1.2.1 dX2_addEdge_62 rfl (lv_at hl 0 rfl) ?_
        refine mr_getR C hw kc_2 1 (Ch_N0 hk0) (Ch_T0 hk0) (Ch_F0_1 hk0) wd_445 dX2_addEdge_63 (by decide) rfl ?_
        refine lv_iconst (v := 1) C.1.1 C.1.2.1 dX2_addEdge_66 (by decide) ?_
        refine mr_aald C hw (Ch_N20 hk0) (Ch_T20 hk0) (by decide) (by decide) rfl rfl (show vp_in 1 7 from by unfold vp_in; decide) (Ch_R20 hk0 _ (by decide : 1 < 7)).1 dX2_addEdge_67 ?_
        refine lv_aload_n C.1.1 C.1.2.1 dX2_addEdge_68 rfl (lv_at hl 0 rfl) ?_
        refine mr_getI C hw kc_2 8 (Ch_N0 hk0) (Ch_T0 hk0) wd_460 dX2_addEdge_69 (by decide) rfl ?_
        refine lv_iload_n C.1.1 C.1.2.1 dX2_addEdge_72 rfl (lv_at hl 2 rfl) ?_
        obtain ⟨q13, hD⟩ := g_ck hD
        obtain ⟨M14, eM14, hD⟩ := g_let hD
        refine mr_iast C hw (Ch_N22 hk0) (Ch_T22 hk0) q13 dX2_addEdge_73 (fun H locs hw => ?_)
        replace hw : mw_W G ad NF TF FF M14 L H locs := by rw [eM14]; exact hw
        refine lv_aload_n C.1.1 C.1.2.1 dX2_addEdge_74 rfl (lv_at hl 0 rfl) ?_
        refine mr_getR C hw kc_2 1 (Ch_N0 hk0) (Ch_T0 hk0) (Ch_F0_1 hk0) wd_445 dX2_addEdge_75 (by decide) rfl ?_
        refine lv_iconst (v := 2) C.1.1 C.1.2.1 dX2_addEdge_78 (by decide) ?_
        refine mr_aald C hw (Ch_N20 hk0) (Ch_T20 hk0) (by decide) (by decide) rfl rfl (show vp_in 2 7 from by unfold vp_in; decide) (Ch_R20 hk0 _ (by decide : 2 < 7)).1 dX2_addEdge_79 ?_
        refine lv_aload_n C.1.1 C.1.2.1 dX2_addEdge_80 rfl (lv_at hl 0 rfl) ?_
        refine mr_getI C hw kc_2 8 (Ch_N0 hk0) (Ch_T0 hk0) wd_460 dX2_addEdge_81 (by decide) rfl ?_
        refine lv_iload_n C.1.1 C.1.2.1 dX2_addEdge_84 rfl (lv_at hl 3 rfl) ?_
        obtain ⟨q16, hD⟩ := g_ck hD
        obtain ⟨M17, eM17, hD⟩ := g_let hD
        refine mr_iast C hw (Ch_N23 hk0) (Ch_T23 hk0) q16 dX2_addEdge_85 (fun H locs hw => ?_)
        replace hw : mw_W G ad NF TF FF M17 L H locs := by rw [eM17]; exact hw
        refine lv_aload_n C.1.1 C.1.2.1 dX2_addEdge_86 rfl (lv_at hl 0 rfl) ?_
        refine mr_getR C hw kc_2 1 (Ch_N0 hk0) (Ch_T0 hk0) (Ch_F0_1 hk0) wd_445 dX2_addEdge_87 (by decide) rfl ?_
        refine lv_iconst (v := 3) C.1.1 C.1.2.1 dX2_addEdge_90 (by decide) ?_
        refine mr_aald C hw (Ch_N20 hk0) (Ch_T20 hk0) (by decide) (by decide) rfl rfl (show vp_in 3 7 from by unfold vp_in; decide) (Ch_R20 hk0 _ (by decide : 3 < 7)).1 dX2_addEdge_91 ?_
        refine lv_aload_n C.1.1 C.1.2.1 dX2_addEdge_92 rfl (lv_at hl 0 rfl) ?_
        refine mr_getI C hw kc_2 8 (Ch_N0 hk0) (Ch_T0 hk0) wd_460 dX2_addEdge_93 (by decide) rfl ?_
        refine lv_iload C.1.1 C.1.2.1 dX2_addEdge_96 (lv_at hl 4 rfl) ?_
        obtain ⟨q19, hD⟩ := g_ck hD
        obtain ⟨M20, eM20, hD⟩ := g_let hD
        refine mr_iast C hw (Ch_N24 hk0) (Ch_T24 hk0) q19 dX2_addEdge_98 (fun H locs hw => ?_)
        replace hw : mw_W G ad NF TF FF M20 L H locs := by rw [eM20]; exact hw
        refine lv_aload_n C.1.1 C.1.2.1 dX2_addEdge_99 rfl (lv_at hl 0 rfl) ?_
        refine mr_getR C hw kc_2 1 (Ch_N0 hk0) (Ch_T0 hk0) (Ch_F0_1 hk0) wd_445 dX2_addEdge_100 (by decide) rfl ?_
        refine lv_iconst (v := 5) C.1.1 C.1.2.1 dX2_addEdge_103 (by decide) ?_
        refine mr_aald C hw (Ch_N20 hk0) (Ch_T20 hk0) (by decide) (by decide) rfl rfl (show vp_in 5 7 from by unfold vp_in; decide) (Ch_R20 hk0 _ (by decide : 5 < 7)).1 dX2_addEdge_104 ?_
        refine lv_aload_n C.1.1 C.1.2.1 dX2_addEdge_105 rfl (lv_at hl 0 rfl) ?_
        refine mr_getI C hw kc_2 8 (Ch_N0 hk0) (Ch_T0 hk0) wd_460 dX2_addEdge_106 (by decide) rfl ?_
        refine lv_iconst (v := 0) C.1.1 C.1.2.1 dX2_addEdge_109 (by decide) ?_
        obtain ⟨q22, hD⟩ := g_ck hD
        obtain ⟨M23, eM23, hD⟩ := g_let hD
        refine mr_iast C hw (Ch_N26 hk0) (Ch_T26 hk0) q22 dX2_addEdge_110 (fun H locs hw => ?_)
        replace hw : mw_W G ad NF TF FF M23 L H locs := by rw [eM23]; exact hw
        refine lv_aload_n C.1.1 C.1.2.1 dX2_addEdge_111 rfl (lv_at hl 0 rfl) ?_
        refine mr_getI C hw kc_2 8 (Ch_N0 hk0) (Ch_T0 hk0) wd_460 dX2_addEdge_112 (by decide) rfl ?_
        exact mr_iret C hr hlocks hw rfl (Option.some.inj hD) dX2_addEdge_115
      · replace hD := g_neg c7 hD
        refine lv_bipush (v := (-4)) C.1.1 C.1.2.1 dX2_addEdge_37 (by decide) ?_
        exact mr_iret C hr hlocks hw rfl (Option.some.inj hD) dX2_addEdge_39
    · replace hD := g_pos c6 hD
      exact hb24 M L _ _ ls hD hw (lv_sub hl [] rfl)

theorem dX2_addAct_0 : decode cX2_addAct 0 = .ok (.iload_n 1, 1) := by decide +kernel
theorem dX2_addAct_1 : decode cX2_addAct 1 = .ok (.ifCond .ne 5, 3) := by decide +kernel
theorem dX2_addAct_4 : decode cX2_addAct 4 = .ok (.iconst (-1), 1) := by decide +kernel
theorem dX2_addAct_5 : decode cX2_addAct 5 = .ok (.ireturn, 1) := by decide +kernel
theorem dX2_addAct_6 : decode cX2_addAct 6 = .ok (.iload_n 2, 1) := by decide +kernel
theorem dX2_addAct_7 : decode cX2_addAct 7 = .ok (.iconst 2, 1) := by decide +kernel
theorem dX2_addAct_8 : decode cX2_addAct 8 = .ok (.if_icmp .eq 14, 3) := by decide +kernel
theorem dX2_addAct_11 : decode cX2_addAct 11 = .ok (.aload_n 0, 1) := by decide +kernel
theorem dX2_addAct_12 : decode cX2_addAct 12 = .ok (.iload_n 1, 1) := by decide +kernel
theorem dX2_addAct_13 : decode cX2_addAct 13 = .ok (.invokevirtual 72, 3) := by decide +kernel
theorem dX2_addAct_16 : decode cX2_addAct 16 = .ok (.ifCond .eq 6, 3) := by decide +kernel
theorem dX2_addAct_19 : decode cX2_addAct 19 = .ok (.bipush (-2), 2) := by decide +kernel
theorem dX2_addAct_21 : decode cX2_addAct 21 = .ok (.ireturn, 1) := by decide +kernel
theorem dX2_addAct_22 : decode cX2_addAct 22 = .ok (.aload_n 0, 1) := by decide +kernel
theorem dX2_addAct_23 : decode cX2_addAct 23 = .ok (.getfield 43, 3) := by decide +kernel
theorem dX2_addAct_26 : decode cX2_addAct 26 = .ok (.sipush 600, 3) := by decide +kernel
theorem dX2_addAct_29 : decode cX2_addAct 29 = .ok (.if_icmp .lt 6, 3) := by decide +kernel
theorem dX2_addAct_32 : decode cX2_addAct 32 = .ok (.bipush (-4), 2) := by decide +kernel
theorem dX2_addAct_34 : decode cX2_addAct 34 = .ok (.ireturn, 1) := by decide +kernel
theorem dX2_addAct_35 : decode cX2_addAct 35 = .ok (.aload_n 0, 1) := by decide +kernel
theorem dX2_addAct_36 : decode cX2_addAct 36 = .ok (.getfield 19, 3) := by decide +kernel
theorem dX2_addAct_39 : decode cX2_addAct 39 = .ok (.iconst 0, 1) := by decide +kernel
theorem dX2_addAct_40 : decode cX2_addAct 40 = .ok (.aaload, 1) := by decide +kernel
theorem dX2_addAct_41 : decode cX2_addAct 41 = .ok (.aload_n 0, 1) := by decide +kernel
theorem dX2_addAct_42 : decode cX2_addAct 42 = .ok (.getfield 43, 3) := by decide +kernel
theorem dX2_addAct_45 : decode cX2_addAct 45 = .ok (.iload_n 1, 1) := by decide +kernel
theorem dX2_addAct_46 : decode cX2_addAct 46 = .ok (.iastore, 1) := by decide +kernel
theorem dX2_addAct_47 : decode cX2_addAct 47 = .ok (.aload_n 0, 1) := by decide +kernel
theorem dX2_addAct_48 : decode cX2_addAct 48 = .ok (.getfield 19, 3) := by decide +kernel
theorem dX2_addAct_51 : decode cX2_addAct 51 = .ok (.iconst 1, 1) := by decide +kernel
theorem dX2_addAct_52 : decode cX2_addAct 52 = .ok (.aaload, 1) := by decide +kernel
theorem dX2_addAct_53 : decode cX2_addAct 53 = .ok (.aload_n 0, 1) := by decide +kernel
theorem dX2_addAct_54 : decode cX2_addAct 54 = .ok (.getfield 43, 3) := by decide +kernel
theorem dX2_addAct_57 : decode cX2_addAct 57 = .ok (.iload_n 2, 1) := by decide +kernel
theorem dX2_addAct_58 : decode cX2_addAct 58 = .ok (.iastore, 1) := by decide +kernel
theorem dX2_addAct_59 : decode cX2_addAct 59 = .ok (.aload_n 0, 1) := by decide +kernel
theorem dX2_addAct_60 : decode cX2_addAct 60 = .ok (.getfield 19, 3) := by decide +kernel
theorem dX2_addAct_63 : decode cX2_addAct 63 = .ok (.iconst 2, 1) := by decide +kernel
theorem dX2_addAct_64 : decode cX2_addAct 64 = .ok (.aaload, 1) := by decide +kernel
theorem dX2_addAct_65 : decode cX2_addAct 65 = .ok (.aload_n 0, 1) := by decide +kernel
theorem dX2_addAct_66 : decode cX2_addAct 66 = .ok (.getfield 43, 3) := by decide +kernel
theorem dX2_addAct_69 : decode cX2_addAct 69 = .ok (.iload_n 3, 1) := by decide +kernel
theorem dX2_addAct_70 : decode cX2_addAct 70 = .ok (.iastore, 1) := by decide +kernel
theorem dX2_addAct_71 : decode cX2_addAct 71 = .ok (.aload_n 0, 1) := by decide +kernel
theorem dX2_addAct_72 : decode cX2_addAct 72 = .ok (.getfield 19, 3) := by decide +kernel
theorem dX2_addAct_75 : decode cX2_addAct 75 = .ok (.iconst 3, 1) := by decide +kernel
theorem dX2_addAct_76 : decode cX2_addAct 76 = .ok (.aaload, 1) := by decide +kernel
theorem dX2_addAct_77 : decode cX2_addAct 77 = .ok (.aload_n 0, 1) := by decide +kernel
theorem dX2_addAct_78 : decode cX2_addAct 78 = .ok (.getfield 43, 3) := by decide +kernel
theorem dX2_addAct_81 : decode cX2_addAct 81 = .ok (.iload 4, 2) := by decide +kernel
theorem dX2_addAct_83 : decode cX2_addAct 83 = .ok (.iastore, 1) := by decide +kernel
theorem dX2_addAct_84 : decode cX2_addAct 84 = .ok (.aload_n 0, 1) := by decide +kernel
theorem dX2_addAct_85 : decode cX2_addAct 85 = .ok (.getfield 19, 3) := by decide +kernel
theorem dX2_addAct_88 : decode cX2_addAct 88 = .ok (.iconst 4, 1) := by decide +kernel
theorem dX2_addAct_89 : decode cX2_addAct 89 = .ok (.aaload, 1) := by decide +kernel
theorem dX2_addAct_90 : decode cX2_addAct 90 = .ok (.aload_n 0, 1) := by decide +kernel
theorem dX2_addAct_91 : decode cX2_addAct 91 = .ok (.getfield 43, 3) := by decide +kernel
theorem dX2_addAct_94 : decode cX2_addAct 94 = .ok (.iload 5, 2) := by decide +kernel
theorem dX2_addAct_96 : decode cX2_addAct 96 = .ok (.ifCond .eq 7, 3) := by decide +kernel
theorem dX2_addAct_99 : decode cX2_addAct 99 = .ok (.iconst 1, 1) := by decide +kernel
theorem dX2_addAct_100 : decode cX2_addAct 100 = .ok (.goto 4, 3) := by decide +kernel
theorem dX2_addAct_103 : decode cX2_addAct 103 = .ok (.iconst 0, 1) := by decide +kernel
theorem dX2_addAct_104 : decode cX2_addAct 104 = .ok (.iastore, 1) := by decide +kernel
theorem dX2_addAct_105 : decode cX2_addAct 105 = .ok (.aload_n 0, 1) := by decide +kernel
theorem dX2_addAct_106 : decode cX2_addAct 106 = .ok (.dup, 1) := by decide +kernel
theorem dX2_addAct_107 : decode cX2_addAct 107 = .ok (.getfield 43, 3) := by decide +kernel
theorem dX2_addAct_110 : decode cX2_addAct 110 = .ok (.iconst 1, 1) := by decide +kernel
theorem dX2_addAct_111 : decode cX2_addAct 111 = .ok (.iadd, 1) := by decide +kernel
theorem dX2_addAct_112 : decode cX2_addAct 112 = .ok (.putfield 43, 3) := by decide +kernel
theorem dX2_addAct_115 : decode cX2_addAct 115 = .ok (.aload_n 0, 1) := by decide +kernel
theorem dX2_addAct_116 : decode cX2_addAct 116 = .ok (.getfield 43, 3) := by decide +kernel
theorem dX2_addAct_119 : decode cX2_addAct 119 = .ok (.ireturn, 1) := by decide +kernel
theorem cwX2_addAct : mw_cwV yX2_addAct cX2_addAct 6 ((some .int)) 5 := ⟨⟨wd_12, wd_1070, by decide +kernel⟩, wd_1068, wd_1069⟩
set_option maxHeartbeats 4000000 in
set_option maxRecDepth 100000 in
theorem tX2_addAct (l : Launch) (G : mwG) (ad : Nat → Nat) (fu : Nat) (k : Nat) (a1 : Int32) (a2 : Int32) (a3 : Int32) (a4 : Int32) (a5 : Int32) (M : mwM) (L : mwL) {r0 : Int32} {M0 : mwM} {L0 : mwL} (hD : DX2_addAct fu k a1 a2 a3 a4 a5 M L = some (r0, M0, L0)) (hk0 : isCh k) : Met l yX2_addAct (Cond.code yX2_addAct cX2_addAct 6 ((some .int)) :: GT) ({ frames := 1, cells := 0, slots := 0, locals := 21 }) (mw_Pre G ad NF TF FF M L [.ref (ad k), .int a1, .int a2, .int a3, .int a4, .int a5]) (mw_Qi G ad NF TF FF (mw_eqI r0 M0 L0)) 0 0 (mw_fr G) := by
  refine mw_enter (by decide) (Nat.le_of_ble_eq_true rfl) ?_
  intro p e s m below meth c ls C hr hlocks hnm hw hl
  have hl : lv_has ls 6 [(0, .ref (ad k)), (1, .int a1), (2, .int a2), (3, .int a3), (4, .int a4), (5, .int a5)] := hl
  have hb104 : ∀ (s1 : Int32) (s2 : Int32) (M : mwM) (L : mwL) (H : Heap) (locs : List Loc) (ls : Array Slot), fX2_addAct_b104 fu k a1 a2 a3 a4 a5 s1 s2 M L = some (r0, M0, L0) → mw_W G ad NF TF FF M L H locs → lv_has ls 6 [(0, .ref (ad k))] → W p l e ({ frames := 1, cells := 0, slots := 0, locals := 21 }) s m [.ref (ad k), .int a1, .int a2, .int a3, .int a4, .int a5].toArray below meth c H locs 0 0 (MQ below (mw_Qi G ad NF TF FF (mw_eqI r0 M0 L0)) [.ref (ad k), .int a1, .int a2, .int a3, .int a4, .int a5].toArray s 0 0 (mw_fr G)) (F0 m 104 ls [.int s2, .int s1, .ref (ad (k + 33))]) := by
    intro s1 s2 M L H locs ls hD hw hl
    unfold fX2_addAct_b104 at hD
    obtain ⟨q16, hD⟩ := g_ck hD
    obtain ⟨M17, eM17, hD⟩ := g_let hD
    refine mr_iast C hw (Ch_N33 hk0) (Ch_T33 hk0) q16 dX2_addAct_104 (fun H locs hw => ?_)
    replace hw : mw_W G ad NF TF FF M17 L H locs := by rw [eM17]; exact hw
    refine lv_aload_n C.1.1 C.1.2.1 dX2_addAct_105 rfl (lv_at hl 0 rfl) ?_
    refine lv_dup C.1.1 C.1.2.1 dX2_addAct_106 rfl ?_
    refine mr_getI C hw kc_2 9 (Ch_N0 hk0) (Ch_T0 hk0) wd_462 dX2_addAct_107 (by decide) rfl ?_
    refine lv_iconst (v := 1) C.1.1 C.1.2.1 dX2_addAct_110 (by decide) ?_
    refine lv_iadd C.1.1 C.1.2.1 dX2_addAct_111 ?_
    obtain ⟨M18, eM18, hD⟩ := g_let hD
    refine mr_putI C hw kc_2 9 (Ch_N0 hk0) (Ch_T0 hk0) wd_462 dX2_addAct_112 (by decide) rfl rfl rfl rfl (fun H locs hw => ?_)
    replace hw : mw_W G ad NF TF FF M18 L H locs := by rw [eM18]; exact hw
    refine lv_aload_n C.1.1 C.1.2.1 dX2_addAct_115 rfl (lv_at hl 0 rfl) ?_
    refine mr_getI C hw kc_2 9 (Ch_N0 hk0) (Ch_T0 hk0) wd_462 dX2_addAct_116 (by decide) rfl ?_
    exact mr_iret C hr hlocks hw rfl (Option.some.inj hD) dX2_addAct_119
  have hb22 : ∀ (M : mwM) (L : mwL) (H : Heap) (locs : List Loc) (ls : Array Slot), fX2_addAct_b22 fu k a1 a2 a3 a4 a5 M L = some (r0, M0, L0) → mw_W G ad NF TF FF M L H locs → lv_has ls 6 [(0, .ref (ad k)), (1, .int a1), (2, .int a2), (3, .int a3), (4, .int a4), (5, .int a5)] → W p l e ({ frames := 1, cells := 0, slots := 0, locals := 21 }) s m [.ref (ad k), .int a1, .int a2, .int a3, .int a4, .int a5].toArray below meth c H locs 0 0 (MQ below (mw_Qi G ad NF TF FF (mw_eqI r0 M0 L0)) [.ref (ad k), .int a1, .int a2, .int a3, .int a4, .int a5].toArray s 0 0 (mw_fr G)) (F0 m 22 ls []) := by
    intro M L H locs ls hD hw hl
    unfold fX2_addAct_b22 at hD
    refine lv_aload_n C.1.1 C.1.2.1 dX2_addAct_22 rfl (lv_at hl 0 rfl) ?_
    refine mr_getI C hw kc_2 9 (Ch_N0 hk0) (Ch_T0 hk0) wd_462 dX2_addAct_23 (by decide) rfl ?_
    refine lv_sipush (v := 600) C.1.1 C.1.2.1 dX2_addAct_26 (by decide) ?_
    refine lv_icmp_lt (tgt := 35) C.1.1 C.1.2.1 dX2_addAct_29 (by decide) (fun c1 => ?_) (fun c1 => ?_)
    · replace hD := g_pos c1 hD
      refine lv_aload_n C.1.1 C.1.2.1 dX2_addAct_35 rfl (lv_at hl 0 rfl) ?_
      refine mr_getR C hw kc_2 2 (Ch_N0 hk0) (Ch_T0 hk0) (Ch_F0_2 hk0) wd_446 dX2_addAct_36 (by decide) rfl ?_
      refine lv_iconst (v := 0) C.1.1 C.1.2.1 dX2_addAct_39 (by decide) ?_
      refine mr_aald C hw (Ch_N28 hk0) (Ch_T28 hk0) (by decide) (by decide) rfl rfl (show vp_in 0 5 from by unfold vp_in; decide) (Ch_R28 hk0 _ (by decide : 0 < 5)).1 dX2_addAct_40 ?_
      refine lv_aload_n C.1.1 C.1.2.1 dX2_addAct_41 rfl (lv_at hl 0 rfl) ?_
      refine mr_getI C hw kc_2 9 (Ch_N0 hk0) (Ch_T0 hk0) wd_462 dX2_addAct_42 (by decide) rfl ?_
      refine lv_iload_n C.1.1 C.1.2.1 dX2_addAct_45 rfl (lv_at hl 1 rfl) ?_
      obtain ⟨q3, hD⟩ := g_ck hD
      obtain ⟨M4, eM4, hD⟩ := g_let hD
      refine mr_iast C hw (Ch_N29 hk0) (Ch_T29 hk0) q3 dX2_addAct_46 (fun H locs hw => ?_)
      replace hw : mw_W G ad NF TF FF M4 L H locs := by rw [eM4]; exact hw
      refine lv_aload_n C.1.1 C.1.2.1 dX2_addAct_47 rfl (lv_at hl 0 rfl) ?_
      refine mr_getR C hw kc_2 2 (Ch_N0 hk0) (Ch_T0 hk0) (Ch_F0_2 hk0) wd_446 dX2_addAct_48 (by decide) rfl ?_
      refine lv_iconst (v := 1) C.1.1 C.1.2.1 dX2_addAct_51 (by decide) ?_
      refine mr_aald C hw (Ch_N28 hk0) (Ch_T28 hk0) (by decide) (by decide) rfl rfl (show vp_in 1 5 from by unfold vp_in; decide) (Ch_R28 hk0 _ (by decide : 1 < 5)).1 dX2_addAct_52 ?_
      refine lv_aload_n C.1.1 C.1.2.1 dX2_addAct_53 rfl (lv_at hl 0 rfl) ?_
      refine mr_getI C hw kc_2 9 (Ch_N0 hk0) (Ch_T0 hk0) wd_462 dX2_addAct_54 (by decide) rfl ?_
      refine lv_iload_n C.1.1 C.1.2.1 dX2_addAct_57 rfl (lv_at hl 2 rfl) ?_
      obtain ⟨q6, hD⟩ := g_ck hD
      obtain ⟨M7, eM7, hD⟩ := g_let hD
      refine mr_iast C hw (Ch_N30 hk0) (Ch_T30 hk0) q6 dX2_addAct_58 (fun H locs hw => ?_)
      replace hw : mw_W G ad NF TF FF M7 L H locs := by rw [eM7]; exact hw
      refine lv_aload_n C.1.1 C.1.2.1 dX2_addAct_59 rfl (lv_at hl 0 rfl) ?_
      refine mr_getR C hw kc_2 2 (Ch_N0 hk0) (Ch_T0 hk0) (Ch_F0_2 hk0) wd_446 dX2_addAct_60 (by decide) rfl ?_
      refine lv_iconst (v := 2) C.1.1 C.1.2.1 dX2_addAct_63 (by decide) ?_
      refine mr_aald C hw (Ch_N28 hk0) (Ch_T28 hk0) (by decide) (by decide) rfl rfl (show vp_in 2 5 from by unfold vp_in; decide) (Ch_R28 hk0 _ (by decide : 2 < 5)).1 dX2_addAct_64 ?_
      refine lv_aload_n C.1.1 C.1.2.1 dX2_addAct_65 rfl (lv_at hl 0 rfl) ?_
      refine mr_getI C hw kc_2 9 (Ch_N0 hk0) (Ch_T0 hk0) wd_462 dX2_addAct_66 (by decide) rfl ?_
      refine lv_iload_n C.1.1 C.1.2.1 dX2_addAct_69 rfl (lv_at hl 3 rfl) ?_
      obtain ⟨q9, hD⟩ := g_ck hD
      obtain ⟨M10, eM10, hD⟩ := g_let hD
      refine mr_iast C hw (Ch_N31 hk0) (Ch_T31 hk0) q9 dX2_addAct_70 (fun H locs hw => ?_)
      replace hw : mw_W G ad NF TF FF M10 L H locs := by rw [eM10]; exact hw
      refine lv_aload_n C.1.1 C.1.2.1 dX2_addAct_71 rfl (lv_at hl 0 rfl) ?_
      refine mr_getR C hw kc_2 2 (Ch_N0 hk0) (Ch_T0 hk0) (Ch_F0_2 hk0) wd_446 dX2_addAct_72 (by decide) rfl ?_
      refine lv_iconst (v := 3) C.1.1 C.1.2.1 dX2_addAct_75 (by decide) ?_
      refine mr_aald C hw (Ch_N28 hk0) (Ch_T28 hk0) (by decide) (by decide) rfl rfl (show vp_in 3 5 from by unfold vp_in; decide) (Ch_R28 hk0 _ (by decide : 3 < 5)).1 dX2_addAct_76 ?_
      refine lv_aload_n C.1.1 C.1.2.1 dX2_addAct_77 rfl (lv_at hl 0 rfl) ?_
      refine mr_getI C hw kc_2 9 (Ch_N0 hk0) (Ch_T0 hk0) wd_462 dX2_addAct_78 (by decide) rfl ?_
      refine lv_iload C.1.1 C.1.2.1 dX2_addAct_81 (lv_at hl 4 rfl) ?_
      obtain ⟨q12, hD⟩ := g_ck hD
      obtain ⟨M13, eM13, hD⟩ := g_let hD
      refine mr_iast C hw (Ch_N32 hk0) (Ch_T32 hk0) q12 dX2_addAct_83 (fun H locs hw => ?_)
      replace hw : mw_W G ad NF TF FF M13 L H locs := by rw [eM13]; exact hw
      refine lv_aload_n C.1.1 C.1.2.1 dX2_addAct_84 rfl (lv_at hl 0 rfl) ?_
      refine mr_getR C hw kc_2 2 (Ch_N0 hk0) (Ch_T0 hk0) (Ch_F0_2 hk0) wd_446 dX2_addAct_85 (by decide) rfl ?_
      refine lv_iconst (v := 4) C.1.1 C.1.2.1 dX2_addAct_88 (by decide) ?_
      refine mr_aald C hw (Ch_N28 hk0) (Ch_T28 hk0) (by decide) (by decide) rfl rfl (show vp_in 4 5 from by unfold vp_in; decide) (Ch_R28 hk0 _ (by decide : 4 < 5)).1 dX2_addAct_89 ?_
      refine lv_aload_n C.1.1 C.1.2.1 dX2_addAct_90 rfl (lv_at hl 0 rfl) ?_
      refine mr_getI C hw kc_2 9 (Ch_N0 hk0) (Ch_T0 hk0) wd_462 dX2_addAct_91 (by decide) rfl ?_
      refine lv_iload C.1.1 C.1.2.1 dX2_addAct_94 (lv_at hl 5 rfl) ?_
      refine lv_if_eq (tgt := 103) C.1.1 C.1.2.1 dX2_addAct_96 (by decide) (fun c15 => ?_) (fun c15 => ?_)
      · replace hD := g_pos c15 hD
        refine lv_iconst (v := 0) C.1.1 C.1.2.1 dX2_addAct_103 (by decide) ?_
        exact hb104 (M13 k 9) 0 M13 L _ _ ls hD hw (lv_sub hl [0] rfl)
      · replace hD := g_neg c15 hD
        refine lv_iconst (v := 1) C.1.1 C.1.2.1 dX2_addAct_99 (by decide) ?_
        refine lv_goto (tgt := 104) C.1.1 C.1.2.1 dX2_addAct_100 (by decide) ?_
        exact hb104 (M13 k 9) 1 M13 L _ _ ls hD hw (lv_sub hl [0] rfl)
    · replace hD := g_neg c1 hD
      refine lv_bipush (v := (-4)) C.1.1 C.1.2.1 dX2_addAct_32 (by decide) ?_
      exact mr_iret C hr hlocks hw rfl (Option.some.inj hD) dX2_addAct_34
  unfold DX2_addAct at hD
  refine lv_iload_n C.1.1 C.1.2.1 dX2_addAct_0 rfl (lv_at hl 1 rfl) ?_
  refine lv_if_ne (tgt := 6) C.1.1 C.1.2.1 dX2_addAct_1 (by decide) (fun c19 => ?_) (fun c19 => ?_)
  · replace hD := g_neg c19 hD
    refine lv_iload_n C.1.1 C.1.2.1 dX2_addAct_6 rfl (lv_at hl 2 rfl) ?_
    refine lv_iconst (v := 2) C.1.1 C.1.2.1 dX2_addAct_7 (by decide) ?_
    refine lv_icmp_eq (tgt := 22) C.1.1 C.1.2.1 dX2_addAct_8 (by decide) (fun c20 => ?_) (fun c20 => ?_)
    · replace hD := g_pos c20 hD
      exact hb22 M L _ _ ls hD hw (lv_sub hl [0, 1, 2, 3, 4, 5] rfl)
    · replace hD := g_neg c20 hD
      refine lv_aload_n C.1.1 C.1.2.1 dX2_addAct_11 rfl (lv_at hl 0 rfl) ?_
      refine lv_iload_n C.1.1 C.1.2.1 dX2_addAct_12 rfl (lv_at hl 1 rfl) ?_
      obtain ⟨r23, M21, L22, h1, hD⟩ := g_b3 hD
      refine md_cvI (As := [.int a1]) (rest := []) C hw (tX2_isMark l G ad fu k a1 M L h1 hk0) kc_2 (Ch_N0 hk0) (Ch_T0 hk0) wd_1006 cwX2_isMark ⟨Nat.le_of_ble_eq_true rfl, Nat.le_of_ble_eq_true rfl⟩ rfl hl.1 (Nat.le_of_ble_eq_true rfl) dX2_addAct_13 rfl rfl ⟨Nat.zero_le _, Nat.zero_le _⟩ rfl (fun H locs hw => ?_)
      refine lv_if_eq (tgt := 22) C.1.1 C.1.2.1 dX2_addAct_16 (by decide) (fun c24 => ?_) (fun c24 => ?_)
      · replace hD := g_pos c24 hD
        exact hb22 M21 L22 _ _ ls hD hw (lv_sub hl [0, 1, 2, 3, 4, 5] rfl)
      · replace hD := g_neg c24 hD
        refine lv_bipush (v := (-2)) C.1.1 C.1.2.1 dX2_addAct_19 (by decide) ?_
        exact mr_iret C hr hlocks hw rfl (Option.some.inj hD) dX2_addAct_21
  · replace hD := g_pos c19 hD
    refine lv_iconst (v := (-1)) C.1.1 C.1.2.1 dX2_addAct_4 (by decide) ?_
    exact mr_iret C hr hlocks hw rfl (Option.some.inj hD) dX2_addAct_5

theorem dX2_addDatum_0 : decode cX2_addDatum 0 = .ok (.aload_n 0, 1) := by decide +kernel
theorem dX2_addDatum_1 : decode cX2_addDatum 1 = .ok (.getfield 46, 3) := by decide +kernel
theorem dX2_addDatum_4 : decode cX2_addDatum 4 = .ok (.bipush 32, 2) := by decide +kernel
theorem dX2_addDatum_6 : decode cX2_addDatum 6 = .ok (.if_icmp .lt 6, 3) := by decide +kernel
theorem dX2_addDatum_9 : decode cX2_addDatum 9 = .ok (.bipush (-4), 2) := by decide +kernel
theorem dX2_addDatum_11 : decode cX2_addDatum 11 = .ok (.ireturn, 1) := by decide +kernel
theorem dX2_addDatum_12 : decode cX2_addDatum 12 = .ok (.aload_n 0, 1) := by decide +kernel
theorem dX2_addDatum_13 : decode cX2_addDatum 13 = .ok (.getfield 22, 3) := by decide +kernel
theorem dX2_addDatum_16 : decode cX2_addDatum 16 = .ok (.aload_n 0, 1) := by decide +kernel
theorem dX2_addDatum_17 : decode cX2_addDatum 17 = .ok (.getfield 46, 3) := by decide +kernel
theorem dX2_addDatum_20 : decode cX2_addDatum 20 = .ok (.iload_n 1, 1) := by decide +kernel
theorem dX2_addDatum_21 : decode cX2_addDatum 21 = .ok (.i2l, 1) := by decide +kernel
theorem dX2_addDatum_22 : decode cX2_addDatum 22 = .ok (.lastore, 1) := by decide +kernel
theorem dX2_addDatum_23 : decode cX2_addDatum 23 = .ok (.aload_n 0, 1) := by decide +kernel
theorem dX2_addDatum_24 : decode cX2_addDatum 24 = .ok (.dup, 1) := by decide +kernel
theorem dX2_addDatum_25 : decode cX2_addDatum 25 = .ok (.getfield 46, 3) := by decide +kernel
theorem dX2_addDatum_28 : decode cX2_addDatum 28 = .ok (.iconst 1, 1) := by decide +kernel
theorem dX2_addDatum_29 : decode cX2_addDatum 29 = .ok (.iadd, 1) := by decide +kernel
theorem dX2_addDatum_30 : decode cX2_addDatum 30 = .ok (.putfield 46, 3) := by decide +kernel
theorem dX2_addDatum_33 : decode cX2_addDatum 33 = .ok (.aload_n 0, 1) := by decide +kernel
theorem dX2_addDatum_34 : decode cX2_addDatum 34 = .ok (.getfield 46, 3) := by decide +kernel
theorem dX2_addDatum_37 : decode cX2_addDatum 37 = .ok (.iconst 1, 1) := by decide +kernel
theorem dX2_addDatum_38 : decode cX2_addDatum 38 = .ok (.isub, 1) := by decide +kernel
theorem dX2_addDatum_39 : decode cX2_addDatum 39 = .ok (.ireturn, 1) := by decide +kernel
theorem cwX2_addDatum : mw_cwV yX2_addDatum cX2_addDatum 2 ((some .int)) 1 := ⟨⟨wd_12, wd_1061, by decide +kernel⟩, wd_1059, wd_1060⟩
set_option maxHeartbeats 4000000 in
set_option maxRecDepth 100000 in
theorem tX2_addDatum (l : Launch) (G : mwG) (ad : Nat → Nat) (fu : Nat) (k : Nat) (a1 : Int32) (M : mwM) (L : mwL) {r0 : Int32} {M0 : mwM} {L0 : mwL} (hD : DX2_addDatum fu k a1 M L = some (r0, M0, L0)) (hk0 : isCh k) : Met l yX2_addDatum (Cond.code yX2_addDatum cX2_addDatum 2 ((some .int)) :: GT) ({ frames := 0, cells := 0, slots := 0, locals := 0 }) (mw_Pre G ad NF TF FF M L [.ref (ad k), .int a1]) (mw_Qi G ad NF TF FF (mw_eqI r0 M0 L0)) 0 0 (mw_fr G) := by
  refine mw_enter (by decide) (Nat.le_of_ble_eq_true rfl) ?_
  intro p e s m below meth c ls C hr hlocks hnm hw hl
  have hl : lv_has ls 2 [(0, .ref (ad k)), (1, .int a1)] := hl
  unfold DX2_addDatum at hD
  refine lv_aload_n C.1.1 C.1.2.1 dX2_addDatum_0 rfl (lv_at hl 0 rfl) ?_
  refine mr_getI C hw kc_2 10 (Ch_N0 hk0) (Ch_T0 hk0) wd_463 dX2_addDatum_1 (by decide) rfl ?_
  refine lv_bipush (v := 32) C.1.1 C.1.2.1 dX2_addDatum_4 (by decide) ?_
  refine lv_icmp_lt (tgt := 12) C.1.1 C.1.2.1 dX2_addDatum_6 (by decide) (fun c1 => ?_) (fun c1 => ?_)
  · replace hD := g_pos c1 hD
    refine lv_aload_n C.1.1 C.1.2.1 dX2_addDatum_12 rfl (lv_at hl 0 rfl) ?_
    refine mr_getR C hw kc_2 3 (Ch_N0 hk0) (Ch_T0 hk0) (Ch_F0_3 hk0) wd_447 dX2_addDatum_13 (by decide) rfl ?_
    refine lv_aload_n C.1.1 C.1.2.1 dX2_addDatum_16 rfl (lv_at hl 0 rfl) ?_
    refine mr_getI C hw kc_2 10 (Ch_N0 hk0) (Ch_T0 hk0) wd_463 dX2_addDatum_17 (by decide) rfl ?_
    refine lv_iload_n C.1.1 C.1.2.1 dX2_addDatum_20 rfl (lv_at hl 1 rfl) ?_
    refine lv_i2l C.1.1 C.1.2.1 dX2_addDatum_21 rfl ?_
    obtain ⟨q2, hD⟩ := g_ck hD
    obtain ⟨L3, eL3, hD⟩ := g_let hD
    refine mr_last C hw (Ch_N34 hk0) (Ch_T34 hk0) q2 dX2_addDatum_22 (fun H locs hw => ?_)
    replace hw : mw_W G ad NF TF FF M L3 H locs := by rw [eL3]; exact hw
    refine lv_aload_n C.1.1 C.1.2.1 dX2_addDatum_23 rfl (lv_at hl 0 rfl) ?_
    refine lv_dup C.1.1 C.1.2.1 dX2_addDatum_24 rfl ?_
    refine mr_getI C hw kc_2 10 (Ch_N0 hk0) (Ch_T0 hk0) wd_463 dX2_addDatum_25 (by decide) rfl ?_
    refine lv_iconst (v := 1) C.1.1 C.1.2.1 dX2_addDatum_28 (by decide) ?_
    refine lv_iadd C.1.1 C.1.2.1 dX2_addDatum_29 ?_
    obtain ⟨M4, eM4, hD⟩ := g_let hD
    refine mr_putI C hw kc_2 10 (Ch_N0 hk0) (Ch_T0 hk0) wd_463 dX2_addDatum_30 (by decide) rfl rfl rfl rfl (fun H locs hw => ?_)
    replace hw : mw_W G ad NF TF FF M4 L3 H locs := by rw [eM4]; exact hw
    refine lv_aload_n C.1.1 C.1.2.1 dX2_addDatum_33 rfl (lv_at hl 0 rfl) ?_
    refine mr_getI C hw kc_2 10 (Ch_N0 hk0) (Ch_T0 hk0) wd_463 dX2_addDatum_34 (by decide) rfl ?_
    refine lv_iconst (v := 1) C.1.1 C.1.2.1 dX2_addDatum_37 (by decide) ?_
    refine lv_isub C.1.1 C.1.2.1 dX2_addDatum_38 ?_
    exact mr_iret C hr hlocks hw rfl (Option.some.inj hD) dX2_addDatum_39
  · replace hD := g_neg c1 hD
    refine lv_bipush (v := (-4)) C.1.1 C.1.2.1 dX2_addDatum_9 (by decide) ?_
    exact mr_iret C hr hlocks hw rfl (Option.some.inj hD) dX2_addDatum_11

theorem dX2_setTicks_0 : decode cX2_setTicks 0 = .ok (.aload_n 0, 1) := by decide +kernel
theorem dX2_setTicks_1 : decode cX2_setTicks 1 = .ok (.iload_n 1, 1) := by decide +kernel
theorem dX2_setTicks_2 : decode cX2_setTicks 2 = .ok (.invokevirtual 72, 3) := by decide +kernel
theorem dX2_setTicks_5 : decode cX2_setTicks 5 = .ok (.ifCond .eq 6, 3) := by decide +kernel
theorem dX2_setTicks_8 : decode cX2_setTicks 8 = .ok (.bipush (-2), 2) := by decide +kernel
theorem dX2_setTicks_10 : decode cX2_setTicks 10 = .ok (.ireturn, 1) := by decide +kernel
theorem dX2_setTicks_11 : decode cX2_setTicks 11 = .ok (.aload_n 0, 1) := by decide +kernel
theorem dX2_setTicks_12 : decode cX2_setTicks 12 = .ok (.getfield 13, 3) := by decide +kernel
theorem dX2_setTicks_15 : decode cX2_setTicks 15 = .ok (.iconst 3, 1) := by decide +kernel
theorem dX2_setTicks_16 : decode cX2_setTicks 16 = .ok (.aaload, 1) := by decide +kernel
theorem dX2_setTicks_17 : decode cX2_setTicks 17 = .ok (.iload_n 1, 1) := by decide +kernel
theorem dX2_setTicks_18 : decode cX2_setTicks 18 = .ok (.iload_n 2, 1) := by decide +kernel
theorem dX2_setTicks_19 : decode cX2_setTicks 19 = .ok (.iastore, 1) := by decide +kernel
theorem dX2_setTicks_20 : decode cX2_setTicks 20 = .ok (.sipush 1000, 3) := by decide +kernel
theorem dX2_setTicks_23 : decode cX2_setTicks 23 = .ok (.iload_n 1, 1) := by decide +kernel
theorem dX2_setTicks_24 : decode cX2_setTicks 24 = .ok (.iadd, 1) := by decide +kernel
theorem dX2_setTicks_25 : decode cX2_setTicks 25 = .ok (.ireturn, 1) := by decide +kernel
theorem cwX2_setTicks : mw_cwV yX2_setTicks cX2_setTicks 3 ((some .int)) 2 := ⟨⟨wd_12, wd_1051, by decide +kernel⟩, wd_1049, wd_1050⟩
set_option maxHeartbeats 4000000 in
set_option maxRecDepth 100000 in
theorem tX2_setTicks (l : Launch) (G : mwG) (ad : Nat → Nat) (fu : Nat) (k : Nat) (a1 : Int32) (a2 : Int32) (M : mwM) (L : mwL) {r0 : Int32} {M0 : mwM} {L0 : mwL} (hD : DX2_setTicks fu k a1 a2 M L = some (r0, M0, L0)) (hk0 : isCh k) : Met l yX2_setTicks (Cond.code yX2_setTicks cX2_setTicks 3 ((some .int)) :: GT) ({ frames := 1, cells := 0, slots := 0, locals := 21 }) (mw_Pre G ad NF TF FF M L [.ref (ad k), .int a1, .int a2]) (mw_Qi G ad NF TF FF (mw_eqI r0 M0 L0)) 0 0 (mw_fr G) := by
  refine mw_enter (by decide) (Nat.le_of_ble_eq_true rfl) ?_
  intro p e s m below meth c ls C hr hlocks hnm hw hl
  have hl : lv_has ls 3 [(0, .ref (ad k)), (1, .int a1), (2, .int a2)] := hl
  unfold DX2_setTicks at hD
  refine lv_aload_n C.1.1 C.1.2.1 dX2_setTicks_0 rfl (lv_at hl 0 rfl) ?_
  refine lv_iload_n C.1.1 C.1.2.1 dX2_setTicks_1 rfl (lv_at hl 1 rfl) ?_
  obtain ⟨r3, M1, L2, h1, hD⟩ := g_b3 hD
  refine md_cvI (As := [.int a1]) (rest := []) C hw (tX2_isMark l G ad fu k a1 M L h1 hk0) kc_2 (Ch_N0 hk0) (Ch_T0 hk0) wd_1006 cwX2_isMark ⟨Nat.le_of_ble_eq_true rfl, Nat.le_of_ble_eq_true rfl⟩ rfl hl.1 (Nat.le_of_ble_eq_true rfl) dX2_setTicks_2 rfl rfl ⟨Nat.zero_le _, Nat.zero_le _⟩ rfl (fun H locs hw => ?_)
  refine lv_if_eq (tgt := 11) C.1.1 C.1.2.1 dX2_setTicks_5 (by decide) (fun c4 => ?_) (fun c4 => ?_)
  · replace hD := g_pos c4 hD
    refine lv_aload_n C.1.1 C.1.2.1 dX2_setTicks_11 rfl (lv_at hl 0 rfl) ?_
    refine mr_getR C hw kc_2 0 (Ch_N0 hk0) (Ch_T0 hk0) (Ch_F0_0 hk0) wd_444 dX2_setTicks_12 (by decide) rfl ?_
    refine lv_iconst (v := 3) C.1.1 C.1.2.1 dX2_setTicks_15 (by decide) ?_
    refine mr_aald C hw (Ch_N1 hk0) (Ch_T1 hk0) (by decide) (by decide) rfl rfl (show vp_in 3 18 from by unfold vp_in; decide) (Ch_R1 hk0 _ (by decide : 3 < 18)).1 dX2_setTicks_16 ?_
    refine lv_iload_n C.1.1 C.1.2.1 dX2_setTicks_17 rfl (lv_at hl 1 rfl) ?_
    refine lv_iload_n C.1.1 C.1.2.1 dX2_setTicks_18 rfl (lv_at hl 2 rfl) ?_
    obtain ⟨q6, hD⟩ := g_ck hD
    obtain ⟨M7, eM7, hD⟩ := g_let hD
    refine mr_iast C hw (Ch_N5 hk0) (Ch_T5 hk0) q6 dX2_setTicks_19 (fun H locs hw => ?_)
    replace hw : mw_W G ad NF TF FF M7 L2 H locs := by rw [eM7]; exact hw
    refine lv_sipush (v := 1000) C.1.1 C.1.2.1 dX2_setTicks_20 (by decide) ?_
    refine lv_iload_n C.1.1 C.1.2.1 dX2_setTicks_23 rfl (lv_at hl 1 rfl) ?_
    refine lv_iadd C.1.1 C.1.2.1 dX2_setTicks_24 ?_
    exact mr_iret C hr hlocks hw rfl (Option.some.inj hD) dX2_setTicks_25
  · replace hD := g_neg c4 hD
    refine lv_bipush (v := (-2)) C.1.1 C.1.2.1 dX2_setTicks_8 (by decide) ?_
    exact mr_iret C hr hlocks hw rfl (Option.some.inj hD) dX2_setTicks_10

theorem dX2_firstInto_0 : decode cX2_firstInto 0 = .ok (.iconst 1, 1) := by decide +kernel
theorem dX2_firstInto_1 : decode cX2_firstInto 1 = .ok (.istore_n 2, 1) := by decide +kernel
theorem dX2_firstInto_2 : decode cX2_firstInto 2 = .ok (.iload_n 2, 1) := by decide +kernel
theorem dX2_firstInto_3 : decode cX2_firstInto 3 = .ok (.aload_n 0, 1) := by decide +kernel
theorem dX2_firstInto_4 : decode cX2_firstInto 4 = .ok (.getfield 40, 3) := by decide +kernel
theorem dX2_firstInto_7 : decode cX2_firstInto 7 = .ok (.if_icmp .gt 30, 3) := by decide +kernel
theorem dX2_firstInto_10 : decode cX2_firstInto 10 = .ok (.aload_n 0, 1) := by decide +kernel
theorem dX2_firstInto_11 : decode cX2_firstInto 11 = .ok (.getfield 16, 3) := by decide +kernel
theorem dX2_firstInto_14 : decode cX2_firstInto 14 = .ok (.iconst 1, 1) := by decide +kernel
theorem dX2_firstInto_15 : decode cX2_firstInto 15 = .ok (.aaload, 1) := by decide +kernel
theorem dX2_firstInto_16 : decode cX2_firstInto 16 = .ok (.iload_n 2, 1) := by decide +kernel
theorem dX2_firstInto_17 : decode cX2_firstInto 17 = .ok (.iaload, 1) := by decide +kernel
theorem dX2_firstInto_18 : decode cX2_firstInto 18 = .ok (.iload_n 1, 1) := by decide +kernel
theorem dX2_firstInto_19 : decode cX2_firstInto 19 = .ok (.if_icmp .ne 12, 3) := by decide +kernel
theorem dX2_firstInto_22 : decode cX2_firstInto 22 = .ok (.aload_n 0, 1) := by decide +kernel
theorem dX2_firstInto_23 : decode cX2_firstInto 23 = .ok (.getfield 16, 3) := by decide +kernel
theorem dX2_firstInto_26 : decode cX2_firstInto 26 = .ok (.iconst 0, 1) := by decide +kernel
theorem dX2_firstInto_27 : decode cX2_firstInto 27 = .ok (.aaload, 1) := by decide +kernel
theorem dX2_firstInto_28 : decode cX2_firstInto 28 = .ok (.iload_n 2, 1) := by decide +kernel
theorem dX2_firstInto_29 : decode cX2_firstInto 29 = .ok (.iaload, 1) := by decide +kernel
theorem dX2_firstInto_30 : decode cX2_firstInto 30 = .ok (.ireturn, 1) := by decide +kernel
theorem dX2_firstInto_31 : decode cX2_firstInto 31 = .ok (.iinc 2 1, 3) := by decide +kernel
theorem dX2_firstInto_34 : decode cX2_firstInto 34 = .ok (.goto (-32), 3) := by decide +kernel
theorem dX2_firstInto_37 : decode cX2_firstInto 37 = .ok (.iload_n 1, 1) := by decide +kernel
theorem dX2_firstInto_38 : decode cX2_firstInto 38 = .ok (.ireturn, 1) := by decide +kernel
theorem cwX2_firstInto : mw_cwV yX2_firstInto cX2_firstInto 3 ((some .int)) 1 := ⟨⟨wd_12, wd_1223, by decide +kernel⟩, wd_1222, sl_61⟩
set_option maxHeartbeats 4000000 in
set_option maxRecDepth 100000 in
theorem tX2_firstInto (l : Launch) (G : mwG) (ad : Nat → Nat) (fu : Nat) (k : Nat) (a1 : Int32) (M : mwM) (L : mwL) {r0 : Int32} {M0 : mwM} {L0 : mwL} (hD : DX2_firstInto fu k a1 M L = some (r0, M0, L0)) (hk0 : isCh k) : Met l yX2_firstInto (Cond.code yX2_firstInto cX2_firstInto 3 ((some .int)) :: GT) ({ frames := 0, cells := 0, slots := 0, locals := 0 }) (mw_Pre G ad NF TF FF M L [.ref (ad k), .int a1]) (mw_Qi G ad NF TF FF (mw_eqI r0 M0 L0)) 0 0 (mw_fr G) := by
  refine mw_enter (by decide) (Nat.le_of_ble_eq_true rfl) ?_
  intro p e s m below meth c ls C hr hlocks hnm hw hl
  have hl : lv_has ls 3 [(0, .ref (ad k)), (1, .int a1)] := hl
  have hh2 : ∀ (f : Nat) (v2 : Int32) (M : mwM) (L : mwL) (H : Heap) (locs : List Loc) (ls : Array Slot), fX2_firstInto_h2 fu k a1 f (v2, M, L) = some (r0, M0, L0) → mw_W G ad NF TF FF M L H locs → lv_has ls 3 [(0, .ref (ad k)), (1, .int a1), (2, .int v2)] → W p l e ({ frames := 0, cells := 0, slots := 0, locals := 0 }) s m [.ref (ad k), .int a1].toArray below meth c H locs 0 0 (MQ below (mw_Qi G ad NF TF FF (mw_eqI r0 M0 L0)) [.ref (ad k), .int a1].toArray s 0 0 (mw_fr G)) (F0 m 2 ls []) := by
    intro f
    induction f with
    | zero => intro v2 M L H locs ls hD; cases hD
    | succ f2 ih2 =>
      intro v2 M L H locs ls hD hw hl
      replace hD : fX2_firstInto_i2 fu k a1 (fX2_firstInto_h2 fu k a1 f2) v2 M L = some (r0, M0, L0) := hD
      unfold fX2_firstInto_i2 at hD
      refine lv_iload_n C.1.1 C.1.2.1 dX2_firstInto_2 rfl (lv_at hl 2 rfl) ?_
      refine lv_aload_n C.1.1 C.1.2.1 dX2_firstInto_3 rfl (lv_at hl 0 rfl) ?_
      refine mr_getI C hw kc_2 8 (Ch_N0 hk0) (Ch_T0 hk0) wd_460 dX2_firstInto_4 (by decide) rfl ?_
      refine lv_icmp_gt (tgt := 37) C.1.1 C.1.2.1 dX2_firstInto_7 (by decide) (fun c1 => ?_) (fun c1 => ?_)
      · replace hD := g_pos c1 hD
        refine lv_iload_n C.1.1 C.1.2.1 dX2_firstInto_37 rfl (lv_at hl 1 rfl) ?_
        exact mr_iret C hr hlocks hw rfl (Option.some.inj hD) dX2_firstInto_38
      · replace hD := g_neg c1 hD
        refine lv_aload_n C.1.1 C.1.2.1 dX2_firstInto_10 rfl (lv_at hl 0 rfl) ?_
        refine mr_getR C hw kc_2 1 (Ch_N0 hk0) (Ch_T0 hk0) (Ch_F0_1 hk0) wd_445 dX2_firstInto_11 (by decide) rfl ?_
        refine lv_iconst (v := 1) C.1.1 C.1.2.1 dX2_firstInto_14 (by decide) ?_
        refine mr_aald C hw (Ch_N20 hk0) (Ch_T20 hk0) (by decide) (by decide) rfl rfl (show vp_in 1 7 from by unfold vp_in; decide) (Ch_R20 hk0 _ (by decide : 1 < 7)).1 dX2_firstInto_15 ?_
        refine lv_iload_n C.1.1 C.1.2.1 dX2_firstInto_16 rfl (lv_at hl 2 rfl) ?_
        obtain ⟨q3, hD⟩ := g_ck hD
        refine mr_iald C hw (Ch_N22 hk0) (Ch_T22 hk0) q3 dX2_firstInto_17 ?_
        refine lv_iload_n C.1.1 C.1.2.1 dX2_firstInto_18 rfl (lv_at hl 1 rfl) ?_
        refine lv_icmp_ne (tgt := 31) C.1.1 C.1.2.1 dX2_firstInto_19 (by decide) (fun c4 => ?_) (fun c4 => ?_)
        · replace hD := g_neg c4 hD
          obtain ⟨x5, ex5, hD⟩ := g_let hD
          refine lv_iinc (v := x5) (lv' := [(2, .int x5), (0, .ref (ad k)), (1, .int a1)]) C.1.1 C.1.2.1 dX2_firstInto_31 hl (k := 2) rfl (by rw [ex5]; rfl) (by decide) rfl (fun ls hl => ?_)
          refine lv_goto (tgt := 2) C.1.1 C.1.2.1 dX2_firstInto_34 (by decide) ?_
          exact ih2 x5 M L _ _ ls hD hw (lv_sub hl [1, 2, 0] rfl)
        · replace hD := g_pos c4 hD
          refine lv_aload_n C.1.1 C.1.2.1 dX2_firstInto_22 rfl (lv_at hl 0 rfl) ?_
          refine mr_getR C hw kc_2 1 (Ch_N0 hk0) (Ch_T0 hk0) (Ch_F0_1 hk0) wd_445 dX2_firstInto_23 (by decide) rfl ?_
          refine lv_iconst (v := 0) C.1.1 C.1.2.1 dX2_firstInto_26 (by decide) ?_
          refine mr_aald C hw (Ch_N20 hk0) (Ch_T20 hk0) (by decide) (by decide) rfl rfl (show vp_in 0 7 from by unfold vp_in; decide) (Ch_R20 hk0 _ (by decide : 0 < 7)).1 dX2_firstInto_27 ?_
          refine lv_iload_n C.1.1 C.1.2.1 dX2_firstInto_28 rfl (lv_at hl 2 rfl) ?_
          obtain ⟨q7, hD⟩ := g_ck hD
          refine mr_iald C hw (Ch_N21 hk0) (Ch_T21 hk0) q7 dX2_firstInto_29 ?_
          exact mr_iret C hr hlocks hw rfl (Option.some.inj hD) dX2_firstInto_30
  unfold DX2_firstInto at hD
  refine lv_iconst (v := 1) C.1.1 C.1.2.1 dX2_firstInto_0 (by decide) ?_
  refine lv_istore_n (lv' := [(2, .int 1), (0, .ref (ad k)), (1, .int a1)]) C.1.1 C.1.2.1 dX2_firstInto_1 rfl hl (by decide) rfl (fun ls hl => ?_)
  exact hh2 fu 1 M L _ _ ls hD hw (lv_sub hl [1, 2, 0] rfl)

theorem dX2_isIn_0 : decode cX2_isIn 0 = .ok (.iload_n 1, 1) := by decide +kernel
theorem dX2_isIn_1 : decode cX2_isIn 1 = .ok (.istore_n 3, 1) := by decide +kernel
theorem dX2_isIn_2 : decode cX2_isIn 2 = .ok (.iconst 0, 1) := by decide +kernel
theorem dX2_isIn_3 : decode cX2_isIn 3 = .ok (.istore 4, 2) := by decide +kernel
theorem dX2_isIn_5 : decode cX2_isIn 5 = .ok (.iload 4, 2) := by decide +kernel
theorem dX2_isIn_7 : decode cX2_isIn 7 = .ok (.bipush 40, 2) := by decide +kernel
theorem dX2_isIn_9 : decode cX2_isIn 9 = .ok (.if_icmp .gt 29, 3) := by decide +kernel
theorem dX2_isIn_12 : decode cX2_isIn 12 = .ok (.iload_n 3, 1) := by decide +kernel
theorem dX2_isIn_13 : decode cX2_isIn 13 = .ok (.ifCond .eq 25, 3) := by decide +kernel
theorem dX2_isIn_16 : decode cX2_isIn 16 = .ok (.aload_n 0, 1) := by decide +kernel
theorem dX2_isIn_17 : decode cX2_isIn 17 = .ok (.getfield 13, 3) := by decide +kernel
theorem dX2_isIn_20 : decode cX2_isIn 20 = .ok (.iconst 0, 1) := by decide +kernel
theorem dX2_isIn_21 : decode cX2_isIn 21 = .ok (.aaload, 1) := by decide +kernel
theorem dX2_isIn_22 : decode cX2_isIn 22 = .ok (.iload_n 3, 1) := by decide +kernel
theorem dX2_isIn_23 : decode cX2_isIn 23 = .ok (.iaload, 1) := by decide +kernel
theorem dX2_isIn_24 : decode cX2_isIn 24 = .ok (.istore_n 3, 1) := by decide +kernel
theorem dX2_isIn_25 : decode cX2_isIn 25 = .ok (.iload_n 3, 1) := by decide +kernel
theorem dX2_isIn_26 : decode cX2_isIn 26 = .ok (.iload_n 2, 1) := by decide +kernel
theorem dX2_isIn_27 : decode cX2_isIn 27 = .ok (.if_icmp .ne 5, 3) := by decide +kernel
theorem dX2_isIn_30 : decode cX2_isIn 30 = .ok (.iconst 1, 1) := by decide +kernel
theorem dX2_isIn_31 : decode cX2_isIn 31 = .ok (.ireturn, 1) := by decide +kernel
theorem dX2_isIn_32 : decode cX2_isIn 32 = .ok (.iinc 4 1, 3) := by decide +kernel
theorem dX2_isIn_35 : decode cX2_isIn 35 = .ok (.goto (-30), 3) := by decide +kernel
theorem dX2_isIn_38 : decode cX2_isIn 38 = .ok (.iconst 0, 1) := by decide +kernel
theorem dX2_isIn_39 : decode cX2_isIn 39 = .ok (.ireturn, 1) := by decide +kernel
theorem cwX2_isIn : mw_cwV yX2_isIn cX2_isIn 5 ((some .boolean)) 2 := ⟨⟨wd_12, wd_1231, by decide +kernel⟩, wd_1230, sl_63⟩
set_option maxHeartbeats 4000000 in
set_option maxRecDepth 100000 in
theorem tX2_isIn (l : Launch) (G : mwG) (ad : Nat → Nat) (fu : Nat) (k : Nat) (a1 : Int32) (a2 : Int32) (M : mwM) (L : mwL) {r0 : Int32} {M0 : mwM} {L0 : mwL} (hD : DX2_isIn fu k a1 a2 M L = some (r0, M0, L0)) (hk0 : isCh k) : Met l yX2_isIn (Cond.code yX2_isIn cX2_isIn 5 ((some .boolean)) :: GT) ({ frames := 0, cells := 0, slots := 0, locals := 0 }) (mw_Pre G ad NF TF FF M L [.ref (ad k), .int a1, .int a2]) (mw_Qi G ad NF TF FF (mw_eqI r0 M0 L0)) 0 0 (mw_fr G) := by
  refine mw_enter (by decide) (Nat.le_of_ble_eq_true rfl) ?_
  intro p e s m below meth c ls C hr hlocks hnm hw hl
  have hl : lv_has ls 5 [(0, .ref (ad k)), (1, .int a1), (2, .int a2)] := hl
  have hb38 : ∀ (M : mwM) (L : mwL) (H : Heap) (locs : List Loc) (ls : Array Slot), fX2_isIn_b38 fu k a1 a2 M L = some (r0, M0, L0) → mw_W G ad NF TF FF M L H locs → lv_has ls 5 [] → W p l e ({ frames := 0, cells := 0, slots := 0, locals := 0 }) s m [.ref (ad k), .int a1, .int a2].toArray below meth c H locs 0 0 (MQ below (mw_Qi G ad NF TF FF (mw_eqI r0 M0 L0)) [.ref (ad k), .int a1, .int a2].toArray s 0 0 (mw_fr G)) (F0 m 38 ls []) := by
    intro M L H locs ls hD hw hl
    unfold fX2_isIn_b38 at hD
    refine lv_iconst (v := 0) C.1.1 C.1.2.1 dX2_isIn_38 (by decide) ?_
    exact mr_iret C hr hlocks hw (by decide +kernel) (Option.some.inj hD) dX2_isIn_39
  have hh5 : ∀ (f : Nat) (v3 : Int32) (v4 : Int32) (M : mwM) (L : mwL) (H : Heap) (locs : List Loc) (ls : Array Slot), fX2_isIn_h5 fu k a1 a2 f (v3, v4, M, L) = some (r0, M0, L0) → mw_W G ad NF TF FF M L H locs → lv_has ls 5 [(0, .ref (ad k)), (2, .int a2), (3, .int v3), (4, .int v4)] → W p l e ({ frames := 0, cells := 0, slots := 0, locals := 0 }) s m [.ref (ad k), .int a1, .int a2].toArray below meth c H locs 0 0 (MQ below (mw_Qi G ad NF TF FF (mw_eqI r0 M0 L0)) [.ref (ad k), .int a1, .int a2].toArray s 0 0 (mw_fr G)) (F0 m 5 ls []) := by
    intro f
    induction f with
    | zero => intro v3 v4 M L H locs ls hD; cases hD
    | succ f5 ih5 =>
      intro v3 v4 M L H locs ls hD hw hl
      replace hD : fX2_isIn_i5 fu k a1 a2 (fX2_isIn_h5 fu k a1 a2 f5) v3 v4 M L = some (r0, M0, L0) := hD
      unfold fX2_isIn_i5 at hD
      refine lv_iload C.1.1 C.1.2.1 dX2_isIn_5 (lv_at hl 3 rfl) ?_
      refine lv_bipush (v := 40) C.1.1 C.1.2.1 dX2_isIn_7 (by decide) ?_
      refine lv_icmp_gt (tgt := 38) C.1.1 C.1.2.1 dX2_isIn_9 (by decide) (fun c1 => ?_) (fun c1 => ?_)
      · replace hD := g_pos c1 hD
        exact hb38 M L _ _ ls hD hw (lv_sub hl [] rfl)
      · replace hD := g_neg c1 hD
        refine lv_iload_n C.1.1 C.1.2.1 dX2_isIn_12 rfl (lv_at hl 2 rfl) ?_
        refine lv_if_eq (tgt := 38) C.1.1 C.1.2.1 dX2_isIn_13 (by decide) (fun c2 => ?_) (fun c2 => ?_)
        · replace hD := g_pos c2 hD
          exact hb38 M L _ _ ls hD hw (lv_sub hl [] rfl)
        · replace hD := g_neg c2 hD
          refine lv_aload_n C.1.1 C.1.2.1 dX2_isIn_16 rfl (lv_at hl 0 rfl) ?_
          refine mr_getR C hw kc_2 0 (Ch_N0 hk0) (Ch_T0 hk0) (Ch_F0_0 hk0) wd_444 dX2_isIn_17 (by decide) rfl ?_
          refine lv_iconst (v := 0) C.1.1 C.1.2.1 dX2_isIn_20 (by decide) ?_
          refine mr_aald C hw (Ch_N1 hk0) (Ch_T1 hk0) (by decide) (by decide) rfl rfl (show vp_in 0 18 from by unfold vp_in; decide) (Ch_R1 hk0 _ (by decide : 0 < 18)).1 dX2_isIn_21 ?_
          refine lv_iload_n C.1.1 C.1.2.1 dX2_isIn_22 rfl (lv_at hl 2 rfl) ?_
          obtain ⟨q4, hD⟩ := g_ck hD
          refine mr_iald C hw (Ch_N2 hk0) (Ch_T2 hk0) q4 dX2_isIn_23 ?_
          obtain ⟨x5, ex5, hD⟩ := g_let hD
          refine W.eq (g2 := F0 m 24 ls (.int x5 :: [])) (by rw [ex5]) ?_
          refine lv_istore_n (lv' := [(3, .int x5), (0, .ref (ad k)), (2, .int a2), (4, .int v4)]) C.1.1 C.1.2.1 dX2_isIn_24 rfl hl (by decide) rfl (fun ls hl => ?_)
          refine lv_iload_n C.1.1 C.1.2.1 dX2_isIn_25 rfl (lv_at hl 0 rfl) ?_
          refine lv_iload_n C.1.1 C.1.2.1 dX2_isIn_26 rfl (lv_at hl 2 rfl) ?_
          refine lv_icmp_ne (tgt := 32) C.1.1 C.1.2.1 dX2_isIn_27 (by decide) (fun c6 => ?_) (fun c6 => ?_)
          · replace hD := g_neg c6 hD
            obtain ⟨x7, ex7, hD⟩ := g_let hD
            refine lv_iinc (v := x7) (lv' := [(4, .int x7), (3, .int x5), (0, .ref (ad k)), (2, .int a2)]) C.1.1 C.1.2.1 dX2_isIn_32 hl (k := 3) rfl (by rw [ex7]; rfl) (by decide) rfl (fun ls hl => ?_)
            refine lv_goto (tgt := 5) C.1.1 C.1.2.1 dX2_isIn_35 (by decide) ?_
            exact ih5 x5 x7 M L _ _ ls hD hw (lv_sub hl [2, 3, 1, 0] rfl)
          · replace hD := g_pos c6 hD
            refine lv_iconst (v := 1) C.1.1 C.1.2.1 dX2_isIn_30 (by decide) ?_
            exact mr_iret C hr hlocks hw (by decide +kernel) (Option.some.inj hD) dX2_isIn_31
  unfold DX2_isIn at hD
  refine lv_iload_n C.1.1 C.1.2.1 dX2_isIn_0 rfl (lv_at hl 1 rfl) ?_
  refine lv_istore_n (lv' := [(3, .int a1), (0, .ref (ad k)), (1, .int a1), (2, .int a2)]) C.1.1 C.1.2.1 dX2_isIn_1 rfl hl (by decide) rfl (fun ls hl => ?_)
  refine lv_iconst (v := 0) C.1.1 C.1.2.1 dX2_isIn_2 (by decide) ?_
  refine lv_istore (lv' := [(4, .int 0), (3, .int a1), (0, .ref (ad k)), (1, .int a1), (2, .int a2)]) C.1.1 C.1.2.1 dX2_isIn_3 hl (by decide) rfl (fun ls hl => ?_)
  exact hh5 fu a1 0 M L _ _ ls hD hw (lv_sub hl [2, 4, 1, 0] rfl)

theorem dX2_isAim_0 : decode cX2_isAim 0 = .ok (.aload_n 0, 1) := by decide +kernel
theorem dX2_isAim_1 : decode cX2_isAim 1 = .ok (.getfield 13, 3) := by decide +kernel
theorem dX2_isAim_4 : decode cX2_isAim 4 = .ok (.iconst 1, 1) := by decide +kernel
theorem dX2_isAim_5 : decode cX2_isAim 5 = .ok (.aaload, 1) := by decide +kernel
theorem dX2_isAim_6 : decode cX2_isAim 6 = .ok (.iload_n 1, 1) := by decide +kernel
theorem dX2_isAim_7 : decode cX2_isAim 7 = .ok (.iaload, 1) := by decide +kernel
theorem dX2_isAim_8 : decode cX2_isAim 8 = .ok (.iconst 4, 1) := by decide +kernel
theorem dX2_isAim_9 : decode cX2_isAim 9 = .ok (.if_icmp .eq 19, 3) := by decide +kernel
theorem dX2_isAim_12 : decode cX2_isAim 12 = .ok (.aload_n 0, 1) := by decide +kernel
theorem dX2_isAim_13 : decode cX2_isAim 13 = .ok (.getfield 13, 3) := by decide +kernel
theorem dX2_isAim_16 : decode cX2_isAim 16 = .ok (.iconst 1, 1) := by decide +kernel
theorem dX2_isAim_17 : decode cX2_isAim 17 = .ok (.aaload, 1) := by decide +kernel
theorem dX2_isAim_18 : decode cX2_isAim 18 = .ok (.iload_n 1, 1) := by decide +kernel
theorem dX2_isAim_19 : decode cX2_isAim 19 = .ok (.iaload, 1) := by decide +kernel
theorem dX2_isAim_20 : decode cX2_isAim 20 = .ok (.iconst 5, 1) := by decide +kernel
theorem dX2_isAim_21 : decode cX2_isAim 21 = .ok (.if_icmp .eq 7, 3) := by decide +kernel
theorem dX2_isAim_24 : decode cX2_isAim 24 = .ok (.iconst 1, 1) := by decide +kernel
theorem dX2_isAim_25 : decode cX2_isAim 25 = .ok (.goto 4, 3) := by decide +kernel
theorem dX2_isAim_28 : decode cX2_isAim 28 = .ok (.iconst 0, 1) := by decide +kernel
theorem dX2_isAim_29 : decode cX2_isAim 29 = .ok (.ireturn, 1) := by decide +kernel
theorem cwX2_isAim : mw_cwV yX2_isAim cX2_isAim 2 ((some .boolean)) 1 := ⟨⟨wd_12, wd_1235, by decide +kernel⟩, wd_1234, sl_64⟩
set_option maxHeartbeats 4000000 in
set_option maxRecDepth 100000 in
theorem tX2_isAim (l : Launch) (G : mwG) (ad : Nat → Nat) (fu : Nat) (k : Nat) (a1 : Int32) (M : mwM) (L : mwL) {r0 : Int32} {M0 : mwM} {L0 : mwL} (hD : DX2_isAim fu k a1 M L = some (r0, M0, L0)) (hk0 : isCh k) : Met l yX2_isAim (Cond.code yX2_isAim cX2_isAim 2 ((some .boolean)) :: GT) ({ frames := 0, cells := 0, slots := 0, locals := 0 }) (mw_Pre G ad NF TF FF M L [.ref (ad k), .int a1]) (mw_Qi G ad NF TF FF (mw_eqI r0 M0 L0)) 0 0 (mw_fr G) := by
  refine mw_enter (by decide) (Nat.le_of_ble_eq_true rfl) ?_
  intro p e s m below meth c ls C hr hlocks hnm hw hl
  have hl : lv_has ls 2 [(0, .ref (ad k)), (1, .int a1)] := hl
  have hb29 : ∀ (s0 : Int32) (M : mwM) (L : mwL) (H : Heap) (locs : List Loc) (ls : Array Slot), fX2_isAim_b29 fu k a1 s0 M L = some (r0, M0, L0) → mw_W G ad NF TF FF M L H locs → lv_has ls 2 [] → W p l e ({ frames := 0, cells := 0, slots := 0, locals := 0 }) s m [.ref (ad k), .int a1].toArray below meth c H locs 0 0 (MQ below (mw_Qi G ad NF TF FF (mw_eqI r0 M0 L0)) [.ref (ad k), .int a1].toArray s 0 0 (mw_fr G)) (F0 m 29 ls [.int s0]) := by
    intro s0 M L H locs ls hD hw hl
    unfold fX2_isAim_b29 at hD
    obtain ⟨z1, hD⟩ := g_zz hD
    exact mr_iret C hr hlocks hw (nz_zz z1) (Option.some.inj hD) dX2_isAim_29
  have hb28 : ∀ (M : mwM) (L : mwL) (H : Heap) (locs : List Loc) (ls : Array Slot), fX2_isAim_b28 fu k a1 M L = some (r0, M0, L0) → mw_W G ad NF TF FF M L H locs → lv_has ls 2 [] → W p l e ({ frames := 0, cells := 0, slots := 0, locals := 0 }) s m [.ref (ad k), .int a1].toArray below meth c H locs 0 0 (MQ below (mw_Qi G ad NF TF FF (mw_eqI r0 M0 L0)) [.ref (ad k), .int a1].toArray s 0 0 (mw_fr G)) (F0 m 28 ls []) := by
    intro M L H locs ls hD hw hl
    unfold fX2_isAim_b28 at hD
    refine lv_iconst (v := 0) C.1.1 C.1.2.1 dX2_isAim_28 (by decide) ?_
    exact hb29 0 M L _ _ ls hD hw (lv_sub hl [] rfl)
  unfold DX2_isAim at hD
  refine lv_aload_n C.1.1 C.1.2.1 dX2_isAim_0 rfl (lv_at hl 0 rfl) ?_
  refine mr_getR C hw kc_2 0 (Ch_N0 hk0) (Ch_T0 hk0) (Ch_F0_0 hk0) wd_444 dX2_isAim_1 (by decide) rfl ?_
  refine lv_iconst (v := 1) C.1.1 C.1.2.1 dX2_isAim_4 (by decide) ?_
  refine mr_aald C hw (Ch_N1 hk0) (Ch_T1 hk0) (by decide) (by decide) rfl rfl (show vp_in 1 18 from by unfold vp_in; decide) (Ch_R1 hk0 _ (by decide : 1 < 18)).1 dX2_isAim_5 ?_
  refine lv_iload_n C.1.1 C.1.2.1 dX2_isAim_6 rfl (lv_at hl 1 rfl) ?_
  obtain ⟨q3, hD⟩ := g_ck hD
  refine mr_iald C hw (Ch_N3 hk0) (Ch_T3 hk0) q3 dX2_isAim_7 ?_
  refine lv_iconst (v := 4) C.1.1 C.1.2.1 dX2_isAim_8 (by decide) ?_
  refine lv_icmp_eq (tgt := 28) C.1.1 C.1.2.1 dX2_isAim_9 (by decide) (fun c4 => ?_) (fun c4 => ?_)
  · replace hD := g_pos c4 hD
    exact hb28 M L _ _ ls hD hw (lv_sub hl [] rfl)
  · replace hD := g_neg c4 hD
    refine lv_aload_n C.1.1 C.1.2.1 dX2_isAim_12 rfl (lv_at hl 0 rfl) ?_
    refine mr_getR C hw kc_2 0 (Ch_N0 hk0) (Ch_T0 hk0) (Ch_F0_0 hk0) wd_444 dX2_isAim_13 (by decide) rfl ?_
    refine lv_iconst (v := 1) C.1.1 C.1.2.1 dX2_isAim_16 (by decide) ?_
    refine mr_aald C hw (Ch_N1 hk0) (Ch_T1 hk0) (by decide) (by decide) rfl rfl (show vp_in 1 18 from by unfold vp_in; decide) (Ch_R1 hk0 _ (by decide : 1 < 18)).1 dX2_isAim_17 ?_
    refine lv_iload_n C.1.1 C.1.2.1 dX2_isAim_18 rfl (lv_at hl 1 rfl) ?_
    obtain ⟨q6, hD⟩ := g_ck hD
    refine mr_iald C hw (Ch_N3 hk0) (Ch_T3 hk0) q6 dX2_isAim_19 ?_
    refine lv_iconst (v := 5) C.1.1 C.1.2.1 dX2_isAim_20 (by decide) ?_
    refine lv_icmp_eq (tgt := 28) C.1.1 C.1.2.1 dX2_isAim_21 (by decide) (fun c7 => ?_) (fun c7 => ?_)
    · replace hD := g_pos c7 hD
      exact hb28 M L _ _ ls hD hw (lv_sub hl [] rfl)
    · replace hD := g_neg c7 hD
      refine lv_iconst (v := 1) C.1.1 C.1.2.1 dX2_isAim_24 (by decide) ?_
      refine lv_goto (tgt := 29) C.1.1 C.1.2.1 dX2_isAim_25 (by decide) ?_
      exact hb29 1 M L _ _ ls hD hw (lv_sub hl [] rfl)

theorem dX2_isAround_0 : decode cX2_isAround 0 = .ok (.aload_n 0, 1) := by decide +kernel
theorem dX2_isAround_1 : decode cX2_isAround 1 = .ok (.getfield 13, 3) := by decide +kernel
theorem dX2_isAround_4 : decode cX2_isAround 4 = .ok (.iconst 1, 1) := by decide +kernel
theorem dX2_isAround_5 : decode cX2_isAround 5 = .ok (.aaload, 1) := by decide +kernel
theorem dX2_isAround_6 : decode cX2_isAround 6 = .ok (.iload_n 1, 1) := by decide +kernel
theorem dX2_isAround_7 : decode cX2_isAround 7 = .ok (.iaload, 1) := by decide +kernel
theorem dX2_isAround_8 : decode cX2_isAround 8 = .ok (.ifCond .eq 5, 3) := by decide +kernel
theorem dX2_isAround_11 : decode cX2_isAround 11 = .ok (.iconst 0, 1) := by decide +kernel
theorem dX2_isAround_12 : decode cX2_isAround 12 = .ok (.ireturn, 1) := by decide +kernel
theorem dX2_isAround_13 : decode cX2_isAround 13 = .ok (.aload_n 0, 1) := by decide +kernel
theorem dX2_isAround_14 : decode cX2_isAround 14 = .ok (.getfield 16, 3) := by decide +kernel
theorem dX2_isAround_17 : decode cX2_isAround 17 = .ok (.iconst 0, 1) := by decide +kernel
theorem dX2_isAround_18 : decode cX2_isAround 18 = .ok (.aaload, 1) := by decide +kernel
theorem dX2_isAround_19 : decode cX2_isAround 19 = .ok (.iload_n 2, 1) := by decide +kernel
theorem dX2_isAround_20 : decode cX2_isAround 20 = .ok (.iaload, 1) := by decide +kernel
theorem dX2_isAround_21 : decode cX2_isAround 21 = .ok (.istore_n 3, 1) := by decide +kernel
theorem dX2_isAround_22 : decode cX2_isAround 22 = .ok (.aload_n 0, 1) := by decide +kernel
theorem dX2_isAround_23 : decode cX2_isAround 23 = .ok (.getfield 16, 3) := by decide +kernel
theorem dX2_isAround_26 : decode cX2_isAround 26 = .ok (.iconst 1, 1) := by decide +kernel
theorem dX2_isAround_27 : decode cX2_isAround 27 = .ok (.aaload, 1) := by decide +kernel
theorem dX2_isAround_28 : decode cX2_isAround 28 = .ok (.iload_n 2, 1) := by decide +kernel
theorem dX2_isAround_29 : decode cX2_isAround 29 = .ok (.iaload, 1) := by decide +kernel
theorem dX2_isAround_30 : decode cX2_isAround 30 = .ok (.istore 4, 2) := by decide +kernel
theorem dX2_isAround_32 : decode cX2_isAround 32 = .ok (.aload_n 0, 1) := by decide +kernel
theorem dX2_isAround_33 : decode cX2_isAround 33 = .ok (.getfield 13, 3) := by decide +kernel
theorem dX2_isAround_36 : decode cX2_isAround 36 = .ok (.iconst 1, 1) := by decide +kernel
theorem dX2_isAround_37 : decode cX2_isAround 37 = .ok (.aaload, 1) := by decide +kernel
theorem dX2_isAround_38 : decode cX2_isAround 38 = .ok (.iload_n 3, 1) := by decide +kernel
theorem dX2_isAround_39 : decode cX2_isAround 39 = .ok (.iaload, 1) := by decide +kernel
theorem dX2_isAround_40 : decode cX2_isAround 40 = .ok (.iconst 5, 1) := by decide +kernel
theorem dX2_isAround_41 : decode cX2_isAround 41 = .ok (.if_icmp .eq 12, 3) := by decide +kernel
theorem dX2_isAround_44 : decode cX2_isAround 44 = .ok (.aload_n 0, 1) := by decide +kernel
theorem dX2_isAround_45 : decode cX2_isAround 45 = .ok (.iload_n 3, 1) := by decide +kernel
theorem dX2_isAround_46 : decode cX2_isAround 46 = .ok (.iload_n 1, 1) := by decide +kernel
theorem dX2_isAround_47 : decode cX2_isAround 47 = .ok (.invokevirtual 88, 3) := by decide +kernel
theorem dX2_isAround_50 : decode cX2_isAround 50 = .ok (.ifCond .eq 30, 3) := by decide +kernel
theorem dX2_isAround_53 : decode cX2_isAround 53 = .ok (.aload_n 0, 1) := by decide +kernel
theorem dX2_isAround_54 : decode cX2_isAround 54 = .ok (.getfield 13, 3) := by decide +kernel
theorem dX2_isAround_57 : decode cX2_isAround 57 = .ok (.iconst 1, 1) := by decide +kernel
theorem dX2_isAround_58 : decode cX2_isAround 58 = .ok (.aaload, 1) := by decide +kernel
theorem dX2_isAround_59 : decode cX2_isAround 59 = .ok (.iload 4, 2) := by decide +kernel
theorem dX2_isAround_61 : decode cX2_isAround 61 = .ok (.iaload, 1) := by decide +kernel
theorem dX2_isAround_62 : decode cX2_isAround 62 = .ok (.iconst 4, 1) := by decide +kernel
theorem dX2_isAround_63 : decode cX2_isAround 63 = .ok (.if_icmp .eq 13, 3) := by decide +kernel
theorem dX2_isAround_66 : decode cX2_isAround 66 = .ok (.aload_n 0, 1) := by decide +kernel
theorem dX2_isAround_67 : decode cX2_isAround 67 = .ok (.iload 4, 2) := by decide +kernel
theorem dX2_isAround_69 : decode cX2_isAround 69 = .ok (.iload_n 1, 1) := by decide +kernel
theorem dX2_isAround_70 : decode cX2_isAround 70 = .ok (.invokevirtual 88, 3) := by decide +kernel
theorem dX2_isAround_73 : decode cX2_isAround 73 = .ok (.ifCond .eq 7, 3) := by decide +kernel
theorem dX2_isAround_76 : decode cX2_isAround 76 = .ok (.iconst 1, 1) := by decide +kernel
theorem dX2_isAround_77 : decode cX2_isAround 77 = .ok (.goto 4, 3) := by decide +kernel
theorem dX2_isAround_80 : decode cX2_isAround 80 = .ok (.iconst 0, 1) := by decide +kernel
theorem dX2_isAround_81 : decode cX2_isAround 81 = .ok (.istore 5, 2) := by decide +kernel
theorem dX2_isAround_83 : decode cX2_isAround 83 = .ok (.iconst 1, 1) := by decide +kernel
theorem dX2_isAround_84 : decode cX2_isAround 84 = .ok (.istore 6, 2) := by decide +kernel
theorem dX2_isAround_86 : decode cX2_isAround 86 = .ok (.iload 6, 2) := by decide +kernel
theorem dX2_isAround_88 : decode cX2_isAround 88 = .ok (.aload_n 0, 1) := by decide +kernel
theorem dX2_isAround_89 : decode cX2_isAround 89 = .ok (.getfield 40, 3) := by decide +kernel
theorem dX2_isAround_92 : decode cX2_isAround 92 = .ok (.if_icmp .gt 117, 3) := by decide +kernel
theorem dX2_isAround_95 : decode cX2_isAround 95 = .ok (.iload 5, 2) := by decide +kernel
theorem dX2_isAround_97 : decode cX2_isAround 97 = .ok (.ifCond .eq 112, 3) := by decide +kernel
theorem dX2_isAround_100 : decode cX2_isAround 100 = .ok (.aload_n 0, 1) := by decide +kernel
theorem dX2_isAround_101 : decode cX2_isAround 101 = .ok (.getfield 13, 3) := by decide +kernel
theorem dX2_isAround_104 : decode cX2_isAround 104 = .ok (.iconst 1, 1) := by decide +kernel
theorem dX2_isAround_105 : decode cX2_isAround 105 = .ok (.aaload, 1) := by decide +kernel
theorem dX2_isAround_106 : decode cX2_isAround 106 = .ok (.iload_n 3, 1) := by decide +kernel
theorem dX2_isAround_107 : decode cX2_isAround 107 = .ok (.iaload, 1) := by decide +kernel
theorem dX2_isAround_108 : decode cX2_isAround 108 = .ok (.iconst 5, 1) := by decide +kernel
theorem dX2_isAround_109 : decode cX2_isAround 109 = .ok (.if_icmp .ne 32, 3) := by decide +kernel
theorem dX2_isAround_112 : decode cX2_isAround 112 = .ok (.aload_n 0, 1) := by decide +kernel
theorem dX2_isAround_113 : decode cX2_isAround 113 = .ok (.getfield 16, 3) := by decide +kernel
theorem dX2_isAround_116 : decode cX2_isAround 116 = .ok (.iconst 1, 1) := by decide +kernel
theorem dX2_isAround_117 : decode cX2_isAround 117 = .ok (.aaload, 1) := by decide +kernel
theorem dX2_isAround_118 : decode cX2_isAround 118 = .ok (.iload 6, 2) := by decide +kernel
theorem dX2_isAround_120 : decode cX2_isAround 120 = .ok (.iaload, 1) := by decide +kernel
theorem dX2_isAround_121 : decode cX2_isAround 121 = .ok (.iload_n 3, 1) := by decide +kernel
theorem dX2_isAround_122 : decode cX2_isAround 122 = .ok (.if_icmp .ne 19, 3) := by decide +kernel
theorem dX2_isAround_125 : decode cX2_isAround 125 = .ok (.aload_n 0, 1) := by decide +kernel
theorem dX2_isAround_126 : decode cX2_isAround 126 = .ok (.aload_n 0, 1) := by decide +kernel
theorem dX2_isAround_127 : decode cX2_isAround 127 = .ok (.getfield 16, 3) := by decide +kernel
theorem dX2_isAround_130 : decode cX2_isAround 130 = .ok (.iconst 0, 1) := by decide +kernel
theorem dX2_isAround_131 : decode cX2_isAround 131 = .ok (.aaload, 1) := by decide +kernel
theorem dX2_isAround_132 : decode cX2_isAround 132 = .ok (.iload 6, 2) := by decide +kernel
theorem dX2_isAround_134 : decode cX2_isAround 134 = .ok (.iaload, 1) := by decide +kernel
theorem dX2_isAround_135 : decode cX2_isAround 135 = .ok (.iload_n 1, 1) := by decide +kernel
theorem dX2_isAround_136 : decode cX2_isAround 136 = .ok (.invokevirtual 88, 3) := by decide +kernel
theorem dX2_isAround_139 : decode cX2_isAround 139 = .ok (.istore 5, 2) := by decide +kernel
theorem dX2_isAround_141 : decode cX2_isAround 141 = .ok (.aload_n 0, 1) := by decide +kernel
theorem dX2_isAround_142 : decode cX2_isAround 142 = .ok (.getfield 13, 3) := by decide +kernel
theorem dX2_isAround_145 : decode cX2_isAround 145 = .ok (.iconst 1, 1) := by decide +kernel
theorem dX2_isAround_146 : decode cX2_isAround 146 = .ok (.aaload, 1) := by decide +kernel
theorem dX2_isAround_147 : decode cX2_isAround 147 = .ok (.iload 4, 2) := by decide +kernel
theorem dX2_isAround_149 : decode cX2_isAround 149 = .ok (.iaload, 1) := by decide +kernel
theorem dX2_isAround_150 : decode cX2_isAround 150 = .ok (.iconst 4, 1) := by decide +kernel
theorem dX2_isAround_151 : decode cX2_isAround 151 = .ok (.if_icmp .ne 52, 3) := by decide +kernel
theorem dX2_isAround_154 : decode cX2_isAround 154 = .ok (.aload_n 0, 1) := by decide +kernel
theorem dX2_isAround_155 : decode cX2_isAround 155 = .ok (.getfield 16, 3) := by decide +kernel
theorem dX2_isAround_158 : decode cX2_isAround 158 = .ok (.iconst 0, 1) := by decide +kernel
theorem dX2_isAround_159 : decode cX2_isAround 159 = .ok (.aaload, 1) := by decide +kernel
theorem dX2_isAround_160 : decode cX2_isAround 160 = .ok (.iload 6, 2) := by decide +kernel
theorem dX2_isAround_162 : decode cX2_isAround 162 = .ok (.iaload, 1) := by decide +kernel
theorem dX2_isAround_163 : decode cX2_isAround 163 = .ok (.iload 4, 2) := by decide +kernel
theorem dX2_isAround_165 : decode cX2_isAround 165 = .ok (.if_icmp .ne 38, 3) := by decide +kernel
theorem dX2_isAround_168 : decode cX2_isAround 168 = .ok (.aload_n 0, 1) := by decide +kernel
theorem dX2_isAround_169 : decode cX2_isAround 169 = .ok (.aload_n 0, 1) := by decide +kernel
theorem dX2_isAround_170 : decode cX2_isAround 170 = .ok (.getfield 16, 3) := by decide +kernel
theorem dX2_isAround_173 : decode cX2_isAround 173 = .ok (.iconst 1, 1) := by decide +kernel
theorem dX2_isAround_174 : decode cX2_isAround 174 = .ok (.aaload, 1) := by decide +kernel
theorem dX2_isAround_175 : decode cX2_isAround 175 = .ok (.iload 6, 2) := by decide +kernel
theorem dX2_isAround_177 : decode cX2_isAround 177 = .ok (.iaload, 1) := by decide +kernel
theorem dX2_isAround_178 : decode cX2_isAround 178 = .ok (.invokevirtual 91, 3) := by decide +kernel
theorem dX2_isAround_181 : decode cX2_isAround 181 = .ok (.ifCond .eq 22, 3) := by decide +kernel
theorem dX2_isAround_184 : decode cX2_isAround 184 = .ok (.iload 5, 2) := by decide +kernel
theorem dX2_isAround_186 : decode cX2_isAround 186 = .ok (.aload_n 0, 1) := by decide +kernel
theorem dX2_isAround_187 : decode cX2_isAround 187 = .ok (.aload_n 0, 1) := by decide +kernel
theorem dX2_isAround_188 : decode cX2_isAround 188 = .ok (.getfield 16, 3) := by decide +kernel
theorem dX2_isAround_191 : decode cX2_isAround 191 = .ok (.iconst 1, 1) := by decide +kernel
theorem dX2_isAround_192 : decode cX2_isAround 192 = .ok (.aaload, 1) := by decide +kernel
theorem dX2_isAround_193 : decode cX2_isAround 193 = .ok (.iload 6, 2) := by decide +kernel
theorem dX2_isAround_195 : decode cX2_isAround 195 = .ok (.iaload, 1) := by decide +kernel
theorem dX2_isAround_196 : decode cX2_isAround 196 = .ok (.iload_n 1, 1) := by decide +kernel
theorem dX2_isAround_197 : decode cX2_isAround 197 = .ok (.invokevirtual 88, 3) := by decide +kernel
theorem dX2_isAround_200 : decode cX2_isAround 200 = .ok (.iand, 1) := by decide +kernel
theorem dX2_isAround_201 : decode cX2_isAround 201 = .ok (.istore 5, 2) := by decide +kernel
theorem dX2_isAround_203 : decode cX2_isAround 203 = .ok (.iinc 6 1, 3) := by decide +kernel
theorem dX2_isAround_206 : decode cX2_isAround 206 = .ok (.goto (-120), 3) := by decide +kernel
theorem dX2_isAround_209 : decode cX2_isAround 209 = .ok (.iload 5, 2) := by decide +kernel
theorem dX2_isAround_211 : decode cX2_isAround 211 = .ok (.ireturn, 1) := by decide +kernel
theorem cwX2_isAround : mw_cwV yX2_isAround cX2_isAround 7 ((some .boolean)) 2 := ⟨⟨wd_12, wd_1227, by decide +kernel⟩, wd_1226, sl_62⟩
set_option maxHeartbeats 4000000 in
set_option maxRecDepth 100000 in
theorem tX2_isAround (l : Launch) (G : mwG) (ad : Nat → Nat) (fu : Nat) (k : Nat) (a1 : Int32) (a2 : Int32) (M : mwM) (L : mwL) {r0 : Int32} {M0 : mwM} {L0 : mwL} (hD : DX2_isAround fu k a1 a2 M L = some (r0, M0, L0)) (hk0 : isCh k) : Met l yX2_isAround (Cond.code yX2_isAround cX2_isAround 7 ((some .boolean)) :: GT) ({ frames := 1, cells := 0, slots := 0, locals := 24 }) (mw_Pre G ad NF TF FF M L [.ref (ad k), .int a1, .int a2]) (mw_Qi G ad NF TF FF (mw_eqI r0 M0 L0)) 0 0 (mw_fr G) := by
  refine mw_enter (by decide) (Nat.le_of_ble_eq_true rfl) ?_
  intro p e s m below meth c ls C hr hlocks hnm hw hl
  have hl : lv_has ls 7 [(0, .ref (ad k)), (1, .int a1), (2, .int a2)] := hl
  have hb209 : ∀ (v5 : Int32) (M : mwM) (L : mwL) (H : Heap) (locs : List Loc) (ls : Array Slot), fX2_isAround_b209 fu k a1 a2 v5 M L = some (r0, M0, L0) → mw_W G ad NF TF FF M L H locs → lv_has ls 7 [(5, .int v5)] → W p l e ({ frames := 1, cells := 0, slots := 0, locals := 24 }) s m [.ref (ad k), .int a1, .int a2].toArray below meth c H locs 0 0 (MQ below (mw_Qi G ad NF TF FF (mw_eqI r0 M0 L0)) [.ref (ad k), .int a1, .int a2].toArray s 0 0 (mw_fr G)) (F0 m 209 ls []) := by
    intro v5 M L H locs ls hD hw hl
    unfold fX2_isAround_b209 at hD
    refine lv_iload C.1.1 C.1.2.1 dX2_isAround_209 (lv_at hl 0 rfl) ?_
    obtain ⟨z40, hD⟩ := g_zz hD
    exact mr_iret C hr hlocks hw (nz_zz z40) (Option.some.inj hD) dX2_isAround_211
  have hh86 : ∀ (f : Nat) (v3 : Int32) (v4 : Int32) (v5 : Int32) (v6 : Int32) (M : mwM) (L : mwL) (H : Heap) (locs : List Loc) (ls : Array Slot), fX2_isAround_h86 fu k a1 a2 f (v3, v4, v5, v6, M, L) = some (r0, M0, L0) → mw_W G ad NF TF FF M L H locs → lv_has ls 7 [(0, .ref (ad k)), (1, .int a1), (3, .int v3), (4, .int v4), (5, .int v5), (6, .int v6)] → W p l e ({ frames := 1, cells := 0, slots := 0, locals := 24 }) s m [.ref (ad k), .int a1, .int a2].toArray below meth c H locs 0 0 (MQ below (mw_Qi G ad NF TF FF (mw_eqI r0 M0 L0)) [.ref (ad k), .int a1, .int a2].toArray s 0 0 (mw_fr G)) (F0 m 86 ls []) := by
    intro f
    induction f with
    | zero => intro v3 v4 v5 v6 M L H locs ls hD; cases hD
    | succ f86 ih86 =>
      intro v3 v4 v5 v6 M L H locs ls hD hw hl
      replace hD : fX2_isAround_i86 fu k a1 a2 (fX2_isAround_h86 fu k a1 a2 f86) v3 v4 v5 v6 M L = some (r0, M0, L0) := hD
      have hb203 : ∀ (v3 : Int32) (v4 : Int32) (v5 : Int32) (v6 : Int32) (M : mwM) (L : mwL) (H : Heap) (locs : List Loc) (ls : Array Slot), fX2_isAround_b203 fu k a1 a2 (fX2_isAround_h86 fu k a1 a2 f86) v3 v4 v5 v6 M L = some (r0, M0, L0) → mw_W G ad NF TF FF M L H locs → lv_has ls 7 [(0, .ref (ad k)), (1, .int a1), (3, .int v3), (4, .int v4), (5, .int v5), (6, .int v6)] → W p l e ({ frames := 1, cells := 0, slots := 0, locals := 24 }) s m [.ref (ad k), .int a1, .int a2].toArray below meth c H locs 0 0 (MQ below (mw_Qi G ad NF TF FF (mw_eqI r0 M0 L0)) [.ref (ad k), .int a1, .int a2].toArray s 0 0 (mw_fr G)) (F0 m 203 ls []) := by
        intro v3 v4 v5 v6 M L H locs ls hD hw hl
        unfold fX2_isAround_b203 at hD
        obtain ⟨x39, ex39, hD⟩ := g_let hD
        refine lv_iinc (v := x39) (lv' := [(6, .int x39), (0, .ref (ad k)), (1, .int a1), (3, .int v3), (4, .int v4), (5, .int v5)]) C.1.1 C.1.2.1 dX2_isAround_203 hl (k := 5) rfl (by rw [ex39]; rfl) (by decide) rfl (fun ls hl => ?_)
        refine lv_goto (tgt := 86) C.1.1 C.1.2.1 dX2_isAround_206 (by decide) ?_
        exact ih86 v3 v4 v5 x39 M L _ _ ls hD hw (lv_sub hl [1, 2, 3, 4, 5, 0] rfl)
      have hb141 : ∀ (v3 : Int32) (v4 : Int32) (v5 : Int32) (v6 : Int32) (M : mwM) (L : mwL) (H : Heap) (locs : List Loc) (ls : Array Slot), fX2_isAround_b141 fu k a1 a2 (fX2_isAround_h86 fu k a1 a2 f86) v3 v4 v5 v6 M L = some (r0, M0, L0) → mw_W G ad NF TF FF M L H locs → lv_has ls 7 [(0, .ref (ad k)), (1, .int a1), (3, .int v3), (4, .int v4), (5, .int v5), (6, .int v6)] → W p l e ({ frames := 1, cells := 0, slots := 0, locals := 24 }) s m [.ref (ad k), .int a1, .int a2].toArray below meth c H locs 0 0 (MQ below (mw_Qi G ad NF TF FF (mw_eqI r0 M0 L0)) [.ref (ad k), .int a1, .int a2].toArray s 0 0 (mw_fr G)) (F0 m 141 ls []) := by
        intro v3 v4 v5 v6 M L H locs ls hD hw hl
        unfold fX2_isAround_b141 at hD
        refine lv_aload_n C.1.1 C.1.2.1 dX2_isAround_141 rfl (lv_at hl 0 rfl) ?_
        refine mr_getR C hw kc_2 0 (Ch_N0 hk0) (Ch_T0 hk0) (Ch_F0_0 hk0) wd_444 dX2_isAround_142 (by decide) rfl ?_
        refine lv_iconst (v := 1) C.1.1 C.1.2.1 dX2_isAround_145 (by decide) ?_
        refine mr_aald C hw (Ch_N1 hk0) (Ch_T1 hk0) (by decide) (by decide) rfl rfl (show vp_in 1 18 from by unfold vp_in; decide) (Ch_R1 hk0 _ (by decide : 1 < 18)).1 dX2_isAround_146 ?_
        refine lv_iload C.1.1 C.1.2.1 dX2_isAround_147 (lv_at hl 3 rfl) ?_
        obtain ⟨q22, hD⟩ := g_ck hD
        refine mr_iald C hw (Ch_N3 hk0) (Ch_T3 hk0) q22 dX2_isAround_149 ?_
        refine lv_iconst (v := 4) C.1.1 C.1.2.1 dX2_isAround_150 (by decide) ?_
        refine lv_icmp_ne (tgt := 203) C.1.1 C.1.2.1 dX2_isAround_151 (by decide) (fun c23 => ?_) (fun c23 => ?_)
        · replace hD := g_neg c23 hD
          exact hb203 v3 v4 v5 v6 M L _ _ ls hD hw (lv_sub hl [0, 1, 2, 3, 4, 5] rfl)
        · replace hD := g_pos c23 hD
          refine lv_aload_n C.1.1 C.1.2.1 dX2_isAround_154 rfl (lv_at hl 0 rfl) ?_
          refine mr_getR C hw kc_2 1 (Ch_N0 hk0) (Ch_T0 hk0) (Ch_F0_1 hk0) wd_445 dX2_isAround_155 (by decide) rfl ?_
          refine lv_iconst (v := 0) C.1.1 C.1.2.1 dX2_isAround_158 (by decide) ?_
          refine mr_aald C hw (Ch_N20 hk0) (Ch_T20 hk0) (by decide) (by decide) rfl rfl (show vp_in 0 7 from by unfold vp_in; decide) (Ch_R20 hk0 _ (by decide : 0 < 7)).1 dX2_isAround_159 ?_
          refine lv_iload C.1.1 C.1.2.1 dX2_isAround_160 (lv_at hl 5 rfl) ?_
          obtain ⟨q25, hD⟩ := g_ck hD
          refine mr_iald C hw (Ch_N21 hk0) (Ch_T21 hk0) q25 dX2_isAround_162 ?_
          refine lv_iload C.1.1 C.1.2.1 dX2_isAround_163 (lv_at hl 3 rfl) ?_
          refine lv_icmp_ne (tgt := 203) C.1.1 C.1.2.1 dX2_isAround_165 (by decide) (fun c26 => ?_) (fun c26 => ?_)
          · replace hD := g_neg c26 hD
            exact hb203 v3 v4 v5 v6 M L _ _ ls hD hw (lv_sub hl [0, 1, 2, 3, 4, 5] rfl)
          · replace hD := g_pos c26 hD
            refine lv_aload_n C.1.1 C.1.2.1 dX2_isAround_168 rfl (lv_at hl 0 rfl) ?_
            refine lv_aload_n C.1.1 C.1.2.1 dX2_isAround_169 rfl (lv_at hl 0 rfl) ?_
            refine mr_getR C hw kc_2 1 (Ch_N0 hk0) (Ch_T0 hk0) (Ch_F0_1 hk0) wd_445 dX2_isAround_170 (by decide) rfl ?_
            refine lv_iconst (v := 1) C.1.1 C.1.2.1 dX2_isAround_173 (by decide) ?_
            refine mr_aald C hw (Ch_N20 hk0) (Ch_T20 hk0) (by decide) (by decide) rfl rfl (show vp_in 1 7 from by unfold vp_in; decide) (Ch_R20 hk0 _ (by decide : 1 < 7)).1 dX2_isAround_174 ?_
            refine lv_iload C.1.1 C.1.2.1 dX2_isAround_175 (lv_at hl 5 rfl) ?_
            obtain ⟨q28, hD⟩ := g_ck hD
            refine mr_iald C hw (Ch_N22 hk0) (Ch_T22 hk0) q28 dX2_isAround_177 ?_
            obtain ⟨r31, M29, L30, h1, hD⟩ := g_b3 hD
            refine md_cvI (As := [.int (M (k + 22) v6.toNatClampNeg)]) (rest := []) C hw (tX2_isAim l G ad fu k (M (k + 22) v6.toNatClampNeg) M L h1 hk0) kc_2 (Ch_N0 hk0) (Ch_T0 hk0) wd_1232 cwX2_isAim ⟨Nat.le_of_ble_eq_true rfl, Nat.le_of_ble_eq_true rfl⟩ rfl hl.1 (Nat.le_of_ble_eq_true rfl) dX2_isAround_178 rfl rfl ⟨Nat.zero_le _, Nat.zero_le _⟩ rfl (fun H locs hw => ?_)
            refine lv_if_eq (tgt := 203) C.1.1 C.1.2.1 dX2_isAround_181 (by decide) (fun c32 => ?_) (fun c32 => ?_)
            · replace hD := g_pos c32 hD
              exact hb203 v3 v4 v5 v6 M29 L30 _ _ ls hD hw (lv_sub hl [0, 1, 2, 3, 4, 5] rfl)
            · replace hD := g_neg c32 hD
              refine lv_iload C.1.1 C.1.2.1 dX2_isAround_184 (lv_at hl 4 rfl) ?_
              refine lv_aload_n C.1.1 C.1.2.1 dX2_isAround_186 rfl (lv_at hl 0 rfl) ?_
              refine lv_aload_n C.1.1 C.1.2.1 dX2_isAround_187 rfl (lv_at hl 0 rfl) ?_
              refine mr_getR C hw kc_2 1 (Ch_N0 hk0) (Ch_T0 hk0) (Ch_F0_1 hk0) wd_445 dX2_isAround_188 (by decide) rfl ?_
              refine lv_iconst (v := 1) C.1.1 C.1.2.1 dX2_isAround_191 (by decide) ?_
              refine mr_aald C hw (Ch_N20 hk0) (Ch_T20 hk0) (by decide) (by decide) rfl rfl (show vp_in 1 7 from by unfold vp_in; decide) (Ch_R20 hk0 _ (by decide : 1 < 7)).1 dX2_isAround_192 ?_
              refine lv_iload C.1.1 C.1.2.1 dX2_isAround_193 (lv_at hl 5 rfl) ?_
              obtain ⟨q34, hD⟩ := g_ck hD
              refine mr_iald C hw (Ch_N22 hk0) (Ch_T22 hk0) q34 dX2_isAround_195 ?_
              refine lv_iload_n C.1.1 C.1.2.1 dX2_isAround_196 rfl (lv_at hl 1 rfl) ?_
              obtain ⟨r37, M35, L36, h1, hD⟩ := g_b3 hD
              refine md_cvI (As := [.int (M29 (k + 22) v6.toNatClampNeg), .int a1]) (rest := [.int v5]) C hw (tX2_isIn l G ad fu k (M29 (k + 22) v6.toNatClampNeg) a1 M29 L30 h1 hk0) kc_2 (Ch_N0 hk0) (Ch_T0 hk0) wd_1228 cwX2_isIn ⟨Nat.le_of_ble_eq_true rfl, Nat.le_of_ble_eq_true rfl⟩ rfl hl.1 (Nat.le_of_ble_eq_true rfl) dX2_isAround_197 rfl rfl ⟨Nat.zero_le _, Nat.zero_le _⟩ rfl (fun H locs hw => ?_)
              refine lv_iand C.1.1 C.1.2.1 dX2_isAround_200 ?_
              obtain ⟨x38, ex38, hD⟩ := g_let hD
              refine W.eq (g2 := F0 m 201 ls (.int x38 :: [])) (by rw [ex38]) ?_
              refine lv_istore (lv' := [(5, .int x38), (0, .ref (ad k)), (1, .int a1), (3, .int v3), (4, .int v4), (6, .int v6)]) C.1.1 C.1.2.1 dX2_isAround_201 hl (by decide) rfl (fun ls hl => ?_)
              exact hb203 v3 v4 x38 v6 M35 L36 _ _ ls hD hw (lv_sub hl [1, 2, 3, 4, 0, 5] rfl)
      unfold fX2_isAround_i86 at hD
      refine lv_iload C.1.1 C.1.2.1 dX2_isAround_86 (lv_at hl 5 rfl) ?_
      refine lv_aload_n C.1.1 C.1.2.1 dX2_isAround_88 rfl (lv_at hl 0 rfl) ?_
      refine mr_getI C hw kc_2 8 (Ch_N0 hk0) (Ch_T0 hk0) wd_460 dX2_isAround_89 (by decide) rfl ?_
      refine lv_icmp_gt (tgt := 209) C.1.1 C.1.2.1 dX2_isAround_92 (by decide) (fun c8 => ?_) (fun c8 => ?_)
      · replace hD := g_pos c8 hD
        exact hb209 v5 M L _ _ ls hD hw (lv_sub hl [4] rfl)
      · replace hD := g_neg c8 hD
        refine lv_iload C.1.1 C.1.2.1 dX2_isAround_95 (lv_at hl 4 rfl) ?_
        refine lv_if_eq (tgt := 209) C.1.1 C.1.2.1 dX2_isAround_97 (by decide) (fun c9 => ?_) (fun c9 => ?_)
        · replace hD := g_pos c9 hD
          exact hb209 v5 M L _ _ ls hD hw (lv_sub hl [4] rfl)
        · replace hD := g_neg c9 hD
          refine lv_aload_n C.1.1 C.1.2.1 dX2_isAround_100 rfl (lv_at hl 0 rfl) ?_
          refine mr_getR C hw kc_2 0 (Ch_N0 hk0) (Ch_T0 hk0) (Ch_F0_0 hk0) wd_444 dX2_isAround_101 (by decide) rfl ?_
          refine lv_iconst (v := 1) C.1.1 C.1.2.1 dX2_isAround_104 (by decide) ?_
          refine mr_aald C hw (Ch_N1 hk0) (Ch_T1 hk0) (by decide) (by decide) rfl rfl (show vp_in 1 18 from by unfold vp_in; decide) (Ch_R1 hk0 _ (by decide : 1 < 18)).1 dX2_isAround_105 ?_
          refine lv_iload_n C.1.1 C.1.2.1 dX2_isAround_106 rfl (lv_at hl 2 rfl) ?_
          obtain ⟨q11, hD⟩ := g_ck hD
          refine mr_iald C hw (Ch_N3 hk0) (Ch_T3 hk0) q11 dX2_isAround_107 ?_
          refine lv_iconst (v := 5) C.1.1 C.1.2.1 dX2_isAround_108 (by decide) ?_
          refine lv_icmp_ne (tgt := 141) C.1.1 C.1.2.1 dX2_isAround_109 (by decide) (fun c12 => ?_) (fun c12 => ?_)
          · replace hD := g_neg c12 hD
            exact hb141 v3 v4 v5 v6 M L _ _ ls hD hw (lv_sub hl [0, 1, 2, 3, 4, 5] rfl)
          · replace hD := g_pos c12 hD
            refine lv_aload_n C.1.1 C.1.2.1 dX2_isAround_112 rfl (lv_at hl 0 rfl) ?_
            refine mr_getR C hw kc_2 1 (Ch_N0 hk0) (Ch_T0 hk0) (Ch_F0_1 hk0) wd_445 dX2_isAround_113 (by decide) rfl ?_
            refine lv_iconst (v := 1) C.1.1 C.1.2.1 dX2_isAround_116 (by decide) ?_
            refine mr_aald C hw (Ch_N20 hk0) (Ch_T20 hk0) (by decide) (by decide) rfl rfl (show vp_in 1 7 from by unfold vp_in; decide) (Ch_R20 hk0 _ (by decide : 1 < 7)).1 dX2_isAround_117 ?_
            refine lv_iload C.1.1 C.1.2.1 dX2_isAround_118 (lv_at hl 5 rfl) ?_
            obtain ⟨q14, hD⟩ := g_ck hD
            refine mr_iald C hw (Ch_N22 hk0) (Ch_T22 hk0) q14 dX2_isAround_120 ?_
            refine lv_iload_n C.1.1 C.1.2.1 dX2_isAround_121 rfl (lv_at hl 2 rfl) ?_
            refine lv_icmp_ne (tgt := 141) C.1.1 C.1.2.1 dX2_isAround_122 (by decide) (fun c15 => ?_) (fun c15 => ?_)
            · replace hD := g_neg c15 hD
              exact hb141 v3 v4 v5 v6 M L _ _ ls hD hw (lv_sub hl [0, 1, 2, 3, 4, 5] rfl)
            · replace hD := g_pos c15 hD
              refine lv_aload_n C.1.1 C.1.2.1 dX2_isAround_125 rfl (lv_at hl 0 rfl) ?_
              refine lv_aload_n C.1.1 C.1.2.1 dX2_isAround_126 rfl (lv_at hl 0 rfl) ?_
              refine mr_getR C hw kc_2 1 (Ch_N0 hk0) (Ch_T0 hk0) (Ch_F0_1 hk0) wd_445 dX2_isAround_127 (by decide) rfl ?_
              refine lv_iconst (v := 0) C.1.1 C.1.2.1 dX2_isAround_130 (by decide) ?_
              refine mr_aald C hw (Ch_N20 hk0) (Ch_T20 hk0) (by decide) (by decide) rfl rfl (show vp_in 0 7 from by unfold vp_in; decide) (Ch_R20 hk0 _ (by decide : 0 < 7)).1 dX2_isAround_131 ?_
              refine lv_iload C.1.1 C.1.2.1 dX2_isAround_132 (lv_at hl 5 rfl) ?_
              obtain ⟨q17, hD⟩ := g_ck hD
              refine mr_iald C hw (Ch_N21 hk0) (Ch_T21 hk0) q17 dX2_isAround_134 ?_
              refine lv_iload_n C.1.1 C.1.2.1 dX2_isAround_135 rfl (lv_at hl 1 rfl) ?_
              obtain ⟨r20, M18, L19, h1, hD⟩ := g_b3 hD
              refine md_cvI (As := [.int (M (k + 21) v6.toNatClampNeg), .int a1]) (rest := []) C hw (tX2_isIn l G ad fu k (M (k + 21) v6.toNatClampNeg) a1 M L h1 hk0) kc_2 (Ch_N0 hk0) (Ch_T0 hk0) wd_1228 cwX2_isIn ⟨Nat.le_of_ble_eq_true rfl, Nat.le_of_ble_eq_true rfl⟩ rfl hl.1 (Nat.le_of_ble_eq_true rfl) dX2_isAround_136 rfl rfl ⟨Nat.zero_le _, Nat.zero_le _⟩ rfl (fun H locs hw => ?_)
              refine lv_istore (lv' := [(5, .int r20), (0, .ref (ad k)), (1, .int a1), (3, .int v3), (4, .int v4), (6, .int v6)]) C.1.1 C.1.2.1 dX2_isAround_139 hl (by decide) rfl (fun ls hl => ?_)
              exact hb141 v3 v4 r20 v6 M18 L19 _ _ ls hD hw (lv_sub hl [1, 2, 3, 4, 0, 5] rfl)
  have hb81 : ∀ (v3 : Int32) (v4 : Int32) (s0 : Int32) (M : mwM) (L : mwL) (H : Heap) (locs : List Loc) (ls : Array Slot), fX2_isAround_b81 fu k a1 a2 v3 v4 s0 M L = some (r0, M0, L0) → mw_W G ad NF TF FF M L H locs → lv_has ls 7 [(0, .ref (ad k)), (1, .int a1), (3, .int v3), (4, .int v4)] → W p l e ({ frames := 1, cells := 0, slots := 0, locals := 24 }) s m [.ref (ad k), .int a1, .int a2].toArray below meth c H locs 0 0 (MQ below (mw_Qi G ad NF TF FF (mw_eqI r0 M0 L0)) [.ref (ad k), .int a1, .int a2].toArray s 0 0 (mw_fr G)) (F0 m 81 ls [.int s0]) := by
    intro v3 v4 s0 M L H locs ls hD hw hl
    unfold fX2_isAround_b81 at hD
    refine lv_istore (lv' := [(5, .int s0), (0, .ref (ad k)), (1, .int a1), (3, .int v3), (4, .int v4)]) C.1.1 C.1.2.1 dX2_isAround_81 hl (by decide) rfl (fun ls hl => ?_)
    refine lv_iconst (v := 1) C.1.1 C.1.2.1 dX2_isAround_83 (by decide) ?_
    refine lv_istore (lv' := [(6, .int 1), (5, .int s0), (0, .ref (ad k)), (1, .int a1), (3, .int v3), (4, .int v4)]) C.1.1 C.1.2.1 dX2_isAround_84 hl (by decide) rfl (fun ls hl => ?_)
    exact hh86 fu v3 v4 s0 1 M L _ _ ls hD hw (lv_sub hl [2, 3, 4, 5, 1, 0] rfl)
  have hb76 : ∀ (v3 : Int32) (v4 : Int32) (M : mwM) (L : mwL) (H : Heap) (locs : List Loc) (ls : Array Slot), fX2_isAround_b76 fu k a1 a2 v3 v4 M L = some (r0, M0, L0) → mw_W G ad NF TF FF M L H locs → lv_has ls 7 [(0, .ref (ad k)), (1, .int a1), (3, .int v3), (4, .int v4)] → W p l e ({ frames := 1, cells := 0, slots := 0, locals := 24 }) s m [.ref (ad k), .int a1, .int a2].toArray below meth c H locs 0 0 (MQ below (mw_Qi G ad NF TF FF (mw_eqI r0 M0 L0)) [.ref (ad k), .int a1, .int a2].toArray s 0 0 (mw_fr G)) (F0 m 76 ls []) := by
    intro v3 v4 M L H locs ls hD hw hl
    unfold fX2_isAround_b76 at hD
    refine lv_iconst (v := 1) C.1.1 C.1.2.1 dX2_isAround_76 (by decide) ?_
    refine lv_goto (tgt := 81) C.1.1 C.1.2.1 dX2_isAround_77 (by decide) ?_
    exact hb81 v3 v4 1 M L _ _ ls hD hw (lv_sub hl [0, 1, 2, 3] rfl)
  have hb80 : ∀ (v3 : Int32) (v4 : Int32) (M : mwM) (L : mwL) (H : Heap) (locs : List Loc) (ls : Array Slot), fX2_isAround_b80 fu k a1 a2 v3 v4 M L = some (r0, M0, L0) → mw_W G ad NF TF FF M L H locs → lv_has ls 7 [(0, .ref (ad k)), (1, .int a1), (3, .int v3), (4, .int v4)] → W p l e ({ frames := 1, cells := 0, slots := 0, locals := 24 }) s m [.ref (ad k), .int a1, .int a2].toArray below meth c H locs 0 0 (MQ below (mw_Qi G ad NF TF FF (mw_eqI r0 M0 L0)) [.ref (ad k), .int a1, .int a2].toArray s 0 0 (mw_fr G)) (F0 m 80 ls []) := by
    intro v3 v4 M L H locs ls hD hw hl
    unfold fX2_isAround_b80 at hD
    refine lv_iconst (v := 0) C.1.1 C.1.2.1 dX2_isAround_80 (by decide) ?_
    exact hb81 v3 v4 0 M L _ _ ls hD hw (lv_sub hl [0, 1, 2, 3] rfl)
  have hb53 : ∀ (v3 : Int32) (v4 : Int32) (M : mwM) (L : mwL) (H : Heap) (locs : List Loc) (ls : Array Slot), fX2_isAround_b53 fu k a1 a2 v3 v4 M L = some (r0, M0, L0) → mw_W G ad NF TF FF M L H locs → lv_has ls 7 [(0, .ref (ad k)), (1, .int a1), (3, .int v3), (4, .int v4)] → W p l e ({ frames := 1, cells := 0, slots := 0, locals := 24 }) s m [.ref (ad k), .int a1, .int a2].toArray below meth c H locs 0 0 (MQ below (mw_Qi G ad NF TF FF (mw_eqI r0 M0 L0)) [.ref (ad k), .int a1, .int a2].toArray s 0 0 (mw_fr G)) (F0 m 53 ls []) := by
    intro v3 v4 M L H locs ls hD hw hl
    unfold fX2_isAround_b53 at hD
    refine lv_aload_n C.1.1 C.1.2.1 dX2_isAround_53 rfl (lv_at hl 0 rfl) ?_
    refine mr_getR C hw kc_2 0 (Ch_N0 hk0) (Ch_T0 hk0) (Ch_F0_0 hk0) wd_444 dX2_isAround_54 (by decide) rfl ?_
    refine lv_iconst (v := 1) C.1.1 C.1.2.1 dX2_isAround_57 (by decide) ?_
    refine mr_aald C hw (Ch_N1 hk0) (Ch_T1 hk0) (by decide) (by decide) rfl rfl (show vp_in 1 18 from by unfold vp_in; decide) (Ch_R1 hk0 _ (by decide : 1 < 18)).1 dX2_isAround_58 ?_
    refine lv_iload C.1.1 C.1.2.1 dX2_isAround_59 (lv_at hl 3 rfl) ?_
    obtain ⟨q2, hD⟩ := g_ck hD
    refine mr_iald C hw (Ch_N3 hk0) (Ch_T3 hk0) q2 dX2_isAround_61 ?_
    refine lv_iconst (v := 4) C.1.1 C.1.2.1 dX2_isAround_62 (by decide) ?_
    refine lv_icmp_eq (tgt := 76) C.1.1 C.1.2.1 dX2_isAround_63 (by decide) (fun c3 => ?_) (fun c3 => ?_)
    · replace hD := g_pos c3 hD
      exact hb76 v3 v4 M L _ _ ls hD hw (lv_sub hl [0, 1, 2, 3] rfl)
    · replace hD := g_neg c3 hD
      refine lv_aload_n C.1.1 C.1.2.1 dX2_isAround_66 rfl (lv_at hl 0 rfl) ?_
      refine lv_iload C.1.1 C.1.2.1 dX2_isAround_67 (lv_at hl 3 rfl) ?_
      refine lv_iload_n C.1.1 C.1.2.1 dX2_isAround_69 rfl (lv_at hl 1 rfl) ?_
      obtain ⟨r6, M4, L5, h1, hD⟩ := g_b3 hD
      refine md_cvI (As := [.int v4, .int a1]) (rest := []) C hw (tX2_isIn l G ad fu k v4 a1 M L h1 hk0) kc_2 (Ch_N0 hk0) (Ch_T0 hk0) wd_1228 cwX2_isIn ⟨Nat.le_of_ble_eq_true rfl, Nat.le_of_ble_eq_true rfl⟩ rfl hl.1 (Nat.le_of_ble_eq_true rfl) dX2_isAround_70 rfl rfl ⟨Nat.zero_le _, Nat.zero_le _⟩ rfl (fun H locs hw => ?_)
      refine lv_if_eq (tgt := 80) C.1.1 C.1.2.1 dX2_isAround_73 (by decide) (fun c7 => ?_) (fun c7 => ?_)
      · replace hD := g_pos c7 hD
        exact hb80 v3 v4 M4 L5 _ _ ls hD hw (lv_sub hl [0, 1, 2, 3] rfl)
      · replace hD := g_neg c7 hD
        exact hb76 v3 v4 M4 L5 _ _ ls hD hw (lv_sub hl [0, 1, 2, 3] rfl)
  unfold DX2_isAround at hD
  refine lv_aload_n C.1.1 C.1.2.1 dX2_isAround_0 rfl (lv_at hl 0 rfl) ?_
  refine mr_getR C hw kc_2 0 (Ch_N0 hk0) (Ch_T0 hk0) (Ch_F0_0 hk0) wd_444 dX2_isAround_1 (by decide) rfl ?_
  refine lv_iconst (v := 1) C.1.1 C.1.2.1 dX2_isAround_4 (by decide) ?_
  refine mr_aald C hw (Ch_N1 hk0) (Ch_T1 hk0) (by decide) (by decide) rfl rfl (show vp_in 1 18 from by unfold vp_in; decide) (Ch_R1 hk0 _ (by decide : 1 < 18)).1 dX2_isAround_5 ?_
  refine lv_iload_n C.1.1 C.1.2.1 dX2_isAround_6 rfl (lv_at hl 1 rfl) ?_
  obtain ⟨q42, hD⟩ := g_ck hD
  refine mr_iald C hw (Ch_N3 hk0) (Ch_T3 hk0) q42 dX2_isAround_7 ?_
  refine lv_if_eq (tgt := 13) C.1.1 C.1.2.1 dX2_isAround_8 (by decide) (fun c43 => ?_) (fun c43 => ?_)
  · replace hD := g_pos c43 hD
    refine lv_aload_n C.1.1 C.1.2.1 dX2_isAround_13 rfl (lv_at hl 0 rfl) ?_
    refine mr_getR C hw kc_2 1 (Ch_N0 hk0) (Ch_T0 hk0) (Ch_F0_1 hk0) wd_445 dX2_isAround_14 (by decide) rfl ?_
    refine lv_iconst (v := 0) C.1.1 C.1.2.1 dX2_isAround_17 (by decide) ?_
    refine mr_aald C hw (Ch_N20 hk0) (Ch_T20 hk0) (by decide) (by decide) rfl rfl (show vp_in 0 7 from by unfold vp_in; decide) (Ch_R20 hk0 _ (by decide : 0 < 7)).1 dX2_isAround_18 ?_
    refine lv_iload_n C.1.1 C.1.2.1 dX2_isAround_19 rfl (lv_at hl 2 rfl) ?_
    obtain ⟨q45, hD⟩ := g_ck hD
    refine mr_iald C hw (Ch_N21 hk0) (Ch_T21 hk0) q45 dX2_isAround_20 ?_
    obtain ⟨x46, ex46, hD⟩ := g_let hD
    refine W.eq (g2 := F0 m 21 ls (.int x46 :: [])) (by rw [ex46]) ?_
    refine lv_istore_n (lv' := [(3, .int x46), (0, .ref (ad k)), (1, .int a1), (2, .int a2)]) C.1.1 C.1.2.1 dX2_isAround_21 rfl hl (by decide) rfl (fun ls hl => ?_)
    refine lv_aload_n C.1.1 C.1.2.1 dX2_isAround_22 rfl (lv_at hl 1 rfl) ?_
    refine mr_getR C hw kc_2 1 (Ch_N0 hk0) (Ch_T0 hk0) (Ch_F0_1 hk0) wd_445 dX2_isAround_23 (by decide) rfl ?_
    refine lv_iconst (v := 1) C.1.1 C.1.2.1 dX2_isAround_26 (by decide) ?_
    refine mr_aald C hw (Ch_N20 hk0) (Ch_T20 hk0) (by decide) (by decide) rfl rfl (show vp_in 1 7 from by unfold vp_in; decide) (Ch_R20 hk0 _ (by decide : 1 < 7)).1 dX2_isAround_27 ?_
    refine lv_iload_n C.1.1 C.1.2.1 dX2_isAround_28 rfl (lv_at hl 3 rfl) ?_
    obtain ⟨q48, hD⟩ := g_ck hD
    refine mr_iald C hw (Ch_N22 hk0) (Ch_T22 hk0) q48 dX2_isAround_29 ?_
    obtain ⟨x49, ex49, hD⟩ := g_let hD
    refine W.eq (g2 := F0 m 30 ls (.int x49 :: [])) (by rw [ex49]) ?_
    refine lv_istore (lv' := [(4, .int x49), (3, .int x46), (0, .ref (ad k)), (1, .int a1), (2, .int a2)]) C.1.1 C.1.2.1 dX2_isAround_30 hl (by decide) rfl (fun ls hl => ?_)
    refine lv_aload_n C.1.1 C.1.2.1 dX2_isAround_32 rfl (lv_at hl 2 rfl) ?_
    refine mr_getR C hw kc_2 0 (Ch_N0 hk0) (Ch_T0 hk0) (Ch_F0_0 hk0) wd_444 dX2_isAround_33 (by decide) rfl ?_
    refine lv_iconst (v := 1) C.1.1 C.1.2.1 dX2_isAround_36 (by decide) ?_
    refine mr_aald C hw (Ch_N1 hk0) (Ch_T1 hk0) (by decide) (by decide) rfl rfl (show vp_in 1 18 from by unfold vp_in; decide) (Ch_R1 hk0 _ (by decide : 1 < 18)).1 dX2_isAround_37 ?_
    refine lv_iload_n C.1.1 C.1.2.1 dX2_isAround_38 rfl (lv_at hl 1 rfl) ?_
    obtain ⟨q51, hD⟩ := g_ck hD
    refine mr_iald C hw (Ch_N3 hk0) (Ch_T3 hk0) q51 dX2_isAround_39 ?_
    refine lv_iconst (v := 5) C.1.1 C.1.2.1 dX2_isAround_40 (by decide) ?_
    refine lv_icmp_eq (tgt := 53) C.1.1 C.1.2.1 dX2_isAround_41 (by decide) (fun c52 => ?_) (fun c52 => ?_)
    · replace hD := g_pos c52 hD
      exact hb53 x46 x49 M L _ _ ls hD hw (lv_sub hl [2, 3, 1, 0] rfl)
    · replace hD := g_neg c52 hD
      refine lv_aload_n C.1.1 C.1.2.1 dX2_isAround_44 rfl (lv_at hl 2 rfl) ?_
      refine lv_iload_n C.1.1 C.1.2.1 dX2_isAround_45 rfl (lv_at hl 1 rfl) ?_
      refine lv_iload_n C.1.1 C.1.2.1 dX2_isAround_46 rfl (lv_at hl 3 rfl) ?_
      obtain ⟨r55, M53, L54, h1, hD⟩ := g_b3 hD
      refine md_cvI (As := [.int x46, .int a1]) (rest := []) C hw (tX2_isIn l G ad fu k x46 a1 M L h1 hk0) kc_2 (Ch_N0 hk0) (Ch_T0 hk0) wd_1228 cwX2_isIn ⟨Nat.le_of_ble_eq_true rfl, Nat.le_of_ble_eq_true rfl⟩ rfl hl.1 (Nat.le_of_ble_eq_true rfl) dX2_isAround_47 rfl rfl ⟨Nat.zero_le _, Nat.zero_le _⟩ rfl (fun H locs hw => ?_)
      refine lv_if_eq (tgt := 80) C.1.1 C.1.2.1 dX2_isAround_50 (by decide) (fun c56 => ?_) (fun c56 => ?_)
      · replace hD := g_pos c56 hD
        exact hb80 x46 x49 M53 L54 _ _ ls hD hw (lv_sub hl [2, 3, 1, 0] rfl)
      · replace hD := g_neg c56 hD
        exact hb53 x46 x49 M53 L54 _ _ ls hD hw (lv_sub hl [2, 3, 1, 0] rfl)
  · replace hD := g_neg c43 hD
    refine lv_iconst (v := 0) C.1.1 C.1.2.1 dX2_isAround_11 (by decide) ?_
    exact mr_iret C hr hlocks hw (by decide +kernel) (Option.some.inj hD) dX2_isAround_12

theorem dX2_findDomains_0 : decode cX2_findDomains 0 = .ok (.iconst 1, 1) := by decide +kernel
theorem dX2_findDomains_1 : decode cX2_findDomains 1 = .ok (.istore_n 1, 1) := by decide +kernel
theorem dX2_findDomains_2 : decode cX2_findDomains 2 = .ok (.iload_n 1, 1) := by decide +kernel
theorem dX2_findDomains_3 : decode cX2_findDomains 3 = .ok (.aload_n 0, 1) := by decide +kernel
theorem dX2_findDomains_4 : decode cX2_findDomains 4 = .ok (.getfield 40, 3) := by decide +kernel
theorem dX2_findDomains_7 : decode cX2_findDomains 7 = .ok (.if_icmp .gt 109, 3) := by decide +kernel
theorem dX2_findDomains_10 : decode cX2_findDomains 10 = .ok (.aload_n 0, 1) := by decide +kernel
theorem dX2_findDomains_11 : decode cX2_findDomains 11 = .ok (.getfield 13, 3) := by decide +kernel
theorem dX2_findDomains_14 : decode cX2_findDomains 14 = .ok (.iconst 0, 1) := by decide +kernel
theorem dX2_findDomains_15 : decode cX2_findDomains 15 = .ok (.aaload, 1) := by decide +kernel
theorem dX2_findDomains_16 : decode cX2_findDomains 16 = .ok (.aload_n 0, 1) := by decide +kernel
theorem dX2_findDomains_17 : decode cX2_findDomains 17 = .ok (.getfield 16, 3) := by decide +kernel
theorem dX2_findDomains_20 : decode cX2_findDomains 20 = .ok (.iconst 0, 1) := by decide +kernel
theorem dX2_findDomains_21 : decode cX2_findDomains 21 = .ok (.aaload, 1) := by decide +kernel
theorem dX2_findDomains_22 : decode cX2_findDomains 22 = .ok (.iload_n 1, 1) := by decide +kernel
theorem dX2_findDomains_23 : decode cX2_findDomains 23 = .ok (.iaload, 1) := by decide +kernel
theorem dX2_findDomains_24 : decode cX2_findDomains 24 = .ok (.iaload, 1) := by decide +kernel
theorem dX2_findDomains_25 : decode cX2_findDomains 25 = .ok (.istore_n 2, 1) := by decide +kernel
theorem dX2_findDomains_26 : decode cX2_findDomains 26 = .ok (.aload_n 0, 1) := by decide +kernel
theorem dX2_findDomains_27 : decode cX2_findDomains 27 = .ok (.getfield 13, 3) := by decide +kernel
theorem dX2_findDomains_30 : decode cX2_findDomains 30 = .ok (.iconst 1, 1) := by decide +kernel
theorem dX2_findDomains_31 : decode cX2_findDomains 31 = .ok (.aaload, 1) := by decide +kernel
theorem dX2_findDomains_32 : decode cX2_findDomains 32 = .ok (.aload_n 0, 1) := by decide +kernel
theorem dX2_findDomains_33 : decode cX2_findDomains 33 = .ok (.getfield 16, 3) := by decide +kernel
theorem dX2_findDomains_36 : decode cX2_findDomains 36 = .ok (.iconst 0, 1) := by decide +kernel
theorem dX2_findDomains_37 : decode cX2_findDomains 37 = .ok (.aaload, 1) := by decide +kernel
theorem dX2_findDomains_38 : decode cX2_findDomains 38 = .ok (.iload_n 1, 1) := by decide +kernel
theorem dX2_findDomains_39 : decode cX2_findDomains 39 = .ok (.iaload, 1) := by decide +kernel
theorem dX2_findDomains_40 : decode cX2_findDomains 40 = .ok (.iaload, 1) := by decide +kernel
theorem dX2_findDomains_41 : decode cX2_findDomains 41 = .ok (.iconst 5, 1) := by decide +kernel
theorem dX2_findDomains_42 : decode cX2_findDomains 42 = .ok (.if_icmp .ne 23, 3) := by decide +kernel
theorem dX2_findDomains_45 : decode cX2_findDomains 45 = .ok (.aload_n 0, 1) := by decide +kernel
theorem dX2_findDomains_46 : decode cX2_findDomains 46 = .ok (.getfield 13, 3) := by decide +kernel
theorem dX2_findDomains_49 : decode cX2_findDomains 49 = .ok (.iconst 0, 1) := by decide +kernel
theorem dX2_findDomains_50 : decode cX2_findDomains 50 = .ok (.aaload, 1) := by decide +kernel
theorem dX2_findDomains_51 : decode cX2_findDomains 51 = .ok (.aload_n 0, 1) := by decide +kernel
theorem dX2_findDomains_52 : decode cX2_findDomains 52 = .ok (.aload_n 0, 1) := by decide +kernel
theorem dX2_findDomains_53 : decode cX2_findDomains 53 = .ok (.getfield 16, 3) := by decide +kernel
theorem dX2_findDomains_56 : decode cX2_findDomains 56 = .ok (.iconst 0, 1) := by decide +kernel
theorem dX2_findDomains_57 : decode cX2_findDomains 57 = .ok (.aaload, 1) := by decide +kernel
theorem dX2_findDomains_58 : decode cX2_findDomains 58 = .ok (.iload_n 1, 1) := by decide +kernel
theorem dX2_findDomains_59 : decode cX2_findDomains 59 = .ok (.iaload, 1) := by decide +kernel
theorem dX2_findDomains_60 : decode cX2_findDomains 60 = .ok (.invokevirtual 80, 3) := by decide +kernel
theorem dX2_findDomains_63 : decode cX2_findDomains 63 = .ok (.iaload, 1) := by decide +kernel
theorem dX2_findDomains_64 : decode cX2_findDomains 64 = .ok (.istore_n 2, 1) := by decide +kernel
theorem dX2_findDomains_65 : decode cX2_findDomains 65 = .ok (.iconst 0, 1) := by decide +kernel
theorem dX2_findDomains_66 : decode cX2_findDomains 66 = .ok (.istore_n 3, 1) := by decide +kernel
theorem dX2_findDomains_67 : decode cX2_findDomains 67 = .ok (.iload_n 3, 1) := by decide +kernel
theorem dX2_findDomains_68 : decode cX2_findDomains 68 = .ok (.bipush 40, 2) := by decide +kernel
theorem dX2_findDomains_70 : decode cX2_findDomains 70 = .ok (.if_icmp .gt 31, 3) := by decide +kernel
theorem dX2_findDomains_73 : decode cX2_findDomains 73 = .ok (.iload_n 2, 1) := by decide +kernel
theorem dX2_findDomains_74 : decode cX2_findDomains 74 = .ok (.ifCond .eq 27, 3) := by decide +kernel
theorem dX2_findDomains_77 : decode cX2_findDomains 77 = .ok (.aload_n 0, 1) := by decide +kernel
theorem dX2_findDomains_78 : decode cX2_findDomains 78 = .ok (.iload_n 2, 1) := by decide +kernel
theorem dX2_findDomains_79 : decode cX2_findDomains 79 = .ok (.iload_n 1, 1) := by decide +kernel
theorem dX2_findDomains_80 : decode cX2_findDomains 80 = .ok (.invokevirtual 84, 3) := by decide +kernel
theorem dX2_findDomains_83 : decode cX2_findDomains 83 = .ok (.ifCond .ne 18, 3) := by decide +kernel
theorem dX2_findDomains_86 : decode cX2_findDomains 86 = .ok (.aload_n 0, 1) := by decide +kernel
theorem dX2_findDomains_87 : decode cX2_findDomains 87 = .ok (.getfield 13, 3) := by decide +kernel
theorem dX2_findDomains_90 : decode cX2_findDomains 90 = .ok (.iconst 0, 1) := by decide +kernel
theorem dX2_findDomains_91 : decode cX2_findDomains 91 = .ok (.aaload, 1) := by decide +kernel
theorem dX2_findDomains_92 : decode cX2_findDomains 92 = .ok (.iload_n 2, 1) := by decide +kernel
theorem dX2_findDomains_93 : decode cX2_findDomains 93 = .ok (.iaload, 1) := by decide +kernel
theorem dX2_findDomains_94 : decode cX2_findDomains 94 = .ok (.istore_n 2, 1) := by decide +kernel
theorem dX2_findDomains_95 : decode cX2_findDomains 95 = .ok (.iinc 3 1, 3) := by decide +kernel
theorem dX2_findDomains_98 : decode cX2_findDomains 98 = .ok (.goto (-31), 3) := by decide +kernel
theorem dX2_findDomains_101 : decode cX2_findDomains 101 = .ok (.aload_n 0, 1) := by decide +kernel
theorem dX2_findDomains_102 : decode cX2_findDomains 102 = .ok (.getfield 16, 3) := by decide +kernel
theorem dX2_findDomains_105 : decode cX2_findDomains 105 = .ok (.iconst 4, 1) := by decide +kernel
theorem dX2_findDomains_106 : decode cX2_findDomains 106 = .ok (.aaload, 1) := by decide +kernel
theorem dX2_findDomains_107 : decode cX2_findDomains 107 = .ok (.iload_n 1, 1) := by decide +kernel
theorem dX2_findDomains_108 : decode cX2_findDomains 108 = .ok (.iload_n 2, 1) := by decide +kernel
theorem dX2_findDomains_109 : decode cX2_findDomains 109 = .ok (.iastore, 1) := by decide +kernel
theorem dX2_findDomains_110 : decode cX2_findDomains 110 = .ok (.iinc 1 1, 3) := by decide +kernel
theorem dX2_findDomains_113 : decode cX2_findDomains 113 = .ok (.goto (-111), 3) := by decide +kernel
theorem dX2_findDomains_116 : decode cX2_findDomains 116 = .ok (.return_, 1) := by decide +kernel
theorem cwX2_findDomains : mw_cwV yX2_findDomains cX2_findDomains 4 (none) 0 := ⟨⟨wd_12, wd_1219, by decide +kernel⟩, wd_1217, wd_1218⟩
set_option maxHeartbeats 4000000 in
set_option maxRecDepth 100000 in
theorem tX2_findDomains (l : Launch) (G : mwG) (ad : Nat → Nat) (fu : Nat) (k : Nat) (M : mwM) (L : mwL) {M0 : mwM} {L0 : mwL} (hD : DX2_findDomains fu k M L = some (M0, L0)) (hk0 : isCh k) : Met l yX2_findDomains (Cond.code yX2_findDomains cX2_findDomains 4 (none) :: GT) ({ frames := 2, cells := 0, slots := 0, locals := 50 }) (mw_Pre G ad NF TF FF M L [.ref (ad k)]) (mw_Qv G ad NF TF FF (mw_eqV M0 L0)) 0 0 (mw_fr G) := by
  refine mw_enter (by decide) (Nat.le_of_ble_eq_true rfl) ?_
  intro p e s m below meth c ls C hr hlocks hnm hw hl
  have hl : lv_has ls 4 [(0, .ref (ad k))] := hl
  have hh2 : ∀ (f : Nat) (v1 : Int32) (M : mwM) (L : mwL) (H : Heap) (locs : List Loc) (ls : Array Slot), fX2_findDomains_h2 fu k f (v1, M, L) = some (M0, L0) → mw_W G ad NF TF FF M L H locs → lv_has ls 4 [(0, .ref (ad k)), (1, .int v1)] → W p l e ({ frames := 2, cells := 0, slots := 0, locals := 50 }) s m [.ref (ad k)].toArray below meth c H locs 0 0 (MQ below (mw_Qv G ad NF TF FF (mw_eqV M0 L0)) [.ref (ad k)].toArray s 0 0 (mw_fr G)) (F0 m 2 ls []) := by
    intro f
    induction f with
    | zero => intro v1 M L H locs ls hD; cases hD
    | succ f2 ih2 =>
      intro v1 M L H locs ls hD hw hl
      replace hD : fX2_findDomains_i2 fu k (fX2_findDomains_h2 fu k f2) v1 M L = some (M0, L0) := hD
      have hb101 : ∀ (v1 : Int32) (v2 : Int32) (M : mwM) (L : mwL) (H : Heap) (locs : List Loc) (ls : Array Slot), fX2_findDomains_b101 fu k (fX2_findDomains_h2 fu k f2) v1 v2 M L = some (M0, L0) → mw_W G ad NF TF FF M L H locs → lv_has ls 4 [(0, .ref (ad k)), (1, .int v1), (2, .int v2)] → W p l e ({ frames := 2, cells := 0, slots := 0, locals := 50 }) s m [.ref (ad k)].toArray below meth c H locs 0 0 (MQ below (mw_Qv G ad NF TF FF (mw_eqV M0 L0)) [.ref (ad k)].toArray s 0 0 (mw_fr G)) (F0 m 101 ls []) := by
        intro v1 v2 M L H locs ls hD hw hl
        unfold fX2_findDomains_b101 at hD
        refine lv_aload_n C.1.1 C.1.2.1 dX2_findDomains_101 rfl (lv_at hl 0 rfl) ?_
        refine mr_getR C hw kc_2 1 (Ch_N0 hk0) (Ch_T0 hk0) (Ch_F0_1 hk0) wd_445 dX2_findDomains_102 (by decide) rfl ?_
        refine lv_iconst (v := 4) C.1.1 C.1.2.1 dX2_findDomains_105 (by decide) ?_
        refine mr_aald C hw (Ch_N20 hk0) (Ch_T20 hk0) (by decide) (by decide) rfl rfl (show vp_in 4 7 from by unfold vp_in; decide) (Ch_R20 hk0 _ (by decide : 4 < 7)).1 dX2_findDomains_106 ?_
        refine lv_iload_n C.1.1 C.1.2.1 dX2_findDomains_107 rfl (lv_at hl 1 rfl) ?_
        refine lv_iload_n C.1.1 C.1.2.1 dX2_findDomains_108 rfl (lv_at hl 2 rfl) ?_
        obtain ⟨q31, hD⟩ := g_ck hD
        obtain ⟨M32, eM32, hD⟩ := g_let hD
        refine mr_iast C hw (Ch_N25 hk0) (Ch_T25 hk0) q31 dX2_findDomains_109 (fun H locs hw => ?_)
        replace hw : mw_W G ad NF TF FF M32 L H locs := by rw [eM32]; exact hw
        obtain ⟨x33, ex33, hD⟩ := g_let hD
        refine lv_iinc (v := x33) (lv' := [(1, .int x33), (0, .ref (ad k)), (2, .int v2)]) C.1.1 C.1.2.1 dX2_findDomains_110 hl (k := 1) rfl (by rw [ex33]; rfl) (by decide) rfl (fun ls hl => ?_)
        refine lv_goto (tgt := 2) C.1.1 C.1.2.1 dX2_findDomains_113 (by decide) ?_
        exact ih2 x33 M32 L _ _ ls hD hw (lv_sub hl [1, 0] rfl)
      have hh67 : ∀ (f : Nat) (v1 : Int32) (v2 : Int32) (v3 : Int32) (M : mwM) (L : mwL) (H : Heap) (locs : List Loc) (ls : Array Slot), fX2_findDomains_h67 fu k (fX2_findDomains_h2 fu k f2) f (v1, v2, v3, M, L) = some (M0, L0) → mw_W G ad NF TF FF M L H locs → lv_has ls 4 [(0, .ref (ad k)), (1, .int v1), (2, .int v2), (3, .int v3)] → W p l e ({ frames := 2, cells := 0, slots := 0, locals := 50 }) s m [.ref (ad k)].toArray below meth c H locs 0 0 (MQ below (mw_Qv G ad NF TF FF (mw_eqV M0 L0)) [.ref (ad k)].toArray s 0 0 (mw_fr G)) (F0 m 67 ls []) := by
        intro f
        induction f with
        | zero => intro v1 v2 v3 M L H locs ls hD; cases hD
        | succ f67 ih67 =>
          intro v1 v2 v3 M L H locs ls hD hw hl
          replace hD : fX2_findDomains_i67 fu k (fX2_findDomains_h2 fu k f2) (fX2_findDomains_h67 fu k (fX2_findDomains_h2 fu k f2) f67) v1 v2 v3 M L = some (M0, L0) := hD
          unfold fX2_findDomains_i67 at hD
          refine lv_iload_n C.1.1 C.1.2.1 dX2_findDomains_67 rfl (lv_at hl 3 rfl) ?_
          refine lv_bipush (v := 40) C.1.1 C.1.2.1 dX2_findDomains_68 (by decide) ?_
          refine lv_icmp_gt (tgt := 101) C.1.1 C.1.2.1 dX2_findDomains_70 (by decide) (fun c20 => ?_) (fun c20 => ?_)
          · replace hD := g_pos c20 hD
            exact hb101 v1 v2 M L _ _ ls hD hw (lv_sub hl [0, 1, 2] rfl)
          · replace hD := g_neg c20 hD
            refine lv_iload_n C.1.1 C.1.2.1 dX2_findDomains_73 rfl (lv_at hl 2 rfl) ?_
            refine lv_if_eq (tgt := 101) C.1.1 C.1.2.1 dX2_findDomains_74 (by decide) (fun c21 => ?_) (fun c21 => ?_)
            · replace hD := g_pos c21 hD
              exact hb101 v1 v2 M L _ _ ls hD hw (lv_sub hl [0, 1, 2] rfl)
            · replace hD := g_neg c21 hD
              refine lv_aload_n C.1.1 C.1.2.1 dX2_findDomains_77 rfl (lv_at hl 0 rfl) ?_
              refine lv_iload_n C.1.1 C.1.2.1 dX2_findDomains_78 rfl (lv_at hl 2 rfl) ?_
              refine lv_iload_n C.1.1 C.1.2.1 dX2_findDomains_79 rfl (lv_at hl 1 rfl) ?_
              obtain ⟨r24, M22, L23, h1, hD⟩ := g_b3 hD
              refine md_cvI (As := [.int v2, .int v1]) (rest := []) C hw (tX2_isAround l G ad fu k v2 v1 M L h1 hk0) kc_2 (Ch_N0 hk0) (Ch_T0 hk0) wd_1224 cwX2_isAround ⟨Nat.le_of_ble_eq_true rfl, Nat.le_of_ble_eq_true rfl⟩ rfl hl.1 (Nat.le_of_ble_eq_true rfl) dX2_findDomains_80 rfl rfl ⟨Nat.zero_le _, Nat.zero_le _⟩ rfl (fun H locs hw => ?_)
              refine lv_if_ne (tgt := 101) C.1.1 C.1.2.1 dX2_findDomains_83 (by decide) (fun c25 => ?_) (fun c25 => ?_)
              · replace hD := g_neg c25 hD
                exact hb101 v1 v2 M22 L23 _ _ ls hD hw (lv_sub hl [0, 1, 2] rfl)
              · replace hD := g_pos c25 hD
                refine lv_aload_n C.1.1 C.1.2.1 dX2_findDomains_86 rfl (lv_at hl 0 rfl) ?_
                refine mr_getR C hw kc_2 0 (Ch_N0 hk0) (Ch_T0 hk0) (Ch_F0_0 hk0) wd_444 dX2_findDomains_87 (by decide) rfl ?_
                refine lv_iconst (v := 0) C.1.1 C.1.2.1 dX2_findDomains_90 (by decide) ?_
                refine mr_aald C hw (Ch_N1 hk0) (Ch_T1 hk0) (by decide) (by decide) rfl rfl (show vp_in 0 18 from by unfold vp_in; decide) (Ch_R1 hk0 _ (by decide : 0 < 18)).1 dX2_findDomains_91 ?_
                refine lv_iload_n C.1.1 C.1.2.1 dX2_findDomains_92 rfl (lv_at hl 2 rfl) ?_
                obtain ⟨q27, hD⟩ := g_ck hD
                refine mr_iald C hw (Ch_N2 hk0) (Ch_T2 hk0) q27 dX2_findDomains_93 ?_
                obtain ⟨x28, ex28, hD⟩ := g_let hD
                refine W.eq (g2 := F0 m 94 ls (.int x28 :: [])) (by rw [ex28]) ?_
                refine lv_istore_n (lv' := [(2, .int x28), (0, .ref (ad k)), (1, .int v1), (3, .int v3)]) C.1.1 C.1.2.1 dX2_findDomains_94 rfl hl (by decide) rfl (fun ls hl => ?_)
                obtain ⟨x29, ex29, hD⟩ := g_let hD
                refine lv_iinc (v := x29) (lv' := [(3, .int x29), (2, .int x28), (0, .ref (ad k)), (1, .int v1)]) C.1.1 C.1.2.1 dX2_findDomains_95 hl (k := 3) rfl (by rw [ex29]; rfl) (by decide) rfl (fun ls hl => ?_)
                refine lv_goto (tgt := 67) C.1.1 C.1.2.1 dX2_findDomains_98 (by decide) ?_
                exact ih67 v1 x28 x29 M22 L23 _ _ ls hD hw (lv_sub hl [2, 3, 1, 0] rfl)
      have hb65 : ∀ (v1 : Int32) (v2 : Int32) (M : mwM) (L : mwL) (H : Heap) (locs : List Loc) (ls : Array Slot), fX2_findDomains_b65 fu k (fX2_findDomains_h2 fu k f2) v1 v2 M L = some (M0, L0) → mw_W G ad NF TF FF M L H locs → lv_has ls 4 [(0, .ref (ad k)), (1, .int v1), (2, .int v2)] → W p l e ({ frames := 2, cells := 0, slots := 0, locals := 50 }) s m [.ref (ad k)].toArray below meth c H locs 0 0 (MQ below (mw_Qv G ad NF TF FF (mw_eqV M0 L0)) [.ref (ad k)].toArray s 0 0 (mw_fr G)) (F0 m 65 ls []) := by
        intro v1 v2 M L H locs ls hD hw hl
        unfold fX2_findDomains_b65 at hD
        refine lv_iconst (v := 0) C.1.1 C.1.2.1 dX2_findDomains_65 (by decide) ?_
        refine lv_istore_n (lv' := [(3, .int 0), (0, .ref (ad k)), (1, .int v1), (2, .int v2)]) C.1.1 C.1.2.1 dX2_findDomains_66 rfl hl (by decide) rfl (fun ls hl => ?_)
        exact hh67 fu v1 v2 0 M L _ _ ls hD hw (lv_sub hl [1, 2, 3, 0] rfl)
      unfold fX2_findDomains_i2 at hD
      refine lv_iload_n C.1.1 C.1.2.1 dX2_findDomains_2 rfl (lv_at hl 1 rfl) ?_
      refine lv_aload_n C.1.1 C.1.2.1 dX2_findDomains_3 rfl (lv_at hl 0 rfl) ?_
      refine mr_getI C hw kc_2 8 (Ch_N0 hk0) (Ch_T0 hk0) wd_460 dX2_findDomains_4 (by decide) rfl ?_
      refine lv_icmp_gt (tgt := 116) C.1.1 C.1.2.1 dX2_findDomains_7 (by decide) (fun c1 => ?_) (fun c1 => ?_)
      · replace hD := g_pos c1 hD
        exact mr_vret C hr hlocks hw (Option.some.inj hD) dX2_findDomains_116
      · replace hD := g_neg c1 hD
        refine lv_aload_n C.1.1 C.1.2.1 dX2_findDomains_10 rfl (lv_at hl 0 rfl) ?_
        refine mr_getR C hw kc_2 0 (Ch_N0 hk0) (Ch_T0 hk0) (Ch_F0_0 hk0) wd_444 dX2_findDomains_11 (by decide) rfl ?_
        refine lv_iconst (v := 0) C.1.1 C.1.2.1 dX2_findDomains_14 (by decide) ?_
        refine mr_aald C hw (Ch_N1 hk0) (Ch_T1 hk0) (by decide) (by decide) rfl rfl (show vp_in 0 18 from by unfold vp_in; decide) (Ch_R1 hk0 _ (by decide : 0 < 18)).1 dX2_findDomains_15 ?_
        refine lv_aload_n C.1.1 C.1.2.1 dX2_findDomains_16 rfl (lv_at hl 0 rfl) ?_
        refine mr_getR C hw kc_2 1 (Ch_N0 hk0) (Ch_T0 hk0) (Ch_F0_1 hk0) wd_445 dX2_findDomains_17 (by decide) rfl ?_
        refine lv_iconst (v := 0) C.1.1 C.1.2.1 dX2_findDomains_20 (by decide) ?_
        refine mr_aald C hw (Ch_N20 hk0) (Ch_T20 hk0) (by decide) (by decide) rfl rfl (show vp_in 0 7 from by unfold vp_in; decide) (Ch_R20 hk0 _ (by decide : 0 < 7)).1 dX2_findDomains_21 ?_
        refine lv_iload_n C.1.1 C.1.2.1 dX2_findDomains_22 rfl (lv_at hl 1 rfl) ?_
        obtain ⟨q4, hD⟩ := g_ck hD
        refine mr_iald C hw (Ch_N21 hk0) (Ch_T21 hk0) q4 dX2_findDomains_23 ?_
        obtain ⟨q5, hD⟩ := g_ck hD
        refine mr_iald C hw (Ch_N2 hk0) (Ch_T2 hk0) q5 dX2_findDomains_24 ?_
        obtain ⟨x6, ex6, hD⟩ := g_let hD
        refine W.eq (g2 := F0 m 25 ls (.int x6 :: [])) (by rw [ex6]) ?_
        refine lv_istore_n (lv' := [(2, .int x6), (0, .ref (ad k)), (1, .int v1)]) C.1.1 C.1.2.1 dX2_findDomains_25 rfl hl (by decide) rfl (fun ls hl => ?_)
        refine lv_aload_n C.1.1 C.1.2.1 dX2_findDomains_26 rfl (lv_at hl 1 rfl) ?_
        refine mr_getR C hw kc_2 0 (Ch_N0 hk0) (Ch_T0 hk0) (Ch_F0_0 hk0) wd_444 dX2_findDomains_27 (by decide) rfl ?_
        refine lv_iconst (v := 1) C.1.1 C.1.2.1 dX2_findDomains_30 (by decide) ?_
        refine mr_aald C hw (Ch_N1 hk0) (Ch_T1 hk0) (by decide) (by decide) rfl rfl (show vp_in 1 18 from by unfold vp_in; decide) (Ch_R1 hk0 _ (by decide : 1 < 18)).1 dX2_findDomains_31 ?_
        refine lv_aload_n C.1.1 C.1.2.1 dX2_findDomains_32 rfl (lv_at hl 1 rfl) ?_
        refine mr_getR C hw kc_2 1 (Ch_N0 hk0) (Ch_T0 hk0) (Ch_F0_1 hk0) wd_445 dX2_findDomains_33 (by decide) rfl ?_
        refine lv_iconst (v := 0) C.1.1 C.1.2.1 dX2_findDomains_36 (by decide) ?_
        refine mr_aald C hw (Ch_N20 hk0) (Ch_T20 hk0) (by decide) (by decide) rfl rfl (show vp_in 0 7 from by unfold vp_in; decide) (Ch_R20 hk0 _ (by decide : 0 < 7)).1 dX2_findDomains_37 ?_
        refine lv_iload_n C.1.1 C.1.2.1 dX2_findDomains_38 rfl (lv_at hl 2 rfl) ?_
        obtain ⟨q9, hD⟩ := g_ck hD
        refine mr_iald C hw (Ch_N21 hk0) (Ch_T21 hk0) q9 dX2_findDomains_39 ?_
        obtain ⟨q10, hD⟩ := g_ck hD
        refine mr_iald C hw (Ch_N3 hk0) (Ch_T3 hk0) q10 dX2_findDomains_40 ?_
        refine lv_iconst (v := 5) C.1.1 C.1.2.1 dX2_findDomains_41 (by decide) ?_
        refine lv_icmp_ne (tgt := 65) C.1.1 C.1.2.1 dX2_findDomains_42 (by decide) (fun c11 => ?_) (fun c11 => ?_)
        · replace hD := g_neg c11 hD
          exact hb65 v1 x6 M L _ _ ls hD hw (lv_sub hl [1, 2, 0] rfl)
        · replace hD := g_pos c11 hD
          refine lv_aload_n C.1.1 C.1.2.1 dX2_findDomains_45 rfl (lv_at hl 1 rfl) ?_
          refine mr_getR C hw kc_2 0 (Ch_N0 hk0) (Ch_T0 hk0) (Ch_F0_0 hk0) wd_444 dX2_findDomains_46 (by decide) rfl ?_
          refine lv_iconst (v := 0) C.1.1 C.1.2.1 dX2_findDomains_49 (by decide) ?_
          refine mr_aald C hw (Ch_N1 hk0) (Ch_T1 hk0) (by decide) (by decide) rfl rfl (show vp_in 0 18 from by unfold vp_in; decide) (Ch_R1 hk0 _ (by decide : 0 < 18)).1 dX2_findDomains_50 ?_
          refine lv_aload_n C.1.1 C.1.2.1 dX2_findDomains_51 rfl (lv_at hl 1 rfl) ?_
          refine lv_aload_n C.1.1 C.1.2.1 dX2_findDomains_52 rfl (lv_at hl 1 rfl) ?_
          refine mr_getR C hw kc_2 1 (Ch_N0 hk0) (Ch_T0 hk0) (Ch_F0_1 hk0) wd_445 dX2_findDomains_53 (by decide) rfl ?_
          refine lv_iconst (v := 0) C.1.1 C.1.2.1 dX2_findDomains_56 (by decide) ?_
          refine mr_aald C hw (Ch_N20 hk0) (Ch_T20 hk0) (by decide) (by decide) rfl rfl (show vp_in 0 7 from by unfold vp_in; decide) (Ch_R20 hk0 _ (by decide : 0 < 7)).1 dX2_findDomains_57 ?_
          refine lv_iload_n C.1.1 C.1.2.1 dX2_findDomains_58 rfl (lv_at hl 2 rfl) ?_
          obtain ⟨q14, hD⟩ := g_ck hD
          refine mr_iald C hw (Ch_N21 hk0) (Ch_T21 hk0) q14 dX2_findDomains_59 ?_
          obtain ⟨r17, M15, L16, h1, hD⟩ := g_b3 hD
          refine md_cvI (As := [.int (M (k + 21) v1.toNatClampNeg)]) (rest := [.ref (ad (k + 2))]) C hw (tX2_firstInto l G ad fu k (M (k + 21) v1.toNatClampNeg) M L h1 hk0) kc_2 (Ch_N0 hk0) (Ch_T0 hk0) wd_1220 cwX2_firstInto ⟨Nat.le_of_ble_eq_true rfl, Nat.le_of_ble_eq_true rfl⟩ rfl hl.1 (Nat.le_of_ble_eq_true rfl) dX2_findDomains_60 rfl rfl ⟨Nat.zero_le _, Nat.zero_le _⟩ rfl (fun H locs hw => ?_)
          obtain ⟨q18, hD⟩ := g_ck hD
          refine mr_iald C hw (Ch_N2 hk0) (Ch_T2 hk0) q18 dX2_findDomains_63 ?_
          obtain ⟨x19, ex19, hD⟩ := g_let hD
          refine W.eq (g2 := F0 m 64 ls (.int x19 :: [])) (by rw [ex19]) ?_
          refine lv_istore_n (lv' := [(2, .int x19), (0, .ref (ad k)), (1, .int v1)]) C.1.1 C.1.2.1 dX2_findDomains_64 rfl hl (by decide) rfl (fun ls hl => ?_)
          exact hb65 v1 x19 M15 L16 _ _ ls hD hw (lv_sub hl [1, 2, 0] rfl)
  unfold DX2_findDomains at hD
  refine lv_iconst (v := 1) C.1.1 C.1.2.1 dX2_findDomains_0 (by decide) ?_
  refine lv_istore_n (lv' := [(1, .int 1), (0, .ref (ad k))]) C.1.1 C.1.2.1 dX2_findDomains_1 rfl hl (by decide) rfl (fun ls hl => ?_)
  exact hh2 fu 1 M L _ _ ls hD hw (lv_sub hl [1, 0] rfl)

theorem dX2_queue_0 : decode cX2_queue 0 = .ok (.aload_n 0, 1) := by decide +kernel
theorem dX2_queue_1 : decode cX2_queue 1 = .ok (.getfield 49, 3) := by decide +kernel
theorem dX2_queue_4 : decode cX2_queue 4 = .ok (.bipush 16, 2) := by decide +kernel
theorem dX2_queue_6 : decode cX2_queue 6 = .ok (.if_icmp .lt 5, 3) := by decide +kernel
theorem dX2_queue_9 : decode cX2_queue 9 = .ok (.iconst 0, 1) := by decide +kernel
theorem dX2_queue_10 : decode cX2_queue 10 = .ok (.ireturn, 1) := by decide +kernel
theorem dX2_queue_11 : decode cX2_queue 11 = .ok (.aload_n 0, 1) := by decide +kernel
theorem dX2_queue_12 : decode cX2_queue 12 = .ok (.getfield 26, 3) := by decide +kernel
theorem dX2_queue_15 : decode cX2_queue 15 = .ok (.aload_n 0, 1) := by decide +kernel
theorem dX2_queue_16 : decode cX2_queue 16 = .ok (.getfield 49, 3) := by decide +kernel
theorem dX2_queue_19 : decode cX2_queue 19 = .ok (.iload_n 1, 1) := by decide +kernel
theorem dX2_queue_20 : decode cX2_queue 20 = .ok (.iastore, 1) := by decide +kernel
theorem dX2_queue_21 : decode cX2_queue 21 = .ok (.aload_n 0, 1) := by decide +kernel
theorem dX2_queue_22 : decode cX2_queue 22 = .ok (.dup, 1) := by decide +kernel
theorem dX2_queue_23 : decode cX2_queue 23 = .ok (.getfield 49, 3) := by decide +kernel
theorem dX2_queue_26 : decode cX2_queue 26 = .ok (.iconst 1, 1) := by decide +kernel
theorem dX2_queue_27 : decode cX2_queue 27 = .ok (.iadd, 1) := by decide +kernel
theorem dX2_queue_28 : decode cX2_queue 28 = .ok (.putfield 49, 3) := by decide +kernel
theorem dX2_queue_31 : decode cX2_queue 31 = .ok (.iconst 1, 1) := by decide +kernel
theorem dX2_queue_32 : decode cX2_queue 32 = .ok (.ireturn, 1) := by decide +kernel
theorem cwX2_queue : mw_cwV yX2_queue cX2_queue 2 ((some .boolean)) 1 := ⟨⟨wd_12, wd_1646, by decide +kernel⟩, wd_1644, wd_1645⟩
set_option maxHeartbeats 4000000 in
set_option maxRecDepth 100000 in
theorem tX2_queue (l : Launch) (G : mwG) (ad : Nat → Nat) (fu : Nat) (k : Nat) (a1 : Int32) (M : mwM) (L : mwL) {r0 : Int32} {M0 : mwM} {L0 : mwL} (hD : DX2_queue fu k a1 M L = some (r0, M0, L0)) (hk0 : isCh k) : Met l yX2_queue (Cond.code yX2_queue cX2_queue 2 ((some .boolean)) :: GT) ({ frames := 0, cells := 0, slots := 0, locals := 0 }) (mw_Pre G ad NF TF FF M L [.ref (ad k), .int a1]) (mw_Qi G ad NF TF FF (mw_eqI r0 M0 L0)) 0 0 (mw_fr G) := by
  refine mw_enter (by decide) (Nat.le_of_ble_eq_true rfl) ?_
  intro p e s m below meth c ls C hr hlocks hnm hw hl
  have hl : lv_has ls 2 [(0, .ref (ad k)), (1, .int a1)] := hl
  unfold DX2_queue at hD
  refine lv_aload_n C.1.1 C.1.2.1 dX2_queue_0 rfl (lv_at hl 0 rfl) ?_
  refine mr_getI C hw kc_2 11 (Ch_N0 hk0) (Ch_T0 hk0) wd_464 dX2_queue_1 (by decide) rfl ?_
  refine lv_bipush (v := 16) C.1.1 C.1.2.1 dX2_queue_4 (by decide) ?_
  refine lv_icmp_lt (tgt := 11) C.1.1 C.1.2.1 dX2_queue_6 (by decide) (fun c1 => ?_) (fun c1 => ?_)
  · replace hD := g_pos c1 hD
    refine lv_aload_n C.1.1 C.1.2.1 dX2_queue_11 rfl (lv_at hl 0 rfl) ?_
    refine mr_getR C hw kc_2 4 (Ch_N0 hk0) (Ch_T0 hk0) (Ch_F0_4 hk0) wd_452 dX2_queue_12 (by decide) rfl ?_
    refine lv_aload_n C.1.1 C.1.2.1 dX2_queue_15 rfl (lv_at hl 0 rfl) ?_
    refine mr_getI C hw kc_2 11 (Ch_N0 hk0) (Ch_T0 hk0) wd_464 dX2_queue_16 (by decide) rfl ?_
    refine lv_iload_n C.1.1 C.1.2.1 dX2_queue_19 rfl (lv_at hl 1 rfl) ?_
    obtain ⟨q2, hD⟩ := g_ck hD
    obtain ⟨M3, eM3, hD⟩ := g_let hD
    refine mr_iast C hw (Ch_N35 hk0) (Ch_T35 hk0) q2 dX2_queue_20 (fun H locs hw => ?_)
    replace hw : mw_W G ad NF TF FF M3 L H locs := by rw [eM3]; exact hw
    refine lv_aload_n C.1.1 C.1.2.1 dX2_queue_21 rfl (lv_at hl 0 rfl) ?_
    refine lv_dup C.1.1 C.1.2.1 dX2_queue_22 rfl ?_
    refine mr_getI C hw kc_2 11 (Ch_N0 hk0) (Ch_T0 hk0) wd_464 dX2_queue_23 (by decide) rfl ?_
    refine lv_iconst (v := 1) C.1.1 C.1.2.1 dX2_queue_26 (by decide) ?_
    refine lv_iadd C.1.1 C.1.2.1 dX2_queue_27 ?_
    obtain ⟨M4, eM4, hD⟩ := g_let hD
    refine mr_putI C hw kc_2 11 (Ch_N0 hk0) (Ch_T0 hk0) wd_464 dX2_queue_28 (by decide) rfl rfl rfl rfl (fun H locs hw => ?_)
    replace hw : mw_W G ad NF TF FF M4 L H locs := by rw [eM4]; exact hw
    refine lv_iconst (v := 1) C.1.1 C.1.2.1 dX2_queue_31 (by decide) ?_
    exact mr_iret C hr hlocks hw (by decide +kernel) (Option.some.inj hD) dX2_queue_32
  · replace hD := g_neg c1 hD
    refine lv_iconst (v := 0) C.1.1 C.1.2.1 dX2_queue_9 (by decide) ?_
    exact mr_iret C hr hlocks hw (by decide +kernel) (Option.some.inj hD) dX2_queue_10
