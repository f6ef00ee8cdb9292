theorem dX16_where_0 : decode cX16_where 0 = .ok (.bipush 8, 2) := by decide +kernel
theorem dX16_where_2 : decode cX16_where 2 = .ok (.aload_n 0, 1) := by decide +kernel
theorem dX16_where_3 : decode cX16_where 3 = .ok (.getfield 50, 3) := by decide +kernel
theorem dX16_where_6 : decode cX16_where 6 = .ok (.aload_n 0, 1) := by decide +kernel
theorem dX16_where_7 : decode cX16_where 7 = .ok (.getfield 44, 3) := by decide +kernel
theorem dX16_where_10 : decode cX16_where 10 = .ok (.sipush 129, 3) := by decide +kernel
theorem dX16_where_13 : decode cX16_where 13 = .ok (.aload_n 0, 1) := by decide +kernel
theorem dX16_where_14 : decode cX16_where 14 = .ok (.getfield 84, 3) := by decide +kernel
theorem dX16_where_17 : decode cX16_where 17 = .ok (.imul, 1) := by decide +kernel
theorem dX16_where_18 : decode cX16_where 18 = .ok (.iload_n 1, 1) := by decide +kernel
theorem dX16_where_19 : decode cX16_where 19 = .ok (.iadd, 1) := by decide +kernel
theorem dX16_where_20 : decode cX16_where 20 = .ok (.iaload, 1) := by decide +kernel
theorem dX16_where_21 : decode cX16_where 21 = .ok (.iaload, 1) := by decide +kernel
theorem dX16_where_22 : decode cX16_where 22 = .ok (.imul, 1) := by decide +kernel
theorem dX16_where_23 : decode cX16_where 23 = .ok (.aload_n 0, 1) := by decide +kernel
theorem dX16_where_24 : decode cX16_where 24 = .ok (.getfield 47, 3) := by decide +kernel
theorem dX16_where_27 : decode cX16_where 27 = .ok (.sipush 129, 3) := by decide +kernel
theorem dX16_where_30 : decode cX16_where 30 = .ok (.aload_n 0, 1) := by decide +kernel
theorem dX16_where_31 : decode cX16_where 31 = .ok (.getfield 84, 3) := by decide +kernel
theorem dX16_where_34 : decode cX16_where 34 = .ok (.imul, 1) := by decide +kernel
theorem dX16_where_35 : decode cX16_where 35 = .ok (.iload_n 1, 1) := by decide +kernel
theorem dX16_where_36 : decode cX16_where 36 = .ok (.iadd, 1) := by decide +kernel
theorem dX16_where_37 : decode cX16_where 37 = .ok (.iaload, 1) := by decide +kernel
theorem dX16_where_38 : decode cX16_where 38 = .ok (.iadd, 1) := by decide +kernel
theorem dX16_where_39 : decode cX16_where 39 = .ok (.istore_n 3, 1) := by decide +kernel
theorem dX16_where_40 : decode cX16_where 40 = .ok (.aload_n 0, 1) := by decide +kernel
theorem dX16_where_41 : decode cX16_where 41 = .ok (.getfield 16, 3) := by decide +kernel
theorem dX16_where_44 : decode cX16_where 44 = .ok (.iload_n 1, 1) := by decide +kernel
theorem dX16_where_45 : decode cX16_where 45 = .ok (.baload, 1) := by decide +kernel
theorem dX16_where_46 : decode cX16_where 46 = .ok (.ifCond .eq 31, 3) := by decide +kernel
theorem dX16_where_49 : decode cX16_where 49 = .ok (.iload_n 3, 1) := by decide +kernel
theorem dX16_where_50 : decode cX16_where 50 = .ok (.bipush 8, 2) := by decide +kernel
theorem dX16_where_52 : decode cX16_where 52 = .ok (.aload_n 0, 1) := by decide +kernel
theorem dX16_where_53 : decode cX16_where 53 = .ok (.iload_n 1, 1) := by decide +kernel
theorem dX16_where_54 : decode cX16_where 54 = .ok (.invokevirtual 94, 3) := by decide +kernel
theorem dX16_where_57 : decode cX16_where 57 = .ok (.iconst 1, 1) := by decide +kernel
theorem dX16_where_58 : decode cX16_where 58 = .ok (.isub, 1) := by decide +kernel
theorem dX16_where_59 : decode cX16_where 59 = .ok (.imul, 1) := by decide +kernel
theorem dX16_where_60 : decode cX16_where 60 = .ok (.iadd, 1) := by decide +kernel
theorem dX16_where_61 : decode cX16_where 61 = .ok (.bipush 8, 2) := by decide +kernel
theorem dX16_where_63 : decode cX16_where 63 = .ok (.iload_n 2, 1) := by decide +kernel
theorem dX16_where_64 : decode cX16_where 64 = .ok (.bipush 8, 2) := by decide +kernel
theorem dX16_where_66 : decode cX16_where 66 = .ok (.idiv, 1) := by decide +kernel
theorem dX16_where_67 : decode cX16_where 67 = .ok (.imul, 1) := by decide +kernel
theorem dX16_where_68 : decode cX16_where 68 = .ok (.isub, 1) := by decide +kernel
theorem dX16_where_69 : decode cX16_where 69 = .ok (.iload_n 2, 1) := by decide +kernel
theorem dX16_where_70 : decode cX16_where 70 = .ok (.bipush 8, 2) := by decide +kernel
theorem dX16_where_72 : decode cX16_where 72 = .ok (.irem, 1) := by decide +kernel
theorem dX16_where_73 : decode cX16_where 73 = .ok (.iadd, 1) := by decide +kernel
theorem dX16_where_74 : decode cX16_where 74 = .ok (.goto 6, 3) := by decide +kernel
theorem dX16_where_77 : decode cX16_where 77 = .ok (.iload_n 3, 1) := by decide +kernel
theorem dX16_where_78 : decode cX16_where 78 = .ok (.iload_n 2, 1) := by decide +kernel
theorem dX16_where_79 : decode cX16_where 79 = .ok (.iadd, 1) := by decide +kernel
theorem dX16_where_80 : decode cX16_where 80 = .ok (.ireturn, 1) := by decide +kernel
theorem cwX16_where : mw_cwV yX16_where cX16_where 4 ((some .int)) 2 := ⟨⟨wd_19, wd_3565, by decide +kernel⟩, wd_3564, sl_218⟩
set_option maxHeartbeats 4000000 in
set_option maxRecDepth 100000 in
theorem tX16_where (l : Launch) (G : mwG) (ad : Nat → Nat) (fu : Nat) (k : Nat) (a1 : Int32) (a2 : Int32) (M : mwM) (L : mwL) {r0 : Int32} {M0 : mwM} {L0 : mwL} (hD : DX16_where fu k a1 a2 M L = some (r0, M0, L0)) (hk0 : isMp k) : Met l yX16_where (Cond.code yX16_where cX16_where 4 ((some .int)) :: GT) ({ frames := 1, cells := 0, slots := 0, locals := 21 }) (mw_Pre G ad NF TF FF M L [.ref (ad k), .int a1, .int a2]) (mw_Qi G ad NF TF FF (mw_eqI r0 M0 L0)) 0 0 (mw_fr G) := by
  refine mw_enter (by decide) (Nat.le_of_ble_eq_true rfl) ?_
  intro p e s m below meth c ls C hr hlocks hnm hw hl
  have hl : lv_has ls 4 [(0, .ref (ad k)), (1, .int a1), (2, .int a2)] := hl
  have hb80 : ∀ (s0 : Int32) (M : mwM) (L : mwL) (H : Heap) (locs : List Loc) (ls : Array Slot), fX16_where_b80 fu k a1 a2 s0 M L = some (r0, M0, L0) → mw_W G ad NF TF FF M L H locs → lv_has ls 4 [] → W p l e ({ frames := 1, cells := 0, slots := 0, locals := 21 }) s m [.ref (ad k), .int a1, .int a2].toArray below meth c H locs 0 0 (MQ below (mw_Qi G ad NF TF FF (mw_eqI r0 M0 L0)) [.ref (ad k), .int a1, .int a2].toArray s 0 0 (mw_fr G)) (F0 m 80 ls [.int s0]) := by
    intro s0 M L H locs ls hD hw hl
    unfold fX16_where_b80 at hD
    exact mr_iret C hr hlocks hw rfl (Option.some.inj hD) dX16_where_80
  unfold DX16_where at hD
  refine lv_bipush (v := 8) C.1.1 C.1.2.1 dX16_where_0 (by decide) ?_
  refine lv_aload_n C.1.1 C.1.2.1 dX16_where_2 rfl (lv_at hl 0 rfl) ?_
  refine mr_getR C hw kc_16 18 (Mp_N0 hk0) (Mp_T0 hk0) (Mp_F0_18 hk0) wd_2573 dX16_where_3 (by decide) rfl ?_
  refine lv_aload_n C.1.1 C.1.2.1 dX16_where_6 rfl (lv_at hl 0 rfl) ?_
  refine mr_getR C hw kc_16 16 (Mp_N0 hk0) (Mp_T0 hk0) (Mp_F0_16 hk0) wd_2571 dX16_where_7 (by decide) rfl ?_
  refine lv_sipush (v := 129) C.1.1 C.1.2.1 dX16_where_10 (by decide) ?_
  refine lv_aload_n C.1.1 C.1.2.1 dX16_where_13 rfl (lv_at hl 0 rfl) ?_
  refine mr_getI C hw kc_16 15 (Mp_N0 hk0) (Mp_T0 hk0) wd_2570 dX16_where_14 (by decide) rfl ?_
  refine lv_imul C.1.1 C.1.2.1 dX16_where_17 ?_
  refine lv_iload_n C.1.1 C.1.2.1 dX16_where_18 rfl (lv_at hl 1 rfl) ?_
  refine lv_iadd C.1.1 C.1.2.1 dX16_where_19 ?_
  obtain ⟨q1, hD⟩ := g_ck hD
  refine mr_iald C hw (Mp_N12 hk0) (Mp_T12 hk0) q1 dX16_where_20 ?_
  obtain ⟨q2, hD⟩ := g_ck hD
  refine mr_iald C hw (Mp_N14 hk0) (Mp_T14 hk0) q2 dX16_where_21 ?_
  refine lv_imul C.1.1 C.1.2.1 dX16_where_22 ?_
  refine lv_aload_n C.1.1 C.1.2.1 dX16_where_23 rfl (lv_at hl 0 rfl) ?_
  refine mr_getR C hw kc_16 17 (Mp_N0 hk0) (Mp_T0 hk0) (Mp_F0_17 hk0) wd_2572 dX16_where_24 (by decide) rfl ?_
  refine lv_sipush (v := 129) C.1.1 C.1.2.1 dX16_where_27 (by decide) ?_
  refine lv_aload_n C.1.1 C.1.2.1 dX16_where_30 rfl (lv_at hl 0 rfl) ?_
  refine mr_getI C hw kc_16 15 (Mp_N0 hk0) (Mp_T0 hk0) wd_2570 dX16_where_31 (by decide) rfl ?_
  refine lv_imul C.1.1 C.1.2.1 dX16_where_34 ?_
  refine lv_iload_n C.1.1 C.1.2.1 dX16_where_35 rfl (lv_at hl 1 rfl) ?_
  refine lv_iadd C.1.1 C.1.2.1 dX16_where_36 ?_
  obtain ⟨q3, hD⟩ := g_ck hD
  refine mr_iald C hw (Mp_N13 hk0) (Mp_T13 hk0) q3 dX16_where_37 ?_
  refine lv_iadd C.1.1 C.1.2.1 dX16_where_38 ?_
  obtain ⟨x4, ex4, hD⟩ := g_let hD
  refine W.eq (g2 := F0 m 39 ls (.int x4 :: [])) (by rw [ex4]) ?_
  refine lv_istore_n (lv' := [(3, .int x4), (0, .ref (ad k)), (1, .int a1), (2, .int a2)]) C.1.1 C.1.2.1 dX16_where_39 rfl hl (by decide) rfl (fun ls hl => ?_)
  refine lv_aload_n C.1.1 C.1.2.1 dX16_where_40 rfl (lv_at hl 1 rfl) ?_
  refine mr_getR C hw kc_16 5 (Mp_N0 hk0) (Mp_T0 hk0) (Mp_F0_5 hk0) wd_2560 dX16_where_41 (by decide) rfl ?_
  refine lv_iload_n C.1.1 C.1.2.1 dX16_where_44 rfl (lv_at hl 2 rfl) ?_
  obtain ⟨q5, hD⟩ := g_ck hD
  refine mr_zald C hw (Mp_N3 hk0) (Mp_T3 hk0) q5 dX16_where_45 ?_
  refine lv_if_eq (tgt := 77) C.1.1 C.1.2.1 dX16_where_46 (by decide) (fun c6 => ?_) (fun c6 => ?_)
  · replace hD := g_pos c6 hD
    refine lv_iload_n C.1.1 C.1.2.1 dX16_where_77 rfl (lv_at hl 0 rfl) ?_
    refine lv_iload_n C.1.1 C.1.2.1 dX16_where_78 rfl (lv_at hl 3 rfl) ?_
    refine lv_iadd C.1.1 C.1.2.1 dX16_where_79 ?_
    exact hb80 (x4 + a2) M L _ _ ls hD hw (lv_sub hl [] rfl)
  · replace hD := g_neg c6 hD
    refine lv_iload_n C.1.1 C.1.2.1 dX16_where_49 rfl (lv_at hl 0 rfl) ?_
    refine lv_bipush (v := 8) C.1.1 C.1.2.1 dX16_where_50 (by decide) ?_
    refine lv_aload_n C.1.1 C.1.2.1 dX16_where_52 rfl (lv_at hl 1 rfl) ?_
    refine lv_iload_n C.1.1 C.1.2.1 dX16_where_53 rfl (lv_at hl 2 rfl) ?_
    obtain ⟨r9, M7, L8, h1, hD⟩ := g_b3 hD
    refine md_cvI (As := [.int a1]) (rest := [.int 8, .int x4]) C hw (tX16_octetsOf l G ad fu k a1 M L h1 hk0) kc_16 (Mp_N0 hk0) (Mp_T0 hk0) wd_3429 cwX16_octetsOf ⟨Nat.le_of_ble_eq_true rfl, Nat.le_of_ble_eq_true rfl⟩ rfl hl.1 (Nat.le_of_ble_eq_true rfl) dX16_where_54 rfl rfl ⟨Nat.zero_le _, Nat.zero_le _⟩ rfl (fun H locs hw => ?_)
    refine lv_iconst (v := 1) C.1.1 C.1.2.1 dX16_where_57 (by decide) ?_
    refine lv_isub C.1.1 C.1.2.1 dX16_where_58 ?_
    refine lv_imul C.1.1 C.1.2.1 dX16_where_59 ?_
    refine lv_iadd C.1.1 C.1.2.1 dX16_where_60 ?_
    refine lv_bipush (v := 8) C.1.1 C.1.2.1 dX16_where_61 (by decide) ?_
    refine lv_iload_n C.1.1 C.1.2.1 dX16_where_63 rfl (lv_at hl 3 rfl) ?_
    refine lv_bipush (v := 8) C.1.1 C.1.2.1 dX16_where_64 (by decide) ?_
    refine lv_idiv C.1.1 C.1.2.1 dX16_where_66 (by decide) ?_
    refine lv_imul C.1.1 C.1.2.1 dX16_where_67 ?_
    refine lv_isub C.1.1 C.1.2.1 dX16_where_68 ?_
    refine lv_iload_n C.1.1 C.1.2.1 dX16_where_69 rfl (lv_at hl 3 rfl) ?_
    refine lv_bipush (v := 8) C.1.1 C.1.2.1 dX16_where_70 (by decide) ?_
    refine lv_irem C.1.1 C.1.2.1 dX16_where_72 (by decide) ?_
    refine lv_iadd C.1.1 C.1.2.1 dX16_where_73 ?_
    refine lv_goto (tgt := 80) C.1.1 C.1.2.1 dX16_where_74 (by decide) ?_
    exact hb80 (((x4 + (8 * (r9 - 1))) - (8 * (a2 / 8))) + (a2 - a2 / 8 * 8)) M7 L8 _ _ ls hD hw (lv_sub hl [] rfl)

theorem dX16_write_0 : decode cX16_write 0 = .ok (.iconst 0, 1) := by decide +kernel
theorem dX16_write_1 : decode cX16_write 1 = .ok (.istore 4, 2) := by decide +kernel
theorem dX16_write_3 : decode cX16_write 3 = .ok (.iload 4, 2) := by decide +kernel
theorem dX16_write_5 : decode cX16_write 5 = .ok (.aload_n 0, 1) := by decide +kernel
theorem dX16_write_6 : decode cX16_write 6 = .ok (.getfield 7, 3) := by decide +kernel
theorem dX16_write_9 : decode cX16_write 9 = .ok (.iload_n 1, 1) := by decide +kernel
theorem dX16_write_10 : decode cX16_write 10 = .ok (.iaload, 1) := by decide +kernel
theorem dX16_write_11 : decode cX16_write 11 = .ok (.if_icmp .ge 79, 3) := by decide +kernel
theorem dX16_write_14 : decode cX16_write 14 = .ok (.aload_n 0, 1) := by decide +kernel
theorem dX16_write_15 : decode cX16_write 15 = .ok (.iload_n 1, 1) := by decide +kernel
theorem dX16_write_16 : decode cX16_write 16 = .ok (.iload 4, 2) := by decide +kernel
theorem dX16_write_18 : decode cX16_write 18 = .ok (.invokevirtual 161, 3) := by decide +kernel
theorem dX16_write_21 : decode cX16_write 21 = .ok (.istore 5, 2) := by decide +kernel
theorem dX16_write_23 : decode cX16_write 23 = .ok (.iconst 1, 1) := by decide +kernel
theorem dX16_write_24 : decode cX16_write 24 = .ok (.iload 5, 2) := by decide +kernel
theorem dX16_write_26 : decode cX16_write 26 = .ok (.bipush 7, 2) := by decide +kernel
theorem dX16_write_28 : decode cX16_write 28 = .ok (.iand, 1) := by decide +kernel
theorem dX16_write_29 : decode cX16_write 29 = .ok (.ishl, 1) := by decide +kernel
theorem dX16_write_30 : decode cX16_write 30 = .ok (.istore 6, 2) := by decide +kernel
theorem dX16_write_32 : decode cX16_write 32 = .ok (.aload_n 0, 1) := by decide +kernel
theorem dX16_write_33 : decode cX16_write 33 = .ok (.getfield 53, 3) := by decide +kernel
theorem dX16_write_36 : decode cX16_write 36 = .ok (.iload 5, 2) := by decide +kernel
theorem dX16_write_38 : decode cX16_write 38 = .ok (.bipush 8, 2) := by decide +kernel
theorem dX16_write_40 : decode cX16_write 40 = .ok (.idiv, 1) := by decide +kernel
theorem dX16_write_41 : decode cX16_write 41 = .ok (.lload_n 2, 1) := by decide +kernel
theorem dX16_write_42 : decode cX16_write 42 = .ok (.iload 4, 2) := by decide +kernel
theorem dX16_write_44 : decode cX16_write 44 = .ok (.lshr, 1) := by decide +kernel
theorem dX16_write_45 : decode cX16_write 45 = .ok (.lconst 1, 1) := by decide +kernel
theorem dX16_write_46 : decode cX16_write 46 = .ok (.land, 1) := by decide +kernel
theorem dX16_write_47 : decode cX16_write 47 = .ok (.lconst 1, 1) := by decide +kernel
theorem dX16_write_48 : decode cX16_write 48 = .ok (.lcmp, 1) := by decide +kernel
theorem dX16_write_49 : decode cX16_write 49 = .ok (.ifCond .ne 19, 3) := by decide +kernel
theorem dX16_write_52 : decode cX16_write 52 = .ok (.aload_n 0, 1) := by decide +kernel
theorem dX16_write_53 : decode cX16_write 53 = .ok (.getfield 53, 3) := by decide +kernel
theorem dX16_write_56 : decode cX16_write 56 = .ok (.iload 5, 2) := by decide +kernel
theorem dX16_write_58 : decode cX16_write 58 = .ok (.bipush 8, 2) := by decide +kernel
theorem dX16_write_60 : decode cX16_write 60 = .ok (.idiv, 1) := by decide +kernel
theorem dX16_write_61 : decode cX16_write 61 = .ok (.iaload, 1) := by decide +kernel
theorem dX16_write_62 : decode cX16_write 62 = .ok (.iload 6, 2) := by decide +kernel
theorem dX16_write_64 : decode cX16_write 64 = .ok (.ior, 1) := by decide +kernel
theorem dX16_write_65 : decode cX16_write 65 = .ok (.goto 18, 3) := by decide +kernel
theorem dX16_write_68 : decode cX16_write 68 = .ok (.aload_n 0, 1) := by decide +kernel
theorem dX16_write_69 : decode cX16_write 69 = .ok (.getfield 53, 3) := by decide +kernel
theorem dX16_write_72 : decode cX16_write 72 = .ok (.iload 5, 2) := by decide +kernel
theorem dX16_write_74 : decode cX16_write 74 = .ok (.bipush 8, 2) := by decide +kernel
theorem dX16_write_76 : decode cX16_write 76 = .ok (.idiv, 1) := by decide +kernel
theorem dX16_write_77 : decode cX16_write 77 = .ok (.iaload, 1) := by decide +kernel
theorem dX16_write_78 : decode cX16_write 78 = .ok (.iload 6, 2) := by decide +kernel
theorem dX16_write_80 : decode cX16_write 80 = .ok (.iconst (-1), 1) := by decide +kernel
theorem dX16_write_81 : decode cX16_write 81 = .ok (.ixor, 1) := by decide +kernel
theorem dX16_write_82 : decode cX16_write 82 = .ok (.iand, 1) := by decide +kernel
theorem dX16_write_83 : decode cX16_write 83 = .ok (.iastore, 1) := by decide +kernel
theorem dX16_write_84 : decode cX16_write 84 = .ok (.iinc 4 1, 3) := by decide +kernel
theorem dX16_write_87 : decode cX16_write 87 = .ok (.goto (-84), 3) := by decide +kernel
theorem dX16_write_90 : decode cX16_write 90 = .ok (.return_, 1) := by decide +kernel
theorem cwX16_write : mw_cwV yX16_write cX16_write 7 (none) 2 := ⟨⟨wd_19, wd_3561, by decide +kernel⟩, wd_3560, sl_217⟩
set_option maxHeartbeats 4000000 in
set_option maxRecDepth 100000 in
theorem tX16_write (l : Launch) (G : mwG) (ad : Nat → Nat) (fu : Nat) (k : Nat) (a1 : Int32) (a2 : Int64) (M : mwM) (L : mwL) {M0 : mwM} {L0 : mwL} (hD : DX16_write fu k a1 a2 M L = some (M0, L0)) (hk0 : isMp k) : Met l yX16_write (Cond.code yX16_write cX16_write 7 (none) :: GT) ({ frames := 2, cells := 0, slots := 0, locals := 44 }) (mw_Pre G ad NF TF FF M L [.ref (ad k), .int a1, .long a2]) (mw_Qv G ad NF TF FF (mw_eqV M0 L0)) 0 0 (mw_fr G) := by
  refine mw_enter (by decide) (Nat.le_of_ble_eq_true rfl) ?_
  intro p e s m below meth c ls C hr hlocks hnm hw hl
  have hl : lv_has ls 7 [(0, .ref (ad k)), (1, .int a1), (2, .long a2)] := hl
  have hh3 : ∀ (f : Nat) (v4 : Int32) (M : mwM) (L : mwL) (H : Heap) (locs : List Loc) (ls : Array Slot), fX16_write_h3 fu k a1 a2 f (v4, M, L) = some (M0, L0) → mw_W G ad NF TF FF M L H locs → lv_has ls 7 [(0, .ref (ad k)), (1, .int a1), (2, .long a2), (4, .int v4)] → W p l e ({ frames := 2, cells := 0, slots := 0, locals := 44 }) s m [.ref (ad k), .int a1, .long a2].toArray below meth c H locs 0 0 (MQ below (mw_Qv G ad NF TF FF (mw_eqV M0 L0)) [.ref (ad k), .int a1, .long a2].toArray s 0 0 (mw_fr G)) (F0 m 3 ls []) := by
    intro f
    induction f with
    | zero => intro v4 M L H locs ls hD; cases hD
    | succ f3 ih3 =>
      intro v4 M L H locs ls hD hw hl
      replace hD : fX16_write_i3 fu k a1 a2 (fX16_write_h3 fu k a1 a2 f3) v4 M L = some (M0, L0) := hD
      have hb83 : ∀ (v4 : Int32) (s1 : Int32) (s2 : Int32) (M : mwM) (L : mwL) (H : Heap) (locs : List Loc) (ls : Array Slot), fX16_write_b83 fu k a1 a2 (fX16_write_h3 fu k a1 a2 f3) v4 s1 s2 M L = some (M0, L0) → mw_W G ad NF TF FF M L H locs → lv_has ls 7 [(0, .ref (ad k)), (1, .int a1), (2, .long a2), (4, .int v4)] → W p l e ({ frames := 2, cells := 0, slots := 0, locals := 44 }) s m [.ref (ad k), .int a1, .long a2].toArray below meth c H locs 0 0 (MQ below (mw_Qv G ad NF TF FF (mw_eqV M0 L0)) [.ref (ad k), .int a1, .long a2].toArray s 0 0 (mw_fr G)) (F0 m 83 ls [.int s2, .int s1, .ref (ad (k + 15))]) := by
        intro v4 s1 s2 M L H locs ls hD hw hl
        unfold fX16_write_b83 at hD
        obtain ⟨q13, hD⟩ := g_ck hD
        obtain ⟨M14, eM14, hD⟩ := g_let hD
        refine mr_iast C hw (Mp_N15 hk0) (Mp_T15 hk0) q13 dX16_write_83 (fun H locs hw => ?_)
        replace hw : mw_W G ad NF TF FF M14 L H locs := by rw [eM14]; exact hw
        obtain ⟨x15, ex15, hD⟩ := g_let hD
        refine lv_iinc (v := x15) (lv' := [(4, .int x15), (0, .ref (ad k)), (1, .int a1), (2, .long a2)]) C.1.1 C.1.2.1 dX16_write_84 hl (k := 3) rfl (by rw [ex15]; rfl) (by decide) rfl (fun ls hl => ?_)
        refine lv_goto (tgt := 3) C.1.1 C.1.2.1 dX16_write_87 (by decide) ?_
        exact ih3 x15 M14 L _ _ ls hD hw (lv_sub hl [1, 2, 3, 0] rfl)
      unfold fX16_write_i3 at hD
      refine lv_iload C.1.1 C.1.2.1 dX16_write_3 (lv_at hl 3 rfl) ?_
      refine lv_aload_n C.1.1 C.1.2.1 dX16_write_5 rfl (lv_at hl 0 rfl) ?_
      refine mr_getR C hw kc_16 3 (Mp_N0 hk0) (Mp_T0 hk0) (Mp_F0_3 hk0) wd_2558 dX16_write_6 (by decide) rfl ?_
      refine lv_iload_n C.1.1 C.1.2.1 dX16_write_9 rfl (lv_at hl 1 rfl) ?_
      obtain ⟨q1, hD⟩ := g_ck hD
      refine mr_iald C hw (Mp_N1 hk0) (Mp_T1 hk0) q1 dX16_write_10 ?_
      refine lv_icmp_ge (tgt := 90) C.1.1 C.1.2.1 dX16_write_11 (by decide) (fun c2 => ?_) (fun c2 => ?_)
      · replace hD := g_pos c2 hD
        exact mr_vret C hr hlocks hw (Option.some.inj hD) dX16_write_90
      · replace hD := g_neg c2 hD
        refine lv_aload_n C.1.1 C.1.2.1 dX16_write_14 rfl (lv_at hl 0 rfl) ?_
        refine lv_iload_n C.1.1 C.1.2.1 dX16_write_15 rfl (lv_at hl 1 rfl) ?_
        refine lv_iload C.1.1 C.1.2.1 dX16_write_16 (lv_at hl 3 rfl) ?_
        obtain ⟨r5, M3, L4, h1, hD⟩ := g_b3 hD
        refine md_cvI (As := [.int a1, .int v4]) (rest := []) C hw (tX16_where l G ad fu k a1 v4 M L h1 hk0) kc_16 (Mp_N0 hk0) (Mp_T0 hk0) wd_3562 cwX16_where ⟨Nat.le_of_ble_eq_true rfl, Nat.le_of_ble_eq_true rfl⟩ rfl hl.1 (Nat.le_of_ble_eq_true rfl) dX16_write_18 rfl rfl ⟨Nat.zero_le _, Nat.zero_le _⟩ rfl (fun H locs hw => ?_)
        refine lv_istore (lv' := [(5, .int r5), (0, .ref (ad k)), (1, .int a1), (2, .long a2), (4, .int v4)]) C.1.1 C.1.2.1 dX16_write_21 hl (by decide) rfl (fun ls hl => ?_)
        refine lv_iconst (v := 1) C.1.1 C.1.2.1 dX16_write_23 (by decide) ?_
        refine lv_iload C.1.1 C.1.2.1 dX16_write_24 (lv_at hl 0 rfl) ?_
        refine lv_bipush (v := 7) C.1.1 C.1.2.1 dX16_write_26 (by decide) ?_
        refine lv_iand C.1.1 C.1.2.1 dX16_write_28 ?_
        refine lv_ishl C.1.1 C.1.2.1 dX16_write_29 ?_
        obtain ⟨x6, ex6, hD⟩ := g_let hD
        refine W.eq (g2 := F0 m 30 ls (.int x6 :: [])) (by rw [ex6]) ?_
        refine lv_istore (lv' := [(6, .int x6), (5, .int r5), (0, .ref (ad k)), (1, .int a1), (2, .long a2), (4, .int v4)]) C.1.1 C.1.2.1 dX16_write_30 hl (by decide) rfl (fun ls hl => ?_)
        refine lv_aload_n C.1.1 C.1.2.1 dX16_write_32 rfl (lv_at hl 2 rfl) ?_
        refine mr_getR C hw kc_16 19 (Mp_N0 hk0) (Mp_T0 hk0) (Mp_F0_19 hk0) wd_2574 dX16_write_33 (by decide) rfl ?_
        refine lv_iload C.1.1 C.1.2.1 dX16_write_36 (lv_at hl 1 rfl) ?_
        refine lv_bipush (v := 8) C.1.1 C.1.2.1 dX16_write_38 (by decide) ?_
        refine lv_idiv C.1.1 C.1.2.1 dX16_write_40 (by decide) ?_
        refine lv_lload_n C.1.1 C.1.2.1 dX16_write_41 rfl (lv_at hl 4 rfl) ?_
        refine lv_iload C.1.1 C.1.2.1 dX16_write_42 (lv_at hl 5 rfl) ?_
        refine lv_lshr C.1.1 C.1.2.1 dX16_write_44 rfl ?_
        refine lv_lconst (v := 1) C.1.1 C.1.2.1 dX16_write_45 (by decide) ?_
        refine lv_land C.1.1 C.1.2.1 dX16_write_46 ?_
        refine lv_lconst (v := 1) C.1.1 C.1.2.1 dX16_write_47 (by decide) ?_
        refine W.lcmp C.1.1 C.1.2.1 dX16_write_48 ?_
        refine lv_if_ne (tgt := 68) C.1.1 C.1.2.1 dX16_write_49 (by decide) (fun c8 => ?_) (fun c8 => ?_)
        · replace hD := g_neg c8 hD
          refine lv_aload_n C.1.1 C.1.2.1 dX16_write_68 rfl (lv_at hl 2 rfl) ?_
          refine mr_getR C hw kc_16 19 (Mp_N0 hk0) (Mp_T0 hk0) (Mp_F0_19 hk0) wd_2574 dX16_write_69 (by decide) rfl ?_
          refine lv_iload C.1.1 C.1.2.1 dX16_write_72 (lv_at hl 1 rfl) ?_
          refine lv_bipush (v := 8) C.1.1 C.1.2.1 dX16_write_74 (by decide) ?_
          refine lv_idiv C.1.1 C.1.2.1 dX16_write_76 (by decide) ?_
          obtain ⟨q10, hD⟩ := g_ck hD
          refine mr_iald C hw (Mp_N15 hk0) (Mp_T15 hk0) q10 dX16_write_77 ?_
          refine lv_iload C.1.1 C.1.2.1 dX16_write_78 (lv_at hl 0 rfl) ?_
          refine lv_iconst (v := (-1)) C.1.1 C.1.2.1 dX16_write_80 (by decide) ?_
          refine lv_ixor C.1.1 C.1.2.1 dX16_write_81 ?_
          refine lv_iand C.1.1 C.1.2.1 dX16_write_82 ?_
          exact hb83 v4 (r5 / 8) ((M3 (k + 15) (r5 / 8).toNatClampNeg) &&& (x6 ^^^ ((-1)))) M3 L4 _ _ ls hD hw (lv_sub hl [2, 3, 4, 5] rfl)
        · replace hD := g_pos c8 hD
          refine lv_aload_n C.1.1 C.1.2.1 dX16_write_52 rfl (lv_at hl 2 rfl) ?_
          refine mr_getR C hw kc_16 19 (Mp_N0 hk0) (Mp_T0 hk0) (Mp_F0_19 hk0) wd_2574 dX16_write_53 (by decide) rfl ?_
          refine lv_iload C.1.1 C.1.2.1 dX16_write_56 (lv_at hl 1 rfl) ?_
          refine lv_bipush (v := 8) C.1.1 C.1.2.1 dX16_write_58 (by decide) ?_
          refine lv_idiv C.1.1 C.1.2.1 dX16_write_60 (by decide) ?_
          obtain ⟨q12, hD⟩ := g_ck hD
          refine mr_iald C hw (Mp_N15 hk0) (Mp_T15 hk0) q12 dX16_write_61 ?_
          refine lv_iload C.1.1 C.1.2.1 dX16_write_62 (lv_at hl 0 rfl) ?_
          refine lv_ior C.1.1 C.1.2.1 dX16_write_64 ?_
          refine lv_goto (tgt := 83) C.1.1 C.1.2.1 dX16_write_65 (by decide) ?_
          exact hb83 v4 (r5 / 8) ((M3 (k + 15) (r5 / 8).toNatClampNeg) ||| x6) M3 L4 _ _ ls hD hw (lv_sub hl [2, 3, 4, 5] rfl)
  unfold DX16_write at hD
  refine lv_iconst (v := 0) C.1.1 C.1.2.1 dX16_write_0 (by decide) ?_
  refine lv_istore (lv' := [(4, .int 0), (0, .ref (ad k)), (1, .int a1), (2, .long a2)]) C.1.1 C.1.2.1 dX16_write_1 hl (by decide) rfl (fun ls hl => ?_)
  exact hh3 fu 0 M L _ _ ls hD hw (lv_sub hl [1, 2, 3, 0] rfl)

theorem dX16_put_0 : decode cX16_put 0 = .ok (.aload_n 0, 1) := by decide +kernel
theorem dX16_put_1 : decode cX16_put 1 = .ok (.iconst 0, 1) := by decide +kernel
theorem dX16_put_2 : decode cX16_put 2 = .ok (.putfield 91, 3) := by decide +kernel
theorem dX16_put_5 : decode cX16_put 5 = .ok (.aload_n 0, 1) := by decide +kernel
theorem dX16_put_6 : decode cX16_put 6 = .ok (.iload_n 1, 1) := by decide +kernel
theorem dX16_put_7 : decode cX16_put 7 = .ok (.invokevirtual 158, 3) := by decide +kernel
theorem dX16_put_10 : decode cX16_put 10 = .ok (.ifCond .eq 4, 3) := by decide +kernel
theorem dX16_put_13 : decode cX16_put 13 = .ok (.return_, 1) := by decide +kernel
theorem dX16_put_14 : decode cX16_put 14 = .ok (.aload_n 0, 1) := by decide +kernel
theorem dX16_put_15 : decode cX16_put 15 = .ok (.getfield 26, 3) := by decide +kernel
theorem dX16_put_18 : decode cX16_put 18 = .ok (.aload_n 0, 1) := by decide +kernel
theorem dX16_put_19 : decode cX16_put 19 = .ok (.getfield 23, 3) := by decide +kernel
theorem dX16_put_22 : decode cX16_put 22 = .ok (.iload_n 1, 1) := by decide +kernel
theorem dX16_put_23 : decode cX16_put 23 = .ok (.iaload, 1) := by decide +kernel
theorem dX16_put_24 : decode cX16_put 24 = .ok (.iaload, 1) := by decide +kernel
theorem dX16_put_25 : decode cX16_put 25 = .ok (.istore 4, 2) := by decide +kernel
theorem dX16_put_27 : decode cX16_put 27 = .ok (.aload_n 0, 1) := by decide +kernel
theorem dX16_put_28 : decode cX16_put 28 = .ok (.getfield 20, 3) := by decide +kernel
theorem dX16_put_31 : decode cX16_put 31 = .ok (.iload_n 1, 1) := by decide +kernel
theorem dX16_put_32 : decode cX16_put 32 = .ok (.iaload, 1) := by decide +kernel
theorem dX16_put_33 : decode cX16_put 33 = .ok (.ifCond .lt 25, 3) := by decide +kernel
theorem dX16_put_36 : decode cX16_put 36 = .ok (.aload_n 0, 1) := by decide +kernel
theorem dX16_put_37 : decode cX16_put 37 = .ok (.iload 4, 2) := by decide +kernel
theorem dX16_put_39 : decode cX16_put 39 = .ok (.invokevirtual 158, 3) := by decide +kernel
theorem dX16_put_42 : decode cX16_put 42 = .ok (.ifCond .ne 16, 3) := by decide +kernel
theorem dX16_put_45 : decode cX16_put 45 = .ok (.aload_n 0, 1) := by decide +kernel
theorem dX16_put_46 : decode cX16_put 46 = .ok (.iload 4, 2) := by decide +kernel
theorem dX16_put_48 : decode cX16_put 48 = .ok (.aload_n 0, 1) := by decide +kernel
theorem dX16_put_49 : decode cX16_put 49 = .ok (.getfield 20, 3) := by decide +kernel
theorem dX16_put_52 : decode cX16_put 52 = .ok (.iload_n 1, 1) := by decide +kernel
theorem dX16_put_53 : decode cX16_put 53 = .ok (.iaload, 1) := by decide +kernel
theorem dX16_put_54 : decode cX16_put 54 = .ok (.i2l, 1) := by decide +kernel
theorem dX16_put_55 : decode cX16_put 55 = .ok (.invokevirtual 164, 3) := by decide +kernel
theorem dX16_put_58 : decode cX16_put 58 = .ok (.aload_n 0, 1) := by decide +kernel
theorem dX16_put_59 : decode cX16_put 59 = .ok (.iload_n 1, 1) := by decide +kernel
theorem dX16_put_60 : decode cX16_put 60 = .ok (.lload_n 2, 1) := by decide +kernel
theorem dX16_put_61 : decode cX16_put 61 = .ok (.invokevirtual 164, 3) := by decide +kernel
theorem dX16_put_64 : decode cX16_put 64 = .ok (.return_, 1) := by decide +kernel
theorem cwX16_put : mw_cwV yX16_put cX16_put 5 (none) 2 := ⟨⟨wd_19, wd_3557, by decide +kernel⟩, wd_3555, wd_3556⟩
set_option maxHeartbeats 4000000 in
set_option maxRecDepth 100000 in
theorem tX16_put (l : Launch) (G : mwG) (ad : Nat → Nat) (fu : Nat) (k : Nat) (a1 : Int32) (a2 : Int64) (M : mwM) (L : mwL) {M0 : mwM} {L0 : mwL} (hD : DX16_put fu k a1 a2 M L = some (M0, L0)) (hk0 : isMp k) : Met l yX16_put (Cond.code yX16_put cX16_put 5 (none) :: GT) ({ frames := 3, cells := 0, slots := 0, locals := 70 }) (mw_Pre G ad NF TF FF M L [.ref (ad k), .int a1, .long a2]) (mw_Qv G ad NF TF FF (mw_eqV M0 L0)) 0 0 (mw_fr G) := by
  refine mw_enter (by decide) (Nat.le_of_ble_eq_true rfl) ?_
  intro p e s m below meth c ls C hr hlocks hnm hw hl
  have hl : lv_has ls 5 [(0, .ref (ad k)), (1, .int a1), (2, .long a2)] := hl
  have hb58 : ∀ (M : mwM) (L : mwL) (H : Heap) (locs : List Loc) (ls : Array Slot), fX16_put_b58 fu k a1 a2 M L = some (M0, L0) → mw_W G ad NF TF FF M L H locs → lv_has ls 5 [(0, .ref (ad k)), (1, .int a1), (2, .long a2)] → W p l e ({ frames := 3, cells := 0, slots := 0, locals := 70 }) s m [.ref (ad k), .int a1, .long a2].toArray below meth c H locs 0 0 (MQ below (mw_Qv G ad NF TF FF (mw_eqV M0 L0)) [.ref (ad k), .int a1, .long a2].toArray s 0 0 (mw_fr G)) (F0 m 58 ls []) := by
    intro M L H locs ls hD hw hl
    unfold fX16_put_b58 at hD
    refine lv_aload_n C.1.1 C.1.2.1 dX16_put_58 rfl (lv_at hl 0 rfl) ?_
    refine lv_iload_n C.1.1 C.1.2.1 dX16_put_59 rfl (lv_at hl 1 rfl) ?_
    refine lv_lload_n C.1.1 C.1.2.1 dX16_put_60 rfl (lv_at hl 2 rfl) ?_
    obtain ⟨M1, L2, h1, hD⟩ := g_b2 hD
    refine md_cvV (As := [.int a1, .long a2]) (rest := []) C hw (tX16_write l G ad fu k a1 a2 M L h1 hk0) kc_16 (Mp_N0 hk0) (Mp_T0 hk0) wd_3558 cwX16_write ⟨Nat.le_of_ble_eq_true rfl, Nat.le_of_ble_eq_true rfl⟩ rfl hl.1 (Nat.le_of_ble_eq_true rfl) dX16_put_61 rfl rfl ⟨Nat.zero_le _, Nat.zero_le _⟩ rfl (fun H locs hw => ?_)
    exact mr_vret C hr hlocks hw (Option.some.inj hD) dX16_put_64
  unfold DX16_put at hD
  refine lv_aload_n C.1.1 C.1.2.1 dX16_put_0 rfl (lv_at hl 0 rfl) ?_
  refine lv_iconst (v := 0) C.1.1 C.1.2.1 dX16_put_1 (by decide) ?_
  obtain ⟨M3, eM3, hD⟩ := g_let hD
  refine mr_putI C hw kc_16 0 (Mp_N0 hk0) (Mp_T0 hk0) wd_2555 dX16_put_2 (by decide) rfl rfl rfl rfl (fun H locs hw => ?_)
  replace hw : mw_W G ad NF TF FF M3 L H locs := by rw [eM3]; exact hw
  refine lv_aload_n C.1.1 C.1.2.1 dX16_put_5 rfl (lv_at hl 0 rfl) ?_
  refine lv_iload_n C.1.1 C.1.2.1 dX16_put_6 rfl (lv_at hl 1 rfl) ?_
  obtain ⟨r6, M4, L5, h1, hD⟩ := g_b3 hD
  refine md_cvI (As := [.int a1]) (rest := []) C hw (tX16_isNowhere l G ad fu k a1 M3 L h1 hk0) kc_16 (Mp_N0 hk0) (Mp_T0 hk0) wd_3487 cwX16_isNowhere ⟨Nat.le_of_ble_eq_true rfl, Nat.le_of_ble_eq_true rfl⟩ rfl hl.1 (Nat.le_of_ble_eq_true rfl) dX16_put_7 rfl rfl ⟨Nat.zero_le _, Nat.zero_le _⟩ rfl (fun H locs hw => ?_)
  refine lv_if_eq (tgt := 14) C.1.1 C.1.2.1 dX16_put_10 (by decide) (fun c7 => ?_) (fun c7 => ?_)
  · replace hD := g_pos c7 hD
    refine lv_aload_n C.1.1 C.1.2.1 dX16_put_14 rfl (lv_at hl 0 rfl) ?_
    refine mr_getR C hw kc_16 8 (Mp_N0 hk0) (Mp_T0 hk0) (Mp_F0_8 hk0) wd_2563 dX16_put_15 (by decide) rfl ?_
    refine lv_aload_n C.1.1 C.1.2.1 dX16_put_18 rfl (lv_at hl 0 rfl) ?_
    refine mr_getR C hw kc_16 7 (Mp_N0 hk0) (Mp_T0 hk0) (Mp_F0_7 hk0) wd_2562 dX16_put_19 (by decide) rfl ?_
    refine lv_iload_n C.1.1 C.1.2.1 dX16_put_22 rfl (lv_at hl 1 rfl) ?_
    obtain ⟨q8, hD⟩ := g_ck hD
    refine mr_iald C hw (Mp_N5 hk0) (Mp_T5 hk0) q8 dX16_put_23 ?_
    obtain ⟨q9, hD⟩ := g_ck hD
    refine mr_iald C hw (Mp_N6 hk0) (Mp_T6 hk0) q9 dX16_put_24 ?_
    obtain ⟨x10, ex10, hD⟩ := g_let hD
    refine W.eq (g2 := F0 m 25 ls (.int x10 :: [])) (by rw [ex10]) ?_
    refine lv_istore (lv' := [(4, .int x10), (0, .ref (ad k)), (1, .int a1), (2, .long a2)]) C.1.1 C.1.2.1 dX16_put_25 hl (by decide) rfl (fun ls hl => ?_)
    refine lv_aload_n C.1.1 C.1.2.1 dX16_put_27 rfl (lv_at hl 1 rfl) ?_
    refine mr_getR C hw kc_16 6 (Mp_N0 hk0) (Mp_T0 hk0) (Mp_F0_6 hk0) wd_2561 dX16_put_28 (by decide) rfl ?_
    refine lv_iload_n C.1.1 C.1.2.1 dX16_put_31 rfl (lv_at hl 2 rfl) ?_
    obtain ⟨q11, hD⟩ := g_ck hD
    refine mr_iald C hw (Mp_N4 hk0) (Mp_T4 hk0) q11 dX16_put_32 ?_
    refine lv_if_lt (tgt := 58) C.1.1 C.1.2.1 dX16_put_33 (by decide) (fun c12 => ?_) (fun c12 => ?_)
    · replace hD := g_pos c12 hD
      exact hb58 M4 L5 _ _ ls hD hw (lv_sub hl [1, 2, 3] rfl)
    · replace hD := g_neg c12 hD
      refine lv_aload_n C.1.1 C.1.2.1 dX16_put_36 rfl (lv_at hl 1 rfl) ?_
      refine lv_iload C.1.1 C.1.2.1 dX16_put_37 (lv_at hl 0 rfl) ?_
      obtain ⟨r15, M13, L14, h1, hD⟩ := g_b3 hD
      refine md_cvI (As := [.int x10]) (rest := []) C hw (tX16_isNowhere l G ad fu k x10 M4 L5 h1 hk0) kc_16 (Mp_N0 hk0) (Mp_T0 hk0) wd_3487 cwX16_isNowhere ⟨Nat.le_of_ble_eq_true rfl, Nat.le_of_ble_eq_true rfl⟩ rfl hl.1 (Nat.le_of_ble_eq_true rfl) dX16_put_39 rfl rfl ⟨Nat.zero_le _, Nat.zero_le _⟩ rfl (fun H locs hw => ?_)
      refine lv_if_ne (tgt := 58) C.1.1 C.1.2.1 dX16_put_42 (by decide) (fun c16 => ?_) (fun c16 => ?_)
      · replace hD := g_neg c16 hD
        exact hb58 M13 L14 _ _ ls hD hw (lv_sub hl [1, 2, 3] rfl)
      · replace hD := g_pos c16 hD
        refine lv_aload_n C.1.1 C.1.2.1 dX16_put_45 rfl (lv_at hl 1 rfl) ?_
        refine lv_iload C.1.1 C.1.2.1 dX16_put_46 (lv_at hl 0 rfl) ?_
        refine lv_aload_n C.1.1 C.1.2.1 dX16_put_48 rfl (lv_at hl 1 rfl) ?_
        refine mr_getR C hw kc_16 6 (Mp_N0 hk0) (Mp_T0 hk0) (Mp_F0_6 hk0) wd_2561 dX16_put_49 (by decide) rfl ?_
        refine lv_iload_n C.1.1 C.1.2.1 dX16_put_52 rfl (lv_at hl 2 rfl) ?_
        obtain ⟨q17, hD⟩ := g_ck hD
        refine mr_iald C hw (Mp_N4 hk0) (Mp_T4 hk0) q17 dX16_put_53 ?_
        refine lv_i2l C.1.1 C.1.2.1 dX16_put_54 rfl ?_
        obtain ⟨M18, L19, h1, hD⟩ := g_b2 hD
        refine md_cvV (As := [.int x10, .long ((M13 (k + 4) a1.toNatClampNeg).toInt64)]) (rest := []) C hw (tX16_write l G ad fu k x10 ((M13 (k + 4) a1.toNatClampNeg).toInt64) M13 L14 h1 hk0) kc_16 (Mp_N0 hk0) (Mp_T0 hk0) wd_3558 cwX16_write ⟨Nat.le_of_ble_eq_true rfl, Nat.le_of_ble_eq_true rfl⟩ rfl hl.1 (Nat.le_of_ble_eq_true rfl) dX16_put_55 rfl rfl ⟨Nat.zero_le _, Nat.zero_le _⟩ rfl (fun H locs hw => ?_)
        exact hb58 M18 L19 _ _ ls hD hw (lv_sub hl [1, 2, 3] rfl)
  · replace hD := g_neg c7 hD
    exact mr_vret C hr hlocks hw (Option.some.inj hD) dX16_put_13

theorem dX16_noFrame_0 : decode cX16_noFrame 0 = .ok (.iload_n 1, 1) := by decide +kernel
theorem dX16_noFrame_1 : decode cX16_noFrame 1 = .ok (.iconst 1, 1) := by decide +kernel
theorem dX16_noFrame_2 : decode cX16_noFrame 2 = .ok (.if_icmp .lt 18, 3) := by decide +kernel
theorem dX16_noFrame_5 : decode cX16_noFrame 5 = .ok (.iload_n 1, 1) := by decide +kernel
theorem dX16_noFrame_6 : decode cX16_noFrame 6 = .ok (.bipush 64, 2) := by decide +kernel
theorem dX16_noFrame_8 : decode cX16_noFrame 8 = .ok (.if_icmp .gt 12, 3) := by decide +kernel
theorem dX16_noFrame_11 : decode cX16_noFrame 11 = .ok (.aload_n 0, 1) := by decide +kernel
theorem dX16_noFrame_12 : decode cX16_noFrame 12 = .ok (.getfield 50, 3) := by decide +kernel
theorem dX16_noFrame_15 : decode cX16_noFrame 15 = .ok (.iload_n 1, 1) := by decide +kernel
theorem dX16_noFrame_16 : decode cX16_noFrame 16 = .ok (.iaload, 1) := by decide +kernel
theorem dX16_noFrame_17 : decode cX16_noFrame 17 = .ok (.ifCond .ge 7, 3) := by decide +kernel
theorem dX16_noFrame_20 : decode cX16_noFrame 20 = .ok (.iconst 1, 1) := by decide +kernel
theorem dX16_noFrame_21 : decode cX16_noFrame 21 = .ok (.goto 4, 3) := by decide +kernel
theorem dX16_noFrame_24 : decode cX16_noFrame 24 = .ok (.iconst 0, 1) := by decide +kernel
theorem dX16_noFrame_25 : decode cX16_noFrame 25 = .ok (.ireturn, 1) := by decide +kernel
theorem cwX16_noFrame : mw_cwV yX16_noFrame cX16_noFrame 2 ((some .boolean)) 1 := ⟨⟨wd_19, wd_3573, by decide +kernel⟩, wd_3572, sl_219⟩
set_option maxHeartbeats 4000000 in
set_option maxRecDepth 100000 in
theorem tX16_noFrame (l : Launch) (G : mwG) (ad : Nat → Nat) (fu : Nat) (k : Nat) (a1 : Int32) (M : mwM) (L : mwL) {r0 : Int32} {M0 : mwM} {L0 : mwL} (hD : DX16_noFrame fu k a1 M L = some (r0, M0, L0)) (hk0 : isMp k) : Met l yX16_noFrame (Cond.code yX16_noFrame cX16_noFrame 2 ((some .boolean)) :: GT) ({ frames := 0, cells := 0, slots := 0, locals := 0 }) (mw_Pre G ad NF TF FF M L [.ref (ad k), .int a1]) (mw_Qi G ad NF TF FF (mw_eqI r0 M0 L0)) 0 0 (mw_fr G) := by
  refine mw_enter (by decide) (Nat.le_of_ble_eq_true rfl) ?_
  intro p e s m below meth c ls C hr hlocks hnm hw hl
  have hl : lv_has ls 2 [(0, .ref (ad k)), (1, .int a1)] := hl
  have hb25 : ∀ (s0 : Int32) (M : mwM) (L : mwL) (H : Heap) (locs : List Loc) (ls : Array Slot), fX16_noFrame_b25 fu k a1 s0 M L = some (r0, M0, L0) → mw_W G ad NF TF FF M L H locs → lv_has ls 2 [] → W p l e ({ frames := 0, cells := 0, slots := 0, locals := 0 }) s m [.ref (ad k), .int a1].toArray below meth c H locs 0 0 (MQ below (mw_Qi G ad NF TF FF (mw_eqI r0 M0 L0)) [.ref (ad k), .int a1].toArray s 0 0 (mw_fr G)) (F0 m 25 ls [.int s0]) := by
    intro s0 M L H locs ls hD hw hl
    unfold fX16_noFrame_b25 at hD
    obtain ⟨z1, hD⟩ := g_zz hD
    exact mr_iret C hr hlocks hw (nz_zz z1) (Option.some.inj hD) dX16_noFrame_25
  have hb20 : ∀ (M : mwM) (L : mwL) (H : Heap) (locs : List Loc) (ls : Array Slot), fX16_noFrame_b20 fu k a1 M L = some (r0, M0, L0) → mw_W G ad NF TF FF M L H locs → lv_has ls 2 [] → W p l e ({ frames := 0, cells := 0, slots := 0, locals := 0 }) s m [.ref (ad k), .int a1].toArray below meth c H locs 0 0 (MQ below (mw_Qi G ad NF TF FF (mw_eqI r0 M0 L0)) [.ref (ad k), .int a1].toArray s 0 0 (mw_fr G)) (F0 m 20 ls []) := by
    intro M L H locs ls hD hw hl
    unfold fX16_noFrame_b20 at hD
    refine lv_iconst (v := 1) C.1.1 C.1.2.1 dX16_noFrame_20 (by decide) ?_
    refine lv_goto (tgt := 25) C.1.1 C.1.2.1 dX16_noFrame_21 (by decide) ?_
    exact hb25 1 M L _ _ ls hD hw (lv_sub hl [] rfl)
  unfold DX16_noFrame at hD
  refine lv_iload_n C.1.1 C.1.2.1 dX16_noFrame_0 rfl (lv_at hl 1 rfl) ?_
  refine lv_iconst (v := 1) C.1.1 C.1.2.1 dX16_noFrame_1 (by decide) ?_
  refine lv_icmp_lt (tgt := 20) C.1.1 C.1.2.1 dX16_noFrame_2 (by decide) (fun c2 => ?_) (fun c2 => ?_)
  · replace hD := g_pos c2 hD
    exact hb20 M L _ _ ls hD hw (lv_sub hl [] rfl)
  · replace hD := g_neg c2 hD
    refine lv_iload_n C.1.1 C.1.2.1 dX16_noFrame_5 rfl (lv_at hl 1 rfl) ?_
    refine lv_bipush (v := 64) C.1.1 C.1.2.1 dX16_noFrame_6 (by decide) ?_
    refine lv_icmp_gt (tgt := 20) C.1.1 C.1.2.1 dX16_noFrame_8 (by decide) (fun c3 => ?_) (fun c3 => ?_)
    · replace hD := g_pos c3 hD
      exact hb20 M L _ _ ls hD hw (lv_sub hl [] rfl)
    · replace hD := g_neg c3 hD
      refine lv_aload_n C.1.1 C.1.2.1 dX16_noFrame_11 rfl (lv_at hl 0 rfl) ?_
      refine mr_getR C hw kc_16 18 (Mp_N0 hk0) (Mp_T0 hk0) (Mp_F0_18 hk0) wd_2573 dX16_noFrame_12 (by decide) rfl ?_
      refine lv_iload_n C.1.1 C.1.2.1 dX16_noFrame_15 rfl (lv_at hl 1 rfl) ?_
      obtain ⟨q4, hD⟩ := g_ck hD
      refine mr_iald C hw (Mp_N14 hk0) (Mp_T14 hk0) q4 dX16_noFrame_16 ?_
      refine lv_if_ge (tgt := 24) C.1.1 C.1.2.1 dX16_noFrame_17 (by decide) (fun c5 => ?_) (fun c5 => ?_)
      · replace hD := g_pos c5 hD
        refine lv_iconst (v := 0) C.1.1 C.1.2.1 dX16_noFrame_24 (by decide) ?_
        exact hb25 0 M L _ _ ls hD hw (lv_sub hl [] rfl)
      · replace hD := g_neg c5 hD
        exact hb20 M L _ _ ls hD hw (lv_sub hl [] rfl)

theorem dX16_octet_0 : decode cX16_octet 0 = .ok (.aload_n 0, 1) := by decide +kernel
theorem dX16_octet_1 : decode cX16_octet 1 = .ok (.iconst 0, 1) := by decide +kernel
theorem dX16_octet_2 : decode cX16_octet 2 = .ok (.putfield 91, 3) := by decide +kernel
theorem dX16_octet_5 : decode cX16_octet 5 = .ok (.aload_n 0, 1) := by decide +kernel
theorem dX16_octet_6 : decode cX16_octet 6 = .ok (.iload_n 1, 1) := by decide +kernel
theorem dX16_octet_7 : decode cX16_octet 7 = .ok (.invokevirtual 168, 3) := by decide +kernel
theorem dX16_octet_10 : decode cX16_octet 10 = .ok (.ifCond .ne 15, 3) := by decide +kernel
theorem dX16_octet_13 : decode cX16_octet 13 = .ok (.iload_n 2, 1) := by decide +kernel
theorem dX16_octet_14 : decode cX16_octet 14 = .ok (.ifCond .lt 11, 3) := by decide +kernel
theorem dX16_octet_17 : decode cX16_octet 17 = .ok (.iload_n 2, 1) := by decide +kernel
theorem dX16_octet_18 : decode cX16_octet 18 = .ok (.aload_n 0, 1) := by decide +kernel
theorem dX16_octet_19 : decode cX16_octet 19 = .ok (.getfield 77, 3) := by decide +kernel
theorem dX16_octet_22 : decode cX16_octet 22 = .ok (.if_icmp .lt 7, 3) := by decide +kernel
theorem dX16_octet_25 : decode cX16_octet 25 = .ok (.iconst 0, 1) := by decide +kernel
theorem dX16_octet_26 : decode cX16_octet 26 = .ok (.goto 17, 3) := by decide +kernel
theorem dX16_octet_29 : decode cX16_octet 29 = .ok (.aload_n 0, 1) := by decide +kernel
theorem dX16_octet_30 : decode cX16_octet 30 = .ok (.getfield 53, 3) := by decide +kernel
theorem dX16_octet_33 : decode cX16_octet 33 = .ok (.aload_n 0, 1) := by decide +kernel
theorem dX16_octet_34 : decode cX16_octet 34 = .ok (.getfield 50, 3) := by decide +kernel
theorem dX16_octet_37 : decode cX16_octet 37 = .ok (.iload_n 1, 1) := by decide +kernel
theorem dX16_octet_38 : decode cX16_octet 38 = .ok (.iaload, 1) := by decide +kernel
theorem dX16_octet_39 : decode cX16_octet 39 = .ok (.iload_n 2, 1) := by decide +kernel
theorem dX16_octet_40 : decode cX16_octet 40 = .ok (.iadd, 1) := by decide +kernel
theorem dX16_octet_41 : decode cX16_octet 41 = .ok (.iaload, 1) := by decide +kernel
theorem dX16_octet_42 : decode cX16_octet 42 = .ok (.i2b, 1) := by decide +kernel
theorem dX16_octet_43 : decode cX16_octet 43 = .ok (.ireturn, 1) := by decide +kernel
theorem cwX16_octet : mw_cwV yX16_octet cX16_octet 3 ((some .byte)) 2 := ⟨⟨wd_19, wd_3569, by decide +kernel⟩, wd_3567, wd_3568⟩
set_option maxHeartbeats 4000000 in
set_option maxRecDepth 100000 in
theorem tX16_octet (l : Launch) (G : mwG) (ad : Nat → Nat) (fu : Nat) (k : Nat) (a1 : Int32) (a2 : Int32) (M : mwM) (L : mwL) {r0 : Int32} {M0 : mwM} {L0 : mwL} (hD : DX16_octet fu k a1 a2 M L = some (r0, M0, L0)) (hk0 : isMp k) : Met l yX16_octet (Cond.code yX16_octet cX16_octet 3 ((some .byte)) :: GT) ({ frames := 1, cells := 0, slots := 0, locals := 21 }) (mw_Pre G ad NF TF FF M L [.ref (ad k), .int a1, .int a2]) (mw_Qi G ad NF TF FF (mw_eqI r0 M0 L0)) 0 0 (mw_fr G) := by
  refine mw_enter (by decide) (Nat.le_of_ble_eq_true rfl) ?_
  intro p e s m below meth c ls C hr hlocks hnm hw hl
  have hl : lv_has ls 3 [(0, .ref (ad k)), (1, .int a1), (2, .int a2)] := hl
  have hb43 : ∀ (s0 : Int32) (M : mwM) (L : mwL) (H : Heap) (locs : List Loc) (ls : Array Slot), fX16_octet_b43 fu k a1 a2 s0 M L = some (r0, M0, L0) → mw_W G ad NF TF FF M L H locs → lv_has ls 3 [] → W p l e ({ frames := 1, cells := 0, slots := 0, locals := 21 }) s m [.ref (ad k), .int a1, .int a2].toArray below meth c H locs 0 0 (MQ below (mw_Qi G ad NF TF FF (mw_eqI r0 M0 L0)) [.ref (ad k), .int a1, .int a2].toArray s 0 0 (mw_fr G)) (F0 m 43 ls [.int s0]) := by
    intro s0 M L H locs ls hD hw hl
    unfold fX16_octet_b43 at hD
    obtain ⟨z1, hD⟩ := g_bb hD
    exact mr_iret C hr hlocks hw (nb_bb z1) (Option.some.inj hD) dX16_octet_43
  have hb25 : ∀ (M : mwM) (L : mwL) (H : Heap) (locs : List Loc) (ls : Array Slot), fX16_octet_b25 fu k a1 a2 M L = some (r0, M0, L0) → mw_W G ad NF TF FF M L H locs → lv_has ls 3 [] → W p l e ({ frames := 1, cells := 0, slots := 0, locals := 21 }) s m [.ref (ad k), .int a1, .int a2].toArray below meth c H locs 0 0 (MQ below (mw_Qi G ad NF TF FF (mw_eqI r0 M0 L0)) [.ref (ad k), .int a1, .int a2].toArray s 0 0 (mw_fr G)) (F0 m 25 ls []) := by
    intro M L H locs ls hD hw hl
    unfold fX16_octet_b25 at hD
    refine lv_iconst (v := 0) C.1.1 C.1.2.1 dX16_octet_25 (by decide) ?_
    refine lv_goto (tgt := 43) C.1.1 C.1.2.1 dX16_octet_26 (by decide) ?_
    exact hb43 0 M L _ _ ls hD hw (lv_sub hl [] rfl)
  unfold DX16_octet at hD
  refine lv_aload_n C.1.1 C.1.2.1 dX16_octet_0 rfl (lv_at hl 0 rfl) ?_
  refine lv_iconst (v := 0) C.1.1 C.1.2.1 dX16_octet_1 (by decide) ?_
  obtain ⟨M2, eM2, hD⟩ := g_let hD
  refine mr_putI C hw kc_16 0 (Mp_N0 hk0) (Mp_T0 hk0) wd_2555 dX16_octet_2 (by decide) rfl rfl rfl rfl (fun H locs hw => ?_)
  replace hw : mw_W G ad NF TF FF M2 L H locs := by rw [eM2]; exact hw
  refine lv_aload_n C.1.1 C.1.2.1 dX16_octet_5 rfl (lv_at hl 0 rfl) ?_
  refine lv_iload_n C.1.1 C.1.2.1 dX16_octet_6 rfl (lv_at hl 1 rfl) ?_
  obtain ⟨r5, M3, L4, h1, hD⟩ := g_b3 hD
  refine md_cvI (As := [.int a1]) (rest := []) C hw (tX16_noFrame l G ad fu k a1 M2 L h1 hk0) kc_16 (Mp_N0 hk0) (Mp_T0 hk0) wd_3570 cwX16_noFrame ⟨Nat.le_of_ble_eq_true rfl, Nat.le_of_ble_eq_true rfl⟩ rfl hl.1 (Nat.le_of_ble_eq_true rfl) dX16_octet_7 rfl rfl ⟨Nat.zero_le _, Nat.zero_le _⟩ rfl (fun H locs hw => ?_)
  refine lv_if_ne (tgt := 25) C.1.1 C.1.2.1 dX16_octet_10 (by decide) (fun c6 => ?_) (fun c6 => ?_)
  · replace hD := g_neg c6 hD
    exact hb25 M3 L4 _ _ ls hD hw (lv_sub hl [] rfl)
  · replace hD := g_pos c6 hD
    refine lv_iload_n C.1.1 C.1.2.1 dX16_octet_13 rfl (lv_at hl 2 rfl) ?_
    refine lv_if_lt (tgt := 25) C.1.1 C.1.2.1 dX16_octet_14 (by decide) (fun c7 => ?_) (fun c7 => ?_)
    · replace hD := g_pos c7 hD
      exact hb25 M3 L4 _ _ ls hD hw (lv_sub hl [] rfl)
    · replace hD := g_neg c7 hD
      refine lv_iload_n C.1.1 C.1.2.1 dX16_octet_17 rfl (lv_at hl 2 rfl) ?_
      refine lv_aload_n C.1.1 C.1.2.1 dX16_octet_18 rfl (lv_at hl 0 rfl) ?_
      refine mr_getI C hw kc_16 1 (Mp_N0 hk0) (Mp_T0 hk0) wd_2556 dX16_octet_19 (by decide) rfl ?_
      refine lv_icmp_lt (tgt := 29) C.1.1 C.1.2.1 dX16_octet_22 (by decide) (fun c8 => ?_) (fun c8 => ?_)
      · replace hD := g_pos c8 hD
        refine lv_aload_n C.1.1 C.1.2.1 dX16_octet_29 rfl (lv_at hl 0 rfl) ?_
        refine mr_getR C hw kc_16 19 (Mp_N0 hk0) (Mp_T0 hk0) (Mp_F0_19 hk0) wd_2574 dX16_octet_30 (by decide) rfl ?_
        refine lv_aload_n C.1.1 C.1.2.1 dX16_octet_33 rfl (lv_at hl 0 rfl) ?_
        refine mr_getR C hw kc_16 18 (Mp_N0 hk0) (Mp_T0 hk0) (Mp_F0_18 hk0) wd_2573 dX16_octet_34 (by decide) rfl ?_
        refine lv_iload_n C.1.1 C.1.2.1 dX16_octet_37 rfl (lv_at hl 1 rfl) ?_
        obtain ⟨q9, hD⟩ := g_ck hD
        refine mr_iald C hw (Mp_N14 hk0) (Mp_T14 hk0) q9 dX16_octet_38 ?_
        refine lv_iload_n C.1.1 C.1.2.1 dX16_octet_39 rfl (lv_at hl 2 rfl) ?_
        refine lv_iadd C.1.1 C.1.2.1 dX16_octet_40 ?_
        obtain ⟨q10, hD⟩ := g_ck hD
        refine mr_iald C hw (Mp_N15 hk0) (Mp_T15 hk0) q10 dX16_octet_41 ?_
        refine lv_i2b C.1.1 C.1.2.1 dX16_octet_42 rfl ?_
        exact hb43 ((M3 (k + 15) ((M3 (k + 14) a1.toNatClampNeg) + a2).toNatClampNeg).toInt8.toInt32) M3 L4 _ _ ls hD hw (lv_sub hl [] rfl)
      · replace hD := g_neg c8 hD
        exact hb25 M3 L4 _ _ ls hD hw (lv_sub hl [] rfl)
