theorem dX16_anew_0 : decode cX16_anew 0 = .ok (.aload_n 0, 1) := by decide +kernel
theorem dX16_anew_1 : decode cX16_anew 1 = .ok (.iload_n 1, 1) := by decide +kernel
theorem dX16_anew_2 : decode cX16_anew 2 = .ok (.putfield 77, 3) := by decide +kernel
theorem dX16_anew_5 : decode cX16_anew 5 = .ok (.aload_n 0, 1) := by decide +kernel
theorem dX16_anew_6 : decode cX16_anew 6 = .ok (.iconst 0, 1) := by decide +kernel
theorem dX16_anew_7 : decode cX16_anew 7 = .ok (.putfield 81, 3) := by decide +kernel
theorem dX16_anew_10 : decode cX16_anew 10 = .ok (.aload_n 0, 1) := by decide +kernel
theorem dX16_anew_11 : decode cX16_anew 11 = .ok (.iconst 0, 1) := by decide +kernel
theorem dX16_anew_12 : decode cX16_anew 12 = .ok (.putfield 84, 3) := by decide +kernel
theorem dX16_anew_15 : decode cX16_anew 15 = .ok (.aload_n 0, 1) := by decide +kernel
theorem dX16_anew_16 : decode cX16_anew 16 = .ok (.iconst 0, 1) := by decide +kernel
theorem dX16_anew_17 : decode cX16_anew 17 = .ok (.putfield 87, 3) := by decide +kernel
theorem dX16_anew_20 : decode cX16_anew 20 = .ok (.iconst 0, 1) := by decide +kernel
theorem dX16_anew_21 : decode cX16_anew 21 = .ok (.istore_n 2, 1) := by decide +kernel
theorem dX16_anew_22 : decode cX16_anew 22 = .ok (.iload_n 2, 1) := by decide +kernel
theorem dX16_anew_23 : decode cX16_anew 23 = .ok (.bipush 65, 2) := by decide +kernel
theorem dX16_anew_25 : decode cX16_anew 25 = .ok (.if_icmp .ge 16, 3) := by decide +kernel
theorem dX16_anew_28 : decode cX16_anew 28 = .ok (.aload_n 0, 1) := by decide +kernel
theorem dX16_anew_29 : decode cX16_anew 29 = .ok (.getfield 50, 3) := by decide +kernel
theorem dX16_anew_32 : decode cX16_anew 32 = .ok (.iload_n 2, 1) := by decide +kernel
theorem dX16_anew_33 : decode cX16_anew 33 = .ok (.iconst (-1), 1) := by decide +kernel
theorem dX16_anew_34 : decode cX16_anew 34 = .ok (.iastore, 1) := by decide +kernel
theorem dX16_anew_35 : decode cX16_anew 35 = .ok (.iinc 2 1, 3) := by decide +kernel
theorem dX16_anew_38 : decode cX16_anew 38 = .ok (.goto (-16), 3) := by decide +kernel
theorem dX16_anew_41 : decode cX16_anew 41 = .ok (.return_, 1) := by decide +kernel
theorem cwX16_anew : mw_cwV yX16_anew cX16_anew 3 (none) 1 := ⟨⟨wd_19, wd_3402, by decide +kernel⟩, wd_3400, wd_3401⟩
set_option maxHeartbeats 4000000 in
set_option maxRecDepth 100000 in
theorem tX16_anew (l : Launch) (G : mwG) (ad : Nat → Nat) (fu : Nat) (k : Nat) (a1 : Int32) (M : mwM) (L : mwL) {M0 : mwM} {L0 : mwL} (hD : DX16_anew fu k a1 M L = some (M0, L0)) (hk0 : isMp k) : Met l yX16_anew (Cond.code yX16_anew cX16_anew 3 (none) :: GT) ({ frames := 0, cells := 0, slots := 0, locals := 0 }) (mw_Pre G ad NF TF FF M L [.ref (ad k), .int a1]) (mw_Qv G ad NF TF FF (mw_eqV M0 L0)) 0 0 (mw_fr G) := by
  refine mw_enter (by decide) (Nat.le_of_ble_eq_true rfl) ?_
  intro p e s m below meth c ls C hr hlocks hnm hw hl
  have hl : lv_has ls 3 [(0, .ref (ad k)), (1, .int a1)] := hl
  have hh22 : ∀ (f : Nat) (v2 : Int32) (M : mwM) (L : mwL) (H : Heap) (locs : List Loc) (ls : Array Slot), fX16_anew_h22 fu k a1 f (v2, M, L) = some (M0, L0) → mw_W G ad NF TF FF M L H locs → lv_has ls 3 [(0, .ref (ad k)), (2, .int v2)] → W p l e ({ frames := 0, cells := 0, slots := 0, locals := 0 }) s m [.ref (ad k), .int a1].toArray below meth c H locs 0 0 (MQ below (mw_Qv G ad NF TF FF (mw_eqV M0 L0)) [.ref (ad k), .int a1].toArray s 0 0 (mw_fr G)) (F0 m 22 ls []) := by
    intro f
    induction f with
    | zero => intro v2 M L H locs ls hD; cases hD
    | succ f22 ih22 =>
      intro v2 M L H locs ls hD hw hl
      replace hD : fX16_anew_i22 fu k a1 (fX16_anew_h22 fu k a1 f22) v2 M L = some (M0, L0) := hD
      unfold fX16_anew_i22 at hD
      refine lv_iload_n C.1.1 C.1.2.1 dX16_anew_22 rfl (lv_at hl 1 rfl) ?_
      refine lv_bipush (v := 65) C.1.1 C.1.2.1 dX16_anew_23 (by decide) ?_
      refine lv_icmp_ge (tgt := 41) C.1.1 C.1.2.1 dX16_anew_25 (by decide) (fun c1 => ?_) (fun c1 => ?_)
      · replace hD := g_pos c1 hD
        exact mr_vret C hr hlocks hw (Option.some.inj hD) dX16_anew_41
      · replace hD := g_neg c1 hD
        refine lv_aload_n C.1.1 C.1.2.1 dX16_anew_28 rfl (lv_at hl 0 rfl) ?_
        refine mr_getR C hw kc_16 18 (Mp_N0 hk0) (Mp_T0 hk0) (Mp_F0_18 hk0) wd_2573 dX16_anew_29 (by decide) rfl ?_
        refine lv_iload_n C.1.1 C.1.2.1 dX16_anew_32 rfl (lv_at hl 1 rfl) ?_
        refine lv_iconst (v := (-1)) C.1.1 C.1.2.1 dX16_anew_33 (by decide) ?_
        obtain ⟨q2, hD⟩ := g_ck hD
        obtain ⟨M3, eM3, hD⟩ := g_let hD
        refine mr_iast C hw (Mp_N14 hk0) (Mp_T14 hk0) q2 dX16_anew_34 (fun H locs hw => ?_)
        replace hw : mw_W G ad NF TF FF M3 L H locs := by rw [eM3]; exact hw
        obtain ⟨x4, ex4, hD⟩ := g_let hD
        refine lv_iinc (v := x4) (lv' := [(2, .int x4), (0, .ref (ad k))]) C.1.1 C.1.2.1 dX16_anew_35 hl (k := 1) rfl (by rw [ex4]; rfl) (by decide) rfl (fun ls hl => ?_)
        refine lv_goto (tgt := 22) C.1.1 C.1.2.1 dX16_anew_38 (by decide) ?_
        exact ih22 x4 M3 L _ _ ls hD hw (lv_sub hl [1, 0] rfl)
  unfold DX16_anew at hD
  refine lv_aload_n C.1.1 C.1.2.1 dX16_anew_0 rfl (lv_at hl 0 rfl) ?_
  refine lv_iload_n C.1.1 C.1.2.1 dX16_anew_1 rfl (lv_at hl 1 rfl) ?_
  obtain ⟨M5, eM5, hD⟩ := g_let hD
  refine mr_putI C hw kc_16 1 (Mp_N0 hk0) (Mp_T0 hk0) wd_2556 dX16_anew_2 (by decide) rfl rfl rfl rfl (fun H locs hw => ?_)
  replace hw : mw_W G ad NF TF FF M5 L H locs := by rw [eM5]; exact hw
  refine lv_aload_n C.1.1 C.1.2.1 dX16_anew_5 rfl (lv_at hl 0 rfl) ?_
  refine lv_iconst (v := 0) C.1.1 C.1.2.1 dX16_anew_6 (by decide) ?_
  obtain ⟨M6, eM6, hD⟩ := g_let hD
  refine mr_putI C hw kc_16 2 (Mp_N0 hk0) (Mp_T0 hk0) wd_2557 dX16_anew_7 (by decide) rfl rfl rfl rfl (fun H locs hw => ?_)
  replace hw : mw_W G ad NF TF FF M6 L H locs := by rw [eM6]; exact hw
  refine lv_aload_n C.1.1 C.1.2.1 dX16_anew_10 rfl (lv_at hl 0 rfl) ?_
  refine lv_iconst (v := 0) C.1.1 C.1.2.1 dX16_anew_11 (by decide) ?_
  obtain ⟨M7, eM7, hD⟩ := g_let hD
  refine mr_putI C hw kc_16 15 (Mp_N0 hk0) (Mp_T0 hk0) wd_2570 dX16_anew_12 (by decide) rfl rfl rfl rfl (fun H locs hw => ?_)
  replace hw : mw_W G ad NF TF FF M7 L H locs := by rw [eM7]; exact hw
  refine lv_aload_n C.1.1 C.1.2.1 dX16_anew_15 rfl (lv_at hl 0 rfl) ?_
  refine lv_iconst (v := 0) C.1.1 C.1.2.1 dX16_anew_16 (by decide) ?_
  obtain ⟨M8, eM8, hD⟩ := g_let hD
  refine mr_putI C hw kc_16 14 (Mp_N0 hk0) (Mp_T0 hk0) wd_2569 dX16_anew_17 (by decide) rfl rfl (by decide +kernel) (by decide +kernel) (fun H locs hw => ?_)
  replace hw : mw_W G ad NF TF FF M8 L H locs := by rw [eM8]; exact hw
  refine lv_iconst (v := 0) C.1.1 C.1.2.1 dX16_anew_20 (by decide) ?_
  refine lv_istore_n (lv' := [(2, .int 0), (0, .ref (ad k)), (1, .int a1)]) C.1.1 C.1.2.1 dX16_anew_21 rfl hl (by decide) rfl (fun ls hl => ?_)
  exact hh22 fu 0 M8 L _ _ ls hD hw (lv_sub hl [1, 0] rfl)

theorem dX16_none_0 : decode cX16_none 0 = .ok (.iload_n 1, 1) := by decide +kernel
theorem dX16_none_1 : decode cX16_none 1 = .ok (.iconst 1, 1) := by decide +kernel
theorem dX16_none_2 : decode cX16_none 2 = .ok (.if_icmp .lt 11, 3) := by decide +kernel
theorem dX16_none_5 : decode cX16_none 5 = .ok (.iload_n 1, 1) := by decide +kernel
theorem dX16_none_6 : decode cX16_none 6 = .ok (.aload_n 0, 1) := by decide +kernel
theorem dX16_none_7 : decode cX16_none 7 = .ok (.getfield 81, 3) := by decide +kernel
theorem dX16_none_10 : decode cX16_none 10 = .ok (.if_icmp .le 7, 3) := by decide +kernel
theorem dX16_none_13 : decode cX16_none 13 = .ok (.iconst 1, 1) := by decide +kernel
theorem dX16_none_14 : decode cX16_none 14 = .ok (.goto 4, 3) := by decide +kernel
theorem dX16_none_17 : decode cX16_none 17 = .ok (.iconst 0, 1) := by decide +kernel
theorem dX16_none_18 : decode cX16_none 18 = .ok (.ireturn, 1) := by decide +kernel
theorem cwX16_none : mw_cwV yX16_none cX16_none 2 ((some .boolean)) 1 := ⟨⟨wd_19, wd_3486, by decide +kernel⟩, wd_3485, sl_211⟩
set_option maxHeartbeats 4000000 in
set_option maxRecDepth 100000 in
theorem tX16_none (l : Launch) (G : mwG) (ad : Nat → Nat) (fu : Nat) (k : Nat) (a1 : Int32) (M : mwM) (L : mwL) {r0 : Int32} {M0 : mwM} {L0 : mwL} (hD : DX16_none fu k a1 M L = some (r0, M0, L0)) (hk0 : isMp k) : Met l yX16_none (Cond.code yX16_none cX16_none 2 ((some .boolean)) :: GT) ({ frames := 0, cells := 0, slots := 0, locals := 0 }) (mw_Pre G ad NF TF FF M L [.ref (ad k), .int a1]) (mw_Qi G ad NF TF FF (mw_eqI r0 M0 L0)) 0 0 (mw_fr G) := by
  refine mw_enter (by decide) (Nat.le_of_ble_eq_true rfl) ?_
  intro p e s m below meth c ls C hr hlocks hnm hw hl
  have hl : lv_has ls 2 [(0, .ref (ad k)), (1, .int a1)] := hl
  have hb18 : ∀ (s0 : Int32) (M : mwM) (L : mwL) (H : Heap) (locs : List Loc) (ls : Array Slot), fX16_none_b18 fu k a1 s0 M L = some (r0, M0, L0) → mw_W G ad NF TF FF M L H locs → lv_has ls 2 [] → W p l e ({ frames := 0, cells := 0, slots := 0, locals := 0 }) s m [.ref (ad k), .int a1].toArray below meth c H locs 0 0 (MQ below (mw_Qi G ad NF TF FF (mw_eqI r0 M0 L0)) [.ref (ad k), .int a1].toArray s 0 0 (mw_fr G)) (F0 m 18 ls [.int s0]) := by
    intro s0 M L H locs ls hD hw hl
    unfold fX16_none_b18 at hD
    obtain ⟨z1, hD⟩ := g_zz hD
    exact mr_iret C hr hlocks hw (nz_zz z1) (Option.some.inj hD) dX16_none_18
  have hb13 : ∀ (M : mwM) (L : mwL) (H : Heap) (locs : List Loc) (ls : Array Slot), fX16_none_b13 fu k a1 M L = some (r0, M0, L0) → mw_W G ad NF TF FF M L H locs → lv_has ls 2 [] → W p l e ({ frames := 0, cells := 0, slots := 0, locals := 0 }) s m [.ref (ad k), .int a1].toArray below meth c H locs 0 0 (MQ below (mw_Qi G ad NF TF FF (mw_eqI r0 M0 L0)) [.ref (ad k), .int a1].toArray s 0 0 (mw_fr G)) (F0 m 13 ls []) := by
    intro M L H locs ls hD hw hl
    unfold fX16_none_b13 at hD
    refine lv_iconst (v := 1) C.1.1 C.1.2.1 dX16_none_13 (by decide) ?_
    refine lv_goto (tgt := 18) C.1.1 C.1.2.1 dX16_none_14 (by decide) ?_
    exact hb18 1 M L _ _ ls hD hw (lv_sub hl [] rfl)
  unfold DX16_none at hD
  refine lv_iload_n C.1.1 C.1.2.1 dX16_none_0 rfl (lv_at hl 1 rfl) ?_
  refine lv_iconst (v := 1) C.1.1 C.1.2.1 dX16_none_1 (by decide) ?_
  refine lv_icmp_lt (tgt := 13) C.1.1 C.1.2.1 dX16_none_2 (by decide) (fun c2 => ?_) (fun c2 => ?_)
  · replace hD := g_pos c2 hD
    exact hb13 M L _ _ ls hD hw (lv_sub hl [] rfl)
  · replace hD := g_neg c2 hD
    refine lv_iload_n C.1.1 C.1.2.1 dX16_none_5 rfl (lv_at hl 1 rfl) ?_
    refine lv_aload_n C.1.1 C.1.2.1 dX16_none_6 rfl (lv_at hl 0 rfl) ?_
    refine mr_getI C hw kc_16 2 (Mp_N0 hk0) (Mp_T0 hk0) wd_2557 dX16_none_7 (by decide) rfl ?_
    refine lv_icmp_le (tgt := 17) C.1.1 C.1.2.1 dX16_none_10 (by decide) (fun c3 => ?_) (fun c3 => ?_)
    · replace hD := g_pos c3 hD
      refine lv_iconst (v := 0) C.1.1 C.1.2.1 dX16_none_17 (by decide) ?_
      exact hb18 0 M L _ _ ls hD hw (lv_sub hl [] rfl)
    · replace hD := g_neg c3 hD
      exact hb13 M L _ _ ls hD hw (lv_sub hl [] rfl)

theorem dX16_octetsOf_0 : decode cX16_octetsOf 0 = .ok (.aload_n 0, 1) := by decide +kernel
theorem dX16_octetsOf_1 : decode cX16_octetsOf 1 = .ok (.getfield 7, 3) := by decide +kernel
theorem dX16_octetsOf_4 : decode cX16_octetsOf 4 = .ok (.iload_n 1, 1) := by decide +kernel
theorem dX16_octetsOf_5 : decode cX16_octetsOf 5 = .ok (.iaload, 1) := by decide +kernel
theorem dX16_octetsOf_6 : decode cX16_octetsOf 6 = .ok (.bipush 7, 2) := by decide +kernel
theorem dX16_octetsOf_8 : decode cX16_octetsOf 8 = .ok (.iadd, 1) := by decide +kernel
theorem dX16_octetsOf_9 : decode cX16_octetsOf 9 = .ok (.bipush 8, 2) := by decide +kernel
theorem dX16_octetsOf_11 : decode cX16_octetsOf 11 = .ok (.idiv, 1) := by decide +kernel
theorem dX16_octetsOf_12 : decode cX16_octetsOf 12 = .ok (.ireturn, 1) := by decide +kernel
theorem cwX16_octetsOf : mw_cwV yX16_octetsOf cX16_octetsOf 2 ((some .int)) 1 := ⟨⟨wd_19, wd_3432, by decide +kernel⟩, wd_3431, sl_199⟩
set_option maxHeartbeats 4000000 in
set_option maxRecDepth 100000 in
theorem tX16_octetsOf (l : Launch) (G : mwG) (ad : Nat → Nat) (fu : Nat) (k : Nat) (a1 : Int32) (M : mwM) (L : mwL) {r0 : Int32} {M0 : mwM} {L0 : mwL} (hD : DX16_octetsOf fu k a1 M L = some (r0, M0, L0)) (hk0 : isMp k) : Met l yX16_octetsOf (Cond.code yX16_octetsOf cX16_octetsOf 2 ((some .int)) :: GT) ({ frames := 0, cells := 0, slots := 0, locals := 0 }) (mw_Pre G ad NF TF FF M L [.ref (ad k), .int a1]) (mw_Qi G ad NF TF FF (mw_eqI r0 M0 L0)) 0 0 (mw_fr G) := by
  refine mw_enter (by decide) (Nat.le_of_ble_eq_true rfl) ?_
  intro p e s m below meth c ls C hr hlocks hnm hw hl
  have hl : lv_has ls 2 [(0, .ref (ad k)), (1, .int a1)] := hl
  unfold DX16_octetsOf at hD
  refine lv_aload_n C.1.1 C.1.2.1 dX16_octetsOf_0 rfl (lv_at hl 0 rfl) ?_
  refine mr_getR C hw kc_16 3 (Mp_N0 hk0) (Mp_T0 hk0) (Mp_F0_3 hk0) wd_2558 dX16_octetsOf_1 (by decide) rfl ?_
  refine lv_iload_n C.1.1 C.1.2.1 dX16_octetsOf_4 rfl (lv_at hl 1 rfl) ?_
  obtain ⟨q1, hD⟩ := g_ck hD
  refine mr_iald C hw (Mp_N1 hk0) (Mp_T1 hk0) q1 dX16_octetsOf_5 ?_
  refine lv_bipush (v := 7) C.1.1 C.1.2.1 dX16_octetsOf_6 (by decide) ?_
  refine lv_iadd C.1.1 C.1.2.1 dX16_octetsOf_8 ?_
  refine lv_bipush (v := 8) C.1.1 C.1.2.1 dX16_octetsOf_9 (by decide) ?_
  refine lv_idiv C.1.1 C.1.2.1 dX16_octetsOf_11 (by decide) ?_
  exact mr_iret C hr hlocks hw rfl (Option.some.inj hD) dX16_octetsOf_12

theorem dX16_part_0 : decode cX16_part 0 = .ok (.bipush 8, 2) := by decide +kernel
theorem dX16_part_2 : decode cX16_part 2 = .ok (.iload_n 3, 1) := by decide +kernel
theorem dX16_part_3 : decode cX16_part 3 = .ok (.imul, 1) := by decide +kernel
theorem dX16_part_4 : decode cX16_part 4 = .ok (.istore 5, 2) := by decide +kernel
theorem dX16_part_6 : decode cX16_part 6 = .ok (.iconst 1, 1) := by decide +kernel
theorem dX16_part_7 : decode cX16_part 7 = .ok (.istore 6, 2) := by decide +kernel
theorem dX16_part_9 : decode cX16_part 9 = .ok (.iload 6, 2) := by decide +kernel
theorem dX16_part_11 : decode cX16_part 11 = .ok (.aload_n 0, 1) := by decide +kernel
theorem dX16_part_12 : decode cX16_part 12 = .ok (.getfield 81, 3) := by decide +kernel
theorem dX16_part_15 : decode cX16_part 15 = .ok (.if_icmp .gt 63, 3) := by decide +kernel
theorem dX16_part_18 : decode cX16_part 18 = .ok (.aload_n 0, 1) := by decide +kernel
theorem dX16_part_19 : decode cX16_part 19 = .ok (.getfield 23, 3) := by decide +kernel
theorem dX16_part_22 : decode cX16_part 22 = .ok (.iload 6, 2) := by decide +kernel
theorem dX16_part_24 : decode cX16_part 24 = .ok (.iaload, 1) := by decide +kernel
theorem dX16_part_25 : decode cX16_part 25 = .ok (.iload_n 1, 1) := by decide +kernel
theorem dX16_part_26 : decode cX16_part 26 = .ok (.if_icmp .ne 46, 3) := by decide +kernel
theorem dX16_part_29 : decode cX16_part 29 = .ok (.aload_n 0, 1) := by decide +kernel
theorem dX16_part_30 : decode cX16_part 30 = .ok (.getfield 20, 3) := by decide +kernel
theorem dX16_part_33 : decode cX16_part 33 = .ok (.iload 6, 2) := by decide +kernel
theorem dX16_part_35 : decode cX16_part 35 = .ok (.iaload, 1) := by decide +kernel
theorem dX16_part_36 : decode cX16_part 36 = .ok (.iload_n 2, 1) := by decide +kernel
theorem dX16_part_37 : decode cX16_part 37 = .ok (.if_icmp .ne 35, 3) := by decide +kernel
theorem dX16_part_40 : decode cX16_part 40 = .ok (.aload_n 0, 1) := by decide +kernel
theorem dX16_part_41 : decode cX16_part 41 = .ok (.getfield 16, 3) := by decide +kernel
theorem dX16_part_44 : decode cX16_part 44 = .ok (.iload 6, 2) := by decide +kernel
theorem dX16_part_46 : decode cX16_part 46 = .ok (.baload, 1) := by decide +kernel
theorem dX16_part_47 : decode cX16_part 47 = .ok (.ifCond .ne 25, 3) := by decide +kernel
theorem dX16_part_50 : decode cX16_part 50 = .ok (.iload 6, 2) := by decide +kernel
theorem dX16_part_52 : decode cX16_part 52 = .ok (.iload 4, 2) := by decide +kernel
theorem dX16_part_54 : decode cX16_part 54 = .ok (.if_icmp .ne 6, 3) := by decide +kernel
theorem dX16_part_57 : decode cX16_part 57 = .ok (.iload 5, 2) := by decide +kernel
theorem dX16_part_59 : decode cX16_part 59 = .ok (.ireturn, 1) := by decide +kernel
theorem dX16_part_60 : decode cX16_part 60 = .ok (.iload 5, 2) := by decide +kernel
theorem dX16_part_62 : decode cX16_part 62 = .ok (.aload_n 0, 1) := by decide +kernel
theorem dX16_part_63 : decode cX16_part 63 = .ok (.getfield 7, 3) := by decide +kernel
theorem dX16_part_66 : decode cX16_part 66 = .ok (.iload 6, 2) := by decide +kernel
theorem dX16_part_68 : decode cX16_part 68 = .ok (.iaload, 1) := by decide +kernel
theorem dX16_part_69 : decode cX16_part 69 = .ok (.iadd, 1) := by decide +kernel
theorem dX16_part_70 : decode cX16_part 70 = .ok (.istore 5, 2) := by decide +kernel
theorem dX16_part_72 : decode cX16_part 72 = .ok (.iinc 6 1, 3) := by decide +kernel
theorem dX16_part_75 : decode cX16_part 75 = .ok (.goto (-66), 3) := by decide +kernel
theorem dX16_part_78 : decode cX16_part 78 = .ok (.iload 5, 2) := by decide +kernel
theorem dX16_part_80 : decode cX16_part 80 = .ok (.bipush 7, 2) := by decide +kernel
theorem dX16_part_82 : decode cX16_part 82 = .ok (.iadd, 1) := by decide +kernel
theorem dX16_part_83 : decode cX16_part 83 = .ok (.bipush 8, 2) := by decide +kernel
theorem dX16_part_85 : decode cX16_part 85 = .ok (.idiv, 1) := by decide +kernel
theorem dX16_part_86 : decode cX16_part 86 = .ok (.istore 6, 2) := by decide +kernel
theorem dX16_part_88 : decode cX16_part 88 = .ok (.iconst 1, 1) := by decide +kernel
theorem dX16_part_89 : decode cX16_part 89 = .ok (.istore 7, 2) := by decide +kernel
theorem dX16_part_91 : decode cX16_part 91 = .ok (.iload 7, 2) := by decide +kernel
theorem dX16_part_93 : decode cX16_part 93 = .ok (.aload_n 0, 1) := by decide +kernel
theorem dX16_part_94 : decode cX16_part 94 = .ok (.getfield 81, 3) := by decide +kernel
theorem dX16_part_97 : decode cX16_part 97 = .ok (.if_icmp .gt 65, 3) := by decide +kernel
theorem dX16_part_100 : decode cX16_part 100 = .ok (.aload_n 0, 1) := by decide +kernel
theorem dX16_part_101 : decode cX16_part 101 = .ok (.getfield 23, 3) := by decide +kernel
theorem dX16_part_104 : decode cX16_part 104 = .ok (.iload 7, 2) := by decide +kernel
theorem dX16_part_106 : decode cX16_part 106 = .ok (.iaload, 1) := by decide +kernel
theorem dX16_part_107 : decode cX16_part 107 = .ok (.iload_n 1, 1) := by decide +kernel
theorem dX16_part_108 : decode cX16_part 108 = .ok (.if_icmp .ne 48, 3) := by decide +kernel
theorem dX16_part_111 : decode cX16_part 111 = .ok (.aload_n 0, 1) := by decide +kernel
theorem dX16_part_112 : decode cX16_part 112 = .ok (.getfield 20, 3) := by decide +kernel
theorem dX16_part_115 : decode cX16_part 115 = .ok (.iload 7, 2) := by decide +kernel
theorem dX16_part_117 : decode cX16_part 117 = .ok (.iaload, 1) := by decide +kernel
theorem dX16_part_118 : decode cX16_part 118 = .ok (.iload_n 2, 1) := by decide +kernel
theorem dX16_part_119 : decode cX16_part 119 = .ok (.if_icmp .ne 37, 3) := by decide +kernel
theorem dX16_part_122 : decode cX16_part 122 = .ok (.aload_n 0, 1) := by decide +kernel
theorem dX16_part_123 : decode cX16_part 123 = .ok (.getfield 16, 3) := by decide +kernel
theorem dX16_part_126 : decode cX16_part 126 = .ok (.iload 7, 2) := by decide +kernel
theorem dX16_part_128 : decode cX16_part 128 = .ok (.baload, 1) := by decide +kernel
theorem dX16_part_129 : decode cX16_part 129 = .ok (.ifCond .eq 27, 3) := by decide +kernel
theorem dX16_part_132 : decode cX16_part 132 = .ok (.iload 7, 2) := by decide +kernel
theorem dX16_part_134 : decode cX16_part 134 = .ok (.iload 4, 2) := by decide +kernel
theorem dX16_part_136 : decode cX16_part 136 = .ok (.if_icmp .ne 9, 3) := by decide +kernel
theorem dX16_part_139 : decode cX16_part 139 = .ok (.bipush 8, 2) := by decide +kernel
theorem dX16_part_141 : decode cX16_part 141 = .ok (.iload 6, 2) := by decide +kernel
theorem dX16_part_143 : decode cX16_part 143 = .ok (.imul, 1) := by decide +kernel
theorem dX16_part_144 : decode cX16_part 144 = .ok (.ireturn, 1) := by decide +kernel
theorem dX16_part_145 : decode cX16_part 145 = .ok (.iload 6, 2) := by decide +kernel
theorem dX16_part_147 : decode cX16_part 147 = .ok (.aload_n 0, 1) := by decide +kernel
theorem dX16_part_148 : decode cX16_part 148 = .ok (.iload 7, 2) := by decide +kernel
theorem dX16_part_150 : decode cX16_part 150 = .ok (.invokevirtual 94, 3) := by decide +kernel
theorem dX16_part_153 : decode cX16_part 153 = .ok (.iadd, 1) := by decide +kernel
theorem dX16_part_154 : decode cX16_part 154 = .ok (.istore 6, 2) := by decide +kernel
theorem dX16_part_156 : decode cX16_part 156 = .ok (.iinc 7 1, 3) := by decide +kernel
theorem dX16_part_159 : decode cX16_part 159 = .ok (.goto (-68), 3) := by decide +kernel
theorem dX16_part_162 : decode cX16_part 162 = .ok (.iload 6, 2) := by decide +kernel
theorem dX16_part_164 : decode cX16_part 164 = .ok (.ireturn, 1) := by decide +kernel
theorem cwX16_part : mw_cwV yX16_part cX16_part 8 ((some .int)) 4 := ⟨⟨wd_19, wd_3428, by decide +kernel⟩, wd_3427, sl_198⟩
set_option maxHeartbeats 4000000 in
set_option maxRecDepth 100000 in
theorem tX16_part (l : Launch) (G : mwG) (ad : Nat → Nat) (fu : Nat) (k : Nat) (a1 : Int32) (a2 : Int32) (a3 : Int32) (a4 : Int32) (M : mwM) (L : mwL) {r0 : Int32} {M0 : mwM} {L0 : mwL} (hD : DX16_part fu k a1 a2 a3 a4 M L = some (r0, M0, L0)) (hk0 : isMp k) : Met l yX16_part (Cond.code yX16_part cX16_part 8 ((some .int)) :: GT) ({ frames := 1, cells := 0, slots := 0, locals := 21 }) (mw_Pre G ad NF TF FF M L [.ref (ad k), .int a1, .int a2, .int a3, .int a4]) (mw_Qi G ad NF TF FF (mw_eqI r0 M0 L0)) 0 0 (mw_fr G) := by
  refine mw_enter (by decide) (Nat.le_of_ble_eq_true rfl) ?_
  intro p e s m below meth c ls C hr hlocks hnm hw hl
  have hl : lv_has ls 8 [(0, .ref (ad k)), (1, .int a1), (2, .int a2), (3, .int a3), (4, .int a4)] := hl
  have hh91 : ∀ (f : Nat) (v6 : Int32) (v7 : Int32) (M : mwM) (L : mwL) (H : Heap) (locs : List Loc) (ls : Array Slot), fX16_part_h91 fu k a1 a2 a3 a4 f (v6, v7, M, L) = some (r0, M0, L0) → mw_W G ad NF TF FF M L H locs → lv_has ls 8 [(0, .ref (ad k)), (1, .int a1), (2, .int a2), (4, .int a4), (6, .int v6), (7, .int v7)] → W p l e ({ frames := 1, cells := 0, slots := 0, locals := 21 }) s m [.ref (ad k), .int a1, .int a2, .int a3, .int a4].toArray below meth c H locs 0 0 (MQ below (mw_Qi G ad NF TF FF (mw_eqI r0 M0 L0)) [.ref (ad k), .int a1, .int a2, .int a3, .int a4].toArray s 0 0 (mw_fr G)) (F0 m 91 ls []) := by
    intro f
    induction f with
    | zero => intro v6 v7 M L H locs ls hD; cases hD
    | succ f91 ih91 =>
      intro v6 v7 M L H locs ls hD hw hl
      replace hD : fX16_part_i91 fu k a1 a2 a3 a4 (fX16_part_h91 fu k a1 a2 a3 a4 f91) v6 v7 M L = some (r0, M0, L0) := hD
      have hb156 : ∀ (v6 : Int32) (v7 : Int32) (M : mwM) (L : mwL) (H : Heap) (locs : List Loc) (ls : Array Slot), fX16_part_b156 fu k a1 a2 a3 a4 (fX16_part_h91 fu k a1 a2 a3 a4 f91) v6 v7 M L = some (r0, M0, L0) → mw_W G ad NF TF FF M L H locs → lv_has ls 8 [(0, .ref (ad k)), (1, .int a1), (2, .int a2), (4, .int a4), (6, .int v6), (7, .int v7)] → W p l e ({ frames := 1, cells := 0, slots := 0, locals := 21 }) s m [.ref (ad k), .int a1, .int a2, .int a3, .int a4].toArray below meth c H locs 0 0 (MQ below (mw_Qi G ad NF TF FF (mw_eqI r0 M0 L0)) [.ref (ad k), .int a1, .int a2, .int a3, .int a4].toArray s 0 0 (mw_fr G)) (F0 m 156 ls []) := by
        intro v6 v7 M L H locs ls hD hw hl
        unfold fX16_part_b156 at hD
        obtain ⟨x26, ex26, hD⟩ := g_let hD
        refine lv_iinc (v := x26) (lv' := [(7, .int x26), (0, .ref (ad k)), (1, .int a1), (2, .int a2), (4, .int a4), (6, .int v6)]) C.1.1 C.1.2.1 dX16_part_156 hl (k := 5) rfl (by rw [ex26]; rfl) (by decide) rfl (fun ls hl => ?_)
        refine lv_goto (tgt := 91) C.1.1 C.1.2.1 dX16_part_159 (by decide) ?_
        exact ih91 v6 x26 M L _ _ ls hD hw (lv_sub hl [1, 2, 3, 4, 5, 0] rfl)
      unfold fX16_part_i91 at hD
      refine lv_iload C.1.1 C.1.2.1 dX16_part_91 (lv_at hl 5 rfl) ?_
      refine lv_aload_n C.1.1 C.1.2.1 dX16_part_93 rfl (lv_at hl 0 rfl) ?_
      refine mr_getI C hw kc_16 2 (Mp_N0 hk0) (Mp_T0 hk0) wd_2557 dX16_part_94 (by decide) rfl ?_
      refine lv_icmp_gt (tgt := 162) C.1.1 C.1.2.1 dX16_part_97 (by decide) (fun c14 => ?_) (fun c14 => ?_)
      · replace hD := g_pos c14 hD
        refine lv_iload C.1.1 C.1.2.1 dX16_part_162 (lv_at hl 4 rfl) ?_
        exact mr_iret C hr hlocks hw rfl (Option.some.inj hD) dX16_part_164
      · replace hD := g_neg c14 hD
        refine lv_aload_n C.1.1 C.1.2.1 dX16_part_100 rfl (lv_at hl 0 rfl) ?_
        refine mr_getR C hw kc_16 7 (Mp_N0 hk0) (Mp_T0 hk0) (Mp_F0_7 hk0) wd_2562 dX16_part_101 (by decide) rfl ?_
        refine lv_iload C.1.1 C.1.2.1 dX16_part_104 (lv_at hl 5 rfl) ?_
        obtain ⟨q15, hD⟩ := g_ck hD
        refine mr_iald C hw (Mp_N5 hk0) (Mp_T5 hk0) q15 dX16_part_106 ?_
        refine lv_iload_n C.1.1 C.1.2.1 dX16_part_107 rfl (lv_at hl 1 rfl) ?_
        refine lv_icmp_ne (tgt := 156) C.1.1 C.1.2.1 dX16_part_108 (by decide) (fun c16 => ?_) (fun c16 => ?_)
        · replace hD := g_neg c16 hD
          exact hb156 v6 v7 M L _ _ ls hD hw (lv_sub hl [0, 1, 2, 3, 4, 5] rfl)
        · replace hD := g_pos c16 hD
          refine lv_aload_n C.1.1 C.1.2.1 dX16_part_111 rfl (lv_at hl 0 rfl) ?_
          refine mr_getR C hw kc_16 6 (Mp_N0 hk0) (Mp_T0 hk0) (Mp_F0_6 hk0) wd_2561 dX16_part_112 (by decide) rfl ?_
          refine lv_iload C.1.1 C.1.2.1 dX16_part_115 (lv_at hl 5 rfl) ?_
          obtain ⟨q17, hD⟩ := g_ck hD
          refine mr_iald C hw (Mp_N4 hk0) (Mp_T4 hk0) q17 dX16_part_117 ?_
          refine lv_iload_n C.1.1 C.1.2.1 dX16_part_118 rfl (lv_at hl 2 rfl) ?_
          refine lv_icmp_ne (tgt := 156) C.1.1 C.1.2.1 dX16_part_119 (by decide) (fun c18 => ?_) (fun c18 => ?_)
          · replace hD := g_neg c18 hD
            exact hb156 v6 v7 M L _ _ ls hD hw (lv_sub hl [0, 1, 2, 3, 4, 5] rfl)
          · replace hD := g_pos c18 hD
            refine lv_aload_n C.1.1 C.1.2.1 dX16_part_122 rfl (lv_at hl 0 rfl) ?_
            refine mr_getR C hw kc_16 5 (Mp_N0 hk0) (Mp_T0 hk0) (Mp_F0_5 hk0) wd_2560 dX16_part_123 (by decide) rfl ?_
            refine lv_iload C.1.1 C.1.2.1 dX16_part_126 (lv_at hl 5 rfl) ?_
            obtain ⟨q19, hD⟩ := g_ck hD
            refine mr_zald C hw (Mp_N3 hk0) (Mp_T3 hk0) q19 dX16_part_128 ?_
            refine lv_if_eq (tgt := 156) C.1.1 C.1.2.1 dX16_part_129 (by decide) (fun c20 => ?_) (fun c20 => ?_)
            · replace hD := g_pos c20 hD
              exact hb156 v6 v7 M L _ _ ls hD hw (lv_sub hl [0, 1, 2, 3, 4, 5] rfl)
            · replace hD := g_neg c20 hD
              refine lv_iload C.1.1 C.1.2.1 dX16_part_132 (lv_at hl 5 rfl) ?_
              refine lv_iload C.1.1 C.1.2.1 dX16_part_134 (lv_at hl 3 rfl) ?_
              refine lv_icmp_ne (tgt := 145) C.1.1 C.1.2.1 dX16_part_136 (by decide) (fun c21 => ?_) (fun c21 => ?_)
              · replace hD := g_neg c21 hD
                refine lv_iload C.1.1 C.1.2.1 dX16_part_145 (lv_at hl 4 rfl) ?_
                refine lv_aload_n C.1.1 C.1.2.1 dX16_part_147 rfl (lv_at hl 0 rfl) ?_
                refine lv_iload C.1.1 C.1.2.1 dX16_part_148 (lv_at hl 5 rfl) ?_
                obtain ⟨r24, M22, L23, h1, hD⟩ := g_b3 hD
                refine md_cvI (As := [.int v7]) (rest := [.int v6]) C hw (tX16_octetsOf l G ad fu k v7 M L h1 hk0) kc_16 (Mp_N0 hk0) (Mp_T0 hk0) wd_3429 cwX16_octetsOf ⟨Nat.le_of_ble_eq_true rfl, Nat.le_of_ble_eq_true rfl⟩ rfl hl.1 (Nat.le_of_ble_eq_true rfl) dX16_part_150 rfl rfl ⟨Nat.zero_le _, Nat.zero_le _⟩ rfl (fun H locs hw => ?_)
                refine lv_iadd C.1.1 C.1.2.1 dX16_part_153 ?_
                obtain ⟨x25, ex25, hD⟩ := g_let hD
                refine W.eq (g2 := F0 m 154 ls (.int x25 :: [])) (by rw [ex25]) ?_
                refine lv_istore (lv' := [(6, .int x25), (0, .ref (ad k)), (1, .int a1), (2, .int a2), (4, .int a4), (7, .int v7)]) C.1.1 C.1.2.1 dX16_part_154 hl (by decide) rfl (fun ls hl => ?_)
                exact hb156 x25 v7 M22 L23 _ _ ls hD hw (lv_sub hl [1, 2, 3, 4, 0, 5] rfl)
              · replace hD := g_pos c21 hD
                refine lv_bipush (v := 8) C.1.1 C.1.2.1 dX16_part_139 (by decide) ?_
                refine lv_iload C.1.1 C.1.2.1 dX16_part_141 (lv_at hl 4 rfl) ?_
                refine lv_imul C.1.1 C.1.2.1 dX16_part_143 ?_
                exact mr_iret C hr hlocks hw rfl (Option.some.inj hD) dX16_part_144
  have hh9 : ∀ (f : Nat) (v5 : Int32) (v6 : Int32) (M : mwM) (L : mwL) (H : Heap) (locs : List Loc) (ls : Array Slot), fX16_part_h9 fu k a1 a2 a3 a4 f (v5, v6, M, L) = some (r0, M0, L0) → mw_W G ad NF TF FF M L H locs → lv_has ls 8 [(0, .ref (ad k)), (1, .int a1), (2, .int a2), (4, .int a4), (5, .int v5), (6, .int v6)] → W p l e ({ frames := 1, cells := 0, slots := 0, locals := 21 }) s m [.ref (ad k), .int a1, .int a2, .int a3, .int a4].toArray below meth c H locs 0 0 (MQ below (mw_Qi G ad NF TF FF (mw_eqI r0 M0 L0)) [.ref (ad k), .int a1, .int a2, .int a3, .int a4].toArray s 0 0 (mw_fr G)) (F0 m 9 ls []) := by
    intro f
    induction f with
    | zero => intro v5 v6 M L H locs ls hD; cases hD
    | succ f9 ih9 =>
      intro v5 v6 M L H locs ls hD hw hl
      replace hD : fX16_part_i9 fu k a1 a2 a3 a4 (fX16_part_h9 fu k a1 a2 a3 a4 f9) v5 v6 M L = some (r0, M0, L0) := hD
      have hb72 : ∀ (v5 : Int32) (v6 : Int32) (M : mwM) (L : mwL) (H : Heap) (locs : List Loc) (ls : Array Slot), fX16_part_b72 fu k a1 a2 a3 a4 (fX16_part_h9 fu k a1 a2 a3 a4 f9) v5 v6 M L = some (r0, M0, L0) → mw_W G ad NF TF FF M L H locs → lv_has ls 8 [(0, .ref (ad k)), (1, .int a1), (2, .int a2), (4, .int a4), (5, .int v5), (6, .int v6)] → W p l e ({ frames := 1, cells := 0, slots := 0, locals := 21 }) s m [.ref (ad k), .int a1, .int a2, .int a3, .int a4].toArray below meth c H locs 0 0 (MQ below (mw_Qi G ad NF TF FF (mw_eqI r0 M0 L0)) [.ref (ad k), .int a1, .int a2, .int a3, .int a4].toArray s 0 0 (mw_fr G)) (F0 m 72 ls []) := by
        intro v5 v6 M L H locs ls hD hw hl
        unfold fX16_part_b72 at hD
        obtain ⟨x13, ex13, hD⟩ := g_let hD
        refine lv_iinc (v := x13) (lv' := [(6, .int x13), (0, .ref (ad k)), (1, .int a1), (2, .int a2), (4, .int a4), (5, .int v5)]) C.1.1 C.1.2.1 dX16_part_72 hl (k := 5) rfl (by rw [ex13]; rfl) (by decide) rfl (fun ls hl => ?_)
        refine lv_goto (tgt := 9) C.1.1 C.1.2.1 dX16_part_75 (by decide) ?_
        exact ih9 v5 x13 M L _ _ ls hD hw (lv_sub hl [1, 2, 3, 4, 5, 0] rfl)
      unfold fX16_part_i9 at hD
      refine lv_iload C.1.1 C.1.2.1 dX16_part_9 (lv_at hl 5 rfl) ?_
      refine lv_aload_n C.1.1 C.1.2.1 dX16_part_11 rfl (lv_at hl 0 rfl) ?_
      refine mr_getI C hw kc_16 2 (Mp_N0 hk0) (Mp_T0 hk0) wd_2557 dX16_part_12 (by decide) rfl ?_
      refine lv_icmp_gt (tgt := 78) C.1.1 C.1.2.1 dX16_part_15 (by decide) (fun c1 => ?_) (fun c1 => ?_)
      · replace hD := g_pos c1 hD
        refine lv_iload C.1.1 C.1.2.1 dX16_part_78 (lv_at hl 4 rfl) ?_
        refine lv_bipush (v := 7) C.1.1 C.1.2.1 dX16_part_80 (by decide) ?_
        refine lv_iadd C.1.1 C.1.2.1 dX16_part_82 ?_
        refine lv_bipush (v := 8) C.1.1 C.1.2.1 dX16_part_83 (by decide) ?_
        refine lv_idiv C.1.1 C.1.2.1 dX16_part_85 (by decide) ?_
        obtain ⟨x3, ex3, hD⟩ := g_let hD
        refine W.eq (g2 := F0 m 86 ls (.int x3 :: [])) (by rw [ex3]) ?_
        refine lv_istore (lv' := [(6, .int x3), (0, .ref (ad k)), (1, .int a1), (2, .int a2), (4, .int a4), (5, .int v5)]) C.1.1 C.1.2.1 dX16_part_86 hl (by decide) rfl (fun ls hl => ?_)
        refine lv_iconst (v := 1) C.1.1 C.1.2.1 dX16_part_88 (by decide) ?_
        refine lv_istore (lv' := [(7, .int 1), (6, .int x3), (0, .ref (ad k)), (1, .int a1), (2, .int a2), (4, .int a4), (5, .int v5)]) C.1.1 C.1.2.1 dX16_part_89 hl (by decide) rfl (fun ls hl => ?_)
        exact hh91 fu x3 1 M L _ _ ls hD hw (lv_sub hl [2, 3, 4, 5, 1, 0] rfl)
      · replace hD := g_neg c1 hD
        refine lv_aload_n C.1.1 C.1.2.1 dX16_part_18 rfl (lv_at hl 0 rfl) ?_
        refine mr_getR C hw kc_16 7 (Mp_N0 hk0) (Mp_T0 hk0) (Mp_F0_7 hk0) wd_2562 dX16_part_19 (by decide) rfl ?_
        refine lv_iload C.1.1 C.1.2.1 dX16_part_22 (lv_at hl 5 rfl) ?_
        obtain ⟨q4, hD⟩ := g_ck hD
        refine mr_iald C hw (Mp_N5 hk0) (Mp_T5 hk0) q4 dX16_part_24 ?_
        refine lv_iload_n C.1.1 C.1.2.1 dX16_part_25 rfl (lv_at hl 1 rfl) ?_
        refine lv_icmp_ne (tgt := 72) C.1.1 C.1.2.1 dX16_part_26 (by decide) (fun c5 => ?_) (fun c5 => ?_)
        · replace hD := g_neg c5 hD
          exact hb72 v5 v6 M L _ _ ls hD hw (lv_sub hl [0, 1, 2, 3, 4, 5] rfl)
        · replace hD := g_pos c5 hD
          refine lv_aload_n C.1.1 C.1.2.1 dX16_part_29 rfl (lv_at hl 0 rfl) ?_
          refine mr_getR C hw kc_16 6 (Mp_N0 hk0) (Mp_T0 hk0) (Mp_F0_6 hk0) wd_2561 dX16_part_30 (by decide) rfl ?_
          refine lv_iload C.1.1 C.1.2.1 dX16_part_33 (lv_at hl 5 rfl) ?_
          obtain ⟨q6, hD⟩ := g_ck hD
          refine mr_iald C hw (Mp_N4 hk0) (Mp_T4 hk0) q6 dX16_part_35 ?_
          refine lv_iload_n C.1.1 C.1.2.1 dX16_part_36 rfl (lv_at hl 2 rfl) ?_
          refine lv_icmp_ne (tgt := 72) C.1.1 C.1.2.1 dX16_part_37 (by decide) (fun c7 => ?_) (fun c7 => ?_)
          · replace hD := g_neg c7 hD
            exact hb72 v5 v6 M L _ _ ls hD hw (lv_sub hl [0, 1, 2, 3, 4, 5] rfl)
          · replace hD := g_pos c7 hD
            refine lv_aload_n C.1.1 C.1.2.1 dX16_part_40 rfl (lv_at hl 0 rfl) ?_
            refine mr_getR C hw kc_16 5 (Mp_N0 hk0) (Mp_T0 hk0) (Mp_F0_5 hk0) wd_2560 dX16_part_41 (by decide) rfl ?_
            refine lv_iload C.1.1 C.1.2.1 dX16_part_44 (lv_at hl 5 rfl) ?_
            obtain ⟨q8, hD⟩ := g_ck hD
            refine mr_zald C hw (Mp_N3 hk0) (Mp_T3 hk0) q8 dX16_part_46 ?_
            refine lv_if_ne (tgt := 72) C.1.1 C.1.2.1 dX16_part_47 (by decide) (fun c9 => ?_) (fun c9 => ?_)
            · replace hD := g_neg c9 hD
              exact hb72 v5 v6 M L _ _ ls hD hw (lv_sub hl [0, 1, 2, 3, 4, 5] rfl)
            · replace hD := g_pos c9 hD
              refine lv_iload C.1.1 C.1.2.1 dX16_part_50 (lv_at hl 5 rfl) ?_
              refine lv_iload C.1.1 C.1.2.1 dX16_part_52 (lv_at hl 3 rfl) ?_
              refine lv_icmp_ne (tgt := 60) C.1.1 C.1.2.1 dX16_part_54 (by decide) (fun c10 => ?_) (fun c10 => ?_)
              · replace hD := g_neg c10 hD
                refine lv_iload C.1.1 C.1.2.1 dX16_part_60 (lv_at hl 4 rfl) ?_
                refine lv_aload_n C.1.1 C.1.2.1 dX16_part_62 rfl (lv_at hl 0 rfl) ?_
                refine mr_getR C hw kc_16 3 (Mp_N0 hk0) (Mp_T0 hk0) (Mp_F0_3 hk0) wd_2558 dX16_part_63 (by decide) rfl ?_
                refine lv_iload C.1.1 C.1.2.1 dX16_part_66 (lv_at hl 5 rfl) ?_
                obtain ⟨q11, hD⟩ := g_ck hD
                refine mr_iald C hw (Mp_N1 hk0) (Mp_T1 hk0) q11 dX16_part_68 ?_
                refine lv_iadd C.1.1 C.1.2.1 dX16_part_69 ?_
                obtain ⟨x12, ex12, hD⟩ := g_let hD
                refine W.eq (g2 := F0 m 70 ls (.int x12 :: [])) (by rw [ex12]) ?_
                refine lv_istore (lv' := [(5, .int x12), (0, .ref (ad k)), (1, .int a1), (2, .int a2), (4, .int a4), (6, .int v6)]) C.1.1 C.1.2.1 dX16_part_70 hl (by decide) rfl (fun ls hl => ?_)
                exact hb72 x12 v6 M L _ _ ls hD hw (lv_sub hl [1, 2, 3, 4, 0, 5] rfl)
              · replace hD := g_pos c10 hD
                refine lv_iload C.1.1 C.1.2.1 dX16_part_57 (lv_at hl 4 rfl) ?_
                exact mr_iret C hr hlocks hw rfl (Option.some.inj hD) dX16_part_59
  unfold DX16_part at hD
  refine lv_bipush (v := 8) C.1.1 C.1.2.1 dX16_part_0 (by decide) ?_
  refine lv_iload_n C.1.1 C.1.2.1 dX16_part_2 rfl (lv_at hl 3 rfl) ?_
  refine lv_imul C.1.1 C.1.2.1 dX16_part_3 ?_
  obtain ⟨x27, ex27, hD⟩ := g_let hD
  refine W.eq (g2 := F0 m 4 ls (.int x27 :: [])) (by rw [ex27]) ?_
  refine lv_istore (lv' := [(5, .int x27), (0, .ref (ad k)), (1, .int a1), (2, .int a2), (3, .int a3), (4, .int a4)]) C.1.1 C.1.2.1 dX16_part_4 hl (by decide) rfl (fun ls hl => ?_)
  refine lv_iconst (v := 1) C.1.1 C.1.2.1 dX16_part_6 (by decide) ?_
  refine lv_istore (lv' := [(6, .int 1), (5, .int x27), (0, .ref (ad k)), (1, .int a1), (2, .int a2), (3, .int a3), (4, .int a4)]) C.1.1 C.1.2.1 dX16_part_7 hl (by decide) rfl (fun ls hl => ?_)
  exact hh9 fu x27 1 M L _ _ ls hD hw (lv_sub hl [2, 3, 4, 6, 1, 0] rfl)

theorem dX16_size_0 : decode cX16_size 0 = .ok (.aload_n 0, 1) := by decide +kernel
theorem dX16_size_1 : decode cX16_size 1 = .ok (.iload_n 1, 1) := by decide +kernel
theorem dX16_size_2 : decode cX16_size 2 = .ok (.iconst (-1), 1) := by decide +kernel
theorem dX16_size_3 : decode cX16_size 3 = .ok (.iconst 0, 1) := by decide +kernel
theorem dX16_size_4 : decode cX16_size 4 = .ok (.iconst 0, 1) := by decide +kernel
theorem dX16_size_5 : decode cX16_size 5 = .ok (.invokevirtual 98, 3) := by decide +kernel
theorem dX16_size_8 : decode cX16_size 8 = .ok (.istore_n 2, 1) := by decide +kernel
theorem dX16_size_9 : decode cX16_size 9 = .ok (.iload_n 2, 1) := by decide +kernel
theorem dX16_size_10 : decode cX16_size 10 = .ok (.istore_n 3, 1) := by decide +kernel
theorem dX16_size_11 : decode cX16_size 11 = .ok (.iconst 1, 1) := by decide +kernel
theorem dX16_size_12 : decode cX16_size 12 = .ok (.istore 4, 2) := by decide +kernel
theorem dX16_size_14 : decode cX16_size 14 = .ok (.iload 4, 2) := by decide +kernel
theorem dX16_size_16 : decode cX16_size 16 = .ok (.aload_n 0, 1) := by decide +kernel
theorem dX16_size_17 : decode cX16_size 17 = .ok (.getfield 81, 3) := by decide +kernel
theorem dX16_size_20 : decode cX16_size 20 = .ok (.if_icmp .gt 59, 3) := by decide +kernel
theorem dX16_size_23 : decode cX16_size 23 = .ok (.aload_n 0, 1) := by decide +kernel
theorem dX16_size_24 : decode cX16_size 24 = .ok (.getfield 23, 3) := by decide +kernel
theorem dX16_size_27 : decode cX16_size 27 = .ok (.iload 4, 2) := by decide +kernel
theorem dX16_size_29 : decode cX16_size 29 = .ok (.iaload, 1) := by decide +kernel
theorem dX16_size_30 : decode cX16_size 30 = .ok (.iload_n 1, 1) := by decide +kernel
theorem dX16_size_31 : decode cX16_size 31 = .ok (.if_icmp .ne 42, 3) := by decide +kernel
theorem dX16_size_34 : decode cX16_size 34 = .ok (.aload_n 0, 1) := by decide +kernel
theorem dX16_size_35 : decode cX16_size 35 = .ok (.getfield 20, 3) := by decide +kernel
theorem dX16_size_38 : decode cX16_size 38 = .ok (.iload 4, 2) := by decide +kernel
theorem dX16_size_40 : decode cX16_size 40 = .ok (.iaload, 1) := by decide +kernel
theorem dX16_size_41 : decode cX16_size 41 = .ok (.ifCond .lt 32, 3) := by decide +kernel
theorem dX16_size_44 : decode cX16_size 44 = .ok (.aload_n 0, 1) := by decide +kernel
theorem dX16_size_45 : decode cX16_size 45 = .ok (.iload_n 1, 1) := by decide +kernel
theorem dX16_size_46 : decode cX16_size 46 = .ok (.aload_n 0, 1) := by decide +kernel
theorem dX16_size_47 : decode cX16_size 47 = .ok (.getfield 20, 3) := by decide +kernel
theorem dX16_size_50 : decode cX16_size 50 = .ok (.iload 4, 2) := by decide +kernel
theorem dX16_size_52 : decode cX16_size 52 = .ok (.iaload, 1) := by decide +kernel
theorem dX16_size_53 : decode cX16_size 53 = .ok (.iload_n 2, 1) := by decide +kernel
theorem dX16_size_54 : decode cX16_size 54 = .ok (.iconst 0, 1) := by decide +kernel
theorem dX16_size_55 : decode cX16_size 55 = .ok (.invokevirtual 98, 3) := by decide +kernel
theorem dX16_size_58 : decode cX16_size 58 = .ok (.istore 5, 2) := by decide +kernel
theorem dX16_size_60 : decode cX16_size 60 = .ok (.iload 5, 2) := by decide +kernel
theorem dX16_size_62 : decode cX16_size 62 = .ok (.iload_n 3, 1) := by decide +kernel
theorem dX16_size_63 : decode cX16_size 63 = .ok (.if_icmp .le 8, 3) := by decide +kernel
theorem dX16_size_66 : decode cX16_size 66 = .ok (.iload 5, 2) := by decide +kernel
theorem dX16_size_68 : decode cX16_size 68 = .ok (.goto 4, 3) := by decide +kernel
theorem dX16_size_71 : decode cX16_size 71 = .ok (.iload_n 3, 1) := by decide +kernel
theorem dX16_size_72 : decode cX16_size 72 = .ok (.istore_n 3, 1) := by decide +kernel
theorem dX16_size_73 : decode cX16_size 73 = .ok (.iinc 4 1, 3) := by decide +kernel
theorem dX16_size_76 : decode cX16_size 76 = .ok (.goto (-62), 3) := by decide +kernel
theorem dX16_size_79 : decode cX16_size 79 = .ok (.iload_n 3, 1) := by decide +kernel
theorem dX16_size_80 : decode cX16_size 80 = .ok (.ireturn, 1) := by decide +kernel
theorem cwX16_size : mw_cwV yX16_size cX16_size 6 ((some .int)) 1 := ⟨⟨wd_19, wd_3424, by decide +kernel⟩, wd_3423, sl_197⟩
set_option maxHeartbeats 4000000 in
set_option maxRecDepth 100000 in
theorem tX16_size (l : Launch) (G : mwG) (ad : Nat → Nat) (fu : Nat) (k : Nat) (a1 : Int32) (M : mwM) (L : mwL) {r0 : Int32} {M0 : mwM} {L0 : mwL} (hD : DX16_size fu k a1 M L = some (r0, M0, L0)) (hk0 : isMp k) : Met l yX16_size (Cond.code yX16_size cX16_size 6 ((some .int)) :: GT) ({ frames := 2, cells := 0, slots := 0, locals := 48 }) (mw_Pre G ad NF TF FF M L [.ref (ad k), .int a1]) (mw_Qi G ad NF TF FF (mw_eqI r0 M0 L0)) 0 0 (mw_fr G) := by
  refine mw_enter (by decide) (Nat.le_of_ble_eq_true rfl) ?_
  intro p e s m below meth c ls C hr hlocks hnm hw hl
  have hl : lv_has ls 6 [(0, .ref (ad k)), (1, .int a1)] := hl
  have hh14 : ∀ (f : Nat) (v2 : Int32) (v3 : Int32) (v4 : Int32) (M : mwM) (L : mwL) (H : Heap) (locs : List Loc) (ls : Array Slot), fX16_size_h14 fu k a1 f (v2, v3, v4, M, L) = some (r0, M0, L0) → mw_W G ad NF TF FF M L H locs → lv_has ls 6 [(0, .ref (ad k)), (1, .int a1), (2, .int v2), (3, .int v3), (4, .int v4)] → W p l e ({ frames := 2, cells := 0, slots := 0, locals := 48 }) s m [.ref (ad k), .int a1].toArray below meth c H locs 0 0 (MQ below (mw_Qi G ad NF TF FF (mw_eqI r0 M0 L0)) [.ref (ad k), .int a1].toArray s 0 0 (mw_fr G)) (F0 m 14 ls []) := by
    intro f
    induction f with
    | zero => intro v2 v3 v4 M L H locs ls hD; cases hD
    | succ f14 ih14 =>
      intro v2 v3 v4 M L H locs ls hD hw hl
      replace hD : fX16_size_i14 fu k a1 (fX16_size_h14 fu k a1 f14) v2 v3 v4 M L = some (r0, M0, L0) := hD
      have hb73 : ∀ (v2 : Int32) (v3 : Int32) (v4 : Int32) (M : mwM) (L : mwL) (H : Heap) (locs : List Loc) (ls : Array Slot), fX16_size_b73 fu k a1 (fX16_size_h14 fu k a1 f14) v2 v3 v4 M L = some (r0, M0, L0) → mw_W G ad NF TF FF M L H locs → lv_has ls 6 [(0, .ref (ad k)), (1, .int a1), (2, .int v2), (3, .int v3), (4, .int v4)] → W p l e ({ frames := 2, cells := 0, slots := 0, locals := 48 }) s m [.ref (ad k), .int a1].toArray below meth c H locs 0 0 (MQ below (mw_Qi G ad NF TF FF (mw_eqI r0 M0 L0)) [.ref (ad k), .int a1].toArray s 0 0 (mw_fr G)) (F0 m 73 ls []) := by
        intro v2 v3 v4 M L H locs ls hD hw hl
        unfold fX16_size_b73 at hD
        obtain ⟨x11, ex11, hD⟩ := g_let hD
        refine lv_iinc (v := x11) (lv' := [(4, .int x11), (0, .ref (ad k)), (1, .int a1), (2, .int v2), (3, .int v3)]) C.1.1 C.1.2.1 dX16_size_73 hl (k := 4) rfl (by rw [ex11]; rfl) (by decide) rfl (fun ls hl => ?_)
        refine lv_goto (tgt := 14) C.1.1 C.1.2.1 dX16_size_76 (by decide) ?_
        exact ih14 v2 v3 x11 M L _ _ ls hD hw (lv_sub hl [1, 2, 3, 4, 0] rfl)
      have hb72 : ∀ (v2 : Int32) (v4 : Int32) (s0 : Int32) (M : mwM) (L : mwL) (H : Heap) (locs : List Loc) (ls : Array Slot), fX16_size_b72 fu k a1 (fX16_size_h14 fu k a1 f14) v2 v4 s0 M L = some (r0, M0, L0) → mw_W G ad NF TF FF M L H locs → lv_has ls 6 [(0, .ref (ad k)), (1, .int a1), (2, .int v2), (4, .int v4)] → W p l e ({ frames := 2, cells := 0, slots := 0, locals := 48 }) s m [.ref (ad k), .int a1].toArray below meth c H locs 0 0 (MQ below (mw_Qi G ad NF TF FF (mw_eqI r0 M0 L0)) [.ref (ad k), .int a1].toArray s 0 0 (mw_fr G)) (F0 m 72 ls [.int s0]) := by
        intro v2 v4 s0 M L H locs ls hD hw hl
        unfold fX16_size_b72 at hD
        refine lv_istore_n (lv' := [(3, .int s0), (0, .ref (ad k)), (1, .int a1), (2, .int v2), (4, .int v4)]) C.1.1 C.1.2.1 dX16_size_72 rfl hl (by decide) rfl (fun ls hl => ?_)
        exact hb73 v2 s0 v4 M L _ _ ls hD hw (lv_sub hl [1, 2, 3, 0, 4] rfl)
      unfold fX16_size_i14 at hD
      refine lv_iload C.1.1 C.1.2.1 dX16_size_14 (lv_at hl 4 rfl) ?_
      refine lv_aload_n C.1.1 C.1.2.1 dX16_size_16 rfl (lv_at hl 0 rfl) ?_
      refine mr_getI C hw kc_16 2 (Mp_N0 hk0) (Mp_T0 hk0) wd_2557 dX16_size_17 (by decide) rfl ?_
      refine lv_icmp_gt (tgt := 79) C.1.1 C.1.2.1 dX16_size_20 (by decide) (fun c1 => ?_) (fun c1 => ?_)
      · replace hD := g_pos c1 hD
        refine lv_iload_n C.1.1 C.1.2.1 dX16_size_79 rfl (lv_at hl 3 rfl) ?_
        exact mr_iret C hr hlocks hw rfl (Option.some.inj hD) dX16_size_80
      · replace hD := g_neg c1 hD
        refine lv_aload_n C.1.1 C.1.2.1 dX16_size_23 rfl (lv_at hl 0 rfl) ?_
        refine mr_getR C hw kc_16 7 (Mp_N0 hk0) (Mp_T0 hk0) (Mp_F0_7 hk0) wd_2562 dX16_size_24 (by decide) rfl ?_
        refine lv_iload C.1.1 C.1.2.1 dX16_size_27 (lv_at hl 4 rfl) ?_
        obtain ⟨q2, hD⟩ := g_ck hD
        refine mr_iald C hw (Mp_N5 hk0) (Mp_T5 hk0) q2 dX16_size_29 ?_
        refine lv_iload_n C.1.1 C.1.2.1 dX16_size_30 rfl (lv_at hl 1 rfl) ?_
        refine lv_icmp_ne (tgt := 73) C.1.1 C.1.2.1 dX16_size_31 (by decide) (fun c3 => ?_) (fun c3 => ?_)
        · replace hD := g_neg c3 hD
          exact hb73 v2 v3 v4 M L _ _ ls hD hw (lv_sub hl [0, 1, 2, 3, 4] rfl)
        · replace hD := g_pos c3 hD
          refine lv_aload_n C.1.1 C.1.2.1 dX16_size_34 rfl (lv_at hl 0 rfl) ?_
          refine mr_getR C hw kc_16 6 (Mp_N0 hk0) (Mp_T0 hk0) (Mp_F0_6 hk0) wd_2561 dX16_size_35 (by decide) rfl ?_
          refine lv_iload C.1.1 C.1.2.1 dX16_size_38 (lv_at hl 4 rfl) ?_
          obtain ⟨q4, hD⟩ := g_ck hD
          refine mr_iald C hw (Mp_N4 hk0) (Mp_T4 hk0) q4 dX16_size_40 ?_
          refine lv_if_lt (tgt := 73) C.1.1 C.1.2.1 dX16_size_41 (by decide) (fun c5 => ?_) (fun c5 => ?_)
          · replace hD := g_pos c5 hD
            exact hb73 v2 v3 v4 M L _ _ ls hD hw (lv_sub hl [0, 1, 2, 3, 4] rfl)
          · replace hD := g_neg c5 hD
            refine lv_aload_n C.1.1 C.1.2.1 dX16_size_44 rfl (lv_at hl 0 rfl) ?_
            refine lv_iload_n C.1.1 C.1.2.1 dX16_size_45 rfl (lv_at hl 1 rfl) ?_
            refine lv_aload_n C.1.1 C.1.2.1 dX16_size_46 rfl (lv_at hl 0 rfl) ?_
            refine mr_getR C hw kc_16 6 (Mp_N0 hk0) (Mp_T0 hk0) (Mp_F0_6 hk0) wd_2561 dX16_size_47 (by decide) rfl ?_
            refine lv_iload C.1.1 C.1.2.1 dX16_size_50 (lv_at hl 4 rfl) ?_
            obtain ⟨q6, hD⟩ := g_ck hD
            refine mr_iald C hw (Mp_N4 hk0) (Mp_T4 hk0) q6 dX16_size_52 ?_
            refine lv_iload_n C.1.1 C.1.2.1 dX16_size_53 rfl (lv_at hl 2 rfl) ?_
            refine lv_iconst (v := 0) C.1.1 C.1.2.1 dX16_size_54 (by decide) ?_
            obtain ⟨r9, M7, L8, h1, hD⟩ := g_b3 hD
            refine md_cvI (As := [.int a1, .int (M (k + 4) v4.toNatClampNeg), .int v2, .int 0]) (rest := []) C hw (tX16_part l G ad fu k a1 (M (k + 4) v4.toNatClampNeg) v2 0 M L h1 hk0) kc_16 (Mp_N0 hk0) (Mp_T0 hk0) wd_3425 cwX16_part ⟨Nat.le_of_ble_eq_true rfl, Nat.le_of_ble_eq_true rfl⟩ rfl hl.1 (Nat.le_of_ble_eq_true rfl) dX16_size_55 rfl rfl ⟨Nat.zero_le _, Nat.zero_le _⟩ rfl (fun H locs hw => ?_)
            refine lv_istore (lv' := [(5, .int r9), (0, .ref (ad k)), (1, .int a1), (2, .int v2), (3, .int v3), (4, .int v4)]) C.1.1 C.1.2.1 dX16_size_58 hl (by decide) rfl (fun ls hl => ?_)
            refine lv_iload C.1.1 C.1.2.1 dX16_size_60 (lv_at hl 0 rfl) ?_
            refine lv_iload_n C.1.1 C.1.2.1 dX16_size_62 rfl (lv_at hl 4 rfl) ?_
            refine lv_icmp_le (tgt := 71) C.1.1 C.1.2.1 dX16_size_63 (by decide) (fun c10 => ?_) (fun c10 => ?_)
            · replace hD := g_pos c10 hD
              refine lv_iload_n C.1.1 C.1.2.1 dX16_size_71 rfl (lv_at hl 4 rfl) ?_
              exact hb72 v2 v4 v3 M7 L8 _ _ ls hD hw (lv_sub hl [1, 2, 3, 5] rfl)
            · replace hD := g_neg c10 hD
              refine lv_iload C.1.1 C.1.2.1 dX16_size_66 (lv_at hl 0 rfl) ?_
              refine lv_goto (tgt := 72) C.1.1 C.1.2.1 dX16_size_68 (by decide) ?_
              exact hb72 v2 v4 r9 M7 L8 _ _ ls hD hw (lv_sub hl [1, 2, 3, 5] rfl)
  unfold DX16_size at hD
  refine lv_aload_n C.1.1 C.1.2.1 dX16_size_0 rfl (lv_at hl 0 rfl) ?_
  refine lv_iload_n C.1.1 C.1.2.1 dX16_size_1 rfl (lv_at hl 1 rfl) ?_
  refine lv_iconst (v := (-1)) C.1.1 C.1.2.1 dX16_size_2 (by decide) ?_
  refine lv_iconst (v := 0) C.1.1 C.1.2.1 dX16_size_3 (by decide) ?_
  refine lv_iconst (v := 0) C.1.1 C.1.2.1 dX16_size_4 (by decide) ?_
  obtain ⟨r15, M12, L13, h1, hD⟩ := g_b3 hD
  refine md_cvI (As := [.int a1, .int ((-1)), .int 0, .int 0]) (rest := []) C hw (tX16_part l G ad fu k a1 ((-1)) 0 0 M L h1 hk0) kc_16 (Mp_N0 hk0) (Mp_T0 hk0) wd_3425 cwX16_part ⟨Nat.le_of_ble_eq_true rfl, Nat.le_of_ble_eq_true rfl⟩ rfl hl.1 (Nat.le_of_ble_eq_true rfl) dX16_size_5 rfl rfl ⟨Nat.zero_le _, Nat.zero_le _⟩ rfl (fun H locs hw => ?_)
  refine lv_istore_n (lv' := [(2, .int r15), (0, .ref (ad k)), (1, .int a1)]) C.1.1 C.1.2.1 dX16_size_8 rfl hl (by decide) rfl (fun ls hl => ?_)
  refine lv_iload_n C.1.1 C.1.2.1 dX16_size_9 rfl (lv_at hl 0 rfl) ?_
  refine lv_istore_n (lv' := [(3, .int r15), (2, .int r15), (0, .ref (ad k)), (1, .int a1)]) C.1.1 C.1.2.1 dX16_size_10 rfl hl (by decide) rfl (fun ls hl => ?_)
  refine lv_iconst (v := 1) C.1.1 C.1.2.1 dX16_size_11 (by decide) ?_
  refine lv_istore (lv' := [(4, .int 1), (3, .int r15), (2, .int r15), (0, .ref (ad k)), (1, .int a1)]) C.1.1 C.1.2.1 dX16_size_12 hl (by decide) rfl (fun ls hl => ?_)
  exact hh14 fu r15 r15 1 M12 L13 _ _ ls hD hw (lv_sub hl [3, 4, 2, 1, 0] rfl)

theorem dX16_bitInGroup_0 : decode cX16_bitInGroup 0 = .ok (.aload_n 0, 1) := by decide +kernel
theorem dX16_bitInGroup_1 : decode cX16_bitInGroup 1 = .ok (.getfield 23, 3) := by decide +kernel
theorem dX16_bitInGroup_4 : decode cX16_bitInGroup 4 = .ok (.iload_n 1, 1) := by decide +kernel
theorem dX16_bitInGroup_5 : decode cX16_bitInGroup 5 = .ok (.iaload, 1) := by decide +kernel
theorem dX16_bitInGroup_6 : decode cX16_bitInGroup 6 = .ok (.istore_n 2, 1) := by decide +kernel
theorem dX16_bitInGroup_7 : decode cX16_bitInGroup 7 = .ok (.aload_n 0, 1) := by decide +kernel
theorem dX16_bitInGroup_8 : decode cX16_bitInGroup 8 = .ok (.getfield 20, 3) := by decide +kernel
theorem dX16_bitInGroup_11 : decode cX16_bitInGroup 11 = .ok (.iload_n 1, 1) := by decide +kernel
theorem dX16_bitInGroup_12 : decode cX16_bitInGroup 12 = .ok (.iaload, 1) := by decide +kernel
theorem dX16_bitInGroup_13 : decode cX16_bitInGroup 13 = .ok (.ifCond .ge 14, 3) := by decide +kernel
theorem dX16_bitInGroup_16 : decode cX16_bitInGroup 16 = .ok (.aload_n 0, 1) := by decide +kernel
theorem dX16_bitInGroup_17 : decode cX16_bitInGroup 17 = .ok (.iload_n 2, 1) := by decide +kernel
theorem dX16_bitInGroup_18 : decode cX16_bitInGroup 18 = .ok (.iconst (-1), 1) := by decide +kernel
theorem dX16_bitInGroup_19 : decode cX16_bitInGroup 19 = .ok (.iconst 0, 1) := by decide +kernel
theorem dX16_bitInGroup_20 : decode cX16_bitInGroup 20 = .ok (.iload_n 1, 1) := by decide +kernel
theorem dX16_bitInGroup_21 : decode cX16_bitInGroup 21 = .ok (.invokevirtual 98, 3) := by decide +kernel
theorem dX16_bitInGroup_24 : decode cX16_bitInGroup 24 = .ok (.goto 23, 3) := by decide +kernel
theorem dX16_bitInGroup_27 : decode cX16_bitInGroup 27 = .ok (.aload_n 0, 1) := by decide +kernel
theorem dX16_bitInGroup_28 : decode cX16_bitInGroup 28 = .ok (.iload_n 2, 1) := by decide +kernel
theorem dX16_bitInGroup_29 : decode cX16_bitInGroup 29 = .ok (.aload_n 0, 1) := by decide +kernel
theorem dX16_bitInGroup_30 : decode cX16_bitInGroup 30 = .ok (.getfield 20, 3) := by decide +kernel
theorem dX16_bitInGroup_33 : decode cX16_bitInGroup 33 = .ok (.iload_n 1, 1) := by decide +kernel
theorem dX16_bitInGroup_34 : decode cX16_bitInGroup 34 = .ok (.iaload, 1) := by decide +kernel
theorem dX16_bitInGroup_35 : decode cX16_bitInGroup 35 = .ok (.aload_n 0, 1) := by decide +kernel
theorem dX16_bitInGroup_36 : decode cX16_bitInGroup 36 = .ok (.iload_n 2, 1) := by decide +kernel
theorem dX16_bitInGroup_37 : decode cX16_bitInGroup 37 = .ok (.iconst (-1), 1) := by decide +kernel
theorem dX16_bitInGroup_38 : decode cX16_bitInGroup 38 = .ok (.iconst 0, 1) := by decide +kernel
theorem dX16_bitInGroup_39 : decode cX16_bitInGroup 39 = .ok (.iconst 0, 1) := by decide +kernel
theorem dX16_bitInGroup_40 : decode cX16_bitInGroup 40 = .ok (.invokevirtual 98, 3) := by decide +kernel
theorem dX16_bitInGroup_43 : decode cX16_bitInGroup 43 = .ok (.iload_n 1, 1) := by decide +kernel
theorem dX16_bitInGroup_44 : decode cX16_bitInGroup 44 = .ok (.invokevirtual 98, 3) := by decide +kernel
theorem dX16_bitInGroup_47 : decode cX16_bitInGroup 47 = .ok (.ireturn, 1) := by decide +kernel
theorem cwX16_bitInGroup : mw_cwV yX16_bitInGroup cX16_bitInGroup 3 ((some .int)) 1 := ⟨⟨wd_19, wd_3478, by decide +kernel⟩, wd_3477, sl_210⟩
set_option maxHeartbeats 4000000 in
set_option maxRecDepth 100000 in
theorem tX16_bitInGroup (l : Launch) (G : mwG) (ad : Nat → Nat) (fu : Nat) (k : Nat) (a1 : Int32) (M : mwM) (L : mwL) {r0 : Int32} {M0 : mwM} {L0 : mwL} (hD : DX16_bitInGroup fu k a1 M L = some (r0, M0, L0)) (hk0 : isMp k) : Met l yX16_bitInGroup (Cond.code yX16_bitInGroup cX16_bitInGroup 3 ((some .int)) :: GT) ({ frames := 2, cells := 0, slots := 0, locals := 48 }) (mw_Pre G ad NF TF FF M L [.ref (ad k), .int a1]) (mw_Qi G ad NF TF FF (mw_eqI r0 M0 L0)) 0 0 (mw_fr G) := by
  refine mw_enter (by decide) (Nat.le_of_ble_eq_true rfl) ?_
  intro p e s m below meth c ls C hr hlocks hnm hw hl
  have hl : lv_has ls 3 [(0, .ref (ad k)), (1, .int a1)] := hl
  have hb47 : ∀ (s0 : Int32) (M : mwM) (L : mwL) (H : Heap) (locs : List Loc) (ls : Array Slot), fX16_bitInGroup_b47 fu k a1 s0 M L = some (r0, M0, L0) → mw_W G ad NF TF FF M L H locs → lv_has ls 3 [] → W p l e ({ frames := 2, cells := 0, slots := 0, locals := 48 }) s m [.ref (ad k), .int a1].toArray below meth c H locs 0 0 (MQ below (mw_Qi G ad NF TF FF (mw_eqI r0 M0 L0)) [.ref (ad k), .int a1].toArray s 0 0 (mw_fr G)) (F0 m 47 ls [.int s0]) := by
    intro s0 M L H locs ls hD hw hl
    unfold fX16_bitInGroup_b47 at hD
    exact mr_iret C hr hlocks hw rfl (Option.some.inj hD) dX16_bitInGroup_47
  unfold DX16_bitInGroup at hD
  refine lv_aload_n C.1.1 C.1.2.1 dX16_bitInGroup_0 rfl (lv_at hl 0 rfl) ?_
  refine mr_getR C hw kc_16 7 (Mp_N0 hk0) (Mp_T0 hk0) (Mp_F0_7 hk0) wd_2562 dX16_bitInGroup_1 (by decide) rfl ?_
  refine lv_iload_n C.1.1 C.1.2.1 dX16_bitInGroup_4 rfl (lv_at hl 1 rfl) ?_
  obtain ⟨q1, hD⟩ := g_ck hD
  refine mr_iald C hw (Mp_N5 hk0) (Mp_T5 hk0) q1 dX16_bitInGroup_5 ?_
  obtain ⟨x2, ex2, hD⟩ := g_let hD
  refine W.eq (g2 := F0 m 6 ls (.int x2 :: [])) (by rw [ex2]) ?_
  refine lv_istore_n (lv' := [(2, .int x2), (0, .ref (ad k)), (1, .int a1)]) C.1.1 C.1.2.1 dX16_bitInGroup_6 rfl hl (by decide) rfl (fun ls hl => ?_)
  refine lv_aload_n C.1.1 C.1.2.1 dX16_bitInGroup_7 rfl (lv_at hl 1 rfl) ?_
  refine mr_getR C hw kc_16 6 (Mp_N0 hk0) (Mp_T0 hk0) (Mp_F0_6 hk0) wd_2561 dX16_bitInGroup_8 (by decide) rfl ?_
  refine lv_iload_n C.1.1 C.1.2.1 dX16_bitInGroup_11 rfl (lv_at hl 2 rfl) ?_
  obtain ⟨q3, hD⟩ := g_ck hD
  refine mr_iald C hw (Mp_N4 hk0) (Mp_T4 hk0) q3 dX16_bitInGroup_12 ?_
  refine lv_if_ge (tgt := 27) C.1.1 C.1.2.1 dX16_bitInGroup_13 (by decide) (fun c4 => ?_) (fun c4 => ?_)
  · replace hD := g_pos c4 hD
    refine lv_aload_n C.1.1 C.1.2.1 dX16_bitInGroup_27 rfl (lv_at hl 1 rfl) ?_
    refine lv_iload_n C.1.1 C.1.2.1 dX16_bitInGroup_28 rfl (lv_at hl 0 rfl) ?_
    refine lv_aload_n C.1.1 C.1.2.1 dX16_bitInGroup_29 rfl (lv_at hl 1 rfl) ?_
    refine mr_getR C hw kc_16 6 (Mp_N0 hk0) (Mp_T0 hk0) (Mp_F0_6 hk0) wd_2561 dX16_bitInGroup_30 (by decide) rfl ?_
    refine lv_iload_n C.1.1 C.1.2.1 dX16_bitInGroup_33 rfl (lv_at hl 2 rfl) ?_
    obtain ⟨q5, hD⟩ := g_ck hD
    refine mr_iald C hw (Mp_N4 hk0) (Mp_T4 hk0) q5 dX16_bitInGroup_34 ?_
    refine lv_aload_n C.1.1 C.1.2.1 dX16_bitInGroup_35 rfl (lv_at hl 1 rfl) ?_
    refine lv_iload_n C.1.1 C.1.2.1 dX16_bitInGroup_36 rfl (lv_at hl 0 rfl) ?_
    refine lv_iconst (v := (-1)) C.1.1 C.1.2.1 dX16_bitInGroup_37 (by decide) ?_
    refine lv_iconst (v := 0) C.1.1 C.1.2.1 dX16_bitInGroup_38 (by decide) ?_
    refine lv_iconst (v := 0) C.1.1 C.1.2.1 dX16_bitInGroup_39 (by decide) ?_
    obtain ⟨r8, M6, L7, h1, hD⟩ := g_b3 hD
    refine md_cvI (As := [.int x2, .int ((-1)), .int 0, .int 0]) (rest := [.int (M (k + 4) a1.toNatClampNeg), .int x2, .ref (ad k)]) C hw (tX16_part l G ad fu k x2 ((-1)) 0 0 M L h1 hk0) kc_16 (Mp_N0 hk0) (Mp_T0 hk0) wd_3425 cwX16_part ⟨Nat.le_of_ble_eq_true rfl, Nat.le_of_ble_eq_true rfl⟩ rfl hl.1 (Nat.le_of_ble_eq_true rfl) dX16_bitInGroup_40 rfl rfl ⟨Nat.zero_le _, Nat.zero_le _⟩ rfl (fun H locs hw => ?_)
    refine lv_iload_n C.1.1 C.1.2.1 dX16_bitInGroup_43 rfl (lv_at hl 2 rfl) ?_
    obtain ⟨r11, M9, L10, h1, hD⟩ := g_b3 hD
    refine md_cvI (As := [.int x2, .int (M (k + 4) a1.toNatClampNeg), .int r8, .int a1]) (rest := []) C hw (tX16_part l G ad fu k x2 (M (k + 4) a1.toNatClampNeg) r8 a1 M6 L7 h1 hk0) kc_16 (Mp_N0 hk0) (Mp_T0 hk0) wd_3425 cwX16_part ⟨Nat.le_of_ble_eq_true rfl, Nat.le_of_ble_eq_true rfl⟩ rfl hl.1 (Nat.le_of_ble_eq_true rfl) dX16_bitInGroup_44 rfl rfl ⟨Nat.zero_le _, Nat.zero_le _⟩ rfl (fun H locs hw => ?_)
    exact hb47 r11 M9 L10 _ _ ls hD hw (lv_sub hl [] rfl)
  · replace hD := g_neg c4 hD
    refine lv_aload_n C.1.1 C.1.2.1 dX16_bitInGroup_16 rfl (lv_at hl 1 rfl) ?_
    refine lv_iload_n C.1.1 C.1.2.1 dX16_bitInGroup_17 rfl (lv_at hl 0 rfl) ?_
    refine lv_iconst (v := (-1)) C.1.1 C.1.2.1 dX16_bitInGroup_18 (by decide) ?_
    refine lv_iconst (v := 0) C.1.1 C.1.2.1 dX16_bitInGroup_19 (by decide) ?_
    refine lv_iload_n C.1.1 C.1.2.1 dX16_bitInGroup_20 rfl (lv_at hl 2 rfl) ?_
    obtain ⟨r14, M12, L13, h1, hD⟩ := g_b3 hD
    refine md_cvI (As := [.int x2, .int ((-1)), .int 0, .int a1]) (rest := []) C hw (tX16_part l G ad fu k x2 ((-1)) 0 a1 M L h1 hk0) kc_16 (Mp_N0 hk0) (Mp_T0 hk0) wd_3425 cwX16_part ⟨Nat.le_of_ble_eq_true rfl, Nat.le_of_ble_eq_true rfl⟩ rfl hl.1 (Nat.le_of_ble_eq_true rfl) dX16_bitInGroup_21 rfl rfl ⟨Nat.zero_le _, Nat.zero_le _⟩ rfl (fun H locs hw => ?_)
    refine lv_goto (tgt := 47) C.1.1 C.1.2.1 dX16_bitInGroup_24 (by decide) ?_
    exact hb47 r14 M12 L13 _ _ ls hD hw (lv_sub hl [] rfl)

theorem dX16_signal_0 : decode cX16_signal 0 = .ok (.aload_n 0, 1) := by decide +kernel
theorem dX16_signal_1 : decode cX16_signal 1 = .ok (.iconst 0, 1) := by decide +kernel
theorem dX16_signal_2 : decode cX16_signal 2 = .ok (.putfield 91, 3) := by decide +kernel
theorem dX16_signal_5 : decode cX16_signal 5 = .ok (.iload_n 1, 1) := by decide +kernel
theorem dX16_signal_6 : decode cX16_signal 6 = .ok (.iconst 1, 1) := by decide +kernel
theorem dX16_signal_7 : decode cX16_signal 7 = .ok (.if_icmp .lt 20, 3) := by decide +kernel
theorem dX16_signal_10 : decode cX16_signal 10 = .ok (.iload_n 1, 1) := by decide +kernel
theorem dX16_signal_11 : decode cX16_signal 11 = .ok (.bipush 64, 2) := by decide +kernel
theorem dX16_signal_13 : decode cX16_signal 13 = .ok (.if_icmp .gt 14, 3) := by decide +kernel
theorem dX16_signal_16 : decode cX16_signal 16 = .ok (.iload_n 2, 1) := by decide +kernel
theorem dX16_signal_17 : decode cX16_signal 17 = .ok (.iconst 1, 1) := by decide +kernel
theorem dX16_signal_18 : decode cX16_signal 18 = .ok (.if_icmp .lt 9, 3) := by decide +kernel
theorem dX16_signal_21 : decode cX16_signal 21 = .ok (.iload_n 2, 1) := by decide +kernel
theorem dX16_signal_22 : decode cX16_signal 22 = .ok (.ldc 102, 2) := by decide +kernel
theorem dX16_signal_24 : decode cX16_signal 24 = .ok (.if_icmp .le 6, 3) := by decide +kernel
theorem dX16_signal_27 : decode cX16_signal 27 = .ok (.bipush (-2), 2) := by decide +kernel
theorem dX16_signal_29 : decode cX16_signal 29 = .ok (.ireturn, 1) := by decide +kernel
theorem dX16_signal_30 : decode cX16_signal 30 = .ok (.aload_n 0, 1) := by decide +kernel
theorem dX16_signal_31 : decode cX16_signal 31 = .ok (.getfield 81, 3) := by decide +kernel
theorem dX16_signal_34 : decode cX16_signal 34 = .ok (.sipush 128, 3) := by decide +kernel
theorem dX16_signal_37 : decode cX16_signal 37 = .ok (.if_icmp .ne 6, 3) := by decide +kernel
theorem dX16_signal_40 : decode cX16_signal 40 = .ok (.bipush (-4), 2) := by decide +kernel
theorem dX16_signal_42 : decode cX16_signal 42 = .ok (.ireturn, 1) := by decide +kernel
theorem dX16_signal_43 : decode cX16_signal 43 = .ok (.iload_n 1, 1) := by decide +kernel
theorem dX16_signal_44 : decode cX16_signal 44 = .ok (.bipush 7, 2) := by decide +kernel
theorem dX16_signal_46 : decode cX16_signal 46 = .ok (.iadd, 1) := by decide +kernel
theorem dX16_signal_47 : decode cX16_signal 47 = .ok (.bipush 8, 2) := by decide +kernel
theorem dX16_signal_49 : decode cX16_signal 49 = .ok (.idiv, 1) := by decide +kernel
theorem dX16_signal_50 : decode cX16_signal 50 = .ok (.aload_n 0, 1) := by decide +kernel
theorem dX16_signal_51 : decode cX16_signal 51 = .ok (.getfield 77, 3) := by decide +kernel
theorem dX16_signal_54 : decode cX16_signal 54 = .ok (.if_icmp .le 5, 3) := by decide +kernel
theorem dX16_signal_57 : decode cX16_signal 57 = .ok (.iconst 0, 1) := by decide +kernel
theorem dX16_signal_58 : decode cX16_signal 58 = .ok (.ireturn, 1) := by decide +kernel
theorem dX16_signal_59 : decode cX16_signal 59 = .ok (.aload_n 0, 1) := by decide +kernel
theorem dX16_signal_60 : decode cX16_signal 60 = .ok (.dup, 1) := by decide +kernel
theorem dX16_signal_61 : decode cX16_signal 61 = .ok (.getfield 81, 3) := by decide +kernel
theorem dX16_signal_64 : decode cX16_signal 64 = .ok (.iconst 1, 1) := by decide +kernel
theorem dX16_signal_65 : decode cX16_signal 65 = .ok (.iadd, 1) := by decide +kernel
theorem dX16_signal_66 : decode cX16_signal 66 = .ok (.putfield 81, 3) := by decide +kernel
theorem dX16_signal_69 : decode cX16_signal 69 = .ok (.aload_n 0, 1) := by decide +kernel
theorem dX16_signal_70 : decode cX16_signal 70 = .ok (.getfield 7, 3) := by decide +kernel
theorem dX16_signal_73 : decode cX16_signal 73 = .ok (.aload_n 0, 1) := by decide +kernel
theorem dX16_signal_74 : decode cX16_signal 74 = .ok (.getfield 81, 3) := by decide +kernel
theorem dX16_signal_77 : decode cX16_signal 77 = .ok (.iload_n 1, 1) := by decide +kernel
theorem dX16_signal_78 : decode cX16_signal 78 = .ok (.iastore, 1) := by decide +kernel
theorem dX16_signal_79 : decode cX16_signal 79 = .ok (.aload_n 0, 1) := by decide +kernel
theorem dX16_signal_80 : decode cX16_signal 80 = .ok (.getfield 13, 3) := by decide +kernel
theorem dX16_signal_83 : decode cX16_signal 83 = .ok (.aload_n 0, 1) := by decide +kernel
theorem dX16_signal_84 : decode cX16_signal 84 = .ok (.getfield 81, 3) := by decide +kernel
theorem dX16_signal_87 : decode cX16_signal 87 = .ok (.iload_n 2, 1) := by decide +kernel
theorem dX16_signal_88 : decode cX16_signal 88 = .ok (.iastore, 1) := by decide +kernel
theorem dX16_signal_89 : decode cX16_signal 89 = .ok (.aload_n 0, 1) := by decide +kernel
theorem dX16_signal_90 : decode cX16_signal 90 = .ok (.getfield 16, 3) := by decide +kernel
theorem dX16_signal_93 : decode cX16_signal 93 = .ok (.aload_n 0, 1) := by decide +kernel
theorem dX16_signal_94 : decode cX16_signal 94 = .ok (.getfield 81, 3) := by decide +kernel
theorem dX16_signal_97 : decode cX16_signal 97 = .ok (.iload_n 3, 1) := by decide +kernel
theorem dX16_signal_98 : decode cX16_signal 98 = .ok (.bastore, 1) := by decide +kernel
theorem dX16_signal_99 : decode cX16_signal 99 = .ok (.aload_n 0, 1) := by decide +kernel
theorem dX16_signal_100 : decode cX16_signal 100 = .ok (.getfield 20, 3) := by decide +kernel
theorem dX16_signal_103 : decode cX16_signal 103 = .ok (.aload_n 0, 1) := by decide +kernel
theorem dX16_signal_104 : decode cX16_signal 104 = .ok (.getfield 81, 3) := by decide +kernel
theorem dX16_signal_107 : decode cX16_signal 107 = .ok (.iconst (-1), 1) := by decide +kernel
theorem dX16_signal_108 : decode cX16_signal 108 = .ok (.iastore, 1) := by decide +kernel
theorem dX16_signal_109 : decode cX16_signal 109 = .ok (.aload_n 0, 1) := by decide +kernel
theorem dX16_signal_110 : decode cX16_signal 110 = .ok (.getfield 23, 3) := by decide +kernel
theorem dX16_signal_113 : decode cX16_signal 113 = .ok (.aload_n 0, 1) := by decide +kernel
theorem dX16_signal_114 : decode cX16_signal 114 = .ok (.getfield 81, 3) := by decide +kernel
theorem dX16_signal_117 : decode cX16_signal 117 = .ok (.aload_n 0, 1) := by decide +kernel
theorem dX16_signal_118 : decode cX16_signal 118 = .ok (.getfield 81, 3) := by decide +kernel
theorem dX16_signal_121 : decode cX16_signal 121 = .ok (.iastore, 1) := by decide +kernel
theorem dX16_signal_122 : decode cX16_signal 122 = .ok (.aload_n 0, 1) := by decide +kernel
theorem dX16_signal_123 : decode cX16_signal 123 = .ok (.getfield 26, 3) := by decide +kernel
theorem dX16_signal_126 : decode cX16_signal 126 = .ok (.aload_n 0, 1) := by decide +kernel
theorem dX16_signal_127 : decode cX16_signal 127 = .ok (.getfield 81, 3) := by decide +kernel
theorem dX16_signal_130 : decode cX16_signal 130 = .ok (.iconst 0, 1) := by decide +kernel
theorem dX16_signal_131 : decode cX16_signal 131 = .ok (.iastore, 1) := by decide +kernel
theorem dX16_signal_132 : decode cX16_signal 132 = .ok (.aload_n 0, 1) := by decide +kernel
theorem dX16_signal_133 : decode cX16_signal 133 = .ok (.getfield 29, 3) := by decide +kernel
theorem dX16_signal_136 : decode cX16_signal 136 = .ok (.aload_n 0, 1) := by decide +kernel
theorem dX16_signal_137 : decode cX16_signal 137 = .ok (.getfield 81, 3) := by decide +kernel
theorem dX16_signal_140 : decode cX16_signal 140 = .ok (.iconst 0, 1) := by decide +kernel
theorem dX16_signal_141 : decode cX16_signal 141 = .ok (.iastore, 1) := by decide +kernel
theorem dX16_signal_142 : decode cX16_signal 142 = .ok (.aload_n 0, 1) := by decide +kernel
theorem dX16_signal_143 : decode cX16_signal 143 = .ok (.getfield 35, 3) := by decide +kernel
theorem dX16_signal_146 : decode cX16_signal 146 = .ok (.aload_n 0, 1) := by decide +kernel
theorem dX16_signal_147 : decode cX16_signal 147 = .ok (.getfield 81, 3) := by decide +kernel
theorem dX16_signal_150 : decode cX16_signal 150 = .ok (.iconst 0, 1) := by decide +kernel
theorem dX16_signal_151 : decode cX16_signal 151 = .ok (.iastore, 1) := by decide +kernel
theorem dX16_signal_152 : decode cX16_signal 152 = .ok (.aload_n 0, 1) := by decide +kernel
theorem dX16_signal_153 : decode cX16_signal 153 = .ok (.getfield 41, 3) := by decide +kernel
theorem dX16_signal_156 : decode cX16_signal 156 = .ok (.aload_n 0, 1) := by decide +kernel
theorem dX16_signal_157 : decode cX16_signal 157 = .ok (.getfield 81, 3) := by decide +kernel
theorem dX16_signal_160 : decode cX16_signal 160 = .ok (.iconst 0, 1) := by decide +kernel
theorem dX16_signal_161 : decode cX16_signal 161 = .ok (.bastore, 1) := by decide +kernel
theorem dX16_signal_162 : decode cX16_signal 162 = .ok (.aload_n 0, 1) := by decide +kernel
theorem dX16_signal_163 : decode cX16_signal 163 = .ok (.getfield 81, 3) := by decide +kernel
theorem dX16_signal_166 : decode cX16_signal 166 = .ok (.ireturn, 1) := by decide +kernel
theorem cwX16_signal : mw_cwV yX16_signal cX16_signal 4 ((some .int)) 3 := ⟨⟨wd_19, wd_3406, by decide +kernel⟩, wd_3404, wd_3405⟩
set_option maxHeartbeats 4000000 in
set_option maxRecDepth 100000 in
theorem tX16_signal (l : Launch) (G : mwG) (ad : Nat → Nat) (fu : Nat) (k : Nat) (a1 : Int32) (a2 : Int32) (a3 : Int32) (M : mwM) (L : mwL) {r0 : Int32} {M0 : mwM} {L0 : mwL} (hD : DX16_signal fu k a1 a2 a3 M L = some (r0, M0, L0)) (hk0 : isMp k) : Met l yX16_signal (Cond.code yX16_signal cX16_signal 4 ((some .int)) :: GT) ({ frames := 0, cells := 0, slots := 0, locals := 0 }) (mw_Pre G ad NF TF FF M L [.ref (ad k), .int a1, .int a2, .int a3]) (mw_Qi G ad NF TF FF (mw_eqI r0 M0 L0)) 0 0 (mw_fr G) := by
  refine mw_enter (by decide) (Nat.le_of_ble_eq_true rfl) ?_
  intro p e s m below meth c ls C hr hlocks hnm hw hl
  have hl : lv_has ls 4 [(0, .ref (ad k)), (1, .int a1), (2, .int a2), (3, .int a3)] := hl
  have hb27 : ∀ (M : mwM) (L : mwL) (H : Heap) (locs : List Loc) (ls : Array Slot), fX16_signal_b27 fu k a1 a2 a3 M L = some (r0, M0, L0) → mw_W G ad NF TF FF M L H locs → lv_has ls 4 [] → W p l e ({ frames := 0, cells := 0, slots := 0, locals := 0 }) s m [.ref (ad k), .int a1, .int a2, .int a3].toArray below meth c H locs 0 0 (MQ below (mw_Qi G ad NF TF FF (mw_eqI r0 M0 L0)) [.ref (ad k), .int a1, .int a2, .int a3].toArray s 0 0 (mw_fr G)) (F0 m 27 ls []) := by
    intro M L H locs ls hD hw hl
    unfold fX16_signal_b27 at hD
    refine lv_bipush (v := (-2)) C.1.1 C.1.2.1 dX16_signal_27 (by decide) ?_
    exact mr_iret C hr hlocks hw rfl (Option.some.inj hD) dX16_signal_29
  unfold DX16_signal at hD
  refine lv_aload_n C.1.1 C.1.2.1 dX16_signal_0 rfl (lv_at hl 0 rfl) ?_
  refine lv_iconst (v := 0) C.1.1 C.1.2.1 dX16_signal_1 (by decide) ?_
  obtain ⟨M1, eM1, hD⟩ := g_let hD
  refine mr_putI C hw kc_16 0 (Mp_N0 hk0) (Mp_T0 hk0) wd_2555 dX16_signal_2 (by decide) rfl rfl rfl rfl (fun H locs hw => ?_)
  replace hw : mw_W G ad NF TF FF M1 L H locs := by rw [eM1]; exact hw
  refine lv_iload_n C.1.1 C.1.2.1 dX16_signal_5 rfl (lv_at hl 1 rfl) ?_
  refine lv_iconst (v := 1) C.1.1 C.1.2.1 dX16_signal_6 (by decide) ?_
  refine lv_icmp_lt (tgt := 27) C.1.1 C.1.2.1 dX16_signal_7 (by decide) (fun c2 => ?_) (fun c2 => ?_)
  · replace hD := g_pos c2 hD
    exact hb27 M1 L _ _ ls hD hw (lv_sub hl [] rfl)
  · replace hD := g_neg c2 hD
    refine lv_iload_n C.1.1 C.1.2.1 dX16_signal_10 rfl (lv_at hl 1 rfl) ?_
    refine lv_bipush (v := 64) C.1.1 C.1.2.1 dX16_signal_11 (by decide) ?_
    refine lv_icmp_gt (tgt := 27) C.1.1 C.1.2.1 dX16_signal_13 (by decide) (fun c3 => ?_) (fun c3 => ?_)
    · replace hD := g_pos c3 hD
      exact hb27 M1 L _ _ ls hD hw (lv_sub hl [] rfl)
    · replace hD := g_neg c3 hD
      refine lv_iload_n C.1.1 C.1.2.1 dX16_signal_16 rfl (lv_at hl 2 rfl) ?_
      refine lv_iconst (v := 1) C.1.1 C.1.2.1 dX16_signal_17 (by decide) ?_
      refine lv_icmp_lt (tgt := 27) C.1.1 C.1.2.1 dX16_signal_18 (by decide) (fun c4 => ?_) (fun c4 => ?_)
      · replace hD := g_pos c4 hD
        exact hb27 M1 L _ _ ls hD hw (lv_sub hl [] rfl)
      · replace hD := g_neg c4 hD
        refine lv_iload_n C.1.1 C.1.2.1 dX16_signal_21 rfl (lv_at hl 2 rfl) ?_
        refine lv_ldc (v := 1000000) C.1.1 C.1.2.1 C.1.2.2.2.1 (C.1.2.2.2.2 _ wd_3407) dX16_signal_22 ?_
        refine lv_icmp_le (tgt := 30) C.1.1 C.1.2.1 dX16_signal_24 (by decide) (fun c5 => ?_) (fun c5 => ?_)
        · replace hD := g_pos c5 hD
          refine lv_aload_n C.1.1 C.1.2.1 dX16_signal_30 rfl (lv_at hl 0 rfl) ?_
          refine mr_getI C hw kc_16 2 (Mp_N0 hk0) (Mp_T0 hk0) wd_2557 dX16_signal_31 (by decide) rfl ?_
          refine lv_sipush (v := 128) C.1.1 C.1.2.1 dX16_signal_34 (by decide) ?_
          refine lv_icmp_ne (tgt := 43) C.1.1 C.1.2.1 dX16_signal_37 (by decide) (fun c6 => ?_) (fun c6 => ?_)
          · replace hD := g_neg c6 hD
            refine lv_iload_n C.1.1 C.1.2.1 dX16_signal_43 rfl (lv_at hl 1 rfl) ?_
            refine lv_bipush (v := 7) C.1.1 C.1.2.1 dX16_signal_44 (by decide) ?_
            refine lv_iadd C.1.1 C.1.2.1 dX16_signal_46 ?_
            refine lv_bipush (v := 8) C.1.1 C.1.2.1 dX16_signal_47 (by decide) ?_
            refine lv_idiv C.1.1 C.1.2.1 dX16_signal_49 (by decide) ?_
            refine lv_aload_n C.1.1 C.1.2.1 dX16_signal_50 rfl (lv_at hl 0 rfl) ?_
            refine mr_getI C hw kc_16 1 (Mp_N0 hk0) (Mp_T0 hk0) wd_2556 dX16_signal_51 (by decide) rfl ?_
            refine lv_icmp_le (tgt := 59) C.1.1 C.1.2.1 dX16_signal_54 (by decide) (fun c8 => ?_) (fun c8 => ?_)
            · replace hD := g_pos c8 hD
              refine lv_aload_n C.1.1 C.1.2.1 dX16_signal_59 rfl (lv_at hl 0 rfl) ?_
              refine lv_dup C.1.1 C.1.2.1 dX16_signal_60 rfl ?_
              refine mr_getI C hw kc_16 2 (Mp_N0 hk0) (Mp_T0 hk0) wd_2557 dX16_signal_61 (by decide) rfl ?_
              refine lv_iconst (v := 1) C.1.1 C.1.2.1 dX16_signal_64 (by decide) ?_
              refine lv_iadd C.1.1 C.1.2.1 dX16_signal_65 ?_
              obtain ⟨M9, eM9, hD⟩ := g_let hD
              refine mr_putI C hw kc_16 2 (Mp_N0 hk0) (Mp_T0 hk0) wd_2557 dX16_signal_66 (by decide) rfl rfl rfl rfl (fun H locs hw => ?_)
              replace hw : mw_W G ad NF TF FF M9 L H locs := by rw [eM9]; exact hw
              refine lv_aload_n C.1.1 C.1.2.1 dX16_signal_69 rfl (lv_at hl 0 rfl) ?_
              refine mr_getR C hw kc_16 3 (Mp_N0 hk0) (Mp_T0 hk0) (Mp_F0_3 hk0) wd_2558 dX16_signal_70 (by decide) rfl ?_
              refine lv_aload_n C.1.1 C.1.2.1 dX16_signal_73 rfl (lv_at hl 0 rfl) ?_
              refine mr_getI C hw kc_16 2 (Mp_N0 hk0) (Mp_T0 hk0) wd_2557 dX16_signal_74 (by decide) rfl ?_
              refine lv_iload_n C.1.1 C.1.2.1 dX16_signal_77 rfl (lv_at hl 1 rfl) ?_
              obtain ⟨q10, hD⟩ := g_ck hD
              obtain ⟨M11, eM11, hD⟩ := g_let hD
              refine mr_iast C hw (Mp_N1 hk0) (Mp_T1 hk0) q10 dX16_signal_78 (fun H locs hw => ?_)
              replace hw : mw_W G ad NF TF FF M11 L H locs := by rw [eM11]; exact hw
              refine lv_aload_n C.1.1 C.1.2.1 dX16_signal_79 rfl (lv_at hl 0 rfl) ?_
              refine mr_getR C hw kc_16 4 (Mp_N0 hk0) (Mp_T0 hk0) (Mp_F0_4 hk0) wd_2559 dX16_signal_80 (by decide) rfl ?_
              refine lv_aload_n C.1.1 C.1.2.1 dX16_signal_83 rfl (lv_at hl 0 rfl) ?_
              refine mr_getI C hw kc_16 2 (Mp_N0 hk0) (Mp_T0 hk0) wd_2557 dX16_signal_84 (by decide) rfl ?_
              refine lv_iload_n C.1.1 C.1.2.1 dX16_signal_87 rfl (lv_at hl 2 rfl) ?_
              obtain ⟨q12, hD⟩ := g_ck hD
              obtain ⟨M13, eM13, hD⟩ := g_let hD
              refine mr_iast C hw (Mp_N2 hk0) (Mp_T2 hk0) q12 dX16_signal_88 (fun H locs hw => ?_)
              replace hw : mw_W G ad NF TF FF M13 L H locs := by rw [eM13]; exact hw
              refine lv_aload_n C.1.1 C.1.2.1 dX16_signal_89 rfl (lv_at hl 0 rfl) ?_
              refine mr_getR C hw kc_16 5 (Mp_N0 hk0) (Mp_T0 hk0) (Mp_F0_5 hk0) wd_2560 dX16_signal_90 (by decide) rfl ?_
              refine lv_aload_n C.1.1 C.1.2.1 dX16_signal_93 rfl (lv_at hl 0 rfl) ?_
              refine mr_getI C hw kc_16 2 (Mp_N0 hk0) (Mp_T0 hk0) wd_2557 dX16_signal_94 (by decide) rfl ?_
              refine lv_iload_n C.1.1 C.1.2.1 dX16_signal_97 rfl (lv_at hl 3 rfl) ?_
              obtain ⟨q14, hD⟩ := g_ck hD
              obtain ⟨M15, eM15, hD⟩ := g_let hD
              refine mr_zast C hw (Mp_N3 hk0) (Mp_T3 hk0) q14 dX16_signal_98 (fun H locs hw => ?_)
              replace hw : mw_W G ad NF TF FF M15 L H locs := by rw [eM15]; exact hw
              refine lv_aload_n C.1.1 C.1.2.1 dX16_signal_99 rfl (lv_at hl 0 rfl) ?_
              refine mr_getR C hw kc_16 6 (Mp_N0 hk0) (Mp_T0 hk0) (Mp_F0_6 hk0) wd_2561 dX16_signal_100 (by decide) rfl ?_
              refine lv_aload_n C.1.1 C.1.2.1 dX16_signal_103 rfl (lv_at hl 0 rfl) ?_
              refine mr_getI C hw kc_16 2 (Mp_N0 hk0) (Mp_T0 hk0) wd_2557 dX16_signal_104 (by decide) rfl ?_
              refine lv_iconst (v := (-1)) C.1.1 C.1.2.1 dX16_signal_107 (by decide) ?_
              obtain ⟨q16, hD⟩ := g_ck hD
              obtain ⟨M17, eM17, hD⟩ := g_let hD
              refine mr_iast C hw (Mp_N4 hk0) (Mp_T4 hk0) q16 dX16_signal_108 (fun H locs hw => ?_)
              replace hw : mw_W G ad NF TF FF M17 L H locs := by rw [eM17]; exact hw
              refine lv_aload_n C.1.1 C.1.2.1 dX16_signal_109 rfl (lv_at hl 0 rfl) ?_
              refine mr_getR C hw kc_16 7 (Mp_N0 hk0) (Mp_T0 hk0) (Mp_F0_7 hk0) wd_2562 dX16_signal_110 (by decide) rfl ?_
              refine lv_aload_n C.1.1 C.1.2.1 dX16_signal_113 rfl (lv_at hl 0 rfl) ?_
              refine mr_getI C hw kc_16 2 (Mp_N0 hk0) (Mp_T0 hk0) wd_2557 dX16_signal_114 (by decide) rfl ?_
              refine lv_aload_n C.1.1 C.1.2.1 dX16_signal_117 rfl (lv_at hl 0 rfl) ?_
              refine mr_getI C hw kc_16 2 (Mp_N0 hk0) (Mp_T0 hk0) wd_2557 dX16_signal_118 (by decide) rfl ?_
              obtain ⟨q18, hD⟩ := g_ck hD
              obtain ⟨M19, eM19, hD⟩ := g_let hD
              refine mr_iast C hw (Mp_N5 hk0) (Mp_T5 hk0) q18 dX16_signal_121 (fun H locs hw => ?_)
              replace hw : mw_W G ad NF TF FF M19 L H locs := by rw [eM19]; exact hw
              refine lv_aload_n C.1.1 C.1.2.1 dX16_signal_122 rfl (lv_at hl 0 rfl) ?_
              refine mr_getR C hw kc_16 8 (Mp_N0 hk0) (Mp_T0 hk0) (Mp_F0_8 hk0) wd_2563 dX16_signal_123 (by decide) rfl ?_
              refine lv_aload_n C.1.1 C.1.2.1 dX16_signal_126 rfl (lv_at hl 0 rfl) ?_
              refine mr_getI C hw kc_16 2 (Mp_N0 hk0) (Mp_T0 hk0) wd_2557 dX16_signal_127 (by decide) rfl ?_
              refine lv_iconst (v := 0) C.1.1 C.1.2.1 dX16_signal_130 (by decide) ?_
              obtain ⟨q20, hD⟩ := g_ck hD
              obtain ⟨M21, eM21, hD⟩ := g_let hD
              refine mr_iast C hw (Mp_N6 hk0) (Mp_T6 hk0) q20 dX16_signal_131 (fun H locs hw => ?_)
              replace hw : mw_W G ad NF TF FF M21 L H locs := by rw [eM21]; exact hw
              refine lv_aload_n C.1.1 C.1.2.1 dX16_signal_132 rfl (lv_at hl 0 rfl) ?_
              refine mr_getR C hw kc_16 9 (Mp_N0 hk0) (Mp_T0 hk0) (Mp_F0_9 hk0) wd_2564 dX16_signal_133 (by decide) rfl ?_
              refine lv_aload_n C.1.1 C.1.2.1 dX16_signal_136 rfl (lv_at hl 0 rfl) ?_
              refine mr_getI C hw kc_16 2 (Mp_N0 hk0) (Mp_T0 hk0) wd_2557 dX16_signal_137 (by decide) rfl ?_
              refine lv_iconst (v := 0) C.1.1 C.1.2.1 dX16_signal_140 (by decide) ?_
              obtain ⟨q22, hD⟩ := g_ck hD
              obtain ⟨M23, eM23, hD⟩ := g_let hD
              refine mr_iast C hw (Mp_N7 hk0) (Mp_T7 hk0) q22 dX16_signal_141 (fun H locs hw => ?_)
              replace hw : mw_W G ad NF TF FF M23 L H locs := by rw [eM23]; exact hw
              refine lv_aload_n C.1.1 C.1.2.1 dX16_signal_142 rfl (lv_at hl 0 rfl) ?_
              refine mr_getR C hw kc_16 11 (Mp_N0 hk0) (Mp_T0 hk0) (Mp_F0_11 hk0) wd_2566 dX16_signal_143 (by decide) rfl ?_
              refine lv_aload_n C.1.1 C.1.2.1 dX16_signal_146 rfl (lv_at hl 0 rfl) ?_
              refine mr_getI C hw kc_16 2 (Mp_N0 hk0) (Mp_T0 hk0) wd_2557 dX16_signal_147 (by decide) rfl ?_
              refine lv_iconst (v := 0) C.1.1 C.1.2.1 dX16_signal_150 (by decide) ?_
              obtain ⟨q24, hD⟩ := g_ck hD
              obtain ⟨M25, eM25, hD⟩ := g_let hD
              refine mr_iast C hw (Mp_N9 hk0) (Mp_T9 hk0) q24 dX16_signal_151 (fun H locs hw => ?_)
              replace hw : mw_W G ad NF TF FF M25 L H locs := by rw [eM25]; exact hw
              refine lv_aload_n C.1.1 C.1.2.1 dX16_signal_152 rfl (lv_at hl 0 rfl) ?_
              refine mr_getR C hw kc_16 13 (Mp_N0 hk0) (Mp_T0 hk0) (Mp_F0_13 hk0) wd_2568 dX16_signal_153 (by decide) rfl ?_
              refine lv_aload_n C.1.1 C.1.2.1 dX16_signal_156 rfl (lv_at hl 0 rfl) ?_
              refine mr_getI C hw kc_16 2 (Mp_N0 hk0) (Mp_T0 hk0) wd_2557 dX16_signal_157 (by decide) rfl ?_
              refine lv_iconst (v := 0) C.1.1 C.1.2.1 dX16_signal_160 (by decide) ?_
              obtain ⟨q26, hD⟩ := g_ck hD
              obtain ⟨M27, eM27, hD⟩ := g_let hD
              refine mr_zast C hw (Mp_N11 hk0) (Mp_T11 hk0) q26 dX16_signal_161 (fun H locs hw => ?_)
              replace hw : mw_W G ad NF TF FF M27 L H locs := by rw [eM27]; exact hw
              refine lv_aload_n C.1.1 C.1.2.1 dX16_signal_162 rfl (lv_at hl 0 rfl) ?_
              refine mr_getI C hw kc_16 2 (Mp_N0 hk0) (Mp_T0 hk0) wd_2557 dX16_signal_163 (by decide) rfl ?_
              exact mr_iret C hr hlocks hw rfl (Option.some.inj hD) dX16_signal_166
            · replace hD := g_neg c8 hD
              refine lv_iconst (v := 0) C.1.1 C.1.2.1 dX16_signal_57 (by decide) ?_
              exact mr_iret C hr hlocks hw rfl (Option.some.inj hD) dX16_signal_58
          · replace hD := g_pos c6 hD
            refine lv_bipush (v := (-4)) C.1.1 C.1.2.1 dX16_signal_40 (by decide) ?_
            exact mr_iret C hr hlocks hw rfl (Option.some.inj hD) dX16_signal_42
        · replace hD := g_neg c5 hD
          exact hb27 M1 L _ _ ls hD hw (lv_sub hl [] rfl)

theorem dX16_isGroup_0 : decode cX16_isGroup 0 = .ok (.aload_n 0, 1) := by decide +kernel
theorem dX16_isGroup_1 : decode cX16_isGroup 1 = .ok (.getfield 23, 3) := by decide +kernel
theorem dX16_isGroup_4 : decode cX16_isGroup 4 = .ok (.iload_n 1, 1) := by decide +kernel
theorem dX16_isGroup_5 : decode cX16_isGroup 5 = .ok (.iaload, 1) := by decide +kernel
theorem dX16_isGroup_6 : decode cX16_isGroup 6 = .ok (.iload_n 1, 1) := by decide +kernel
theorem dX16_isGroup_7 : decode cX16_isGroup 7 = .ok (.if_icmp .ne 7, 3) := by decide +kernel
theorem dX16_isGroup_10 : decode cX16_isGroup 10 = .ok (.iconst 1, 1) := by decide +kernel
theorem dX16_isGroup_11 : decode cX16_isGroup 11 = .ok (.goto 4, 3) := by decide +kernel
theorem dX16_isGroup_14 : decode cX16_isGroup 14 = .ok (.iconst 0, 1) := by decide +kernel
theorem dX16_isGroup_15 : decode cX16_isGroup 15 = .ok (.ireturn, 1) := by decide +kernel
theorem cwX16_isGroup : mw_cwV yX16_isGroup cX16_isGroup 2 ((some .boolean)) 1 := ⟨⟨wd_19, wd_3420, by decide +kernel⟩, wd_3419, sl_196⟩
set_option maxHeartbeats 4000000 in
set_option maxRecDepth 100000 in
theorem tX16_isGroup (l : Launch) (G : mwG) (ad : Nat → Nat) (fu : Nat) (k : Nat) (a1 : Int32) (M : mwM) (L : mwL) {r0 : Int32} {M0 : mwM} {L0 : mwL} (hD : DX16_isGroup fu k a1 M L = some (r0, M0, L0)) (hk0 : isMp k) : Met l yX16_isGroup (Cond.code yX16_isGroup cX16_isGroup 2 ((some .boolean)) :: GT) ({ frames := 0, cells := 0, slots := 0, locals := 0 }) (mw_Pre G ad NF TF FF M L [.ref (ad k), .int a1]) (mw_Qi G ad NF TF FF (mw_eqI r0 M0 L0)) 0 0 (mw_fr G) := by
  refine mw_enter (by decide) (Nat.le_of_ble_eq_true rfl) ?_
  intro p e s m below meth c ls C hr hlocks hnm hw hl
  have hl : lv_has ls 2 [(0, .ref (ad k)), (1, .int a1)] := hl
  have hb15 : ∀ (s0 : Int32) (M : mwM) (L : mwL) (H : Heap) (locs : List Loc) (ls : Array Slot), fX16_isGroup_b15 fu k a1 s0 M L = some (r0, M0, L0) → mw_W G ad NF TF FF M L H locs → lv_has ls 2 [] → W p l e ({ frames := 0, cells := 0, slots := 0, locals := 0 }) s m [.ref (ad k), .int a1].toArray below meth c H locs 0 0 (MQ below (mw_Qi G ad NF TF FF (mw_eqI r0 M0 L0)) [.ref (ad k), .int a1].toArray s 0 0 (mw_fr G)) (F0 m 15 ls [.int s0]) := by
    intro s0 M L H locs ls hD hw hl
    unfold fX16_isGroup_b15 at hD
    obtain ⟨z1, hD⟩ := g_zz hD
    exact mr_iret C hr hlocks hw (nz_zz z1) (Option.some.inj hD) dX16_isGroup_15
  unfold DX16_isGroup at hD
  refine lv_aload_n C.1.1 C.1.2.1 dX16_isGroup_0 rfl (lv_at hl 0 rfl) ?_
  refine mr_getR C hw kc_16 7 (Mp_N0 hk0) (Mp_T0 hk0) (Mp_F0_7 hk0) wd_2562 dX16_isGroup_1 (by decide) rfl ?_
  refine lv_iload_n C.1.1 C.1.2.1 dX16_isGroup_4 rfl (lv_at hl 1 rfl) ?_
  obtain ⟨q2, hD⟩ := g_ck hD
  refine mr_iald C hw (Mp_N5 hk0) (Mp_T5 hk0) q2 dX16_isGroup_5 ?_
  refine lv_iload_n C.1.1 C.1.2.1 dX16_isGroup_6 rfl (lv_at hl 1 rfl) ?_
  refine lv_icmp_ne (tgt := 14) C.1.1 C.1.2.1 dX16_isGroup_7 (by decide) (fun c3 => ?_) (fun c3 => ?_)
  · replace hD := g_neg c3 hD
    refine lv_iconst (v := 0) C.1.1 C.1.2.1 dX16_isGroup_14 (by decide) ?_
    exact hb15 0 M L _ _ ls hD hw (lv_sub hl [] rfl)
  · replace hD := g_pos c3 hD
    refine lv_iconst (v := 1) C.1.1 C.1.2.1 dX16_isGroup_10 (by decide) ?_
    refine lv_goto (tgt := 15) C.1.1 C.1.2.1 dX16_isGroup_11 (by decide) ?_
    exact hb15 1 M L _ _ ls hD hw (lv_sub hl [] rfl)

theorem dX16_isFree_0 : decode cX16_isFree 0 = .ok (.iload_n 2, 1) := by decide +kernel
theorem dX16_isFree_1 : decode cX16_isFree 1 = .ok (.iload_n 3, 1) := by decide +kernel
theorem dX16_isFree_2 : decode cX16_isFree 2 = .ok (.iadd, 1) := by decide +kernel
theorem dX16_isFree_3 : decode cX16_isFree 3 = .ok (.aload_n 0, 1) := by decide +kernel
theorem dX16_isFree_4 : decode cX16_isFree 4 = .ok (.getfield 77, 3) := by decide +kernel
theorem dX16_isFree_7 : decode cX16_isFree 7 = .ok (.if_icmp .gt 7, 3) := by decide +kernel
theorem dX16_isFree_10 : decode cX16_isFree 10 = .ok (.iconst 1, 1) := by decide +kernel
theorem dX16_isFree_11 : decode cX16_isFree 11 = .ok (.goto 4, 3) := by decide +kernel
theorem dX16_isFree_14 : decode cX16_isFree 14 = .ok (.iconst 0, 1) := by decide +kernel
theorem dX16_isFree_15 : decode cX16_isFree 15 = .ok (.istore 4, 2) := by decide +kernel
theorem dX16_isFree_17 : decode cX16_isFree 17 = .ok (.iconst 1, 1) := by decide +kernel
theorem dX16_isFree_18 : decode cX16_isFree 18 = .ok (.istore 5, 2) := by decide +kernel
theorem dX16_isFree_20 : decode cX16_isFree 20 = .ok (.iload 5, 2) := by decide +kernel
theorem dX16_isFree_22 : decode cX16_isFree 22 = .ok (.aload_n 0, 1) := by decide +kernel
theorem dX16_isFree_23 : decode cX16_isFree 23 = .ok (.getfield 81, 3) := by decide +kernel
theorem dX16_isFree_26 : decode cX16_isFree 26 = .ok (.if_icmp .gt 73, 3) := by decide +kernel
theorem dX16_isFree_29 : decode cX16_isFree 29 = .ok (.iload 4, 2) := by decide +kernel
theorem dX16_isFree_31 : decode cX16_isFree 31 = .ok (.ifCond .eq 68, 3) := by decide +kernel
theorem dX16_isFree_34 : decode cX16_isFree 34 = .ok (.aload_n 0, 1) := by decide +kernel
theorem dX16_isFree_35 : decode cX16_isFree 35 = .ok (.iload 5, 2) := by decide +kernel
theorem dX16_isFree_37 : decode cX16_isFree 37 = .ok (.invokevirtual 110, 3) := by decide +kernel
theorem dX16_isFree_40 : decode cX16_isFree 40 = .ok (.ifCond .eq 46, 3) := by decide +kernel
theorem dX16_isFree_43 : decode cX16_isFree 43 = .ok (.aload_n 0, 1) := by decide +kernel
theorem dX16_isFree_44 : decode cX16_isFree 44 = .ok (.getfield 56, 3) := by decide +kernel
theorem dX16_isFree_47 : decode cX16_isFree 47 = .ok (.iload 5, 2) := by decide +kernel
theorem dX16_isFree_49 : decode cX16_isFree 49 = .ok (.iaload, 1) := by decide +kernel
theorem dX16_isFree_50 : decode cX16_isFree 50 = .ok (.iload_n 1, 1) := by decide +kernel
theorem dX16_isFree_51 : decode cX16_isFree 51 = .ok (.if_icmp .ne 35, 3) := by decide +kernel
theorem dX16_isFree_54 : decode cX16_isFree 54 = .ok (.iload_n 2, 1) := by decide +kernel
theorem dX16_isFree_55 : decode cX16_isFree 55 = .ok (.aload_n 0, 1) := by decide +kernel
theorem dX16_isFree_56 : decode cX16_isFree 56 = .ok (.getfield 59, 3) := by decide +kernel
theorem dX16_isFree_59 : decode cX16_isFree 59 = .ok (.iload 5, 2) := by decide +kernel
theorem dX16_isFree_61 : decode cX16_isFree 61 = .ok (.iaload, 1) := by decide +kernel
theorem dX16_isFree_62 : decode cX16_isFree 62 = .ok (.aload_n 0, 1) := by decide +kernel
theorem dX16_isFree_63 : decode cX16_isFree 63 = .ok (.getfield 74, 3) := by decide +kernel
theorem dX16_isFree_66 : decode cX16_isFree 66 = .ok (.iload 5, 2) := by decide +kernel
theorem dX16_isFree_68 : decode cX16_isFree 68 = .ok (.iaload, 1) := by decide +kernel
theorem dX16_isFree_69 : decode cX16_isFree 69 = .ok (.iadd, 1) := by decide +kernel
theorem dX16_isFree_70 : decode cX16_isFree 70 = .ok (.if_icmp .ge 16, 3) := by decide +kernel
theorem dX16_isFree_73 : decode cX16_isFree 73 = .ok (.aload_n 0, 1) := by decide +kernel
theorem dX16_isFree_74 : decode cX16_isFree 74 = .ok (.getfield 59, 3) := by decide +kernel
theorem dX16_isFree_77 : decode cX16_isFree 77 = .ok (.iload 5, 2) := by decide +kernel
theorem dX16_isFree_79 : decode cX16_isFree 79 = .ok (.iaload, 1) := by decide +kernel
theorem dX16_isFree_80 : decode cX16_isFree 80 = .ok (.iload_n 2, 1) := by decide +kernel
theorem dX16_isFree_81 : decode cX16_isFree 81 = .ok (.iload_n 3, 1) := by decide +kernel
theorem dX16_isFree_82 : decode cX16_isFree 82 = .ok (.iadd, 1) := by decide +kernel
theorem dX16_isFree_83 : decode cX16_isFree 83 = .ok (.if_icmp .lt 7, 3) := by decide +kernel
theorem dX16_isFree_86 : decode cX16_isFree 86 = .ok (.iconst 1, 1) := by decide +kernel
theorem dX16_isFree_87 : decode cX16_isFree 87 = .ok (.goto 4, 3) := by decide +kernel
theorem dX16_isFree_90 : decode cX16_isFree 90 = .ok (.iconst 0, 1) := by decide +kernel
theorem dX16_isFree_91 : decode cX16_isFree 91 = .ok (.istore 4, 2) := by decide +kernel
theorem dX16_isFree_93 : decode cX16_isFree 93 = .ok (.iinc 5 1, 3) := by decide +kernel
theorem dX16_isFree_96 : decode cX16_isFree 96 = .ok (.goto (-76), 3) := by decide +kernel
theorem dX16_isFree_99 : decode cX16_isFree 99 = .ok (.iload 4, 2) := by decide +kernel
theorem dX16_isFree_101 : decode cX16_isFree 101 = .ok (.ireturn, 1) := by decide +kernel
theorem cwX16_isFree : mw_cwV yX16_isFree cX16_isFree 6 ((some .boolean)) 3 := ⟨⟨wd_19, wd_3440, by decide +kernel⟩, wd_3439, sl_201⟩
set_option maxHeartbeats 4000000 in
set_option maxRecDepth 100000 in
theorem tX16_isFree (l : Launch) (G : mwG) (ad : Nat → Nat) (fu : Nat) (k : Nat) (a1 : Int32) (a2 : Int32) (a3 : Int32) (M : mwM) (L : mwL) {r0 : Int32} {M0 : mwM} {L0 : mwL} (hD : DX16_isFree fu k a1 a2 a3 M L = some (r0, M0, L0)) (hk0 : isMp k) : Met l yX16_isFree (Cond.code yX16_isFree cX16_isFree 6 ((some .boolean)) :: GT) ({ frames := 1, cells := 0, slots := 0, locals := 21 }) (mw_Pre G ad NF TF FF M L [.ref (ad k), .int a1, .int a2, .int a3]) (mw_Qi G ad NF TF FF (mw_eqI r0 M0 L0)) 0 0 (mw_fr G) := by
  refine mw_enter (by decide) (Nat.le_of_ble_eq_true rfl) ?_
  intro p e s m below meth c ls C hr hlocks hnm hw hl
  have hl : lv_has ls 6 [(0, .ref (ad k)), (1, .int a1), (2, .int a2), (3, .int a3)] := hl
  have hb99 : ∀ (v4 : Int32) (M : mwM) (L : mwL) (H : Heap) (locs : List Loc) (ls : Array Slot), fX16_isFree_b99 fu k a1 a2 a3 v4 M L = some (r0, M0, L0) → mw_W G ad NF TF FF M L H locs → lv_has ls 6 [(4, .int v4)] → W p l e ({ frames := 1, cells := 0, slots := 0, locals := 21 }) s m [.ref (ad k), .int a1, .int a2, .int a3].toArray below meth c H locs 0 0 (MQ below (mw_Qi G ad NF TF FF (mw_eqI r0 M0 L0)) [.ref (ad k), .int a1, .int a2, .int a3].toArray s 0 0 (mw_fr G)) (F0 m 99 ls []) := by
    intro v4 M L H locs ls hD hw hl
    unfold fX16_isFree_b99 at hD
    refine lv_iload C.1.1 C.1.2.1 dX16_isFree_99 (lv_at hl 0 rfl) ?_
    obtain ⟨z15, hD⟩ := g_zz hD
    exact mr_iret C hr hlocks hw (nz_zz z15) (Option.some.inj hD) dX16_isFree_101
  have hh20 : ∀ (f : Nat) (v4 : Int32) (v5 : Int32) (M : mwM) (L : mwL) (H : Heap) (locs : List Loc) (ls : Array Slot), fX16_isFree_h20 fu k a1 a2 a3 f (v4, v5, M, L) = some (r0, M0, L0) → mw_W G ad NF TF FF M L H locs → lv_has ls 6 [(0, .ref (ad k)), (1, .int a1), (2, .int a2), (3, .int a3), (4, .int v4), (5, .int v5)] → W p l e ({ frames := 1, cells := 0, slots := 0, locals := 21 }) s m [.ref (ad k), .int a1, .int a2, .int a3].toArray below meth c H locs 0 0 (MQ below (mw_Qi G ad NF TF FF (mw_eqI r0 M0 L0)) [.ref (ad k), .int a1, .int a2, .int a3].toArray s 0 0 (mw_fr G)) (F0 m 20 ls []) := by
    intro f
    induction f with
    | zero => intro v4 v5 M L H locs ls hD; cases hD
    | succ f20 ih20 =>
      intro v4 v5 M L H locs ls hD hw hl
      replace hD : fX16_isFree_i20 fu k a1 a2 a3 (fX16_isFree_h20 fu k a1 a2 a3 f20) v4 v5 M L = some (r0, M0, L0) := hD
      have hb91 : ∀ (v5 : Int32) (s0 : Int32) (M : mwM) (L : mwL) (H : Heap) (locs : List Loc) (ls : Array Slot), fX16_isFree_b91 fu k a1 a2 a3 (fX16_isFree_h20 fu k a1 a2 a3 f20) v5 s0 M L = some (r0, M0, L0) → mw_W G ad NF TF FF M L H locs → lv_has ls 6 [(0, .ref (ad k)), (1, .int a1), (2, .int a2), (3, .int a3), (5, .int v5)] → W p l e ({ frames := 1, cells := 0, slots := 0, locals := 21 }) s m [.ref (ad k), .int a1, .int a2, .int a3].toArray below meth c H locs 0 0 (MQ below (mw_Qi G ad NF TF FF (mw_eqI r0 M0 L0)) [.ref (ad k), .int a1, .int a2, .int a3].toArray s 0 0 (mw_fr G)) (F0 m 91 ls [.int s0]) := by
        intro v5 s0 M L H locs ls hD hw hl
        unfold fX16_isFree_b91 at hD
        refine lv_istore (lv' := [(4, .int s0), (0, .ref (ad k)), (1, .int a1), (2, .int a2), (3, .int a3), (5, .int v5)]) C.1.1 C.1.2.1 dX16_isFree_91 hl (by decide) rfl (fun ls hl => ?_)
        obtain ⟨x14, ex14, hD⟩ := g_let hD
        refine lv_iinc (v := x14) (lv' := [(5, .int x14), (4, .int s0), (0, .ref (ad k)), (1, .int a1), (2, .int a2), (3, .int a3)]) C.1.1 C.1.2.1 dX16_isFree_93 hl (k := 5) rfl (by rw [ex14]; rfl) (by decide) rfl (fun ls hl => ?_)
        refine lv_goto (tgt := 20) C.1.1 C.1.2.1 dX16_isFree_96 (by decide) ?_
        exact ih20 s0 x14 M L _ _ ls hD hw (lv_sub hl [2, 3, 4, 5, 1, 0] rfl)
      have hb86 : ∀ (v5 : Int32) (M : mwM) (L : mwL) (H : Heap) (locs : List Loc) (ls : Array Slot), fX16_isFree_b86 fu k a1 a2 a3 (fX16_isFree_h20 fu k a1 a2 a3 f20) v5 M L = some (r0, M0, L0) → mw_W G ad NF TF FF M L H locs → lv_has ls 6 [(0, .ref (ad k)), (1, .int a1), (2, .int a2), (3, .int a3), (5, .int v5)] → W p l e ({ frames := 1, cells := 0, slots := 0, locals := 21 }) s m [.ref (ad k), .int a1, .int a2, .int a3].toArray below meth c H locs 0 0 (MQ below (mw_Qi G ad NF TF FF (mw_eqI r0 M0 L0)) [.ref (ad k), .int a1, .int a2, .int a3].toArray s 0 0 (mw_fr G)) (F0 m 86 ls []) := by
        intro v5 M L H locs ls hD hw hl
        unfold fX16_isFree_b86 at hD
        refine lv_iconst (v := 1) C.1.1 C.1.2.1 dX16_isFree_86 (by decide) ?_
        refine lv_goto (tgt := 91) C.1.1 C.1.2.1 dX16_isFree_87 (by decide) ?_
        exact hb91 v5 1 M L _ _ ls hD hw (lv_sub hl [0, 1, 2, 3, 4] rfl)
      unfold fX16_isFree_i20 at hD
      refine lv_iload C.1.1 C.1.2.1 dX16_isFree_20 (lv_at hl 5 rfl) ?_
      refine lv_aload_n C.1.1 C.1.2.1 dX16_isFree_22 rfl (lv_at hl 0 rfl) ?_
      refine mr_getI C hw kc_16 2 (Mp_N0 hk0) (Mp_T0 hk0) wd_2557 dX16_isFree_23 (by decide) rfl ?_
      refine lv_icmp_gt (tgt := 99) C.1.1 C.1.2.1 dX16_isFree_26 (by decide) (fun c1 => ?_) (fun c1 => ?_)
      · replace hD := g_pos c1 hD
        exact hb99 v4 M L _ _ ls hD hw (lv_sub hl [4] rfl)
      · replace hD := g_neg c1 hD
        refine lv_iload C.1.1 C.1.2.1 dX16_isFree_29 (lv_at hl 4 rfl) ?_
        refine lv_if_eq (tgt := 99) C.1.1 C.1.2.1 dX16_isFree_31 (by decide) (fun c2 => ?_) (fun c2 => ?_)
        · replace hD := g_pos c2 hD
          exact hb99 v4 M L _ _ ls hD hw (lv_sub hl [4] rfl)
        · replace hD := g_neg c2 hD
          refine lv_aload_n C.1.1 C.1.2.1 dX16_isFree_34 rfl (lv_at hl 0 rfl) ?_
          refine lv_iload C.1.1 C.1.2.1 dX16_isFree_35 (lv_at hl 5 rfl) ?_
          obtain ⟨r5, M3, L4, h1, hD⟩ := g_b3 hD
          refine md_cvI (As := [.int v5]) (rest := []) C hw (tX16_isGroup l G ad fu k v5 M L h1 hk0) kc_16 (Mp_N0 hk0) (Mp_T0 hk0) wd_3417 cwX16_isGroup ⟨Nat.le_of_ble_eq_true rfl, Nat.le_of_ble_eq_true rfl⟩ rfl hl.1 (Nat.le_of_ble_eq_true rfl) dX16_isFree_37 rfl rfl ⟨Nat.zero_le _, Nat.zero_le _⟩ rfl (fun H locs hw => ?_)
          refine lv_if_eq (tgt := 86) C.1.1 C.1.2.1 dX16_isFree_40 (by decide) (fun c6 => ?_) (fun c6 => ?_)
          · replace hD := g_pos c6 hD
            exact hb86 v5 M3 L4 _ _ ls hD hw (lv_sub hl [0, 1, 2, 3, 5] rfl)
          · replace hD := g_neg c6 hD
            refine lv_aload_n C.1.1 C.1.2.1 dX16_isFree_43 rfl (lv_at hl 0 rfl) ?_
            refine mr_getR C hw kc_16 20 (Mp_N0 hk0) (Mp_T0 hk0) (Mp_F0_20 hk0) wd_2575 dX16_isFree_44 (by decide) rfl ?_
            refine lv_iload C.1.1 C.1.2.1 dX16_isFree_47 (lv_at hl 5 rfl) ?_
            obtain ⟨q7, hD⟩ := g_ck hD
            refine mr_iald C hw (Mp_N16 hk0) (Mp_T16 hk0) q7 dX16_isFree_49 ?_
            refine lv_iload_n C.1.1 C.1.2.1 dX16_isFree_50 rfl (lv_at hl 1 rfl) ?_
            refine lv_icmp_ne (tgt := 86) C.1.1 C.1.2.1 dX16_isFree_51 (by decide) (fun c8 => ?_) (fun c8 => ?_)
            · replace hD := g_neg c8 hD
              exact hb86 v5 M3 L4 _ _ ls hD hw (lv_sub hl [0, 1, 2, 3, 5] rfl)
            · replace hD := g_pos c8 hD
              refine lv_iload_n C.1.1 C.1.2.1 dX16_isFree_54 rfl (lv_at hl 2 rfl) ?_
              refine lv_aload_n C.1.1 C.1.2.1 dX16_isFree_55 rfl (lv_at hl 0 rfl) ?_
              refine mr_getR C hw kc_16 21 (Mp_N0 hk0) (Mp_T0 hk0) (Mp_F0_21 hk0) wd_2576 dX16_isFree_56 (by decide) rfl ?_
              refine lv_iload C.1.1 C.1.2.1 dX16_isFree_59 (lv_at hl 5 rfl) ?_
              obtain ⟨q9, hD⟩ := g_ck hD
              refine mr_iald C hw (Mp_N17 hk0) (Mp_T17 hk0) q9 dX16_isFree_61 ?_
              refine lv_aload_n C.1.1 C.1.2.1 dX16_isFree_62 rfl (lv_at hl 0 rfl) ?_
              refine mr_getR C hw kc_16 26 (Mp_N0 hk0) (Mp_T0 hk0) (Mp_F0_26 hk0) wd_2581 dX16_isFree_63 (by decide) rfl ?_
              refine lv_iload C.1.1 C.1.2.1 dX16_isFree_66 (lv_at hl 5 rfl) ?_
              obtain ⟨q10, hD⟩ := g_ck hD
              refine mr_iald C hw (Mp_N22 hk0) (Mp_T22 hk0) q10 dX16_isFree_68 ?_
              refine lv_iadd C.1.1 C.1.2.1 dX16_isFree_69 ?_
              refine lv_icmp_ge (tgt := 86) C.1.1 C.1.2.1 dX16_isFree_70 (by decide) (fun c11 => ?_) (fun c11 => ?_)
              · replace hD := g_pos c11 hD
                exact hb86 v5 M3 L4 _ _ ls hD hw (lv_sub hl [0, 1, 2, 3, 5] rfl)
              · replace hD := g_neg c11 hD
                refine lv_aload_n C.1.1 C.1.2.1 dX16_isFree_73 rfl (lv_at hl 0 rfl) ?_
                refine mr_getR C hw kc_16 21 (Mp_N0 hk0) (Mp_T0 hk0) (Mp_F0_21 hk0) wd_2576 dX16_isFree_74 (by decide) rfl ?_
                refine lv_iload C.1.1 C.1.2.1 dX16_isFree_77 (lv_at hl 5 rfl) ?_
                obtain ⟨q12, hD⟩ := g_ck hD
                refine mr_iald C hw (Mp_N17 hk0) (Mp_T17 hk0) q12 dX16_isFree_79 ?_
                refine lv_iload_n C.1.1 C.1.2.1 dX16_isFree_80 rfl (lv_at hl 2 rfl) ?_
                refine lv_iload_n C.1.1 C.1.2.1 dX16_isFree_81 rfl (lv_at hl 3 rfl) ?_
                refine lv_iadd C.1.1 C.1.2.1 dX16_isFree_82 ?_
                refine lv_icmp_lt (tgt := 90) C.1.1 C.1.2.1 dX16_isFree_83 (by decide) (fun c13 => ?_) (fun c13 => ?_)
                · replace hD := g_pos c13 hD
                  refine lv_iconst (v := 0) C.1.1 C.1.2.1 dX16_isFree_90 (by decide) ?_
                  exact hb91 v5 0 M3 L4 _ _ ls hD hw (lv_sub hl [0, 1, 2, 3, 5] rfl)
                · replace hD := g_neg c13 hD
                  exact hb86 v5 M3 L4 _ _ ls hD hw (lv_sub hl [0, 1, 2, 3, 5] rfl)
  have hb15 : ∀ (s0 : Int32) (M : mwM) (L : mwL) (H : Heap) (locs : List Loc) (ls : Array Slot), fX16_isFree_b15 fu k a1 a2 a3 s0 M L = some (r0, M0, L0) → mw_W G ad NF TF FF M L H locs → lv_has ls 6 [(0, .ref (ad k)), (1, .int a1), (2, .int a2), (3, .int a3)] → W p l e ({ frames := 1, cells := 0, slots := 0, locals := 21 }) s m [.ref (ad k), .int a1, .int a2, .int a3].toArray below meth c H locs 0 0 (MQ below (mw_Qi G ad NF TF FF (mw_eqI r0 M0 L0)) [.ref (ad k), .int a1, .int a2, .int a3].toArray s 0 0 (mw_fr G)) (F0 m 15 ls [.int s0]) := by
    intro s0 M L H locs ls hD hw hl
    unfold fX16_isFree_b15 at hD
    refine lv_istore (lv' := [(4, .int s0), (0, .ref (ad k)), (1, .int a1), (2, .int a2), (3, .int a3)]) C.1.1 C.1.2.1 dX16_isFree_15 hl (by decide) rfl (fun ls hl => ?_)
    refine lv_iconst (v := 1) C.1.1 C.1.2.1 dX16_isFree_17 (by decide) ?_
    refine lv_istore (lv' := [(5, .int 1), (4, .int s0), (0, .ref (ad k)), (1, .int a1), (2, .int a2), (3, .int a3)]) C.1.1 C.1.2.1 dX16_isFree_18 hl (by decide) rfl (fun ls hl => ?_)
    exact hh20 fu s0 1 M L _ _ ls hD hw (lv_sub hl [2, 3, 4, 5, 1, 0] rfl)
  unfold DX16_isFree at hD
  refine lv_iload_n C.1.1 C.1.2.1 dX16_isFree_0 rfl (lv_at hl 2 rfl) ?_
  refine lv_iload_n C.1.1 C.1.2.1 dX16_isFree_1 rfl (lv_at hl 3 rfl) ?_
  refine lv_iadd C.1.1 C.1.2.1 dX16_isFree_2 ?_
  refine lv_aload_n C.1.1 C.1.2.1 dX16_isFree_3 rfl (lv_at hl 0 rfl) ?_
  refine mr_getI C hw kc_16 1 (Mp_N0 hk0) (Mp_T0 hk0) wd_2556 dX16_isFree_4 (by decide) rfl ?_
  refine lv_icmp_gt (tgt := 14) C.1.1 C.1.2.1 dX16_isFree_7 (by decide) (fun c16 => ?_) (fun c16 => ?_)
  · replace hD := g_pos c16 hD
    refine lv_iconst (v := 0) C.1.1 C.1.2.1 dX16_isFree_14 (by decide) ?_
    exact hb15 0 M L _ _ ls hD hw (lv_sub hl [0, 1, 2, 3] rfl)
  · replace hD := g_neg c16 hD
    refine lv_iconst (v := 1) C.1.1 C.1.2.1 dX16_isFree_10 (by decide) ?_
    refine lv_goto (tgt := 15) C.1.1 C.1.2.1 dX16_isFree_11 (by decide) ?_
    exact hb15 1 M L _ _ ls hD hw (lv_sub hl [0, 1, 2, 3] rfl)

theorem dX16_room_0 : decode cX16_room 0 = .ok (.aload_n 0, 1) := by decide +kernel
theorem dX16_room_1 : decode cX16_room 1 = .ok (.iload_n 1, 1) := by decide +kernel
theorem dX16_room_2 : decode cX16_room 2 = .ok (.iconst 0, 1) := by decide +kernel
theorem dX16_room_3 : decode cX16_room 3 = .ok (.iload_n 2, 1) := by decide +kernel
theorem dX16_room_4 : decode cX16_room 4 = .ok (.invokevirtual 113, 3) := by decide +kernel
theorem dX16_room_7 : decode cX16_room 7 = .ok (.ifCond .eq 7, 3) := by decide +kernel
theorem dX16_room_10 : decode cX16_room 10 = .ok (.iconst 0, 1) := by decide +kernel
theorem dX16_room_11 : decode cX16_room 11 = .ok (.goto 4, 3) := by decide +kernel
theorem dX16_room_14 : decode cX16_room 14 = .ok (.iconst (-1), 1) := by decide +kernel
theorem dX16_room_15 : decode cX16_room 15 = .ok (.istore_n 3, 1) := by decide +kernel
theorem dX16_room_16 : decode cX16_room 16 = .ok (.iconst 1, 1) := by decide +kernel
theorem dX16_room_17 : decode cX16_room 17 = .ok (.istore 4, 2) := by decide +kernel
theorem dX16_room_19 : decode cX16_room 19 = .ok (.iload 4, 2) := by decide +kernel
theorem dX16_room_21 : decode cX16_room 21 = .ok (.aload_n 0, 1) := by decide +kernel
theorem dX16_room_22 : decode cX16_room 22 = .ok (.getfield 81, 3) := by decide +kernel
theorem dX16_room_25 : decode cX16_room 25 = .ok (.if_icmp .gt 78, 3) := by decide +kernel
theorem dX16_room_28 : decode cX16_room 28 = .ok (.iload_n 3, 1) := by decide +kernel
theorem dX16_room_29 : decode cX16_room 29 = .ok (.ifCond .eq 74, 3) := by decide +kernel
theorem dX16_room_32 : decode cX16_room 32 = .ok (.aload_n 0, 1) := by decide +kernel
theorem dX16_room_33 : decode cX16_room 33 = .ok (.iload 4, 2) := by decide +kernel
theorem dX16_room_35 : decode cX16_room 35 = .ok (.invokevirtual 110, 3) := by decide +kernel
theorem dX16_room_38 : decode cX16_room 38 = .ok (.ifCond .eq 59, 3) := by decide +kernel
theorem dX16_room_41 : decode cX16_room 41 = .ok (.aload_n 0, 1) := by decide +kernel
theorem dX16_room_42 : decode cX16_room 42 = .ok (.getfield 56, 3) := by decide +kernel
theorem dX16_room_45 : decode cX16_room 45 = .ok (.iload 4, 2) := by decide +kernel
theorem dX16_room_47 : decode cX16_room 47 = .ok (.iaload, 1) := by decide +kernel
theorem dX16_room_48 : decode cX16_room 48 = .ok (.iload_n 1, 1) := by decide +kernel
theorem dX16_room_49 : decode cX16_room 49 = .ok (.if_icmp .ne 48, 3) := by decide +kernel
theorem dX16_room_52 : decode cX16_room 52 = .ok (.aload_n 0, 1) := by decide +kernel
theorem dX16_room_53 : decode cX16_room 53 = .ok (.getfield 59, 3) := by decide +kernel
theorem dX16_room_56 : decode cX16_room 56 = .ok (.iload 4, 2) := by decide +kernel
theorem dX16_room_58 : decode cX16_room 58 = .ok (.iaload, 1) := by decide +kernel
theorem dX16_room_59 : decode cX16_room 59 = .ok (.aload_n 0, 1) := by decide +kernel
theorem dX16_room_60 : decode cX16_room 60 = .ok (.getfield 74, 3) := by decide +kernel
theorem dX16_room_63 : decode cX16_room 63 = .ok (.iload 4, 2) := by decide +kernel
theorem dX16_room_65 : decode cX16_room 65 = .ok (.iaload, 1) := by decide +kernel
theorem dX16_room_66 : decode cX16_room 66 = .ok (.iadd, 1) := by decide +kernel
theorem dX16_room_67 : decode cX16_room 67 = .ok (.istore 5, 2) := by decide +kernel
theorem dX16_room_69 : decode cX16_room 69 = .ok (.aload_n 0, 1) := by decide +kernel
theorem dX16_room_70 : decode cX16_room 70 = .ok (.iload_n 1, 1) := by decide +kernel
theorem dX16_room_71 : decode cX16_room 71 = .ok (.iload 5, 2) := by decide +kernel
theorem dX16_room_73 : decode cX16_room 73 = .ok (.iload_n 2, 1) := by decide +kernel
theorem dX16_room_74 : decode cX16_room 74 = .ok (.invokevirtual 113, 3) := by decide +kernel
theorem dX16_room_77 : decode cX16_room 77 = .ok (.ifCond .eq 18, 3) := by decide +kernel
theorem dX16_room_80 : decode cX16_room 80 = .ok (.iload_n 3, 1) := by decide +kernel
theorem dX16_room_81 : decode cX16_room 81 = .ok (.ifCond .lt 9, 3) := by decide +kernel
theorem dX16_room_84 : decode cX16_room 84 = .ok (.iload 5, 2) := by decide +kernel
theorem dX16_room_86 : decode cX16_room 86 = .ok (.iload_n 3, 1) := by decide +kernel
theorem dX16_room_87 : decode cX16_room 87 = .ok (.if_icmp .ge 8, 3) := by decide +kernel
theorem dX16_room_90 : decode cX16_room 90 = .ok (.iload 5, 2) := by decide +kernel
theorem dX16_room_92 : decode cX16_room 92 = .ok (.goto 4, 3) := by decide +kernel
theorem dX16_room_95 : decode cX16_room 95 = .ok (.iload_n 3, 1) := by decide +kernel
theorem dX16_room_96 : decode cX16_room 96 = .ok (.istore_n 3, 1) := by decide +kernel
theorem dX16_room_97 : decode cX16_room 97 = .ok (.iinc 4 1, 3) := by decide +kernel
theorem dX16_room_100 : decode cX16_room 100 = .ok (.goto (-81), 3) := by decide +kernel
theorem dX16_room_103 : decode cX16_room 103 = .ok (.iload_n 3, 1) := by decide +kernel
theorem dX16_room_104 : decode cX16_room 104 = .ok (.ireturn, 1) := by decide +kernel
theorem cwX16_room : mw_cwV yX16_room cX16_room 6 ((some .int)) 2 := ⟨⟨wd_19, wd_3461, by decide +kernel⟩, wd_3460, sl_206⟩
set_option maxHeartbeats 4000000 in
set_option maxRecDepth 100000 in
theorem tX16_room (l : Launch) (G : mwG) (ad : Nat → Nat) (fu : Nat) (k : Nat) (a1 : Int32) (a2 : Int32) (M : mwM) (L : mwL) {r0 : Int32} {M0 : mwM} {L0 : mwL} (hD : DX16_room fu k a1 a2 M L = some (r0, M0, L0)) (hk0 : isMp k) : Met l yX16_room (Cond.code yX16_room cX16_room 6 ((some .int)) :: GT) ({ frames := 2, cells := 0, slots := 0, locals := 46 }) (mw_Pre G ad NF TF FF M L [.ref (ad k), .int a1, .int a2]) (mw_Qi G ad NF TF FF (mw_eqI r0 M0 L0)) 0 0 (mw_fr G) := by
  refine mw_enter (by decide) (Nat.le_of_ble_eq_true rfl) ?_
  intro p e s m below meth c ls C hr hlocks hnm hw hl
  have hl : lv_has ls 6 [(0, .ref (ad k)), (1, .int a1), (2, .int a2)] := hl
  have hb103 : ∀ (v3 : Int32) (M : mwM) (L : mwL) (H : Heap) (locs : List Loc) (ls : Array Slot), fX16_room_b103 fu k a1 a2 v3 M L = some (r0, M0, L0) → mw_W G ad NF TF FF M L H locs → lv_has ls 6 [(3, .int v3)] → W p l e ({ frames := 2, cells := 0, slots := 0, locals := 46 }) s m [.ref (ad k), .int a1, .int a2].toArray below meth c H locs 0 0 (MQ below (mw_Qi G ad NF TF FF (mw_eqI r0 M0 L0)) [.ref (ad k), .int a1, .int a2].toArray s 0 0 (mw_fr G)) (F0 m 103 ls []) := by
    intro v3 M L H locs ls hD hw hl
    unfold fX16_room_b103 at hD
    refine lv_iload_n C.1.1 C.1.2.1 dX16_room_103 rfl (lv_at hl 0 rfl) ?_
    exact mr_iret C hr hlocks hw rfl (Option.some.inj hD) dX16_room_104
  have hh19 : ∀ (f : Nat) (v3 : Int32) (v4 : Int32) (M : mwM) (L : mwL) (H : Heap) (locs : List Loc) (ls : Array Slot), fX16_room_h19 fu k a1 a2 f (v3, v4, M, L) = some (r0, M0, L0) → mw_W G ad NF TF FF M L H locs → lv_has ls 6 [(0, .ref (ad k)), (1, .int a1), (2, .int a2), (3, .int v3), (4, .int v4)] → W p l e ({ frames := 2, cells := 0, slots := 0, locals := 46 }) s m [.ref (ad k), .int a1, .int a2].toArray below meth c H locs 0 0 (MQ below (mw_Qi G ad NF TF FF (mw_eqI r0 M0 L0)) [.ref (ad k), .int a1, .int a2].toArray s 0 0 (mw_fr G)) (F0 m 19 ls []) := by
    intro f
    induction f with
    | zero => intro v3 v4 M L H locs ls hD; cases hD
    | succ f19 ih19 =>
      intro v3 v4 M L H locs ls hD hw hl
      replace hD : fX16_room_i19 fu k a1 a2 (fX16_room_h19 fu k a1 a2 f19) v3 v4 M L = some (r0, M0, L0) := hD
      have hb97 : ∀ (v3 : Int32) (v4 : Int32) (M : mwM) (L : mwL) (H : Heap) (locs : List Loc) (ls : Array Slot), fX16_room_b97 fu k a1 a2 (fX16_room_h19 fu k a1 a2 f19) v3 v4 M L = some (r0, M0, L0) → mw_W G ad NF TF FF M L H locs → lv_has ls 6 [(0, .ref (ad k)), (1, .int a1), (2, .int a2), (3, .int v3), (4, .int v4)] → W p l e ({ frames := 2, cells := 0, slots := 0, locals := 46 }) s m [.ref (ad k), .int a1, .int a2].toArray below meth c H locs 0 0 (MQ below (mw_Qi G ad NF TF FF (mw_eqI r0 M0 L0)) [.ref (ad k), .int a1, .int a2].toArray s 0 0 (mw_fr G)) (F0 m 97 ls []) := by
        intro v3 v4 M L H locs ls hD hw hl
        unfold fX16_room_b97 at hD
        obtain ⟨x18, ex18, hD⟩ := g_let hD
        refine lv_iinc (v := x18) (lv' := [(4, .int x18), (0, .ref (ad k)), (1, .int a1), (2, .int a2), (3, .int v3)]) C.1.1 C.1.2.1 dX16_room_97 hl (k := 4) rfl (by rw [ex18]; rfl) (by decide) rfl (fun ls hl => ?_)
        refine lv_goto (tgt := 19) C.1.1 C.1.2.1 dX16_room_100 (by decide) ?_
        exact ih19 v3 x18 M L _ _ ls hD hw (lv_sub hl [1, 2, 3, 4, 0] rfl)
      have hb96 : ∀ (v4 : Int32) (s0 : Int32) (M : mwM) (L : mwL) (H : Heap) (locs : List Loc) (ls : Array Slot), fX16_room_b96 fu k a1 a2 (fX16_room_h19 fu k a1 a2 f19) v4 s0 M L = some (r0, M0, L0) → mw_W G ad NF TF FF M L H locs → lv_has ls 6 [(0, .ref (ad k)), (1, .int a1), (2, .int a2), (4, .int v4)] → W p l e ({ frames := 2, cells := 0, slots := 0, locals := 46 }) s m [.ref (ad k), .int a1, .int a2].toArray below meth c H locs 0 0 (MQ below (mw_Qi G ad NF TF FF (mw_eqI r0 M0 L0)) [.ref (ad k), .int a1, .int a2].toArray s 0 0 (mw_fr G)) (F0 m 96 ls [.int s0]) := by
        intro v4 s0 M L H locs ls hD hw hl
        unfold fX16_room_b96 at hD
        refine lv_istore_n (lv' := [(3, .int s0), (0, .ref (ad k)), (1, .int a1), (2, .int a2), (4, .int v4)]) C.1.1 C.1.2.1 dX16_room_96 rfl hl (by decide) rfl (fun ls hl => ?_)
        exact hb97 s0 v4 M L _ _ ls hD hw (lv_sub hl [1, 2, 3, 0, 4] rfl)
      have hb95 : ∀ (v3 : Int32) (v4 : Int32) (M : mwM) (L : mwL) (H : Heap) (locs : List Loc) (ls : Array Slot), fX16_room_b95 fu k a1 a2 (fX16_room_h19 fu k a1 a2 f19) v3 v4 M L = some (r0, M0, L0) → mw_W G ad NF TF FF M L H locs → lv_has ls 6 [(0, .ref (ad k)), (1, .int a1), (2, .int a2), (3, .int v3), (4, .int v4)] → W p l e ({ frames := 2, cells := 0, slots := 0, locals := 46 }) s m [.ref (ad k), .int a1, .int a2].toArray below meth c H locs 0 0 (MQ below (mw_Qi G ad NF TF FF (mw_eqI r0 M0 L0)) [.ref (ad k), .int a1, .int a2].toArray s 0 0 (mw_fr G)) (F0 m 95 ls []) := by
        intro v3 v4 M L H locs ls hD hw hl
        unfold fX16_room_b95 at hD
        refine lv_iload_n C.1.1 C.1.2.1 dX16_room_95 rfl (lv_at hl 3 rfl) ?_
        exact hb96 v4 v3 M L _ _ ls hD hw (lv_sub hl [0, 1, 2, 4] rfl)
      have hb90 : ∀ (v4 : Int32) (v5 : Int32) (M : mwM) (L : mwL) (H : Heap) (locs : List Loc) (ls : Array Slot), fX16_room_b90 fu k a1 a2 (fX16_room_h19 fu k a1 a2 f19) v4 v5 M L = some (r0, M0, L0) → mw_W G ad NF TF FF M L H locs → lv_has ls 6 [(0, .ref (ad k)), (1, .int a1), (2, .int a2), (4, .int v4), (5, .int v5)] → W p l e ({ frames := 2, cells := 0, slots := 0, locals := 46 }) s m [.ref (ad k), .int a1, .int a2].toArray below meth c H locs 0 0 (MQ below (mw_Qi G ad NF TF FF (mw_eqI r0 M0 L0)) [.ref (ad k), .int a1, .int a2].toArray s 0 0 (mw_fr G)) (F0 m 90 ls []) := by
        intro v4 v5 M L H locs ls hD hw hl
        unfold fX16_room_b90 at hD
        refine lv_iload C.1.1 C.1.2.1 dX16_room_90 (lv_at hl 4 rfl) ?_
        refine lv_goto (tgt := 96) C.1.1 C.1.2.1 dX16_room_92 (by decide) ?_
        exact hb96 v4 v5 M L _ _ ls hD hw (lv_sub hl [0, 1, 2, 3] rfl)
      unfold fX16_room_i19 at hD
      refine lv_iload C.1.1 C.1.2.1 dX16_room_19 (lv_at hl 4 rfl) ?_
      refine lv_aload_n C.1.1 C.1.2.1 dX16_room_21 rfl (lv_at hl 0 rfl) ?_
      refine mr_getI C hw kc_16 2 (Mp_N0 hk0) (Mp_T0 hk0) wd_2557 dX16_room_22 (by decide) rfl ?_
      refine lv_icmp_gt (tgt := 103) C.1.1 C.1.2.1 dX16_room_25 (by decide) (fun c1 => ?_) (fun c1 => ?_)
      · replace hD := g_pos c1 hD
        exact hb103 v3 M L _ _ ls hD hw (lv_sub hl [3] rfl)
      · replace hD := g_neg c1 hD
        refine lv_iload_n C.1.1 C.1.2.1 dX16_room_28 rfl (lv_at hl 3 rfl) ?_
        refine lv_if_eq (tgt := 103) C.1.1 C.1.2.1 dX16_room_29 (by decide) (fun c2 => ?_) (fun c2 => ?_)
        · replace hD := g_pos c2 hD
          exact hb103 v3 M L _ _ ls hD hw (lv_sub hl [3] rfl)
        · replace hD := g_neg c2 hD
          refine lv_aload_n C.1.1 C.1.2.1 dX16_room_32 rfl (lv_at hl 0 rfl) ?_
          refine lv_iload C.1.1 C.1.2.1 dX16_room_33 (lv_at hl 4 rfl) ?_
          obtain ⟨r5, M3, L4, h1, hD⟩ := g_b3 hD
          refine md_cvI (As := [.int v4]) (rest := []) C hw (tX16_isGroup l G ad fu k v4 M L h1 hk0) kc_16 (Mp_N0 hk0) (Mp_T0 hk0) wd_3417 cwX16_isGroup ⟨Nat.le_of_ble_eq_true rfl, Nat.le_of_ble_eq_true rfl⟩ rfl hl.1 (Nat.le_of_ble_eq_true rfl) dX16_room_35 rfl rfl ⟨Nat.zero_le _, Nat.zero_le _⟩ rfl (fun H locs hw => ?_)
          refine lv_if_eq (tgt := 97) C.1.1 C.1.2.1 dX16_room_38 (by decide) (fun c6 => ?_) (fun c6 => ?_)
          · replace hD := g_pos c6 hD
            exact hb97 v3 v4 M3 L4 _ _ ls hD hw (lv_sub hl [0, 1, 2, 3, 4] rfl)
          · replace hD := g_neg c6 hD
            refine lv_aload_n C.1.1 C.1.2.1 dX16_room_41 rfl (lv_at hl 0 rfl) ?_
            refine mr_getR C hw kc_16 20 (Mp_N0 hk0) (Mp_T0 hk0) (Mp_F0_20 hk0) wd_2575 dX16_room_42 (by decide) rfl ?_
            refine lv_iload C.1.1 C.1.2.1 dX16_room_45 (lv_at hl 4 rfl) ?_
            obtain ⟨q7, hD⟩ := g_ck hD
            refine mr_iald C hw (Mp_N16 hk0) (Mp_T16 hk0) q7 dX16_room_47 ?_
            refine lv_iload_n C.1.1 C.1.2.1 dX16_room_48 rfl (lv_at hl 1 rfl) ?_
            refine lv_icmp_ne (tgt := 97) C.1.1 C.1.2.1 dX16_room_49 (by decide) (fun c8 => ?_) (fun c8 => ?_)
            · replace hD := g_neg c8 hD
              exact hb97 v3 v4 M3 L4 _ _ ls hD hw (lv_sub hl [0, 1, 2, 3, 4] rfl)
            · replace hD := g_pos c8 hD
              refine lv_aload_n C.1.1 C.1.2.1 dX16_room_52 rfl (lv_at hl 0 rfl) ?_
              refine mr_getR C hw kc_16 21 (Mp_N0 hk0) (Mp_T0 hk0) (Mp_F0_21 hk0) wd_2576 dX16_room_53 (by decide) rfl ?_
              refine lv_iload C.1.1 C.1.2.1 dX16_room_56 (lv_at hl 4 rfl) ?_
              obtain ⟨q9, hD⟩ := g_ck hD
              refine mr_iald C hw (Mp_N17 hk0) (Mp_T17 hk0) q9 dX16_room_58 ?_
              refine lv_aload_n C.1.1 C.1.2.1 dX16_room_59 rfl (lv_at hl 0 rfl) ?_
              refine mr_getR C hw kc_16 26 (Mp_N0 hk0) (Mp_T0 hk0) (Mp_F0_26 hk0) wd_2581 dX16_room_60 (by decide) rfl ?_
              refine lv_iload C.1.1 C.1.2.1 dX16_room_63 (lv_at hl 4 rfl) ?_
              obtain ⟨q10, hD⟩ := g_ck hD
              refine mr_iald C hw (Mp_N22 hk0) (Mp_T22 hk0) q10 dX16_room_65 ?_
              refine lv_iadd C.1.1 C.1.2.1 dX16_room_66 ?_
              obtain ⟨x11, ex11, hD⟩ := g_let hD
              refine W.eq (g2 := F0 m 67 ls (.int x11 :: [])) (by rw [ex11]) ?_
              refine lv_istore (lv' := [(5, .int x11), (0, .ref (ad k)), (1, .int a1), (2, .int a2), (3, .int v3), (4, .int v4)]) C.1.1 C.1.2.1 dX16_room_67 hl (by decide) rfl (fun ls hl => ?_)
              refine lv_aload_n C.1.1 C.1.2.1 dX16_room_69 rfl (lv_at hl 1 rfl) ?_
              refine lv_iload_n C.1.1 C.1.2.1 dX16_room_70 rfl (lv_at hl 2 rfl) ?_
              refine lv_iload C.1.1 C.1.2.1 dX16_room_71 (lv_at hl 0 rfl) ?_
              refine lv_iload_n C.1.1 C.1.2.1 dX16_room_73 rfl (lv_at hl 3 rfl) ?_
              obtain ⟨r14, M12, L13, h1, hD⟩ := g_b3 hD
              refine md_cvI (As := [.int a1, .int x11, .int a2]) (rest := []) C hw (tX16_isFree l G ad fu k a1 x11 a2 M3 L4 h1 hk0) kc_16 (Mp_N0 hk0) (Mp_T0 hk0) wd_3437 cwX16_isFree ⟨Nat.le_of_ble_eq_true rfl, Nat.le_of_ble_eq_true rfl⟩ rfl hl.1 (Nat.le_of_ble_eq_true rfl) dX16_room_74 rfl rfl ⟨Nat.zero_le _, Nat.zero_le _⟩ rfl (fun H locs hw => ?_)
              refine lv_if_eq (tgt := 95) C.1.1 C.1.2.1 dX16_room_77 (by decide) (fun c15 => ?_) (fun c15 => ?_)
              · replace hD := g_pos c15 hD
                exact hb95 v3 v4 M12 L13 _ _ ls hD hw (lv_sub hl [1, 2, 3, 4, 5] rfl)
              · replace hD := g_neg c15 hD
                refine lv_iload_n C.1.1 C.1.2.1 dX16_room_80 rfl (lv_at hl 4 rfl) ?_
                refine lv_if_lt (tgt := 90) C.1.1 C.1.2.1 dX16_room_81 (by decide) (fun c16 => ?_) (fun c16 => ?_)
                · replace hD := g_pos c16 hD
                  exact hb90 v4 x11 M12 L13 _ _ ls hD hw (lv_sub hl [1, 2, 3, 5, 0] rfl)
                · replace hD := g_neg c16 hD
                  refine lv_iload C.1.1 C.1.2.1 dX16_room_84 (lv_at hl 0 rfl) ?_
                  refine lv_iload_n C.1.1 C.1.2.1 dX16_room_86 rfl (lv_at hl 4 rfl) ?_
                  refine lv_icmp_ge (tgt := 95) C.1.1 C.1.2.1 dX16_room_87 (by decide) (fun c17 => ?_) (fun c17 => ?_)
                  · replace hD := g_pos c17 hD
                    exact hb95 v3 v4 M12 L13 _ _ ls hD hw (lv_sub hl [1, 2, 3, 4, 5] rfl)
                  · replace hD := g_neg c17 hD
                    exact hb90 v4 x11 M12 L13 _ _ ls hD hw (lv_sub hl [1, 2, 3, 5, 0] rfl)
  have hb15 : ∀ (s0 : Int32) (M : mwM) (L : mwL) (H : Heap) (locs : List Loc) (ls : Array Slot), fX16_room_b15 fu k a1 a2 s0 M L = some (r0, M0, L0) → mw_W G ad NF TF FF M L H locs → lv_has ls 6 [(0, .ref (ad k)), (1, .int a1), (2, .int a2)] → W p l e ({ frames := 2, cells := 0, slots := 0, locals := 46 }) s m [.ref (ad k), .int a1, .int a2].toArray below meth c H locs 0 0 (MQ below (mw_Qi G ad NF TF FF (mw_eqI r0 M0 L0)) [.ref (ad k), .int a1, .int a2].toArray s 0 0 (mw_fr G)) (F0 m 15 ls [.int s0]) := by
    intro s0 M L H locs ls hD hw hl
    unfold fX16_room_b15 at hD
    refine lv_istore_n (lv' := [(3, .int s0), (0, .ref (ad k)), (1, .int a1), (2, .int a2)]) C.1.1 C.1.2.1 dX16_room_15 rfl hl (by decide) rfl (fun ls hl => ?_)
    refine lv_iconst (v := 1) C.1.1 C.1.2.1 dX16_room_16 (by decide) ?_
    refine lv_istore (lv' := [(4, .int 1), (3, .int s0), (0, .ref (ad k)), (1, .int a1), (2, .int a2)]) C.1.1 C.1.2.1 dX16_room_17 hl (by decide) rfl (fun ls hl => ?_)
    exact hh19 fu s0 1 M L _ _ ls hD hw (lv_sub hl [2, 3, 4, 1, 0] rfl)
  unfold DX16_room at hD
  refine lv_aload_n C.1.1 C.1.2.1 dX16_room_0 rfl (lv_at hl 0 rfl) ?_
  refine lv_iload_n C.1.1 C.1.2.1 dX16_room_1 rfl (lv_at hl 1 rfl) ?_
  refine lv_iconst (v := 0) C.1.1 C.1.2.1 dX16_room_2 (by decide) ?_
  refine lv_iload_n C.1.1 C.1.2.1 dX16_room_3 rfl (lv_at hl 2 rfl) ?_
  obtain ⟨r21, M19, L20, h1, hD⟩ := g_b3 hD
  refine md_cvI (As := [.int a1, .int 0, .int a2]) (rest := []) C hw (tX16_isFree l G ad fu k a1 0 a2 M L h1 hk0) kc_16 (Mp_N0 hk0) (Mp_T0 hk0) wd_3437 cwX16_isFree ⟨Nat.le_of_ble_eq_true rfl, Nat.le_of_ble_eq_true rfl⟩ rfl hl.1 (Nat.le_of_ble_eq_true rfl) dX16_room_4 rfl rfl ⟨Nat.zero_le _, Nat.zero_le _⟩ rfl (fun H locs hw => ?_)
  refine lv_if_eq (tgt := 14) C.1.1 C.1.2.1 dX16_room_7 (by decide) (fun c22 => ?_) (fun c22 => ?_)
  · replace hD := g_pos c22 hD
    refine lv_iconst (v := (-1)) C.1.1 C.1.2.1 dX16_room_14 (by decide) ?_
    exact hb15 ((-1)) M19 L20 _ _ ls hD hw (lv_sub hl [0, 1, 2] rfl)
  · replace hD := g_neg c22 hD
    refine lv_iconst (v := 0) C.1.1 C.1.2.1 dX16_room_10 (by decide) ?_
    refine lv_goto (tgt := 15) C.1.1 C.1.2.1 dX16_room_11 (by decide) ?_
    exact hb15 0 M19 L20 _ _ ls hD hw (lv_sub hl [0, 1, 2] rfl)

theorem dX16_isUsed_0 : decode cX16_isUsed 0 = .ok (.iconst 0, 1) := by decide +kernel
theorem dX16_isUsed_1 : decode cX16_isUsed 1 = .ok (.istore_n 2, 1) := by decide +kernel
theorem dX16_isUsed_2 : decode cX16_isUsed 2 = .ok (.iconst 1, 1) := by decide +kernel
theorem dX16_isUsed_3 : decode cX16_isUsed 3 = .ok (.istore_n 3, 1) := by decide +kernel
theorem dX16_isUsed_4 : decode cX16_isUsed 4 = .ok (.iload_n 3, 1) := by decide +kernel
theorem dX16_isUsed_5 : decode cX16_isUsed 5 = .ok (.aload_n 0, 1) := by decide +kernel
theorem dX16_isUsed_6 : decode cX16_isUsed 6 = .ok (.getfield 81, 3) := by decide +kernel
theorem dX16_isUsed_9 : decode cX16_isUsed 9 = .ok (.if_icmp .gt 37, 3) := by decide +kernel
theorem dX16_isUsed_12 : decode cX16_isUsed 12 = .ok (.iload_n 2, 1) := by decide +kernel
theorem dX16_isUsed_13 : decode cX16_isUsed 13 = .ok (.ifCond .ne 21, 3) := by decide +kernel
theorem dX16_isUsed_16 : decode cX16_isUsed 16 = .ok (.aload_n 0, 1) := by decide +kernel
theorem dX16_isUsed_17 : decode cX16_isUsed 17 = .ok (.iload_n 3, 1) := by decide +kernel
theorem dX16_isUsed_18 : decode cX16_isUsed 18 = .ok (.invokevirtual 110, 3) := by decide +kernel
theorem dX16_isUsed_21 : decode cX16_isUsed 21 = .ok (.ifCond .eq 17, 3) := by decide +kernel
theorem dX16_isUsed_24 : decode cX16_isUsed 24 = .ok (.aload_n 0, 1) := by decide +kernel
theorem dX16_isUsed_25 : decode cX16_isUsed 25 = .ok (.getfield 56, 3) := by decide +kernel
theorem dX16_isUsed_28 : decode cX16_isUsed 28 = .ok (.iload_n 3, 1) := by decide +kernel
theorem dX16_isUsed_29 : decode cX16_isUsed 29 = .ok (.iaload, 1) := by decide +kernel
theorem dX16_isUsed_30 : decode cX16_isUsed 30 = .ok (.iload_n 1, 1) := by decide +kernel
theorem dX16_isUsed_31 : decode cX16_isUsed 31 = .ok (.if_icmp .ne 7, 3) := by decide +kernel
theorem dX16_isUsed_34 : decode cX16_isUsed 34 = .ok (.iconst 1, 1) := by decide +kernel
theorem dX16_isUsed_35 : decode cX16_isUsed 35 = .ok (.goto 4, 3) := by decide +kernel
theorem dX16_isUsed_38 : decode cX16_isUsed 38 = .ok (.iconst 0, 1) := by decide +kernel
theorem dX16_isUsed_39 : decode cX16_isUsed 39 = .ok (.istore_n 2, 1) := by decide +kernel
theorem dX16_isUsed_40 : decode cX16_isUsed 40 = .ok (.iinc 3 1, 3) := by decide +kernel
theorem dX16_isUsed_43 : decode cX16_isUsed 43 = .ok (.goto (-39), 3) := by decide +kernel
theorem dX16_isUsed_46 : decode cX16_isUsed 46 = .ok (.iload_n 2, 1) := by decide +kernel
theorem dX16_isUsed_47 : decode cX16_isUsed 47 = .ok (.ireturn, 1) := by decide +kernel
theorem cwX16_isUsed : mw_cwV yX16_isUsed cX16_isUsed 4 ((some .boolean)) 1 := ⟨⟨wd_19, wd_3453, by decide +kernel⟩, wd_3452, sl_204⟩
set_option maxHeartbeats 4000000 in
set_option maxRecDepth 100000 in
theorem tX16_isUsed (l : Launch) (G : mwG) (ad : Nat → Nat) (fu : Nat) (k : Nat) (a1 : Int32) (M : mwM) (L : mwL) {r0 : Int32} {M0 : mwM} {L0 : mwL} (hD : DX16_isUsed fu k a1 M L = some (r0, M0, L0)) (hk0 : isMp k) : Met l yX16_isUsed (Cond.code yX16_isUsed cX16_isUsed 4 ((some .boolean)) :: GT) ({ frames := 1, cells := 0, slots := 0, locals := 21 }) (mw_Pre G ad NF TF FF M L [.ref (ad k), .int a1]) (mw_Qi G ad NF TF FF (mw_eqI r0 M0 L0)) 0 0 (mw_fr G) := by
  refine mw_enter (by decide) (Nat.le_of_ble_eq_true rfl) ?_
  intro p e s m below meth c ls C hr hlocks hnm hw hl
  have hl : lv_has ls 4 [(0, .ref (ad k)), (1, .int a1)] := hl
  have hh4 : ∀ (f : Nat) (v2 : Int32) (v3 : Int32) (M : mwM) (L : mwL) (H : Heap) (locs : List Loc) (ls : Array Slot), fX16_isUsed_h4 fu k a1 f (v2, v3, M, L) = some (r0, M0, L0) → mw_W G ad NF TF FF M L H locs → lv_has ls 4 [(0, .ref (ad k)), (1, .int a1), (2, .int v2), (3, .int v3)] → W p l e ({ frames := 1, cells := 0, slots := 0, locals := 21 }) s m [.ref (ad k), .int a1].toArray below meth c H locs 0 0 (MQ below (mw_Qi G ad NF TF FF (mw_eqI r0 M0 L0)) [.ref (ad k), .int a1].toArray s 0 0 (mw_fr G)) (F0 m 4 ls []) := by
    intro f
    induction f with
    | zero => intro v2 v3 M L H locs ls hD; cases hD
    | succ f4 ih4 =>
      intro v2 v3 M L H locs ls hD hw hl
      replace hD : fX16_isUsed_i4 fu k a1 (fX16_isUsed_h4 fu k a1 f4) v2 v3 M L = some (r0, M0, L0) := hD
      have hb39 : ∀ (v3 : Int32) (s0 : Int32) (M : mwM) (L : mwL) (H : Heap) (locs : List Loc) (ls : Array Slot), fX16_isUsed_b39 fu k a1 (fX16_isUsed_h4 fu k a1 f4) v3 s0 M L = some (r0, M0, L0) → mw_W G ad NF TF FF M L H locs → lv_has ls 4 [(0, .ref (ad k)), (1, .int a1), (3, .int v3)] → W p l e ({ frames := 1, cells := 0, slots := 0, locals := 21 }) s m [.ref (ad k), .int a1].toArray below meth c H locs 0 0 (MQ below (mw_Qi G ad NF TF FF (mw_eqI r0 M0 L0)) [.ref (ad k), .int a1].toArray s 0 0 (mw_fr G)) (F0 m 39 ls [.int s0]) := by
        intro v3 s0 M L H locs ls hD hw hl
        unfold fX16_isUsed_b39 at hD
        refine lv_istore_n (lv' := [(2, .int s0), (0, .ref (ad k)), (1, .int a1), (3, .int v3)]) C.1.1 C.1.2.1 dX16_isUsed_39 rfl hl (by decide) rfl (fun ls hl => ?_)
        obtain ⟨x10, ex10, hD⟩ := g_let hD
        refine lv_iinc (v := x10) (lv' := [(3, .int x10), (2, .int s0), (0, .ref (ad k)), (1, .int a1)]) C.1.1 C.1.2.1 dX16_isUsed_40 hl (k := 3) rfl (by rw [ex10]; rfl) (by decide) rfl (fun ls hl => ?_)
        refine lv_goto (tgt := 4) C.1.1 C.1.2.1 dX16_isUsed_43 (by decide) ?_
        exact ih4 s0 x10 M L _ _ ls hD hw (lv_sub hl [2, 3, 1, 0] rfl)
      have hb38 : ∀ (v3 : Int32) (M : mwM) (L : mwL) (H : Heap) (locs : List Loc) (ls : Array Slot), fX16_isUsed_b38 fu k a1 (fX16_isUsed_h4 fu k a1 f4) v3 M L = some (r0, M0, L0) → mw_W G ad NF TF FF M L H locs → lv_has ls 4 [(0, .ref (ad k)), (1, .int a1), (3, .int v3)] → W p l e ({ frames := 1, cells := 0, slots := 0, locals := 21 }) s m [.ref (ad k), .int a1].toArray below meth c H locs 0 0 (MQ below (mw_Qi G ad NF TF FF (mw_eqI r0 M0 L0)) [.ref (ad k), .int a1].toArray s 0 0 (mw_fr G)) (F0 m 38 ls []) := by
        intro v3 M L H locs ls hD hw hl
        unfold fX16_isUsed_b38 at hD
        refine lv_iconst (v := 0) C.1.1 C.1.2.1 dX16_isUsed_38 (by decide) ?_
        exact hb39 v3 0 M L _ _ ls hD hw (lv_sub hl [0, 1, 2] rfl)
      have hb34 : ∀ (v3 : Int32) (M : mwM) (L : mwL) (H : Heap) (locs : List Loc) (ls : Array Slot), fX16_isUsed_b34 fu k a1 (fX16_isUsed_h4 fu k a1 f4) v3 M L = some (r0, M0, L0) → mw_W G ad NF TF FF M L H locs → lv_has ls 4 [(0, .ref (ad k)), (1, .int a1), (3, .int v3)] → W p l e ({ frames := 1, cells := 0, slots := 0, locals := 21 }) s m [.ref (ad k), .int a1].toArray below meth c H locs 0 0 (MQ below (mw_Qi G ad NF TF FF (mw_eqI r0 M0 L0)) [.ref (ad k), .int a1].toArray s 0 0 (mw_fr G)) (F0 m 34 ls []) := by
        intro v3 M L H locs ls hD hw hl
        unfold fX16_isUsed_b34 at hD
        refine lv_iconst (v := 1) C.1.1 C.1.2.1 dX16_isUsed_34 (by decide) ?_
        refine lv_goto (tgt := 39) C.1.1 C.1.2.1 dX16_isUsed_35 (by decide) ?_
        exact hb39 v3 1 M L _ _ ls hD hw (lv_sub hl [0, 1, 2] rfl)
      unfold fX16_isUsed_i4 at hD
      refine lv_iload_n C.1.1 C.1.2.1 dX16_isUsed_4 rfl (lv_at hl 3 rfl) ?_
      refine lv_aload_n C.1.1 C.1.2.1 dX16_isUsed_5 rfl (lv_at hl 0 rfl) ?_
      refine mr_getI C hw kc_16 2 (Mp_N0 hk0) (Mp_T0 hk0) wd_2557 dX16_isUsed_6 (by decide) rfl ?_
      refine lv_icmp_gt (tgt := 46) C.1.1 C.1.2.1 dX16_isUsed_9 (by decide) (fun c1 => ?_) (fun c1 => ?_)
      · replace hD := g_pos c1 hD
        refine lv_iload_n C.1.1 C.1.2.1 dX16_isUsed_46 rfl (lv_at hl 2 rfl) ?_
        obtain ⟨z2, hD⟩ := g_zz hD
        exact mr_iret C hr hlocks hw (nz_zz z2) (Option.some.inj hD) dX16_isUsed_47
      · replace hD := g_neg c1 hD
        refine lv_iload_n C.1.1 C.1.2.1 dX16_isUsed_12 rfl (lv_at hl 2 rfl) ?_
        refine lv_if_ne (tgt := 34) C.1.1 C.1.2.1 dX16_isUsed_13 (by decide) (fun c3 => ?_) (fun c3 => ?_)
        · replace hD := g_neg c3 hD
          exact hb34 v3 M L _ _ ls hD hw (lv_sub hl [0, 1, 3] rfl)
        · replace hD := g_pos c3 hD
          refine lv_aload_n C.1.1 C.1.2.1 dX16_isUsed_16 rfl (lv_at hl 0 rfl) ?_
          refine lv_iload_n C.1.1 C.1.2.1 dX16_isUsed_17 rfl (lv_at hl 3 rfl) ?_
          obtain ⟨r6, M4, L5, h1, hD⟩ := g_b3 hD
          refine md_cvI (As := [.int v3]) (rest := []) C hw (tX16_isGroup l G ad fu k v3 M L h1 hk0) kc_16 (Mp_N0 hk0) (Mp_T0 hk0) wd_3417 cwX16_isGroup ⟨Nat.le_of_ble_eq_true rfl, Nat.le_of_ble_eq_true rfl⟩ rfl hl.1 (Nat.le_of_ble_eq_true rfl) dX16_isUsed_18 rfl rfl ⟨Nat.zero_le _, Nat.zero_le _⟩ rfl (fun H locs hw => ?_)
          refine lv_if_eq (tgt := 38) C.1.1 C.1.2.1 dX16_isUsed_21 (by decide) (fun c7 => ?_) (fun c7 => ?_)
          · replace hD := g_pos c7 hD
            exact hb38 v3 M4 L5 _ _ ls hD hw (lv_sub hl [0, 1, 3] rfl)
          · replace hD := g_neg c7 hD
            refine lv_aload_n C.1.1 C.1.2.1 dX16_isUsed_24 rfl (lv_at hl 0 rfl) ?_
            refine mr_getR C hw kc_16 20 (Mp_N0 hk0) (Mp_T0 hk0) (Mp_F0_20 hk0) wd_2575 dX16_isUsed_25 (by decide) rfl ?_
            refine lv_iload_n C.1.1 C.1.2.1 dX16_isUsed_28 rfl (lv_at hl 3 rfl) ?_
            obtain ⟨q8, hD⟩ := g_ck hD
            refine mr_iald C hw (Mp_N16 hk0) (Mp_T16 hk0) q8 dX16_isUsed_29 ?_
            refine lv_iload_n C.1.1 C.1.2.1 dX16_isUsed_30 rfl (lv_at hl 1 rfl) ?_
            refine lv_icmp_ne (tgt := 38) C.1.1 C.1.2.1 dX16_isUsed_31 (by decide) (fun c9 => ?_) (fun c9 => ?_)
            · replace hD := g_neg c9 hD
              exact hb38 v3 M4 L5 _ _ ls hD hw (lv_sub hl [0, 1, 3] rfl)
            · replace hD := g_pos c9 hD
              exact hb34 v3 M4 L5 _ _ ls hD hw (lv_sub hl [0, 1, 3] rfl)
  unfold DX16_isUsed at hD
  refine lv_iconst (v := 0) C.1.1 C.1.2.1 dX16_isUsed_0 (by decide) ?_
  refine lv_istore_n (lv' := [(2, .int 0), (0, .ref (ad k)), (1, .int a1)]) C.1.1 C.1.2.1 dX16_isUsed_1 rfl hl (by decide) rfl (fun ls hl => ?_)
  refine lv_iconst (v := 1) C.1.1 C.1.2.1 dX16_isUsed_2 (by decide) ?_
  refine lv_istore_n (lv' := [(3, .int 1), (2, .int 0), (0, .ref (ad k)), (1, .int a1)]) C.1.1 C.1.2.1 dX16_isUsed_3 rfl hl (by decide) rfl (fun ls hl => ?_)
  exact hh4 fu 0 1 M L _ _ ls hD hw (lv_sub hl [2, 3, 1, 0] rfl)

theorem dX16_hasOther_0 : decode cX16_hasOther 0 = .ok (.iconst 0, 1) := by decide +kernel
theorem dX16_hasOther_1 : decode cX16_hasOther 1 = .ok (.istore_n 3, 1) := by decide +kernel
theorem dX16_hasOther_2 : decode cX16_hasOther 2 = .ok (.iconst 1, 1) := by decide +kernel
theorem dX16_hasOther_3 : decode cX16_hasOther 3 = .ok (.istore 4, 2) := by decide +kernel
theorem dX16_hasOther_5 : decode cX16_hasOther 5 = .ok (.iload 4, 2) := by decide +kernel
theorem dX16_hasOther_7 : decode cX16_hasOther 7 = .ok (.aload_n 0, 1) := by decide +kernel
theorem dX16_hasOther_8 : decode cX16_hasOther 8 = .ok (.getfield 81, 3) := by decide +kernel
theorem dX16_hasOther_11 : decode cX16_hasOther 11 = .ok (.if_icmp .gt 50, 3) := by decide +kernel
theorem dX16_hasOther_14 : decode cX16_hasOther 14 = .ok (.iload_n 3, 1) := by decide +kernel
theorem dX16_hasOther_15 : decode cX16_hasOther 15 = .ok (.ifCond .ne 34, 3) := by decide +kernel
theorem dX16_hasOther_18 : decode cX16_hasOther 18 = .ok (.aload_n 0, 1) := by decide +kernel
theorem dX16_hasOther_19 : decode cX16_hasOther 19 = .ok (.iload 4, 2) := by decide +kernel
theorem dX16_hasOther_21 : decode cX16_hasOther 21 = .ok (.invokevirtual 110, 3) := by decide +kernel
theorem dX16_hasOther_24 : decode cX16_hasOther 24 = .ok (.ifCond .eq 29, 3) := by decide +kernel
theorem dX16_hasOther_27 : decode cX16_hasOther 27 = .ok (.aload_n 0, 1) := by decide +kernel
theorem dX16_hasOther_28 : decode cX16_hasOther 28 = .ok (.getfield 56, 3) := by decide +kernel
theorem dX16_hasOther_31 : decode cX16_hasOther 31 = .ok (.iload 4, 2) := by decide +kernel
theorem dX16_hasOther_33 : decode cX16_hasOther 33 = .ok (.iaload, 1) := by decide +kernel
theorem dX16_hasOther_34 : decode cX16_hasOther 34 = .ok (.iload_n 1, 1) := by decide +kernel
theorem dX16_hasOther_35 : decode cX16_hasOther 35 = .ok (.if_icmp .ne 18, 3) := by decide +kernel
theorem dX16_hasOther_38 : decode cX16_hasOther 38 = .ok (.aload_n 0, 1) := by decide +kernel
theorem dX16_hasOther_39 : decode cX16_hasOther 39 = .ok (.getfield 13, 3) := by decide +kernel
theorem dX16_hasOther_42 : decode cX16_hasOther 42 = .ok (.iload 4, 2) := by decide +kernel
theorem dX16_hasOther_44 : decode cX16_hasOther 44 = .ok (.iaload, 1) := by decide +kernel
theorem dX16_hasOther_45 : decode cX16_hasOther 45 = .ok (.iload_n 2, 1) := by decide +kernel
theorem dX16_hasOther_46 : decode cX16_hasOther 46 = .ok (.if_icmp .eq 7, 3) := by decide +kernel
theorem dX16_hasOther_49 : decode cX16_hasOther 49 = .ok (.iconst 1, 1) := by decide +kernel
theorem dX16_hasOther_50 : decode cX16_hasOther 50 = .ok (.goto 4, 3) := by decide +kernel
theorem dX16_hasOther_53 : decode cX16_hasOther 53 = .ok (.iconst 0, 1) := by decide +kernel
theorem dX16_hasOther_54 : decode cX16_hasOther 54 = .ok (.istore_n 3, 1) := by decide +kernel
theorem dX16_hasOther_55 : decode cX16_hasOther 55 = .ok (.iinc 4 1, 3) := by decide +kernel
theorem dX16_hasOther_58 : decode cX16_hasOther 58 = .ok (.goto (-53), 3) := by decide +kernel
theorem dX16_hasOther_61 : decode cX16_hasOther 61 = .ok (.iload_n 3, 1) := by decide +kernel
theorem dX16_hasOther_62 : decode cX16_hasOther 62 = .ok (.ireturn, 1) := by decide +kernel
theorem cwX16_hasOther : mw_cwV yX16_hasOther cX16_hasOther 5 ((some .boolean)) 2 := ⟨⟨wd_19, wd_3436, by decide +kernel⟩, wd_3435, sl_200⟩
set_option maxHeartbeats 4000000 in
set_option maxRecDepth 100000 in
theorem tX16_hasOther (l : Launch) (G : mwG) (ad : Nat → Nat) (fu : Nat) (k : Nat) (a1 : Int32) (a2 : Int32) (M : mwM) (L : mwL) {r0 : Int32} {M0 : mwM} {L0 : mwL} (hD : DX16_hasOther fu k a1 a2 M L = some (r0, M0, L0)) (hk0 : isMp k) : Met l yX16_hasOther (Cond.code yX16_hasOther cX16_hasOther 5 ((some .boolean)) :: GT) ({ frames := 1, cells := 0, slots := 0, locals := 21 }) (mw_Pre G ad NF TF FF M L [.ref (ad k), .int a1, .int a2]) (mw_Qi G ad NF TF FF (mw_eqI r0 M0 L0)) 0 0 (mw_fr G) := by
  refine mw_enter (by decide) (Nat.le_of_ble_eq_true rfl) ?_
  intro p e s m below meth c ls C hr hlocks hnm hw hl
  have hl : lv_has ls 5 [(0, .ref (ad k)), (1, .int a1), (2, .int a2)] := hl
  have hh5 : ∀ (f : Nat) (v3 : Int32) (v4 : Int32) (M : mwM) (L : mwL) (H : Heap) (locs : List Loc) (ls : Array Slot), fX16_hasOther_h5 fu k a1 a2 f (v3, v4, M, L) = some (r0, M0, L0) → mw_W G ad NF TF FF M L H locs → lv_has ls 5 [(0, .ref (ad k)), (1, .int a1), (2, .int a2), (3, .int v3), (4, .int v4)] → W p l e ({ frames := 1, cells := 0, slots := 0, locals := 21 }) s m [.ref (ad k), .int a1, .int a2].toArray below meth c H locs 0 0 (MQ below (mw_Qi G ad NF TF FF (mw_eqI r0 M0 L0)) [.ref (ad k), .int a1, .int a2].toArray s 0 0 (mw_fr G)) (F0 m 5 ls []) := by
    intro f
    induction f with
    | zero => intro v3 v4 M L H locs ls hD; cases hD
    | succ f5 ih5 =>
      intro v3 v4 M L H locs ls hD hw hl
      replace hD : fX16_hasOther_i5 fu k a1 a2 (fX16_hasOther_h5 fu k a1 a2 f5) v3 v4 M L = some (r0, M0, L0) := hD
      have hb54 : ∀ (v4 : Int32) (s0 : Int32) (M : mwM) (L : mwL) (H : Heap) (locs : List Loc) (ls : Array Slot), fX16_hasOther_b54 fu k a1 a2 (fX16_hasOther_h5 fu k a1 a2 f5) v4 s0 M L = some (r0, M0, L0) → mw_W G ad NF TF FF M L H locs → lv_has ls 5 [(0, .ref (ad k)), (1, .int a1), (2, .int a2), (4, .int v4)] → W p l e ({ frames := 1, cells := 0, slots := 0, locals := 21 }) s m [.ref (ad k), .int a1, .int a2].toArray below meth c H locs 0 0 (MQ below (mw_Qi G ad NF TF FF (mw_eqI r0 M0 L0)) [.ref (ad k), .int a1, .int a2].toArray s 0 0 (mw_fr G)) (F0 m 54 ls [.int s0]) := by
        intro v4 s0 M L H locs ls hD hw hl
        unfold fX16_hasOther_b54 at hD
        refine lv_istore_n (lv' := [(3, .int s0), (0, .ref (ad k)), (1, .int a1), (2, .int a2), (4, .int v4)]) C.1.1 C.1.2.1 dX16_hasOther_54 rfl hl (by decide) rfl (fun ls hl => ?_)
        obtain ⟨x12, ex12, hD⟩ := g_let hD
        refine lv_iinc (v := x12) (lv' := [(4, .int x12), (3, .int s0), (0, .ref (ad k)), (1, .int a1), (2, .int a2)]) C.1.1 C.1.2.1 dX16_hasOther_55 hl (k := 4) rfl (by rw [ex12]; rfl) (by decide) rfl (fun ls hl => ?_)
        refine lv_goto (tgt := 5) C.1.1 C.1.2.1 dX16_hasOther_58 (by decide) ?_
        exact ih5 s0 x12 M L _ _ ls hD hw (lv_sub hl [2, 3, 4, 1, 0] rfl)
      have hb53 : ∀ (v4 : Int32) (M : mwM) (L : mwL) (H : Heap) (locs : List Loc) (ls : Array Slot), fX16_hasOther_b53 fu k a1 a2 (fX16_hasOther_h5 fu k a1 a2 f5) v4 M L = some (r0, M0, L0) → mw_W G ad NF TF FF M L H locs → lv_has ls 5 [(0, .ref (ad k)), (1, .int a1), (2, .int a2), (4, .int v4)] → W p l e ({ frames := 1, cells := 0, slots := 0, locals := 21 }) s m [.ref (ad k), .int a1, .int a2].toArray below meth c H locs 0 0 (MQ below (mw_Qi G ad NF TF FF (mw_eqI r0 M0 L0)) [.ref (ad k), .int a1, .int a2].toArray s 0 0 (mw_fr G)) (F0 m 53 ls []) := by
        intro v4 M L H locs ls hD hw hl
        unfold fX16_hasOther_b53 at hD
        refine lv_iconst (v := 0) C.1.1 C.1.2.1 dX16_hasOther_53 (by decide) ?_
        exact hb54 v4 0 M L _ _ ls hD hw (lv_sub hl [0, 1, 2, 3] rfl)
      have hb49 : ∀ (v4 : Int32) (M : mwM) (L : mwL) (H : Heap) (locs : List Loc) (ls : Array Slot), fX16_hasOther_b49 fu k a1 a2 (fX16_hasOther_h5 fu k a1 a2 f5) v4 M L = some (r0, M0, L0) → mw_W G ad NF TF FF M L H locs → lv_has ls 5 [(0, .ref (ad k)), (1, .int a1), (2, .int a2), (4, .int v4)] → W p l e ({ frames := 1, cells := 0, slots := 0, locals := 21 }) s m [.ref (ad k), .int a1, .int a2].toArray below meth c H locs 0 0 (MQ below (mw_Qi G ad NF TF FF (mw_eqI r0 M0 L0)) [.ref (ad k), .int a1, .int a2].toArray s 0 0 (mw_fr G)) (F0 m 49 ls []) := by
        intro v4 M L H locs ls hD hw hl
        unfold fX16_hasOther_b49 at hD
        refine lv_iconst (v := 1) C.1.1 C.1.2.1 dX16_hasOther_49 (by decide) ?_
        refine lv_goto (tgt := 54) C.1.1 C.1.2.1 dX16_hasOther_50 (by decide) ?_
        exact hb54 v4 1 M L _ _ ls hD hw (lv_sub hl [0, 1, 2, 3] rfl)
      unfold fX16_hasOther_i5 at hD
      refine lv_iload C.1.1 C.1.2.1 dX16_hasOther_5 (lv_at hl 4 rfl) ?_
      refine lv_aload_n C.1.1 C.1.2.1 dX16_hasOther_7 rfl (lv_at hl 0 rfl) ?_
      refine mr_getI C hw kc_16 2 (Mp_N0 hk0) (Mp_T0 hk0) wd_2557 dX16_hasOther_8 (by decide) rfl ?_
      refine lv_icmp_gt (tgt := 61) C.1.1 C.1.2.1 dX16_hasOther_11 (by decide) (fun c1 => ?_) (fun c1 => ?_)
      · replace hD := g_pos c1 hD
        refine lv_iload_n C.1.1 C.1.2.1 dX16_hasOther_61 rfl (lv_at hl 3 rfl) ?_
        obtain ⟨z2, hD⟩ := g_zz hD
        exact mr_iret C hr hlocks hw (nz_zz z2) (Option.some.inj hD) dX16_hasOther_62
      · replace hD := g_neg c1 hD
        refine lv_iload_n C.1.1 C.1.2.1 dX16_hasOther_14 rfl (lv_at hl 3 rfl) ?_
        refine lv_if_ne (tgt := 49) C.1.1 C.1.2.1 dX16_hasOther_15 (by decide) (fun c3 => ?_) (fun c3 => ?_)
        · replace hD := g_neg c3 hD
          exact hb49 v4 M L _ _ ls hD hw (lv_sub hl [0, 1, 2, 4] rfl)
        · replace hD := g_pos c3 hD
          refine lv_aload_n C.1.1 C.1.2.1 dX16_hasOther_18 rfl (lv_at hl 0 rfl) ?_
          refine lv_iload C.1.1 C.1.2.1 dX16_hasOther_19 (lv_at hl 4 rfl) ?_
          obtain ⟨r6, M4, L5, h1, hD⟩ := g_b3 hD
          refine md_cvI (As := [.int v4]) (rest := []) C hw (tX16_isGroup l G ad fu k v4 M L h1 hk0) kc_16 (Mp_N0 hk0) (Mp_T0 hk0) wd_3417 cwX16_isGroup ⟨Nat.le_of_ble_eq_true rfl, Nat.le_of_ble_eq_true rfl⟩ rfl hl.1 (Nat.le_of_ble_eq_true rfl) dX16_hasOther_21 rfl rfl ⟨Nat.zero_le _, Nat.zero_le _⟩ rfl (fun H locs hw => ?_)
          refine lv_if_eq (tgt := 53) C.1.1 C.1.2.1 dX16_hasOther_24 (by decide) (fun c7 => ?_) (fun c7 => ?_)
          · replace hD := g_pos c7 hD
            exact hb53 v4 M4 L5 _ _ ls hD hw (lv_sub hl [0, 1, 2, 4] rfl)
          · replace hD := g_neg c7 hD
            refine lv_aload_n C.1.1 C.1.2.1 dX16_hasOther_27 rfl (lv_at hl 0 rfl) ?_
            refine mr_getR C hw kc_16 20 (Mp_N0 hk0) (Mp_T0 hk0) (Mp_F0_20 hk0) wd_2575 dX16_hasOther_28 (by decide) rfl ?_
            refine lv_iload C.1.1 C.1.2.1 dX16_hasOther_31 (lv_at hl 4 rfl) ?_
            obtain ⟨q8, hD⟩ := g_ck hD
            refine mr_iald C hw (Mp_N16 hk0) (Mp_T16 hk0) q8 dX16_hasOther_33 ?_
            refine lv_iload_n C.1.1 C.1.2.1 dX16_hasOther_34 rfl (lv_at hl 1 rfl) ?_
            refine lv_icmp_ne (tgt := 53) C.1.1 C.1.2.1 dX16_hasOther_35 (by decide) (fun c9 => ?_) (fun c9 => ?_)
            · replace hD := g_neg c9 hD
              exact hb53 v4 M4 L5 _ _ ls hD hw (lv_sub hl [0, 1, 2, 4] rfl)
            · replace hD := g_pos c9 hD
              refine lv_aload_n C.1.1 C.1.2.1 dX16_hasOther_38 rfl (lv_at hl 0 rfl) ?_
              refine mr_getR C hw kc_16 4 (Mp_N0 hk0) (Mp_T0 hk0) (Mp_F0_4 hk0) wd_2559 dX16_hasOther_39 (by decide) rfl ?_
              refine lv_iload C.1.1 C.1.2.1 dX16_hasOther_42 (lv_at hl 4 rfl) ?_
              obtain ⟨q10, hD⟩ := g_ck hD
              refine mr_iald C hw (Mp_N2 hk0) (Mp_T2 hk0) q10 dX16_hasOther_44 ?_
              refine lv_iload_n C.1.1 C.1.2.1 dX16_hasOther_45 rfl (lv_at hl 2 rfl) ?_
              refine lv_icmp_eq (tgt := 53) C.1.1 C.1.2.1 dX16_hasOther_46 (by decide) (fun c11 => ?_) (fun c11 => ?_)
              · replace hD := g_pos c11 hD
                exact hb53 v4 M4 L5 _ _ ls hD hw (lv_sub hl [0, 1, 2, 4] rfl)
              · replace hD := g_neg c11 hD
                exact hb49 v4 M4 L5 _ _ ls hD hw (lv_sub hl [0, 1, 2, 4] rfl)
  unfold DX16_hasOther at hD
  refine lv_iconst (v := 0) C.1.1 C.1.2.1 dX16_hasOther_0 (by decide) ?_
  refine lv_istore_n (lv' := [(3, .int 0), (0, .ref (ad k)), (1, .int a1), (2, .int a2)]) C.1.1 C.1.2.1 dX16_hasOther_1 rfl hl (by decide) rfl (fun ls hl => ?_)
  refine lv_iconst (v := 1) C.1.1 C.1.2.1 dX16_hasOther_2 (by decide) ?_
  refine lv_istore (lv' := [(4, .int 1), (3, .int 0), (0, .ref (ad k)), (1, .int a1), (2, .int a2)]) C.1.1 C.1.2.1 dX16_hasOther_3 hl (by decide) rfl (fun ls hl => ?_)
  exact hh5 fu 0 1 M L _ _ ls hD hw (lv_sub hl [2, 3, 4, 1, 0] rfl)

theorem dX16_newFrame_0 : decode cX16_newFrame 0 = .ok (.iconst 1, 1) := by decide +kernel
theorem dX16_newFrame_1 : decode cX16_newFrame 1 = .ok (.istore_n 1, 1) := by decide +kernel
theorem dX16_newFrame_2 : decode cX16_newFrame 2 = .ok (.iload_n 1, 1) := by decide +kernel
theorem dX16_newFrame_3 : decode cX16_newFrame 3 = .ok (.bipush 65, 2) := by decide +kernel
theorem dX16_newFrame_5 : decode cX16_newFrame 5 = .ok (.if_icmp .ge 17, 3) := by decide +kernel
theorem dX16_newFrame_8 : decode cX16_newFrame 8 = .ok (.aload_n 0, 1) := by decide +kernel
theorem dX16_newFrame_9 : decode cX16_newFrame 9 = .ok (.iload_n 1, 1) := by decide +kernel
theorem dX16_newFrame_10 : decode cX16_newFrame 10 = .ok (.invokevirtual 117, 3) := by decide +kernel
theorem dX16_newFrame_13 : decode cX16_newFrame 13 = .ok (.ifCond .eq 9, 3) := by decide +kernel
theorem dX16_newFrame_16 : decode cX16_newFrame 16 = .ok (.iinc 1 1, 3) := by decide +kernel
theorem dX16_newFrame_19 : decode cX16_newFrame 19 = .ok (.goto (-17), 3) := by decide +kernel
theorem dX16_newFrame_22 : decode cX16_newFrame 22 = .ok (.iload_n 1, 1) := by decide +kernel
theorem dX16_newFrame_23 : decode cX16_newFrame 23 = .ok (.ireturn, 1) := by decide +kernel
theorem cwX16_newFrame : mw_cwV yX16_newFrame cX16_newFrame 2 ((some .int)) 0 := ⟨⟨wd_19, wd_3465, by decide +kernel⟩, wd_3464, sl_207⟩
set_option maxHeartbeats 4000000 in
set_option maxRecDepth 100000 in
theorem tX16_newFrame (l : Launch) (G : mwG) (ad : Nat → Nat) (fu : Nat) (k : Nat) (M : mwM) (L : mwL) {r0 : Int32} {M0 : mwM} {L0 : mwL} (hD : DX16_newFrame fu k M L = some (r0, M0, L0)) (hk0 : isMp k) : Met l yX16_newFrame (Cond.code yX16_newFrame cX16_newFrame 2 ((some .int)) :: GT) ({ frames := 2, cells := 0, slots := 0, locals := 44 }) (mw_Pre G ad NF TF FF M L [.ref (ad k)]) (mw_Qi G ad NF TF FF (mw_eqI r0 M0 L0)) 0 0 (mw_fr G) := by
  refine mw_enter (by decide) (Nat.le_of_ble_eq_true rfl) ?_
  intro p e s m below meth c ls C hr hlocks hnm hw hl
  have hl : lv_has ls 2 [(0, .ref (ad k))] := hl
  have hb22 : ∀ (v1 : Int32) (M : mwM) (L : mwL) (H : Heap) (locs : List Loc) (ls : Array Slot), fX16_newFrame_b22 fu k v1 M L = some (r0, M0, L0) → mw_W G ad NF TF FF M L H locs → lv_has ls 2 [(1, .int v1)] → W p l e ({ frames := 2, cells := 0, slots := 0, locals := 44 }) s m [.ref (ad k)].toArray below meth c H locs 0 0 (MQ below (mw_Qi G ad NF TF FF (mw_eqI r0 M0 L0)) [.ref (ad k)].toArray s 0 0 (mw_fr G)) (F0 m 22 ls []) := by
    intro v1 M L H locs ls hD hw hl
    unfold fX16_newFrame_b22 at hD
    refine lv_iload_n C.1.1 C.1.2.1 dX16_newFrame_22 rfl (lv_at hl 0 rfl) ?_
    exact mr_iret C hr hlocks hw rfl (Option.some.inj hD) dX16_newFrame_23
  have hh2 : ∀ (f : Nat) (v1 : Int32) (M : mwM) (L : mwL) (H : Heap) (locs : List Loc) (ls : Array Slot), fX16_newFrame_h2 fu k f (v1, M, L) = some (r0, M0, L0) → mw_W G ad NF TF FF M L H locs → lv_has ls 2 [(0, .ref (ad k)), (1, .int v1)] → W p l e ({ frames := 2, cells := 0, slots := 0, locals := 44 }) s m [.ref (ad k)].toArray below meth c H locs 0 0 (MQ below (mw_Qi G ad NF TF FF (mw_eqI r0 M0 L0)) [.ref (ad k)].toArray s 0 0 (mw_fr G)) (F0 m 2 ls []) := by
    intro f
    induction f with
    | zero => intro v1 M L H locs ls hD; cases hD
    | succ f2 ih2 =>
      intro v1 M L H locs ls hD hw hl
      replace hD : fX16_newFrame_i2 fu k (fX16_newFrame_h2 fu k f2) v1 M L = some (r0, M0, L0) := hD
      unfold fX16_newFrame_i2 at hD
      refine lv_iload_n C.1.1 C.1.2.1 dX16_newFrame_2 rfl (lv_at hl 1 rfl) ?_
      refine lv_bipush (v := 65) C.1.1 C.1.2.1 dX16_newFrame_3 (by decide) ?_
      refine lv_icmp_ge (tgt := 22) C.1.1 C.1.2.1 dX16_newFrame_5 (by decide) (fun c1 => ?_) (fun c1 => ?_)
      · replace hD := g_pos c1 hD
        exact hb22 v1 M L _ _ ls hD hw (lv_sub hl [1] rfl)
      · replace hD := g_neg c1 hD
        refine lv_aload_n C.1.1 C.1.2.1 dX16_newFrame_8 rfl (lv_at hl 0 rfl) ?_
        refine lv_iload_n C.1.1 C.1.2.1 dX16_newFrame_9 rfl (lv_at hl 1 rfl) ?_
        obtain ⟨r4, M2, L3, h1, hD⟩ := g_b3 hD
        refine md_cvI (As := [.int v1]) (rest := []) C hw (tX16_isUsed l G ad fu k v1 M L h1 hk0) kc_16 (Mp_N0 hk0) (Mp_T0 hk0) wd_3450 cwX16_isUsed ⟨Nat.le_of_ble_eq_true rfl, Nat.le_of_ble_eq_true rfl⟩ rfl hl.1 (Nat.le_of_ble_eq_true rfl) dX16_newFrame_10 rfl rfl ⟨Nat.zero_le _, Nat.zero_le _⟩ rfl (fun H locs hw => ?_)
        refine lv_if_eq (tgt := 22) C.1.1 C.1.2.1 dX16_newFrame_13 (by decide) (fun c5 => ?_) (fun c5 => ?_)
        · replace hD := g_pos c5 hD
          exact hb22 v1 M2 L3 _ _ ls hD hw (lv_sub hl [1] rfl)
        · replace hD := g_neg c5 hD
          obtain ⟨x6, ex6, hD⟩ := g_let hD
          refine lv_iinc (v := x6) (lv' := [(1, .int x6), (0, .ref (ad k))]) C.1.1 C.1.2.1 dX16_newFrame_16 hl (k := 1) rfl (by rw [ex6]; rfl) (by decide) rfl (fun ls hl => ?_)
          refine lv_goto (tgt := 2) C.1.1 C.1.2.1 dX16_newFrame_19 (by decide) ?_
          exact ih2 x6 M2 L3 _ _ ls hD hw (lv_sub hl [1, 0] rfl)
  unfold DX16_newFrame at hD
  refine lv_iconst (v := 1) C.1.1 C.1.2.1 dX16_newFrame_0 (by decide) ?_
  refine lv_istore_n (lv' := [(1, .int 1), (0, .ref (ad k))]) C.1.1 C.1.2.1 dX16_newFrame_1 rfl hl (by decide) rfl (fun ls hl => ?_)
  exact hh2 fu 1 M L _ _ ls hD hw (lv_sub hl [1, 0] rfl)

theorem dX16_search_0 : decode cX16_search 0 = .ok (.iconst 0, 1) := by decide +kernel
theorem dX16_search_1 : decode cX16_search 1 = .ok (.istore 4, 2) := by decide +kernel
theorem dX16_search_3 : decode cX16_search 3 = .ok (.iload_n 2, 1) := by decide +kernel
theorem dX16_search_4 : decode cX16_search 4 = .ok (.istore 5, 2) := by decide +kernel
theorem dX16_search_6 : decode cX16_search 6 = .ok (.aload_n 0, 1) := by decide +kernel
theorem dX16_search_7 : decode cX16_search 7 = .ok (.getfield 68, 3) := by decide +kernel
theorem dX16_search_10 : decode cX16_search 10 = .ok (.iconst 0, 1) := by decide +kernel
theorem dX16_search_11 : decode cX16_search 11 = .ok (.iconst (-1), 1) := by decide +kernel
theorem dX16_search_12 : decode cX16_search 12 = .ok (.iastore, 1) := by decide +kernel
theorem dX16_search_13 : decode cX16_search 13 = .ok (.iload 4, 2) := by decide +kernel
theorem dX16_search_15 : decode cX16_search 15 = .ok (.ifCond .lt 263, 3) := by decide +kernel
theorem dX16_search_18 : decode cX16_search 18 = .ok (.iload 4, 2) := by decide +kernel
theorem dX16_search_20 : decode cX16_search 20 = .ok (.iload_n 1, 1) := by decide +kernel
theorem dX16_search_21 : decode cX16_search 21 = .ok (.if_icmp .ge 257, 3) := by decide +kernel
theorem dX16_search_24 : decode cX16_search 24 = .ok (.aload_n 0, 1) := by decide +kernel
theorem dX16_search_25 : decode cX16_search 25 = .ok (.getfield 62, 3) := by decide +kernel
theorem dX16_search_28 : decode cX16_search 28 = .ok (.iload 4, 2) := by decide +kernel
theorem dX16_search_30 : decode cX16_search 30 = .ok (.iaload, 1) := by decide +kernel
theorem dX16_search_31 : decode cX16_search 31 = .ok (.istore 6, 2) := by decide +kernel
theorem dX16_search_33 : decode cX16_search 33 = .ok (.aload_n 0, 1) := by decide +kernel
theorem dX16_search_34 : decode cX16_search 34 = .ok (.getfield 56, 3) := by decide +kernel
theorem dX16_search_37 : decode cX16_search 37 = .ok (.iload 6, 2) := by decide +kernel
theorem dX16_search_39 : decode cX16_search 39 = .ok (.iaload, 1) := by decide +kernel
theorem dX16_search_40 : decode cX16_search 40 = .ok (.ifCond .le 57, 3) := by decide +kernel
theorem dX16_search_43 : decode cX16_search 43 = .ok (.aload_n 0, 1) := by decide +kernel
theorem dX16_search_44 : decode cX16_search 44 = .ok (.getfield 68, 3) := by decide +kernel
theorem dX16_search_47 : decode cX16_search 47 = .ok (.iload 4, 2) := by decide +kernel
theorem dX16_search_49 : decode cX16_search 49 = .ok (.iaload, 1) := by decide +kernel
theorem dX16_search_50 : decode cX16_search 50 = .ok (.iload 5, 2) := by decide +kernel
theorem dX16_search_52 : decode cX16_search 52 = .ok (.iconst 1, 1) := by decide +kernel
theorem dX16_search_53 : decode cX16_search 53 = .ok (.isub, 1) := by decide +kernel
theorem dX16_search_54 : decode cX16_search 54 = .ok (.if_icmp .ne 31, 3) := by decide +kernel
theorem dX16_search_57 : decode cX16_search 57 = .ok (.aload_n 0, 1) := by decide +kernel
theorem dX16_search_58 : decode cX16_search 58 = .ok (.getfield 68, 3) := by decide +kernel
theorem dX16_search_61 : decode cX16_search 61 = .ok (.iload 4, 2) := by decide +kernel
theorem dX16_search_63 : decode cX16_search 63 = .ok (.iaload, 1) := by decide +kernel
theorem dX16_search_64 : decode cX16_search 64 = .ok (.iload_n 2, 1) := by decide +kernel
theorem dX16_search_65 : decode cX16_search 65 = .ok (.if_icmp .lt 20, 3) := by decide +kernel
theorem dX16_search_68 : decode cX16_search 68 = .ok (.aload_n 0, 1) := by decide +kernel
theorem dX16_search_69 : decode cX16_search 69 = .ok (.getfield 71, 3) := by decide +kernel
theorem dX16_search_72 : decode cX16_search 72 = .ok (.iload 4, 2) := by decide +kernel
theorem dX16_search_74 : decode cX16_search 74 = .ok (.baload, 1) := by decide +kernel
theorem dX16_search_75 : decode cX16_search 75 = .ok (.ifCond .eq 10, 3) := by decide +kernel
theorem dX16_search_78 : decode cX16_search 78 = .ok (.iload 5, 2) := by decide +kernel
theorem dX16_search_80 : decode cX16_search 80 = .ok (.iconst 1, 1) := by decide +kernel
theorem dX16_search_81 : decode cX16_search 81 = .ok (.isub, 1) := by decide +kernel
theorem dX16_search_82 : decode cX16_search 82 = .ok (.goto 5, 3) := by decide +kernel
theorem dX16_search_85 : decode cX16_search 85 = .ok (.iload 5, 2) := by decide +kernel
theorem dX16_search_87 : decode cX16_search 87 = .ok (.istore 5, 2) := by decide +kernel
theorem dX16_search_89 : decode cX16_search 89 = .ok (.aload_n 0, 1) := by decide +kernel
theorem dX16_search_90 : decode cX16_search 90 = .ok (.getfield 56, 3) := by decide +kernel
theorem dX16_search_93 : decode cX16_search 93 = .ok (.iload 6, 2) := by decide +kernel
theorem dX16_search_95 : decode cX16_search 95 = .ok (.iconst 0, 1) := by decide +kernel
theorem dX16_search_96 : decode cX16_search 96 = .ok (.iastore, 1) := by decide +kernel
theorem dX16_search_97 : decode cX16_search 97 = .ok (.aload_n 0, 1) := by decide +kernel
theorem dX16_search_98 : decode cX16_search 98 = .ok (.getfield 71, 3) := by decide +kernel
theorem dX16_search_101 : decode cX16_search 101 = .ok (.iload 4, 2) := by decide +kernel
theorem dX16_search_103 : decode cX16_search 103 = .ok (.iconst 0, 1) := by decide +kernel
theorem dX16_search_104 : decode cX16_search 104 = .ok (.bastore, 1) := by decide +kernel
theorem dX16_search_105 : decode cX16_search 105 = .ok (.aload_n 0, 1) := by decide +kernel
theorem dX16_search_106 : decode cX16_search 106 = .ok (.getfield 68, 3) := by decide +kernel
theorem dX16_search_109 : decode cX16_search 109 = .ok (.iload 4, 2) := by decide +kernel
theorem dX16_search_111 : decode cX16_search 111 = .ok (.dup2, 1) := by decide +kernel
theorem dX16_search_112 : decode cX16_search 112 = .ok (.iaload, 1) := by decide +kernel
theorem dX16_search_113 : decode cX16_search 113 = .ok (.iconst 1, 1) := by decide +kernel
theorem dX16_search_114 : decode cX16_search 114 = .ok (.iadd, 1) := by decide +kernel
theorem dX16_search_115 : decode cX16_search 115 = .ok (.iastore, 1) := by decide +kernel
theorem dX16_search_116 : decode cX16_search 116 = .ok (.aload_n 0, 1) := by decide +kernel
theorem dX16_search_117 : decode cX16_search 117 = .ok (.getfield 68, 3) := by decide +kernel
theorem dX16_search_120 : decode cX16_search 120 = .ok (.iload 4, 2) := by decide +kernel
theorem dX16_search_122 : decode cX16_search 122 = .ok (.iaload, 1) := by decide +kernel
theorem dX16_search_123 : decode cX16_search 123 = .ok (.istore 7, 2) := by decide +kernel
theorem dX16_search_125 : decode cX16_search 125 = .ok (.iload 7, 2) := by decide +kernel
theorem dX16_search_127 : decode cX16_search 127 = .ok (.iload 5, 2) := by decide +kernel
theorem dX16_search_129 : decode cX16_search 129 = .ok (.if_icmp .gt 27, 3) := by decide +kernel
theorem dX16_search_132 : decode cX16_search 132 = .ok (.iload 7, 2) := by decide +kernel
theorem dX16_search_134 : decode cX16_search 134 = .ok (.iload 5, 2) := by decide +kernel
theorem dX16_search_136 : decode cX16_search 136 = .ok (.if_icmp .ne 26, 3) := by decide +kernel
theorem dX16_search_139 : decode cX16_search 139 = .ok (.iload 5, 2) := by decide +kernel
theorem dX16_search_141 : decode cX16_search 141 = .ok (.iload_n 2, 1) := by decide +kernel
theorem dX16_search_142 : decode cX16_search 142 = .ok (.isub, 1) := by decide +kernel
theorem dX16_search_143 : decode cX16_search 143 = .ok (.iload_n 3, 1) := by decide +kernel
theorem dX16_search_144 : decode cX16_search 144 = .ok (.if_icmp .eq 12, 3) := by decide +kernel
theorem dX16_search_147 : decode cX16_search 147 = .ok (.aload_n 0, 1) := by decide +kernel
theorem dX16_search_148 : decode cX16_search 148 = .ok (.invokevirtual 120, 3) := by decide +kernel
theorem dX16_search_151 : decode cX16_search 151 = .ok (.bipush 65, 2) := by decide +kernel
theorem dX16_search_153 : decode cX16_search 153 = .ok (.if_icmp .ne 9, 3) := by decide +kernel
theorem dX16_search_156 : decode cX16_search 156 = .ok (.iinc 4 (-1), 3) := by decide +kernel
theorem dX16_search_159 : decode cX16_search 159 = .ok (.goto (-146), 3) := by decide +kernel
theorem dX16_search_162 : decode cX16_search 162 = .ok (.iload 7, 2) := by decide +kernel
theorem dX16_search_164 : decode cX16_search 164 = .ok (.iload 5, 2) := by decide +kernel
theorem dX16_search_166 : decode cX16_search 166 = .ok (.if_icmp .ne 10, 3) := by decide +kernel
theorem dX16_search_169 : decode cX16_search 169 = .ok (.aload_n 0, 1) := by decide +kernel
theorem dX16_search_170 : decode cX16_search 170 = .ok (.invokevirtual 120, 3) := by decide +kernel
theorem dX16_search_173 : decode cX16_search 173 = .ok (.goto 10, 3) := by decide +kernel
theorem dX16_search_176 : decode cX16_search 176 = .ok (.aload_n 0, 1) := by decide +kernel
theorem dX16_search_177 : decode cX16_search 177 = .ok (.getfield 65, 3) := by decide +kernel
theorem dX16_search_180 : decode cX16_search 180 = .ok (.iload 7, 2) := by decide +kernel
theorem dX16_search_182 : decode cX16_search 182 = .ok (.iaload, 1) := by decide +kernel
theorem dX16_search_183 : decode cX16_search 183 = .ok (.istore 8, 2) := by decide +kernel
theorem dX16_search_185 : decode cX16_search 185 = .ok (.iload 7, 2) := by decide +kernel
theorem dX16_search_187 : decode cX16_search 187 = .ok (.iload 5, 2) := by decide +kernel
theorem dX16_search_189 : decode cX16_search 189 = .ok (.if_icmp .ne 7, 3) := by decide +kernel
theorem dX16_search_192 : decode cX16_search 192 = .ok (.iconst 0, 1) := by decide +kernel
theorem dX16_search_193 : decode cX16_search 193 = .ok (.goto 16, 3) := by decide +kernel
theorem dX16_search_196 : decode cX16_search 196 = .ok (.aload_n 0, 1) := by decide +kernel
theorem dX16_search_197 : decode cX16_search 197 = .ok (.iload 8, 2) := by decide +kernel
theorem dX16_search_199 : decode cX16_search 199 = .ok (.aload_n 0, 1) := by decide +kernel
theorem dX16_search_200 : decode cX16_search 200 = .ok (.getfield 74, 3) := by decide +kernel
theorem dX16_search_203 : decode cX16_search 203 = .ok (.iload 6, 2) := by decide +kernel
theorem dX16_search_205 : decode cX16_search 205 = .ok (.iaload, 1) := by decide +kernel
theorem dX16_search_206 : decode cX16_search 206 = .ok (.invokevirtual 124, 3) := by decide +kernel
theorem dX16_search_209 : decode cX16_search 209 = .ok (.istore 9, 2) := by decide +kernel
theorem dX16_search_211 : decode cX16_search 211 = .ok (.iload 9, 2) := by decide +kernel
theorem dX16_search_213 : decode cX16_search 213 = .ok (.ifCond .ge 6, 3) := by decide +kernel
theorem dX16_search_216 : decode cX16_search 216 = .ok (.goto (-203), 3) := by decide +kernel
theorem dX16_search_219 : decode cX16_search 219 = .ok (.iload 7, 2) := by decide +kernel
theorem dX16_search_221 : decode cX16_search 221 = .ok (.iload 5, 2) := by decide +kernel
theorem dX16_search_223 : decode cX16_search 223 = .ok (.if_icmp .ne 23, 3) := by decide +kernel
theorem dX16_search_226 : decode cX16_search 226 = .ok (.aload_n 0, 1) := by decide +kernel
theorem dX16_search_227 : decode cX16_search 227 = .ok (.getfield 65, 3) := by decide +kernel
theorem dX16_search_230 : decode cX16_search 230 = .ok (.iload 5, 2) := by decide +kernel
theorem dX16_search_232 : decode cX16_search 232 = .ok (.iload 8, 2) := by decide +kernel
theorem dX16_search_234 : decode cX16_search 234 = .ok (.iastore, 1) := by decide +kernel
theorem dX16_search_235 : decode cX16_search 235 = .ok (.iinc 5 1, 3) := by decide +kernel
theorem dX16_search_238 : decode cX16_search 238 = .ok (.aload_n 0, 1) := by decide +kernel
theorem dX16_search_239 : decode cX16_search 239 = .ok (.getfield 71, 3) := by decide +kernel
theorem dX16_search_242 : decode cX16_search 242 = .ok (.iload 4, 2) := by decide +kernel
theorem dX16_search_244 : decode cX16_search 244 = .ok (.iconst 1, 1) := by decide +kernel
theorem dX16_search_245 : decode cX16_search 245 = .ok (.bastore, 1) := by decide +kernel
theorem dX16_search_246 : decode cX16_search 246 = .ok (.aload_n 0, 1) := by decide +kernel
theorem dX16_search_247 : decode cX16_search 247 = .ok (.getfield 56, 3) := by decide +kernel
theorem dX16_search_250 : decode cX16_search 250 = .ok (.iload 6, 2) := by decide +kernel
theorem dX16_search_252 : decode cX16_search 252 = .ok (.iload 8, 2) := by decide +kernel
theorem dX16_search_254 : decode cX16_search 254 = .ok (.iastore, 1) := by decide +kernel
theorem dX16_search_255 : decode cX16_search 255 = .ok (.aload_n 0, 1) := by decide +kernel
theorem dX16_search_256 : decode cX16_search 256 = .ok (.getfield 59, 3) := by decide +kernel
theorem dX16_search_259 : decode cX16_search 259 = .ok (.iload 6, 2) := by decide +kernel
theorem dX16_search_261 : decode cX16_search 261 = .ok (.iload 9, 2) := by decide +kernel
theorem dX16_search_263 : decode cX16_search 263 = .ok (.iastore, 1) := by decide +kernel
theorem dX16_search_264 : decode cX16_search 264 = .ok (.iinc 4 1, 3) := by decide +kernel
theorem dX16_search_267 : decode cX16_search 267 = .ok (.aload_n 0, 1) := by decide +kernel
theorem dX16_search_268 : decode cX16_search 268 = .ok (.getfield 68, 3) := by decide +kernel
theorem dX16_search_271 : decode cX16_search 271 = .ok (.iload 4, 2) := by decide +kernel
theorem dX16_search_273 : decode cX16_search 273 = .ok (.iconst (-1), 1) := by decide +kernel
theorem dX16_search_274 : decode cX16_search 274 = .ok (.iastore, 1) := by decide +kernel
theorem dX16_search_275 : decode cX16_search 275 = .ok (.goto (-262), 3) := by decide +kernel
theorem dX16_search_278 : decode cX16_search 278 = .ok (.iload 4, 2) := by decide +kernel
theorem dX16_search_280 : decode cX16_search 280 = .ok (.iload_n 1, 1) := by decide +kernel
theorem dX16_search_281 : decode cX16_search 281 = .ok (.if_icmp .ne 7, 3) := by decide +kernel
theorem dX16_search_284 : decode cX16_search 284 = .ok (.iconst 1, 1) := by decide +kernel
theorem dX16_search_285 : decode cX16_search 285 = .ok (.goto 4, 3) := by decide +kernel
theorem dX16_search_288 : decode cX16_search 288 = .ok (.iconst 0, 1) := by decide +kernel
theorem dX16_search_289 : decode cX16_search 289 = .ok (.ireturn, 1) := by decide +kernel
theorem cwX16_search : mw_cwV yX16_search cX16_search 10 ((some .boolean)) 3 := ⟨⟨wd_19, wd_3469, by decide +kernel⟩, wd_3468, sl_208⟩
set_option maxHeartbeats 4000000 in
set_option maxRecDepth 100000 in
theorem tX16_search (l : Launch) (G : mwG) (ad : Nat → Nat) (fu : Nat) (k : Nat) (a1 : Int32) (a2 : Int32) (a3 : Int32) (M : mwM) (L : mwL) {r0 : Int32} {M0 : mwM} {L0 : mwL} (hD : DX16_search fu k a1 a2 a3 M L = some (r0, M0, L0)) (hk0 : isMp k) : Met l yX16_search (Cond.code yX16_search cX16_search 10 ((some .boolean)) :: GT) ({ frames := 3, cells := 0, slots := 0, locals := 71 }) (mw_Pre G ad NF TF FF M L [.ref (ad k), .int a1, .int a2, .int a3]) (mw_Qi G ad NF TF FF (mw_eqI r0 M0 L0)) 0 0 (mw_fr G) := by
  refine mw_enter (by decide) (Nat.le_of_ble_eq_true rfl) ?_
  intro p e s m below meth c ls C hr hlocks hnm hw hl
  have hl : lv_has ls 10 [(0, .ref (ad k)), (1, .int a1), (2, .int a2), (3, .int a3)] := hl
  have hb289 : ∀ (s0 : Int32) (M : mwM) (L : mwL) (H : Heap) (locs : List Loc) (ls : Array Slot), fX16_search_b289 fu k a1 a2 a3 s0 M L = some (r0, M0, L0) → mw_W G ad NF TF FF M L H locs → lv_has ls 10 [] → W p l e ({ frames := 3, cells := 0, slots := 0, locals := 71 }) s m [.ref (ad k), .int a1, .int a2, .int a3].toArray below meth c H locs 0 0 (MQ below (mw_Qi G ad NF TF FF (mw_eqI r0 M0 L0)) [.ref (ad k), .int a1, .int a2, .int a3].toArray s 0 0 (mw_fr G)) (F0 m 289 ls [.int s0]) := by
    intro s0 M L H locs ls hD hw hl
    unfold fX16_search_b289 at hD
    obtain ⟨z55, hD⟩ := g_zz hD
    exact mr_iret C hr hlocks hw (nz_zz z55) (Option.some.inj hD) dX16_search_289
  have hb278 : ∀ (v4 : Int32) (M : mwM) (L : mwL) (H : Heap) (locs : List Loc) (ls : Array Slot), fX16_search_b278 fu k a1 a2 a3 v4 M L = some (r0, M0, L0) → mw_W G ad NF TF FF M L H locs → lv_has ls 10 [(1, .int a1), (4, .int v4)] → W p l e ({ frames := 3, cells := 0, slots := 0, locals := 71 }) s m [.ref (ad k), .int a1, .int a2, .int a3].toArray below meth c H locs 0 0 (MQ below (mw_Qi G ad NF TF FF (mw_eqI r0 M0 L0)) [.ref (ad k), .int a1, .int a2, .int a3].toArray s 0 0 (mw_fr G)) (F0 m 278 ls []) := by
    intro v4 M L H locs ls hD hw hl
    unfold fX16_search_b278 at hD
    refine lv_iload C.1.1 C.1.2.1 dX16_search_278 (lv_at hl 1 rfl) ?_
    refine lv_iload_n C.1.1 C.1.2.1 dX16_search_280 rfl (lv_at hl 0 rfl) ?_
    refine lv_icmp_ne (tgt := 288) C.1.1 C.1.2.1 dX16_search_281 (by decide) (fun c54 => ?_) (fun c54 => ?_)
    · replace hD := g_neg c54 hD
      refine lv_iconst (v := 0) C.1.1 C.1.2.1 dX16_search_288 (by decide) ?_
      exact hb289 0 M L _ _ ls hD hw (lv_sub hl [] rfl)
    · replace hD := g_pos c54 hD
      refine lv_iconst (v := 1) C.1.1 C.1.2.1 dX16_search_284 (by decide) ?_
      refine lv_goto (tgt := 289) C.1.1 C.1.2.1 dX16_search_285 (by decide) ?_
      exact hb289 1 M L _ _ ls hD hw (lv_sub hl [] rfl)
  have hh13 : ∀ (f : Nat) (v4 : Int32) (v5 : Int32) (M : mwM) (L : mwL) (H : Heap) (locs : List Loc) (ls : Array Slot), fX16_search_h13 fu k a1 a2 a3 f (v4, v5, M, L) = some (r0, M0, L0) → mw_W G ad NF TF FF M L H locs → lv_has ls 10 [(0, .ref (ad k)), (1, .int a1), (2, .int a2), (3, .int a3), (4, .int v4), (5, .int v5)] → W p l e ({ frames := 3, cells := 0, slots := 0, locals := 71 }) s m [.ref (ad k), .int a1, .int a2, .int a3].toArray below meth c H locs 0 0 (MQ below (mw_Qi G ad NF TF FF (mw_eqI r0 M0 L0)) [.ref (ad k), .int a1, .int a2, .int a3].toArray s 0 0 (mw_fr G)) (F0 m 13 ls []) := by
    intro f
    induction f with
    | zero => intro v4 v5 M L H locs ls hD; cases hD
    | succ f13 ih13 =>
      intro v4 v5 M L H locs ls hD hw hl
      replace hD : fX16_search_i13 fu k a1 a2 a3 (fX16_search_h13 fu k a1 a2 a3 f13) v4 v5 M L = some (r0, M0, L0) := hD
      have hb156 : ∀ (v4 : Int32) (v5 : Int32) (M : mwM) (L : mwL) (H : Heap) (locs : List Loc) (ls : Array Slot), fX16_search_b156 fu k a1 a2 a3 (fX16_search_h13 fu k a1 a2 a3 f13) v4 v5 M L = some (r0, M0, L0) → mw_W G ad NF TF FF M L H locs → lv_has ls 10 [(0, .ref (ad k)), (1, .int a1), (2, .int a2), (3, .int a3), (4, .int v4), (5, .int v5)] → W p l e ({ frames := 3, cells := 0, slots := 0, locals := 71 }) s m [.ref (ad k), .int a1, .int a2, .int a3].toArray below meth c H locs 0 0 (MQ below (mw_Qi G ad NF TF FF (mw_eqI r0 M0 L0)) [.ref (ad k), .int a1, .int a2, .int a3].toArray s 0 0 (mw_fr G)) (F0 m 156 ls []) := by
        intro v4 v5 M L H locs ls hD hw hl
        unfold fX16_search_b156 at hD
        obtain ⟨x29, ex29, hD⟩ := g_let hD
        refine lv_iinc (v := x29) (lv' := [(4, .int x29), (0, .ref (ad k)), (1, .int a1), (2, .int a2), (3, .int a3), (5, .int v5)]) C.1.1 C.1.2.1 dX16_search_156 hl (k := 4) rfl (by rw [ex29]; rfl) (by decide) rfl (fun ls hl => ?_)
        refine lv_goto (tgt := 13) C.1.1 C.1.2.1 dX16_search_159 (by decide) ?_
        exact ih13 x29 v5 M L _ _ ls hD hw (lv_sub hl [1, 2, 3, 4, 0, 5] rfl)
      have hb246 : ∀ (v4 : Int32) (v5 : Int32) (v6 : Int32) (v8 : Int32) (v9 : Int32) (M : mwM) (L : mwL) (H : Heap) (locs : List Loc) (ls : Array Slot), fX16_search_b246 fu k a1 a2 a3 (fX16_search_h13 fu k a1 a2 a3 f13) v4 v5 v6 v8 v9 M L = some (r0, M0, L0) → mw_W G ad NF TF FF M L H locs → lv_has ls 10 [(0, .ref (ad k)), (1, .int a1), (2, .int a2), (3, .int a3), (4, .int v4), (5, .int v5), (6, .int v6), (8, .int v8), (9, .int v9)] → W p l e ({ frames := 3, cells := 0, slots := 0, locals := 71 }) s m [.ref (ad k), .int a1, .int a2, .int a3].toArray below meth c H locs 0 0 (MQ below (mw_Qi G ad NF TF FF (mw_eqI r0 M0 L0)) [.ref (ad k), .int a1, .int a2, .int a3].toArray s 0 0 (mw_fr G)) (F0 m 246 ls []) := by
        intro v4 v5 v6 v8 v9 M L H locs ls hD hw hl
        unfold fX16_search_b246 at hD
        refine lv_aload_n C.1.1 C.1.2.1 dX16_search_246 rfl (lv_at hl 0 rfl) ?_
        refine mr_getR C hw kc_16 20 (Mp_N0 hk0) (Mp_T0 hk0) (Mp_F0_20 hk0) wd_2575 dX16_search_247 (by decide) rfl ?_
        refine lv_iload C.1.1 C.1.2.1 dX16_search_250 (lv_at hl 6 rfl) ?_
        refine lv_iload C.1.1 C.1.2.1 dX16_search_252 (lv_at hl 7 rfl) ?_
        obtain ⟨q47, hD⟩ := g_ck hD
        obtain ⟨M48, eM48, hD⟩ := g_let hD
        refine mr_iast C hw (Mp_N16 hk0) (Mp_T16 hk0) q47 dX16_search_254 (fun H locs hw => ?_)
        replace hw : mw_W G ad NF TF FF M48 L H locs := by rw [eM48]; exact hw
        refine lv_aload_n C.1.1 C.1.2.1 dX16_search_255 rfl (lv_at hl 0 rfl) ?_
        refine mr_getR C hw kc_16 21 (Mp_N0 hk0) (Mp_T0 hk0) (Mp_F0_21 hk0) wd_2576 dX16_search_256 (by decide) rfl ?_
        refine lv_iload C.1.1 C.1.2.1 dX16_search_259 (lv_at hl 6 rfl) ?_
        refine lv_iload C.1.1 C.1.2.1 dX16_search_261 (lv_at hl 8 rfl) ?_
        obtain ⟨q49, hD⟩ := g_ck hD
        obtain ⟨M50, eM50, hD⟩ := g_let hD
        refine mr_iast C hw (Mp_N17 hk0) (Mp_T17 hk0) q49 dX16_search_263 (fun H locs hw => ?_)
        replace hw : mw_W G ad NF TF FF M50 L H locs := by rw [eM50]; exact hw
        obtain ⟨x51, ex51, hD⟩ := g_let hD
        refine lv_iinc (v := x51) (lv' := [(4, .int x51), (0, .ref (ad k)), (1, .int a1), (2, .int a2), (3, .int a3), (5, .int v5), (6, .int v6), (8, .int v8), (9, .int v9)]) C.1.1 C.1.2.1 dX16_search_264 hl (k := 4) rfl (by rw [ex51]; rfl) (by decide) rfl (fun ls hl => ?_)
        refine lv_aload_n C.1.1 C.1.2.1 dX16_search_267 rfl (lv_at hl 1 rfl) ?_
        refine mr_getR C hw kc_16 24 (Mp_N0 hk0) (Mp_T0 hk0) (Mp_F0_24 hk0) wd_2579 dX16_search_268 (by decide) rfl ?_
        refine lv_iload C.1.1 C.1.2.1 dX16_search_271 (lv_at hl 0 rfl) ?_
        refine lv_iconst (v := (-1)) C.1.1 C.1.2.1 dX16_search_273 (by decide) ?_
        obtain ⟨q52, hD⟩ := g_ck hD
        obtain ⟨M53, eM53, hD⟩ := g_let hD
        refine mr_iast C hw (Mp_N20 hk0) (Mp_T20 hk0) q52 dX16_search_274 (fun H locs hw => ?_)
        replace hw : mw_W G ad NF TF FF M53 L H locs := by rw [eM53]; exact hw
        refine lv_goto (tgt := 13) C.1.1 C.1.2.1 dX16_search_275 (by decide) ?_
        exact ih13 x51 v5 M53 L _ _ ls hD hw (lv_sub hl [1, 2, 3, 4, 0, 5] rfl)
      have hb209 : ∀ (v4 : Int32) (v5 : Int32) (v6 : Int32) (v7 : Int32) (v8 : Int32) (s0 : Int32) (M : mwM) (L : mwL) (H : Heap) (locs : List Loc) (ls : Array Slot), fX16_search_b209 fu k a1 a2 a3 (fX16_search_h13 fu k a1 a2 a3 f13) v4 v5 v6 v7 v8 s0 M L = some (r0, M0, L0) → mw_W G ad NF TF FF M L H locs → lv_has ls 10 [(0, .ref (ad k)), (1, .int a1), (2, .int a2), (3, .int a3), (4, .int v4), (5, .int v5), (6, .int v6), (7, .int v7), (8, .int v8)] → W p l e ({ frames := 3, cells := 0, slots := 0, locals := 71 }) s m [.ref (ad k), .int a1, .int a2, .int a3].toArray below meth c H locs 0 0 (MQ below (mw_Qi G ad NF TF FF (mw_eqI r0 M0 L0)) [.ref (ad k), .int a1, .int a2, .int a3].toArray s 0 0 (mw_fr G)) (F0 m 209 ls [.int s0]) := by
        intro v4 v5 v6 v7 v8 s0 M L H locs ls hD hw hl
        unfold fX16_search_b209 at hD
        refine lv_istore (lv' := [(9, .int s0), (0, .ref (ad k)), (1, .int a1), (2, .int a2), (3, .int a3), (4, .int v4), (5, .int v5), (6, .int v6), (7, .int v7), (8, .int v8)]) C.1.1 C.1.2.1 dX16_search_209 hl (by decide) rfl (fun ls hl => ?_)
        refine lv_iload C.1.1 C.1.2.1 dX16_search_211 (lv_at hl 0 rfl) ?_
        refine lv_if_ge (tgt := 219) C.1.1 C.1.2.1 dX16_search_213 (by decide) (fun c40 => ?_) (fun c40 => ?_)
        · replace hD := g_pos c40 hD
          refine lv_iload C.1.1 C.1.2.1 dX16_search_219 (lv_at hl 8 rfl) ?_
          refine lv_iload C.1.1 C.1.2.1 dX16_search_221 (lv_at hl 6 rfl) ?_
          refine lv_icmp_ne (tgt := 246) C.1.1 C.1.2.1 dX16_search_223 (by decide) (fun c41 => ?_) (fun c41 => ?_)
          · replace hD := g_neg c41 hD
            exact hb246 v4 v5 v6 v8 s0 M L _ _ ls hD hw (lv_sub hl [1, 2, 3, 4, 5, 6, 7, 9, 0] rfl)
          · replace hD := g_pos c41 hD
            refine lv_aload_n C.1.1 C.1.2.1 dX16_search_226 rfl (lv_at hl 1 rfl) ?_
            refine mr_getR C hw kc_16 23 (Mp_N0 hk0) (Mp_T0 hk0) (Mp_F0_23 hk0) wd_2578 dX16_search_227 (by decide) rfl ?_
            refine lv_iload C.1.1 C.1.2.1 dX16_search_230 (lv_at hl 6 rfl) ?_
            refine lv_iload C.1.1 C.1.2.1 dX16_search_232 (lv_at hl 9 rfl) ?_
            obtain ⟨q42, hD⟩ := g_ck hD
            obtain ⟨M43, eM43, hD⟩ := g_let hD
            refine mr_iast C hw (Mp_N19 hk0) (Mp_T19 hk0) q42 dX16_search_234 (fun H locs hw => ?_)
            replace hw : mw_W G ad NF TF FF M43 L H locs := by rw [eM43]; exact hw
            obtain ⟨x44, ex44, hD⟩ := g_let hD
            refine lv_iinc (v := x44) (lv' := [(5, .int x44), (9, .int s0), (0, .ref (ad k)), (1, .int a1), (2, .int a2), (3, .int a3), (4, .int v4), (6, .int v6), (7, .int v7), (8, .int v8)]) C.1.1 C.1.2.1 dX16_search_235 hl (k := 6) rfl (by rw [ex44]; rfl) (by decide) rfl (fun ls hl => ?_)
            refine lv_aload_n C.1.1 C.1.2.1 dX16_search_238 rfl (lv_at hl 2 rfl) ?_
            refine mr_getR C hw kc_16 25 (Mp_N0 hk0) (Mp_T0 hk0) (Mp_F0_25 hk0) wd_2580 dX16_search_239 (by decide) rfl ?_
            refine lv_iload C.1.1 C.1.2.1 dX16_search_242 (lv_at hl 6 rfl) ?_
            refine lv_iconst (v := 1) C.1.1 C.1.2.1 dX16_search_244 (by decide) ?_
            obtain ⟨q45, hD⟩ := g_ck hD
            obtain ⟨M46, eM46, hD⟩ := g_let hD
            refine mr_zast C hw (Mp_N21 hk0) (Mp_T21 hk0) q45 dX16_search_245 (fun H locs hw => ?_)
            replace hw : mw_W G ad NF TF FF M46 L H locs := by rw [eM46]; exact hw
            exact hb246 v4 x44 v6 v8 s0 M46 L _ _ ls hD hw (lv_sub hl [2, 3, 4, 5, 6, 0, 7, 9, 1] rfl)
        · replace hD := g_neg c40 hD
          refine lv_goto (tgt := 13) C.1.1 C.1.2.1 dX16_search_216 (by decide) ?_
          exact ih13 v4 v5 M L _ _ ls hD hw (lv_sub hl [1, 2, 3, 4, 5, 6] rfl)
      have hb183 : ∀ (v4 : Int32) (v5 : Int32) (v6 : Int32) (v7 : Int32) (s0 : Int32) (M : mwM) (L : mwL) (H : Heap) (locs : List Loc) (ls : Array Slot), fX16_search_b183 fu k a1 a2 a3 (fX16_search_h13 fu k a1 a2 a3 f13) v4 v5 v6 v7 s0 M L = some (r0, M0, L0) → mw_W G ad NF TF FF M L H locs → lv_has ls 10 [(0, .ref (ad k)), (1, .int a1), (2, .int a2), (3, .int a3), (4, .int v4), (5, .int v5), (6, .int v6), (7, .int v7)] → W p l e ({ frames := 3, cells := 0, slots := 0, locals := 71 }) s m [.ref (ad k), .int a1, .int a2, .int a3].toArray below meth c H locs 0 0 (MQ below (mw_Qi G ad NF TF FF (mw_eqI r0 M0 L0)) [.ref (ad k), .int a1, .int a2, .int a3].toArray s 0 0 (mw_fr G)) (F0 m 183 ls [.int s0]) := by
        intro v4 v5 v6 v7 s0 M L H locs ls hD hw hl
        unfold fX16_search_b183 at hD
        refine lv_istore (lv' := [(8, .int s0), (0, .ref (ad k)), (1, .int a1), (2, .int a2), (3, .int a3), (4, .int v4), (5, .int v5), (6, .int v6), (7, .int v7)]) C.1.1 C.1.2.1 dX16_search_183 hl (by decide) rfl (fun ls hl => ?_)
        refine lv_iload C.1.1 C.1.2.1 dX16_search_185 (lv_at hl 8 rfl) ?_
        refine lv_iload C.1.1 C.1.2.1 dX16_search_187 (lv_at hl 6 rfl) ?_
        refine lv_icmp_ne (tgt := 196) C.1.1 C.1.2.1 dX16_search_189 (by decide) (fun c35 => ?_) (fun c35 => ?_)
        · replace hD := g_neg c35 hD
          refine lv_aload_n C.1.1 C.1.2.1 dX16_search_196 rfl (lv_at hl 1 rfl) ?_
          refine lv_iload C.1.1 C.1.2.1 dX16_search_197 (lv_at hl 0 rfl) ?_
          refine lv_aload_n C.1.1 C.1.2.1 dX16_search_199 rfl (lv_at hl 1 rfl) ?_
          refine mr_getR C hw kc_16 26 (Mp_N0 hk0) (Mp_T0 hk0) (Mp_F0_26 hk0) wd_2581 dX16_search_200 (by decide) rfl ?_
          refine lv_iload C.1.1 C.1.2.1 dX16_search_203 (lv_at hl 7 rfl) ?_
          obtain ⟨q36, hD⟩ := g_ck hD
          refine mr_iald C hw (Mp_N22 hk0) (Mp_T22 hk0) q36 dX16_search_205 ?_
          obtain ⟨r39, M37, L38, h1, hD⟩ := g_b3 hD
          refine md_cvI (As := [.int s0, .int (M (k + 22) v6.toNatClampNeg)]) (rest := []) C hw (tX16_room l G ad fu k s0 (M (k + 22) v6.toNatClampNeg) M L h1 hk0) kc_16 (Mp_N0 hk0) (Mp_T0 hk0) wd_3458 cwX16_room ⟨Nat.le_of_ble_eq_true rfl, Nat.le_of_ble_eq_true rfl⟩ rfl hl.1 (Nat.le_of_ble_eq_true rfl) dX16_search_206 rfl rfl ⟨Nat.zero_le _, Nat.zero_le _⟩ rfl (fun H locs hw => ?_)
          exact hb209 v4 v5 v6 v7 s0 r39 M37 L38 _ _ ls hD hw (lv_sub hl [1, 2, 3, 4, 5, 6, 7, 8, 0] rfl)
        · replace hD := g_pos c35 hD
          refine lv_iconst (v := 0) C.1.1 C.1.2.1 dX16_search_192 (by decide) ?_
          refine lv_goto (tgt := 209) C.1.1 C.1.2.1 dX16_search_193 (by decide) ?_
          exact hb209 v4 v5 v6 v7 s0 0 M L _ _ ls hD hw (lv_sub hl [1, 2, 3, 4, 5, 6, 7, 8, 0] rfl)
      have hb162 : ∀ (v4 : Int32) (v5 : Int32) (v6 : Int32) (v7 : Int32) (M : mwM) (L : mwL) (H : Heap) (locs : List Loc) (ls : Array Slot), fX16_search_b162 fu k a1 a2 a3 (fX16_search_h13 fu k a1 a2 a3 f13) v4 v5 v6 v7 M L = some (r0, M0, L0) → mw_W G ad NF TF FF M L H locs → lv_has ls 10 [(0, .ref (ad k)), (1, .int a1), (2, .int a2), (3, .int a3), (4, .int v4), (5, .int v5), (6, .int v6), (7, .int v7)] → W p l e ({ frames := 3, cells := 0, slots := 0, locals := 71 }) s m [.ref (ad k), .int a1, .int a2, .int a3].toArray below meth c H locs 0 0 (MQ below (mw_Qi G ad NF TF FF (mw_eqI r0 M0 L0)) [.ref (ad k), .int a1, .int a2, .int a3].toArray s 0 0 (mw_fr G)) (F0 m 162 ls []) := by
        intro v4 v5 v6 v7 M L H locs ls hD hw hl
        unfold fX16_search_b162 at hD
        refine lv_iload C.1.1 C.1.2.1 dX16_search_162 (lv_at hl 7 rfl) ?_
        refine lv_iload C.1.1 C.1.2.1 dX16_search_164 (lv_at hl 5 rfl) ?_
        refine lv_icmp_ne (tgt := 176) C.1.1 C.1.2.1 dX16_search_166 (by decide) (fun c30 => ?_) (fun c30 => ?_)
        · replace hD := g_neg c30 hD
          refine lv_aload_n C.1.1 C.1.2.1 dX16_search_176 rfl (lv_at hl 0 rfl) ?_
          refine mr_getR C hw kc_16 23 (Mp_N0 hk0) (Mp_T0 hk0) (Mp_F0_23 hk0) wd_2578 dX16_search_177 (by decide) rfl ?_
          refine lv_iload C.1.1 C.1.2.1 dX16_search_180 (lv_at hl 7 rfl) ?_
          obtain ⟨q31, hD⟩ := g_ck hD
          refine mr_iald C hw (Mp_N19 hk0) (Mp_T19 hk0) q31 dX16_search_182 ?_
          exact hb183 v4 v5 v6 v7 (M (k + 19) v7.toNatClampNeg) M L _ _ ls hD hw (lv_sub hl [0, 1, 2, 3, 4, 5, 6, 7] rfl)
        · replace hD := g_pos c30 hD
          refine lv_aload_n C.1.1 C.1.2.1 dX16_search_169 rfl (lv_at hl 0 rfl) ?_
          obtain ⟨r34, M32, L33, h1, hD⟩ := g_b3 hD
          refine md_cvI (As := []) (rest := []) C hw (tX16_newFrame l G ad fu k M L h1 hk0) kc_16 (Mp_N0 hk0) (Mp_T0 hk0) wd_3462 cwX16_newFrame ⟨Nat.le_of_ble_eq_true rfl, Nat.le_of_ble_eq_true rfl⟩ rfl hl.1 (Nat.le_of_ble_eq_true rfl) dX16_search_170 rfl rfl ⟨Nat.zero_le _, Nat.zero_le _⟩ rfl (fun H locs hw => ?_)
          refine lv_goto (tgt := 183) C.1.1 C.1.2.1 dX16_search_173 (by decide) ?_
          exact hb183 v4 v5 v6 v7 r34 M32 L33 _ _ ls hD hw (lv_sub hl [0, 1, 2, 3, 4, 5, 6, 7] rfl)
      have hb97 : ∀ (v4 : Int32) (v5 : Int32) (v6 : Int32) (M : mwM) (L : mwL) (H : Heap) (locs : List Loc) (ls : Array Slot), fX16_search_b97 fu k a1 a2 a3 (fX16_search_h13 fu k a1 a2 a3 f13) v4 v5 v6 M L = some (r0, M0, L0) → mw_W G ad NF TF FF M L H locs → lv_has ls 10 [(0, .ref (ad k)), (1, .int a1), (2, .int a2), (3, .int a3), (4, .int v4), (5, .int v5), (6, .int v6)] → W p l e ({ frames := 3, cells := 0, slots := 0, locals := 71 }) s m [.ref (ad k), .int a1, .int a2, .int a3].toArray below meth c H locs 0 0 (MQ below (mw_Qi G ad NF TF FF (mw_eqI r0 M0 L0)) [.ref (ad k), .int a1, .int a2, .int a3].toArray s 0 0 (mw_fr G)) (F0 m 97 ls []) := by
        intro v4 v5 v6 M L H locs ls hD hw hl
        unfold fX16_search_b97 at hD
        refine lv_aload_n C.1.1 C.1.2.1 dX16_search_97 rfl (lv_at hl 0 rfl) ?_
        refine mr_getR C hw kc_16 25 (Mp_N0 hk0) (Mp_T0 hk0) (Mp_F0_25 hk0) wd_2580 dX16_search_98 (by decide) rfl ?_
        refine lv_iload C.1.1 C.1.2.1 dX16_search_101 (lv_at hl 4 rfl) ?_
        refine lv_iconst (v := 0) C.1.1 C.1.2.1 dX16_search_103 (by decide) ?_
        obtain ⟨q15, hD⟩ := g_ck hD
        obtain ⟨M16, eM16, hD⟩ := g_let hD
        refine mr_zast C hw (Mp_N21 hk0) (Mp_T21 hk0) q15 dX16_search_104 (fun H locs hw => ?_)
        replace hw : mw_W G ad NF TF FF M16 L H locs := by rw [eM16]; exact hw
        refine lv_aload_n C.1.1 C.1.2.1 dX16_search_105 rfl (lv_at hl 0 rfl) ?_
        refine mr_getR C hw kc_16 24 (Mp_N0 hk0) (Mp_T0 hk0) (Mp_F0_24 hk0) wd_2579 dX16_search_106 (by decide) rfl ?_
        refine lv_iload C.1.1 C.1.2.1 dX16_search_109 (lv_at hl 4 rfl) ?_
        refine lv_dup2_11 C.1.1 C.1.2.1 dX16_search_111 rfl rfl ?_
        obtain ⟨q17, hD⟩ := g_ck hD
        refine mr_iald C hw (Mp_N20 hk0) (Mp_T20 hk0) q17 dX16_search_112 ?_
        refine lv_iconst (v := 1) C.1.1 C.1.2.1 dX16_search_113 (by decide) ?_
        refine lv_iadd C.1.1 C.1.2.1 dX16_search_114 ?_
        obtain ⟨q18, hD⟩ := g_ck hD
        obtain ⟨M19, eM19, hD⟩ := g_let hD
        refine mr_iast C hw (Mp_N20 hk0) (Mp_T20 hk0) q18 dX16_search_115 (fun H locs hw => ?_)
        replace hw : mw_W G ad NF TF FF M19 L H locs := by rw [eM19]; exact hw
        refine lv_aload_n C.1.1 C.1.2.1 dX16_search_116 rfl (lv_at hl 0 rfl) ?_
        refine mr_getR C hw kc_16 24 (Mp_N0 hk0) (Mp_T0 hk0) (Mp_F0_24 hk0) wd_2579 dX16_search_117 (by decide) rfl ?_
        refine lv_iload C.1.1 C.1.2.1 dX16_search_120 (lv_at hl 4 rfl) ?_
        obtain ⟨q20, hD⟩ := g_ck hD
        refine mr_iald C hw (Mp_N20 hk0) (Mp_T20 hk0) q20 dX16_search_122 ?_
        obtain ⟨x21, ex21, hD⟩ := g_let hD
        refine W.eq (g2 := F0 m 123 ls (.int x21 :: [])) (by rw [ex21]) ?_
        refine lv_istore (lv' := [(7, .int x21), (0, .ref (ad k)), (1, .int a1), (2, .int a2), (3, .int a3), (4, .int v4), (5, .int v5), (6, .int v6)]) C.1.1 C.1.2.1 dX16_search_123 hl (by decide) rfl (fun ls hl => ?_)
        refine lv_iload C.1.1 C.1.2.1 dX16_search_125 (lv_at hl 0 rfl) ?_
        refine lv_iload C.1.1 C.1.2.1 dX16_search_127 (lv_at hl 6 rfl) ?_
        refine lv_icmp_gt (tgt := 156) C.1.1 C.1.2.1 dX16_search_129 (by decide) (fun c22 => ?_) (fun c22 => ?_)
        · replace hD := g_pos c22 hD
          exact hb156 v4 v5 M19 L _ _ ls hD hw (lv_sub hl [1, 2, 3, 4, 5, 6] rfl)
        · replace hD := g_neg c22 hD
          refine lv_iload C.1.1 C.1.2.1 dX16_search_132 (lv_at hl 0 rfl) ?_
          refine lv_iload C.1.1 C.1.2.1 dX16_search_134 (lv_at hl 6 rfl) ?_
          refine lv_icmp_ne (tgt := 162) C.1.1 C.1.2.1 dX16_search_136 (by decide) (fun c23 => ?_) (fun c23 => ?_)
          · replace hD := g_neg c23 hD
            exact hb162 v4 v5 v6 x21 M19 L _ _ ls hD hw (lv_sub hl [1, 2, 3, 4, 5, 6, 7, 0] rfl)
          · replace hD := g_pos c23 hD
            refine lv_iload C.1.1 C.1.2.1 dX16_search_139 (lv_at hl 6 rfl) ?_
            refine lv_iload_n C.1.1 C.1.2.1 dX16_search_141 rfl (lv_at hl 3 rfl) ?_
            refine lv_isub C.1.1 C.1.2.1 dX16_search_142 ?_
            refine lv_iload_n C.1.1 C.1.2.1 dX16_search_143 rfl (lv_at hl 4 rfl) ?_
            refine lv_icmp_eq (tgt := 156) C.1.1 C.1.2.1 dX16_search_144 (by decide) (fun c24 => ?_) (fun c24 => ?_)
            · replace hD := g_pos c24 hD
              exact hb156 v4 v5 M19 L _ _ ls hD hw (lv_sub hl [1, 2, 3, 4, 5, 6] rfl)
            · replace hD := g_neg c24 hD
              refine lv_aload_n C.1.1 C.1.2.1 dX16_search_147 rfl (lv_at hl 1 rfl) ?_
              obtain ⟨r27, M25, L26, h1, hD⟩ := g_b3 hD
              refine md_cvI (As := []) (rest := []) C hw (tX16_newFrame l G ad fu k M19 L h1 hk0) kc_16 (Mp_N0 hk0) (Mp_T0 hk0) wd_3462 cwX16_newFrame ⟨Nat.le_of_ble_eq_true rfl, Nat.le_of_ble_eq_true rfl⟩ rfl hl.1 (Nat.le_of_ble_eq_true rfl) dX16_search_148 rfl rfl ⟨Nat.zero_le _, Nat.zero_le _⟩ rfl (fun H locs hw => ?_)
              refine lv_bipush (v := 65) C.1.1 C.1.2.1 dX16_search_151 (by decide) ?_
              refine lv_icmp_ne (tgt := 162) C.1.1 C.1.2.1 dX16_search_153 (by decide) (fun c28 => ?_) (fun c28 => ?_)
              · replace hD := g_neg c28 hD
                exact hb162 v4 v5 v6 x21 M25 L26 _ _ ls hD hw (lv_sub hl [1, 2, 3, 4, 5, 6, 7, 0] rfl)
              · replace hD := g_pos c28 hD
                exact hb156 v4 v5 M25 L26 _ _ ls hD hw (lv_sub hl [1, 2, 3, 4, 5, 6] rfl)
      have hb87 : ∀ (v4 : Int32) (v6 : Int32) (s0 : Int32) (M : mwM) (L : mwL) (H : Heap) (locs : List Loc) (ls : Array Slot), fX16_search_b87 fu k a1 a2 a3 (fX16_search_h13 fu k a1 a2 a3 f13) v4 v6 s0 M L = some (r0, M0, L0) → mw_W G ad NF TF FF M L H locs → lv_has ls 10 [(0, .ref (ad k)), (1, .int a1), (2, .int a2), (3, .int a3), (4, .int v4), (6, .int v6)] → W p l e ({ frames := 3, cells := 0, slots := 0, locals := 71 }) s m [.ref (ad k), .int a1, .int a2, .int a3].toArray below meth c H locs 0 0 (MQ below (mw_Qi G ad NF TF FF (mw_eqI r0 M0 L0)) [.ref (ad k), .int a1, .int a2, .int a3].toArray s 0 0 (mw_fr G)) (F0 m 87 ls [.int s0]) := by
        intro v4 v6 s0 M L H locs ls hD hw hl
        unfold fX16_search_b87 at hD
        refine lv_istore (lv' := [(5, .int s0), (0, .ref (ad k)), (1, .int a1), (2, .int a2), (3, .int a3), (4, .int v4), (6, .int v6)]) C.1.1 C.1.2.1 dX16_search_87 hl (by decide) rfl (fun ls hl => ?_)
        refine lv_aload_n C.1.1 C.1.2.1 dX16_search_89 rfl (lv_at hl 1 rfl) ?_
        refine mr_getR C hw kc_16 20 (Mp_N0 hk0) (Mp_T0 hk0) (Mp_F0_20 hk0) wd_2575 dX16_search_90 (by decide) rfl ?_
        refine lv_iload C.1.1 C.1.2.1 dX16_search_93 (lv_at hl 6 rfl) ?_
        refine lv_iconst (v := 0) C.1.1 C.1.2.1 dX16_search_95 (by decide) ?_
        obtain ⟨q13, hD⟩ := g_ck hD
        obtain ⟨M14, eM14, hD⟩ := g_let hD
        refine mr_iast C hw (Mp_N16 hk0) (Mp_T16 hk0) q13 dX16_search_96 (fun H locs hw => ?_)
        replace hw : mw_W G ad NF TF FF M14 L H locs := by rw [eM14]; exact hw
        exact hb97 v4 s0 v6 M14 L _ _ ls hD hw (lv_sub hl [1, 2, 3, 4, 5, 0, 6] rfl)
      have hb85 : ∀ (v4 : Int32) (v5 : Int32) (v6 : Int32) (M : mwM) (L : mwL) (H : Heap) (locs : List Loc) (ls : Array Slot), fX16_search_b85 fu k a1 a2 a3 (fX16_search_h13 fu k a1 a2 a3 f13) v4 v5 v6 M L = some (r0, M0, L0) → mw_W G ad NF TF FF M L H locs → lv_has ls 10 [(0, .ref (ad k)), (1, .int a1), (2, .int a2), (3, .int a3), (4, .int v4), (5, .int v5), (6, .int v6)] → W p l e ({ frames := 3, cells := 0, slots := 0, locals := 71 }) s m [.ref (ad k), .int a1, .int a2, .int a3].toArray below meth c H locs 0 0 (MQ below (mw_Qi G ad NF TF FF (mw_eqI r0 M0 L0)) [.ref (ad k), .int a1, .int a2, .int a3].toArray s 0 0 (mw_fr G)) (F0 m 85 ls []) := by
        intro v4 v5 v6 M L H locs ls hD hw hl
        unfold fX16_search_b85 at hD
        refine lv_iload C.1.1 C.1.2.1 dX16_search_85 (lv_at hl 5 rfl) ?_
        exact hb87 v4 v6 v5 M L _ _ ls hD hw (lv_sub hl [0, 1, 2, 3, 4, 6] rfl)
      unfold fX16_search_i13 at hD
      refine lv_iload C.1.1 C.1.2.1 dX16_search_13 (lv_at hl 4 rfl) ?_
      refine lv_if_lt (tgt := 278) C.1.1 C.1.2.1 dX16_search_15 (by decide) (fun c1 => ?_) (fun c1 => ?_)
      · replace hD := g_pos c1 hD
        exact hb278 v4 M L _ _ ls hD hw (lv_sub hl [1, 4] rfl)
      · replace hD := g_neg c1 hD
        refine lv_iload C.1.1 C.1.2.1 dX16_search_18 (lv_at hl 4 rfl) ?_
        refine lv_iload_n C.1.1 C.1.2.1 dX16_search_20 rfl (lv_at hl 1 rfl) ?_
        refine lv_icmp_ge (tgt := 278) C.1.1 C.1.2.1 dX16_search_21 (by decide) (fun c2 => ?_) (fun c2 => ?_)
        · replace hD := g_pos c2 hD
          exact hb278 v4 M L _ _ ls hD hw (lv_sub hl [1, 4] rfl)
        · replace hD := g_neg c2 hD
          refine lv_aload_n C.1.1 C.1.2.1 dX16_search_24 rfl (lv_at hl 0 rfl) ?_
          refine mr_getR C hw kc_16 22 (Mp_N0 hk0) (Mp_T0 hk0) (Mp_F0_22 hk0) wd_2577 dX16_search_25 (by decide) rfl ?_
          refine lv_iload C.1.1 C.1.2.1 dX16_search_28 (lv_at hl 4 rfl) ?_
          obtain ⟨q3, hD⟩ := g_ck hD
          refine mr_iald C hw (Mp_N18 hk0) (Mp_T18 hk0) q3 dX16_search_30 ?_
          obtain ⟨x4, ex4, hD⟩ := g_let hD
          refine W.eq (g2 := F0 m 31 ls (.int x4 :: [])) (by rw [ex4]) ?_
          refine lv_istore (lv' := [(6, .int x4), (0, .ref (ad k)), (1, .int a1), (2, .int a2), (3, .int a3), (4, .int v4), (5, .int v5)]) C.1.1 C.1.2.1 dX16_search_31 hl (by decide) rfl (fun ls hl => ?_)
          refine lv_aload_n C.1.1 C.1.2.1 dX16_search_33 rfl (lv_at hl 1 rfl) ?_
          refine mr_getR C hw kc_16 20 (Mp_N0 hk0) (Mp_T0 hk0) (Mp_F0_20 hk0) wd_2575 dX16_search_34 (by decide) rfl ?_
          refine lv_iload C.1.1 C.1.2.1 dX16_search_37 (lv_at hl 0 rfl) ?_
          obtain ⟨q5, hD⟩ := g_ck hD
          refine mr_iald C hw (Mp_N16 hk0) (Mp_T16 hk0) q5 dX16_search_39 ?_
          refine lv_if_le (tgt := 97) C.1.1 C.1.2.1 dX16_search_40 (by decide) (fun c6 => ?_) (fun c6 => ?_)
          · replace hD := g_pos c6 hD
            exact hb97 v4 v5 x4 M L _ _ ls hD hw (lv_sub hl [1, 2, 3, 4, 5, 6, 0] rfl)
          · replace hD := g_neg c6 hD
            refine lv_aload_n C.1.1 C.1.2.1 dX16_search_43 rfl (lv_at hl 1 rfl) ?_
            refine mr_getR C hw kc_16 24 (Mp_N0 hk0) (Mp_T0 hk0) (Mp_F0_24 hk0) wd_2579 dX16_search_44 (by decide) rfl ?_
            refine lv_iload C.1.1 C.1.2.1 dX16_search_47 (lv_at hl 5 rfl) ?_
            obtain ⟨q7, hD⟩ := g_ck hD
            refine mr_iald C hw (Mp_N20 hk0) (Mp_T20 hk0) q7 dX16_search_49 ?_
            refine lv_iload C.1.1 C.1.2.1 dX16_search_50 (lv_at hl 6 rfl) ?_
            refine lv_iconst (v := 1) C.1.1 C.1.2.1 dX16_search_52 (by decide) ?_
            refine lv_isub C.1.1 C.1.2.1 dX16_search_53 ?_
            refine lv_icmp_ne (tgt := 85) C.1.1 C.1.2.1 dX16_search_54 (by decide) (fun c8 => ?_) (fun c8 => ?_)
            · replace hD := g_neg c8 hD
              exact hb85 v4 v5 x4 M L _ _ ls hD hw (lv_sub hl [1, 2, 3, 4, 5, 6, 0] rfl)
            · replace hD := g_pos c8 hD
              refine lv_aload_n C.1.1 C.1.2.1 dX16_search_57 rfl (lv_at hl 1 rfl) ?_
              refine mr_getR C hw kc_16 24 (Mp_N0 hk0) (Mp_T0 hk0) (Mp_F0_24 hk0) wd_2579 dX16_search_58 (by decide) rfl ?_
              refine lv_iload C.1.1 C.1.2.1 dX16_search_61 (lv_at hl 5 rfl) ?_
              obtain ⟨q9, hD⟩ := g_ck hD
              refine mr_iald C hw (Mp_N20 hk0) (Mp_T20 hk0) q9 dX16_search_63 ?_
              refine lv_iload_n C.1.1 C.1.2.1 dX16_search_64 rfl (lv_at hl 3 rfl) ?_
              refine lv_icmp_lt (tgt := 85) C.1.1 C.1.2.1 dX16_search_65 (by decide) (fun c10 => ?_) (fun c10 => ?_)
              · replace hD := g_pos c10 hD
                exact hb85 v4 v5 x4 M L _ _ ls hD hw (lv_sub hl [1, 2, 3, 4, 5, 6, 0] rfl)
              · replace hD := g_neg c10 hD
                refine lv_aload_n C.1.1 C.1.2.1 dX16_search_68 rfl (lv_at hl 1 rfl) ?_
                refine mr_getR C hw kc_16 25 (Mp_N0 hk0) (Mp_T0 hk0) (Mp_F0_25 hk0) wd_2580 dX16_search_69 (by decide) rfl ?_
                refine lv_iload C.1.1 C.1.2.1 dX16_search_72 (lv_at hl 5 rfl) ?_
                obtain ⟨q11, hD⟩ := g_ck hD
                refine mr_zald C hw (Mp_N21 hk0) (Mp_T21 hk0) q11 dX16_search_74 ?_
                refine lv_if_eq (tgt := 85) C.1.1 C.1.2.1 dX16_search_75 (by decide) (fun c12 => ?_) (fun c12 => ?_)
                · replace hD := g_pos c12 hD
                  exact hb85 v4 v5 x4 M L _ _ ls hD hw (lv_sub hl [1, 2, 3, 4, 5, 6, 0] rfl)
                · replace hD := g_neg c12 hD
                  refine lv_iload C.1.1 C.1.2.1 dX16_search_78 (lv_at hl 6 rfl) ?_
                  refine lv_iconst (v := 1) C.1.1 C.1.2.1 dX16_search_80 (by decide) ?_
                  refine lv_isub C.1.1 C.1.2.1 dX16_search_81 ?_
                  refine lv_goto (tgt := 87) C.1.1 C.1.2.1 dX16_search_82 (by decide) ?_
                  exact hb87 v4 x4 (v5 - 1) M L _ _ ls hD hw (lv_sub hl [1, 2, 3, 4, 5, 0] rfl)
  unfold DX16_search at hD
  refine lv_iconst (v := 0) C.1.1 C.1.2.1 dX16_search_0 (by decide) ?_
  refine lv_istore (lv' := [(4, .int 0), (0, .ref (ad k)), (1, .int a1), (2, .int a2), (3, .int a3)]) C.1.1 C.1.2.1 dX16_search_1 hl (by decide) rfl (fun ls hl => ?_)
  refine lv_iload_n C.1.1 C.1.2.1 dX16_search_3 rfl (lv_at hl 3 rfl) ?_
  refine lv_istore (lv' := [(5, .int a2), (4, .int 0), (0, .ref (ad k)), (1, .int a1), (2, .int a2), (3, .int a3)]) C.1.1 C.1.2.1 dX16_search_4 hl (by decide) rfl (fun ls hl => ?_)
  refine lv_aload_n C.1.1 C.1.2.1 dX16_search_6 rfl (lv_at hl 2 rfl) ?_
  refine mr_getR C hw kc_16 24 (Mp_N0 hk0) (Mp_T0 hk0) (Mp_F0_24 hk0) wd_2579 dX16_search_7 (by decide) rfl ?_
  refine lv_iconst (v := 0) C.1.1 C.1.2.1 dX16_search_10 (by decide) ?_
  refine lv_iconst (v := (-1)) C.1.1 C.1.2.1 dX16_search_11 (by decide) ?_
  obtain ⟨M57, eM57, hD⟩ := g_let hD
  refine mr_iast C hw (Mp_N20 hk0) (Mp_T20 hk0) (show vp_in 0 129 from by unfold vp_in; decide) dX16_search_12 (fun H locs hw => ?_)
  replace hw : mw_W G ad NF TF FF M57 L H locs := by rw [eM57]; exact hw
  exact hh13 fu 0 a2 M57 L _ _ ls hD hw (lv_sub hl [2, 3, 4, 5, 1, 0] rfl)
