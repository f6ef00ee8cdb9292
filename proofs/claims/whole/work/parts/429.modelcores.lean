theorem dX15_ends_0 : decode cX15_ends 0 = .ok (.aload_n 0, 1) := by decide +kernel
theorem dX15_ends_1 : decode cX15_ends 1 = .ok (.iload_n 1, 1) := by decide +kernel
theorem dX15_ends_2 : decode cX15_ends 2 = .ok (.invokevirtual 189, 3) := by decide +kernel
theorem dX15_ends_5 : decode cX15_ends 5 = .ok (.aload_n 0, 1) := by decide +kernel
theorem dX15_ends_6 : decode cX15_ends 6 = .ok (.getfield 42, 3) := by decide +kernel
theorem dX15_ends_9 : decode cX15_ends 9 = .ok (.iload_n 1, 1) := by decide +kernel
theorem dX15_ends_10 : decode cX15_ends 10 = .ok (.iaload, 1) := by decide +kernel
theorem dX15_ends_11 : decode cX15_ends 11 = .ok (.ifCond .ne 4, 3) := by decide +kernel
theorem dX15_ends_14 : decode cX15_ends 14 = .ok (.return_, 1) := by decide +kernel
theorem dX15_ends_15 : decode cX15_ends 15 = .ok (.aload_n 0, 1) := by decide +kernel
theorem dX15_ends_16 : decode cX15_ends 16 = .ok (.getfield 42, 3) := by decide +kernel
theorem dX15_ends_19 : decode cX15_ends 19 = .ok (.iload_n 1, 1) := by decide +kernel
theorem dX15_ends_20 : decode cX15_ends 20 = .ok (.dup2, 1) := by decide +kernel
theorem dX15_ends_21 : decode cX15_ends 21 = .ok (.iaload, 1) := by decide +kernel
theorem dX15_ends_22 : decode cX15_ends 22 = .ok (.iconst 1, 1) := by decide +kernel
theorem dX15_ends_23 : decode cX15_ends 23 = .ok (.isub, 1) := by decide +kernel
theorem dX15_ends_24 : decode cX15_ends 24 = .ok (.iastore, 1) := by decide +kernel
theorem dX15_ends_25 : decode cX15_ends 25 = .ok (.aload_n 0, 1) := by decide +kernel
theorem dX15_ends_26 : decode cX15_ends 26 = .ok (.iload_n 1, 1) := by decide +kernel
theorem dX15_ends_27 : decode cX15_ends 27 = .ok (.invokevirtual 192, 3) := by decide +kernel
theorem dX15_ends_30 : decode cX15_ends 30 = .ok (.return_, 1) := by decide +kernel
theorem cwX15_ends : mw_cwV yX15_ends cX15_ends 2 (none) 1 := ⟨⟨wd_14, wd_3824, by decide +kernel⟩, wd_3823, sl_269⟩
set_option maxHeartbeats 4000000 in
set_option maxRecDepth 100000 in
theorem tX15_ends (l : Launch) (G : mwG) (ad : Nat → Nat) (fu : Nat) (a1 : Int32) (M : mwM) (L : mwL) {M0 : mwM} {L0 : mwL} (hD : DX15_ends fu a1 M L = some (M0, L0)) : Met l yX15_ends (Cond.code yX15_ends cX15_ends 2 (none) :: GT) ({ frames := 2, cells := 0, slots := 0, locals := 46 }) (mw_Pre G ad NF TF FF M L [.ref (ad 787), .int a1]) (mw_Qv G ad NF TF FF (mw_eqV M0 L0)) 0 0 (mw_fr G) := by
  refine mw_enter (by decide) (Nat.le_of_ble_eq_true rfl) ?_
  intro p e s m below meth c ls C hr hlocks hnm hw hl
  have hl : lv_has ls 2 [(0, .ref (ad 787)), (1, .int a1)] := hl
  unfold DX15_ends at hD
  refine lv_aload_n C.1.1 C.1.2.1 dX15_ends_0 rfl (lv_at hl 0 rfl) ?_
  refine lv_iload_n C.1.1 C.1.2.1 dX15_ends_1 rfl (lv_at hl 1 rfl) ?_
  obtain ⟨M1, L2, h1, hD⟩ := g_b2 hD
  refine md_cvV (As := [.int a1]) (rest := []) C hw (tX15_free l G ad fu a1 M L h1) kc_15 (by decide) tf_787 wd_3825 cwX15_free ⟨Nat.le_of_ble_eq_true rfl, Nat.le_of_ble_eq_true rfl⟩ rfl hl.1 (Nat.le_of_ble_eq_true rfl) dX15_ends_2 rfl rfl ⟨Nat.zero_le _, Nat.zero_le _⟩ rfl (fun H locs hw => ?_)
  refine lv_aload_n C.1.1 C.1.2.1 dX15_ends_5 rfl (lv_at hl 0 rfl) ?_
  refine mr_getR C hw kc_15 13 (by decide) tf_787 ff_787_13 wd_1968 dX15_ends_6 (by decide) rfl ?_
  refine lv_iload_n C.1.1 C.1.2.1 dX15_ends_9 rfl (lv_at hl 1 rfl) ?_
  obtain ⟨q3, hD⟩ := g_ck hD
  refine mr_iald C hw (by decide) tf_798 q3 dX15_ends_10 ?_
  refine lv_if_ne (tgt := 15) C.1.1 C.1.2.1 dX15_ends_11 (by decide) (fun c4 => ?_) (fun c4 => ?_)
  · replace hD := g_neg c4 hD
    refine lv_aload_n C.1.1 C.1.2.1 dX15_ends_15 rfl (lv_at hl 0 rfl) ?_
    refine mr_getR C hw kc_15 13 (by decide) tf_787 ff_787_13 wd_1968 dX15_ends_16 (by decide) rfl ?_
    refine lv_iload_n C.1.1 C.1.2.1 dX15_ends_19 rfl (lv_at hl 1 rfl) ?_
    refine lv_dup2_11 C.1.1 C.1.2.1 dX15_ends_20 rfl rfl ?_
    obtain ⟨q5, hD⟩ := g_ck hD
    refine mr_iald C hw (by decide) tf_798 q5 dX15_ends_21 ?_
    refine lv_iconst (v := 1) C.1.1 C.1.2.1 dX15_ends_22 (by decide) ?_
    refine lv_isub C.1.1 C.1.2.1 dX15_ends_23 ?_
    obtain ⟨q6, hD⟩ := g_ck hD
    obtain ⟨M7, eM7, hD⟩ := g_let hD
    refine mr_iast C hw (by decide) tf_798 q6 dX15_ends_24 (fun H locs hw => ?_)
    replace hw : mw_W G ad NF TF FF M7 L2 H locs := by rw [eM7]; exact hw
    refine lv_aload_n C.1.1 C.1.2.1 dX15_ends_25 rfl (lv_at hl 0 rfl) ?_
    refine lv_iload_n C.1.1 C.1.2.1 dX15_ends_26 rfl (lv_at hl 1 rfl) ?_
    obtain ⟨M8, L9, h1, hD⟩ := g_b2 hD
    refine md_cvV (As := [.int a1]) (rest := []) C hw (tX15_begin l G ad fu a1 M7 L2 h1) kc_15 (by decide) tf_787 wd_3785 cwX15_begin ⟨Nat.le_of_ble_eq_true rfl, Nat.le_of_ble_eq_true rfl⟩ rfl hl.1 (Nat.le_of_ble_eq_true rfl) dX15_ends_27 rfl rfl ⟨Nat.zero_le _, Nat.zero_le _⟩ rfl (fun H locs hw => ?_)
    exact mr_vret C hr hlocks hw (Option.some.inj hD) dX15_ends_30
  · replace hD := g_pos c4 hD
    exact mr_vret C hr hlocks hw (Option.some.inj hD) dX15_ends_14

theorem dX15_nextPart_0 : decode cX15_nextPart 0 = .ok (.iconst 0, 1) := by decide +kernel
theorem dX15_nextPart_1 : decode cX15_nextPart 1 = .ok (.istore_n 2, 1) := by decide +kernel
theorem dX15_nextPart_2 : decode cX15_nextPart 2 = .ok (.iconst 0, 1) := by decide +kernel
theorem dX15_nextPart_3 : decode cX15_nextPart 3 = .ok (.istore_n 3, 1) := by decide +kernel
theorem dX15_nextPart_4 : decode cX15_nextPart 4 = .ok (.iload_n 3, 1) := by decide +kernel
theorem dX15_nextPart_5 : decode cX15_nextPart 5 = .ok (.aload_n 0, 1) := by decide +kernel
theorem dX15_nextPart_6 : decode cX15_nextPart 6 = .ok (.getfield 120, 3) := by decide +kernel
theorem dX15_nextPart_9 : decode cX15_nextPart 9 = .ok (.if_icmp .ge 34, 3) := by decide +kernel
theorem dX15_nextPart_12 : decode cX15_nextPart 12 = .ok (.aload_n 0, 1) := by decide +kernel
theorem dX15_nextPart_13 : decode cX15_nextPart 13 = .ok (.getfield 26, 3) := by decide +kernel
theorem dX15_nextPart_16 : decode cX15_nextPart 16 = .ok (.iload_n 3, 1) := by decide +kernel
theorem dX15_nextPart_17 : decode cX15_nextPart 17 = .ok (.iaload, 1) := by decide +kernel
theorem dX15_nextPart_18 : decode cX15_nextPart 18 = .ok (.iload_n 1, 1) := by decide +kernel
theorem dX15_nextPart_19 : decode cX15_nextPart 19 = .ok (.if_icmp .ne 18, 3) := by decide +kernel
theorem dX15_nextPart_22 : decode cX15_nextPart 22 = .ok (.iload_n 2, 1) := by decide +kernel
theorem dX15_nextPart_23 : decode cX15_nextPart 23 = .ok (.aload_n 0, 1) := by decide +kernel
theorem dX15_nextPart_24 : decode cX15_nextPart 24 = .ok (.getfield 45, 3) := by decide +kernel
theorem dX15_nextPart_27 : decode cX15_nextPart 27 = .ok (.iload_n 1, 1) := by decide +kernel
theorem dX15_nextPart_28 : decode cX15_nextPart 28 = .ok (.iaload, 1) := by decide +kernel
theorem dX15_nextPart_29 : decode cX15_nextPart 29 = .ok (.if_icmp .ne 5, 3) := by decide +kernel
theorem dX15_nextPart_32 : decode cX15_nextPart 32 = .ok (.iload_n 3, 1) := by decide +kernel
theorem dX15_nextPart_33 : decode cX15_nextPart 33 = .ok (.ireturn, 1) := by decide +kernel
theorem dX15_nextPart_34 : decode cX15_nextPart 34 = .ok (.iinc 2 1, 3) := by decide +kernel
theorem dX15_nextPart_37 : decode cX15_nextPart 37 = .ok (.iinc 3 1, 3) := by decide +kernel
theorem dX15_nextPart_40 : decode cX15_nextPart 40 = .ok (.goto (-36), 3) := by decide +kernel
theorem dX15_nextPart_43 : decode cX15_nextPart 43 = .ok (.iconst (-1), 1) := by decide +kernel
theorem dX15_nextPart_44 : decode cX15_nextPart 44 = .ok (.ireturn, 1) := by decide +kernel
theorem cwX15_nextPart : mw_cwV yX15_nextPart cX15_nextPart 4 ((some .int)) 1 := ⟨⟨wd_14, wd_3820, by decide +kernel⟩, wd_3819, sl_268⟩
set_option maxHeartbeats 4000000 in
set_option maxRecDepth 100000 in
theorem tX15_nextPart (l : Launch) (G : mwG) (ad : Nat → Nat) (fu : Nat) (a1 : Int32) (M : mwM) (L : mwL) {r0 : Int32} {M0 : mwM} {L0 : mwL} (hD : DX15_nextPart fu a1 M L = some (r0, M0, L0)) : Met l yX15_nextPart (Cond.code yX15_nextPart cX15_nextPart 4 ((some .int)) :: GT) ({ frames := 0, cells := 0, slots := 0, locals := 0 }) (mw_Pre G ad NF TF FF M L [.ref (ad 787), .int a1]) (mw_Qi G ad NF TF FF (mw_eqI r0 M0 L0)) 0 0 (mw_fr G) := by
  refine mw_enter (by decide) (Nat.le_of_ble_eq_true rfl) ?_
  intro p e s m below meth c ls C hr hlocks hnm hw hl
  have hl : lv_has ls 4 [(0, .ref (ad 787)), (1, .int a1)] := hl
  have hh4 : ∀ (f : Nat) (v2 : Int32) (v3 : Int32) (M : mwM) (L : mwL) (H : Heap) (locs : List Loc) (ls : Array Slot), fX15_nextPart_h4 fu a1 f (v2, v3, M, L) = some (r0, M0, L0) → mw_W G ad NF TF FF M L H locs → lv_has ls 4 [(0, .ref (ad 787)), (1, .int a1), (2, .int v2), (3, .int v3)] → W p l e ({ frames := 0, cells := 0, slots := 0, locals := 0 }) s m [.ref (ad 787), .int a1].toArray below meth c H locs 0 0 (MQ below (mw_Qi G ad NF TF FF (mw_eqI r0 M0 L0)) [.ref (ad 787), .int a1].toArray s 0 0 (mw_fr G)) (F0 m 4 ls []) := by
    intro f
    induction f with
    | zero => intro v2 v3 M L H locs ls hD; cases hD
    | succ f4 ih4 =>
      intro v2 v3 M L H locs ls hD hw hl
      replace hD : fX15_nextPart_i4 fu a1 (fX15_nextPart_h4 fu a1 f4) v2 v3 M L = some (r0, M0, L0) := hD
      have hb37 : ∀ (v2 : Int32) (v3 : Int32) (M : mwM) (L : mwL) (H : Heap) (locs : List Loc) (ls : Array Slot), fX15_nextPart_b37 fu a1 (fX15_nextPart_h4 fu a1 f4) v2 v3 M L = some (r0, M0, L0) → mw_W G ad NF TF FF M L H locs → lv_has ls 4 [(0, .ref (ad 787)), (1, .int a1), (2, .int v2), (3, .int v3)] → W p l e ({ frames := 0, cells := 0, slots := 0, locals := 0 }) s m [.ref (ad 787), .int a1].toArray below meth c H locs 0 0 (MQ below (mw_Qi G ad NF TF FF (mw_eqI r0 M0 L0)) [.ref (ad 787), .int a1].toArray s 0 0 (mw_fr G)) (F0 m 37 ls []) := by
        intro v2 v3 M L H locs ls hD hw hl
        unfold fX15_nextPart_b37 at hD
        obtain ⟨x7, ex7, hD⟩ := g_let hD
        refine lv_iinc (v := x7) (lv' := [(3, .int x7), (0, .ref (ad 787)), (1, .int a1), (2, .int v2)]) C.1.1 C.1.2.1 dX15_nextPart_37 hl (k := 3) rfl (by rw [ex7]; rfl) (by decide) rfl (fun ls hl => ?_)
        refine lv_goto (tgt := 4) C.1.1 C.1.2.1 dX15_nextPart_40 (by decide) ?_
        exact ih4 v2 x7 M L _ _ ls hD hw (lv_sub hl [1, 2, 3, 0] rfl)
      unfold fX15_nextPart_i4 at hD
      refine lv_iload_n C.1.1 C.1.2.1 dX15_nextPart_4 rfl (lv_at hl 3 rfl) ?_
      refine lv_aload_n C.1.1 C.1.2.1 dX15_nextPart_5 rfl (lv_at hl 0 rfl) ?_
      refine mr_getI C hw kc_15 7 (by decide) tf_787 wd_1962 dX15_nextPart_6 (by decide) rfl ?_
      refine lv_icmp_ge (tgt := 43) C.1.1 C.1.2.1 dX15_nextPart_9 (by decide) (fun c1 => ?_) (fun c1 => ?_)
      · replace hD := g_pos c1 hD
        refine lv_iconst (v := (-1)) C.1.1 C.1.2.1 dX15_nextPart_43 (by decide) ?_
        exact mr_iret C hr hlocks hw rfl (Option.some.inj hD) dX15_nextPart_44
      · replace hD := g_neg c1 hD
        refine lv_aload_n C.1.1 C.1.2.1 dX15_nextPart_12 rfl (lv_at hl 0 rfl) ?_
        refine mr_getR C hw kc_15 8 (by decide) tf_787 ff_787_8 wd_1963 dX15_nextPart_13 (by decide) rfl ?_
        refine lv_iload_n C.1.1 C.1.2.1 dX15_nextPart_16 rfl (lv_at hl 3 rfl) ?_
        obtain ⟨q2, hD⟩ := g_ck hD
        refine mr_iald C hw (by decide) tf_793 q2 dX15_nextPart_17 ?_
        refine lv_iload_n C.1.1 C.1.2.1 dX15_nextPart_18 rfl (lv_at hl 1 rfl) ?_
        refine lv_icmp_ne (tgt := 37) C.1.1 C.1.2.1 dX15_nextPart_19 (by decide) (fun c3 => ?_) (fun c3 => ?_)
        · replace hD := g_neg c3 hD
          exact hb37 v2 v3 M L _ _ ls hD hw (lv_sub hl [0, 1, 2, 3] rfl)
        · replace hD := g_pos c3 hD
          refine lv_iload_n C.1.1 C.1.2.1 dX15_nextPart_22 rfl (lv_at hl 2 rfl) ?_
          refine lv_aload_n C.1.1 C.1.2.1 dX15_nextPart_23 rfl (lv_at hl 0 rfl) ?_
          refine mr_getR C hw kc_15 14 (by decide) tf_787 ff_787_14 wd_1969 dX15_nextPart_24 (by decide) rfl ?_
          refine lv_iload_n C.1.1 C.1.2.1 dX15_nextPart_27 rfl (lv_at hl 1 rfl) ?_
          obtain ⟨q4, hD⟩ := g_ck hD
          refine mr_iald C hw (by decide) tf_799 q4 dX15_nextPart_28 ?_
          refine lv_icmp_ne (tgt := 34) C.1.1 C.1.2.1 dX15_nextPart_29 (by decide) (fun c5 => ?_) (fun c5 => ?_)
          · replace hD := g_neg c5 hD
            obtain ⟨x6, ex6, hD⟩ := g_let hD
            refine lv_iinc (v := x6) (lv' := [(2, .int x6), (0, .ref (ad 787)), (1, .int a1), (3, .int v3)]) C.1.1 C.1.2.1 dX15_nextPart_34 hl (k := 2) rfl (by rw [ex6]; rfl) (by decide) rfl (fun ls hl => ?_)
            exact hb37 x6 v3 M L _ _ ls hD hw (lv_sub hl [1, 2, 0, 3] rfl)
          · replace hD := g_pos c5 hD
            refine lv_iload_n C.1.1 C.1.2.1 dX15_nextPart_32 rfl (lv_at hl 3 rfl) ?_
            exact mr_iret C hr hlocks hw rfl (Option.some.inj hD) dX15_nextPart_33
  unfold DX15_nextPart at hD
  refine lv_iconst (v := 0) C.1.1 C.1.2.1 dX15_nextPart_0 (by decide) ?_
  refine lv_istore_n (lv' := [(2, .int 0), (0, .ref (ad 787)), (1, .int a1)]) C.1.1 C.1.2.1 dX15_nextPart_1 rfl hl (by decide) rfl (fun ls hl => ?_)
  refine lv_iconst (v := 0) C.1.1 C.1.2.1 dX15_nextPart_2 (by decide) ?_
  refine lv_istore_n (lv' := [(3, .int 0), (2, .int 0), (0, .ref (ad 787)), (1, .int a1)]) C.1.1 C.1.2.1 dX15_nextPart_3 rfl hl (by decide) rfl (fun ls hl => ?_)
  exact hh4 fu 0 0 M L _ _ ls hD hw (lv_sub hl [2, 3, 1, 0] rfl)

theorem dX15_chain_0 : decode cX15_chain 0 = .ok (.aload_n 0, 1) := by decide +kernel
theorem dX15_chain_1 : decode cX15_chain 1 = .ok (.iload_n 2, 1) := by decide +kernel
theorem dX15_chain_2 : decode cX15_chain 2 = .ok (.invokevirtual 165, 3) := by decide +kernel
theorem dX15_chain_5 : decode cX15_chain 5 = .ok (.ifCond .eq 10, 3) := by decide +kernel
theorem dX15_chain_8 : decode cX15_chain 8 = .ok (.aload_n 0, 1) := by decide +kernel
theorem dX15_chain_9 : decode cX15_chain 9 = .ok (.bipush 8, 2) := by decide +kernel
theorem dX15_chain_11 : decode cX15_chain 11 = .ok (.iload_n 1, 1) := by decide +kernel
theorem dX15_chain_12 : decode cX15_chain 12 = .ok (.invokevirtual 175, 3) := by decide +kernel
theorem dX15_chain_15 : decode cX15_chain 15 = .ok (.iload_n 2, 1) := by decide +kernel
theorem dX15_chain_16 : decode cX15_chain 16 = .ok (.iload_n 1, 1) := by decide +kernel
theorem dX15_chain_17 : decode cX15_chain 17 = .ok (.if_icmp .ne 11, 3) := by decide +kernel
theorem dX15_chain_20 : decode cX15_chain 20 = .ok (.aload_n 0, 1) := by decide +kernel
theorem dX15_chain_21 : decode cX15_chain 21 = .ok (.iload_n 1, 1) := by decide +kernel
theorem dX15_chain_22 : decode cX15_chain 22 = .ok (.invokevirtual 189, 3) := by decide +kernel
theorem dX15_chain_25 : decode cX15_chain 25 = .ok (.goto 8, 3) := by decide +kernel
theorem dX15_chain_28 : decode cX15_chain 28 = .ok (.aload_n 0, 1) := by decide +kernel
theorem dX15_chain_29 : decode cX15_chain 29 = .ok (.iload_n 1, 1) := by decide +kernel
theorem dX15_chain_30 : decode cX15_chain 30 = .ok (.invokevirtual 198, 3) := by decide +kernel
theorem dX15_chain_33 : decode cX15_chain 33 = .ok (.aload_n 0, 1) := by decide +kernel
theorem dX15_chain_34 : decode cX15_chain 34 = .ok (.iload_n 2, 1) := by decide +kernel
theorem dX15_chain_35 : decode cX15_chain 35 = .ok (.invokevirtual 165, 3) := by decide +kernel
theorem dX15_chain_38 : decode cX15_chain 38 = .ok (.ifCond .ne 8, 3) := by decide +kernel
theorem dX15_chain_41 : decode cX15_chain 41 = .ok (.aload_n 0, 1) := by decide +kernel
theorem dX15_chain_42 : decode cX15_chain 42 = .ok (.iload_n 2, 1) := by decide +kernel
theorem dX15_chain_43 : decode cX15_chain 43 = .ok (.invokevirtual 192, 3) := by decide +kernel
theorem dX15_chain_46 : decode cX15_chain 46 = .ok (.return_, 1) := by decide +kernel
theorem cwX15_chain : mw_cwV yX15_chain cX15_chain 3 (none) 2 := ⟨⟨wd_14, wd_3844, by decide +kernel⟩, wd_3843, sl_274⟩
set_option maxHeartbeats 4000000 in
set_option maxRecDepth 100000 in
theorem tX15_chain (l : Launch) (G : mwG) (ad : Nat → Nat) (fu : Nat) (a1 : Int32) (a2 : Int32) (M : mwM) (L : mwL) {M0 : mwM} {L0 : mwL} (hD : DX15_chain fu a1 a2 M L = some (M0, L0)) : Met l yX15_chain (Cond.code yX15_chain cX15_chain 3 (none) :: GT) ({ frames := 3, cells := 0, slots := 0, locals := 67 }) (mw_Pre G ad NF TF FF M L [.ref (ad 787), .int a1, .int a2]) (mw_Qv G ad NF TF FF (mw_eqV M0 L0)) 0 0 (mw_fr G) := by
  refine mw_enter (by decide) (Nat.le_of_ble_eq_true rfl) ?_
  intro p e s m below meth c ls C hr hlocks hnm hw hl
  have hl : lv_has ls 3 [(0, .ref (ad 787)), (1, .int a1), (2, .int a2)] := hl
  have hb46 : ∀ (M : mwM) (L : mwL) (H : Heap) (locs : List Loc) (ls : Array Slot), fX15_chain_b46 fu a1 a2 M L = some (M0, L0) → mw_W G ad NF TF FF M L H locs → lv_has ls 3 [] → W p l e ({ frames := 3, cells := 0, slots := 0, locals := 67 }) s m [.ref (ad 787), .int a1, .int a2].toArray below meth c H locs 0 0 (MQ below (mw_Qv G ad NF TF FF (mw_eqV M0 L0)) [.ref (ad 787), .int a1, .int a2].toArray s 0 0 (mw_fr G)) (F0 m 46 ls []) := by
    intro M L H locs ls hD hw hl
    unfold fX15_chain_b46 at hD
    exact mr_vret C hr hlocks hw (Option.some.inj hD) dX15_chain_46
  have hb33 : ∀ (M : mwM) (L : mwL) (H : Heap) (locs : List Loc) (ls : Array Slot), fX15_chain_b33 fu a1 a2 M L = some (M0, L0) → mw_W G ad NF TF FF M L H locs → lv_has ls 3 [(0, .ref (ad 787)), (2, .int a2)] → W p l e ({ frames := 3, cells := 0, slots := 0, locals := 67 }) s m [.ref (ad 787), .int a1, .int a2].toArray below meth c H locs 0 0 (MQ below (mw_Qv G ad NF TF FF (mw_eqV M0 L0)) [.ref (ad 787), .int a1, .int a2].toArray s 0 0 (mw_fr G)) (F0 m 33 ls []) := by
    intro M L H locs ls hD hw hl
    unfold fX15_chain_b33 at hD
    refine lv_aload_n C.1.1 C.1.2.1 dX15_chain_33 rfl (lv_at hl 0 rfl) ?_
    refine lv_iload_n C.1.1 C.1.2.1 dX15_chain_34 rfl (lv_at hl 1 rfl) ?_
    obtain ⟨r8, M6, L7, h1, hD⟩ := g_b3 hD
    refine md_cvI (As := [.int a2]) (rest := []) C hw (tX15_no l G ad fu a2 M L h1) kc_15 (by decide) tf_787 wd_3515 cwX15_no ⟨Nat.le_of_ble_eq_true rfl, Nat.le_of_ble_eq_true rfl⟩ rfl hl.1 (Nat.le_of_ble_eq_true rfl) dX15_chain_35 rfl rfl ⟨Nat.zero_le _, Nat.zero_le _⟩ rfl (fun H locs hw => ?_)
    refine lv_if_ne (tgt := 46) C.1.1 C.1.2.1 dX15_chain_38 (by decide) (fun c9 => ?_) (fun c9 => ?_)
    · replace hD := g_neg c9 hD
      exact hb46 M6 L7 _ _ ls hD hw (lv_sub hl [] rfl)
    · replace hD := g_pos c9 hD
      refine lv_aload_n C.1.1 C.1.2.1 dX15_chain_41 rfl (lv_at hl 0 rfl) ?_
      refine lv_iload_n C.1.1 C.1.2.1 dX15_chain_42 rfl (lv_at hl 1 rfl) ?_
      obtain ⟨M10, L11, h1, hD⟩ := g_b2 hD
      refine md_cvV (As := [.int a2]) (rest := []) C hw (tX15_begin l G ad fu a2 M6 L7 h1) kc_15 (by decide) tf_787 wd_3785 cwX15_begin ⟨Nat.le_of_ble_eq_true rfl, Nat.le_of_ble_eq_true rfl⟩ rfl hl.1 (Nat.le_of_ble_eq_true rfl) dX15_chain_43 rfl rfl ⟨Nat.zero_le _, Nat.zero_le _⟩ rfl (fun H locs hw => ?_)
      exact hb46 M10 L11 _ _ ls hD hw (lv_sub hl [] rfl)
  have hb15 : ∀ (M : mwM) (L : mwL) (H : Heap) (locs : List Loc) (ls : Array Slot), fX15_chain_b15 fu a1 a2 M L = some (M0, L0) → mw_W G ad NF TF FF M L H locs → lv_has ls 3 [(0, .ref (ad 787)), (1, .int a1), (2, .int a2)] → W p l e ({ frames := 3, cells := 0, slots := 0, locals := 67 }) s m [.ref (ad 787), .int a1, .int a2].toArray below meth c H locs 0 0 (MQ below (mw_Qv G ad NF TF FF (mw_eqV M0 L0)) [.ref (ad 787), .int a1, .int a2].toArray s 0 0 (mw_fr G)) (F0 m 15 ls []) := by
    intro M L H locs ls hD hw hl
    unfold fX15_chain_b15 at hD
    refine lv_iload_n C.1.1 C.1.2.1 dX15_chain_15 rfl (lv_at hl 2 rfl) ?_
    refine lv_iload_n C.1.1 C.1.2.1 dX15_chain_16 rfl (lv_at hl 1 rfl) ?_
    refine lv_icmp_ne (tgt := 28) C.1.1 C.1.2.1 dX15_chain_17 (by decide) (fun c1 => ?_) (fun c1 => ?_)
    · replace hD := g_neg c1 hD
      refine lv_aload_n C.1.1 C.1.2.1 dX15_chain_28 rfl (lv_at hl 0 rfl) ?_
      refine lv_iload_n C.1.1 C.1.2.1 dX15_chain_29 rfl (lv_at hl 1 rfl) ?_
      obtain ⟨M2, L3, h1, hD⟩ := g_b2 hD
      refine md_cvV (As := [.int a1]) (rest := []) C hw (tX15_ends l G ad fu a1 M L h1) kc_15 (by decide) tf_787 wd_3821 cwX15_ends ⟨Nat.le_of_ble_eq_true rfl, Nat.le_of_ble_eq_true rfl⟩ rfl hl.1 (Nat.le_of_ble_eq_true rfl) dX15_chain_30 rfl rfl ⟨Nat.zero_le _, Nat.zero_le _⟩ rfl (fun H locs hw => ?_)
      exact hb33 M2 L3 _ _ ls hD hw (lv_sub hl [0, 2] rfl)
    · replace hD := g_pos c1 hD
      refine lv_aload_n C.1.1 C.1.2.1 dX15_chain_20 rfl (lv_at hl 0 rfl) ?_
      refine lv_iload_n C.1.1 C.1.2.1 dX15_chain_21 rfl (lv_at hl 1 rfl) ?_
      obtain ⟨M4, L5, h1, hD⟩ := g_b2 hD
      refine md_cvV (As := [.int a1]) (rest := []) C hw (tX15_free l G ad fu a1 M L h1) kc_15 (by decide) tf_787 wd_3825 cwX15_free ⟨Nat.le_of_ble_eq_true rfl, Nat.le_of_ble_eq_true rfl⟩ rfl hl.1 (Nat.le_of_ble_eq_true rfl) dX15_chain_22 rfl rfl ⟨Nat.zero_le _, Nat.zero_le _⟩ rfl (fun H locs hw => ?_)
      refine lv_goto (tgt := 33) C.1.1 C.1.2.1 dX15_chain_25 (by decide) ?_
      exact hb33 M4 L5 _ _ ls hD hw (lv_sub hl [0, 2] rfl)
  unfold DX15_chain at hD
  refine lv_aload_n C.1.1 C.1.2.1 dX15_chain_0 rfl (lv_at hl 0 rfl) ?_
  refine lv_iload_n C.1.1 C.1.2.1 dX15_chain_1 rfl (lv_at hl 2 rfl) ?_
  obtain ⟨r14, M12, L13, h1, hD⟩ := g_b3 hD
  refine md_cvI (As := [.int a2]) (rest := []) C hw (tX15_no l G ad fu a2 M L h1) kc_15 (by decide) tf_787 wd_3515 cwX15_no ⟨Nat.le_of_ble_eq_true rfl, Nat.le_of_ble_eq_true rfl⟩ rfl hl.1 (Nat.le_of_ble_eq_true rfl) dX15_chain_2 rfl rfl ⟨Nat.zero_le _, Nat.zero_le _⟩ rfl (fun H locs hw => ?_)
  refine lv_if_eq (tgt := 15) C.1.1 C.1.2.1 dX15_chain_5 (by decide) (fun c15 => ?_) (fun c15 => ?_)
  · replace hD := g_pos c15 hD
    exact hb15 M12 L13 _ _ ls hD hw (lv_sub hl [0, 1, 2] rfl)
  · replace hD := g_neg c15 hD
    refine lv_aload_n C.1.1 C.1.2.1 dX15_chain_8 rfl (lv_at hl 0 rfl) ?_
    refine lv_bipush (v := 8) C.1.1 C.1.2.1 dX15_chain_9 (by decide) ?_
    refine lv_iload_n C.1.1 C.1.2.1 dX15_chain_11 rfl (lv_at hl 1 rfl) ?_
    obtain ⟨M16, L17, h1, hD⟩ := g_b2 hD
    refine md_cvV (As := [.int 8, .int a1]) (rest := []) C hw (tX15_tell l G ad fu 8 a1 M12 L13 h1) kc_15 (by decide) tf_787 wd_3789 cwX15_tell ⟨Nat.le_of_ble_eq_true rfl, Nat.le_of_ble_eq_true rfl⟩ rfl hl.1 (Nat.le_of_ble_eq_true rfl) dX15_chain_12 rfl rfl ⟨Nat.zero_le _, Nat.zero_le _⟩ rfl (fun H locs hw => ?_)
    exact hb15 M16 L17 _ _ ls hD hw (lv_sub hl [0, 1, 2] rfl)

theorem dX15_act_0 : decode cX15_act 0 = .ok (.lload_n 3, 1) := by decide +kernel
theorem dX15_act_1 : decode cX15_act 1 = .ok (.l2i, 1) := by decide +kernel
theorem dX15_act_2 : decode cX15_act 2 = .ok (.istore 5, 2) := by decide +kernel
theorem dX15_act_4 : decode cX15_act 4 = .ok (.iconst 0, 1) := by decide +kernel
theorem dX15_act_5 : decode cX15_act 5 = .ok (.istore 6, 2) := by decide +kernel
theorem dX15_act_7 : decode cX15_act 7 = .ok (.iload_n 2, 1) := by decide +kernel
theorem dX15_act_8 : decode cX15_act 8 = .ok (.iconst 2, 1) := by decide +kernel
theorem dX15_act_9 : decode cX15_act 9 = .ok (.if_icmp .ne 11, 3) := by decide +kernel
theorem dX15_act_12 : decode cX15_act 12 = .ok (.aload_n 0, 1) := by decide +kernel
theorem dX15_act_13 : decode cX15_act 13 = .ok (.iload_n 1, 1) := by decide +kernel
theorem dX15_act_14 : decode cX15_act 14 = .ok (.iload 5, 2) := by decide +kernel
theorem dX15_act_16 : decode cX15_act 16 = .ok (.invokevirtual 195, 3) := by decide +kernel
theorem dX15_act_19 : decode cX15_act 19 = .ok (.return_, 1) := by decide +kernel
theorem dX15_act_20 : decode cX15_act 20 = .ok (.iload_n 2, 1) := by decide +kernel
theorem dX15_act_21 : decode cX15_act 21 = .ok (.bipush 11, 2) := by decide +kernel
theorem dX15_act_23 : decode cX15_act 23 = .ok (.if_icmp .ne 9, 3) := by decide +kernel
theorem dX15_act_26 : decode cX15_act 26 = .ok (.aload_n 0, 1) := by decide +kernel
theorem dX15_act_27 : decode cX15_act 27 = .ok (.iload_n 1, 1) := by decide +kernel
theorem dX15_act_28 : decode cX15_act 28 = .ok (.invokevirtual 198, 3) := by decide +kernel
theorem dX15_act_31 : decode cX15_act 31 = .ok (.return_, 1) := by decide +kernel
theorem dX15_act_32 : decode cX15_act 32 = .ok (.iload_n 2, 1) := by decide +kernel
theorem dX15_act_33 : decode cX15_act 33 = .ok (.bipush 8, 2) := by decide +kernel
theorem dX15_act_35 : decode cX15_act 35 = .ok (.if_icmp .ne 53, 3) := by decide +kernel
theorem dX15_act_38 : decode cX15_act 38 = .ok (.aload_n 0, 1) := by decide +kernel
theorem dX15_act_39 : decode cX15_act 39 = .ok (.getfield 75, 3) := by decide +kernel
theorem dX15_act_42 : decode cX15_act 42 = .ok (.iload 5, 2) := by decide +kernel
theorem dX15_act_44 : decode cX15_act 44 = .ok (.iaload, 1) := by decide +kernel
theorem dX15_act_45 : decode cX15_act 45 = .ok (.ifCond .eq 43, 3) := by decide +kernel
theorem dX15_act_48 : decode cX15_act 48 = .ok (.aload_n 0, 1) := by decide +kernel
theorem dX15_act_49 : decode cX15_act 49 = .ok (.getfield 75, 3) := by decide +kernel
theorem dX15_act_52 : decode cX15_act 52 = .ok (.iload 5, 2) := by decide +kernel
theorem dX15_act_54 : decode cX15_act 54 = .ok (.iaload, 1) := by decide +kernel
theorem dX15_act_55 : decode cX15_act 55 = .ok (.iload_n 1, 1) := by decide +kernel
theorem dX15_act_56 : decode cX15_act 56 = .ok (.if_icmp .eq 32, 3) := by decide +kernel
theorem dX15_act_59 : decode cX15_act 59 = .ok (.aload_n 0, 1) := by decide +kernel
theorem dX15_act_60 : decode cX15_act 60 = .ok (.dup, 1) := by decide +kernel
theorem dX15_act_61 : decode cX15_act 61 = .ok (.getfield 127, 3) := by decide +kernel
theorem dX15_act_64 : decode cX15_act 64 = .ok (.lconst 1, 1) := by decide +kernel
theorem dX15_act_65 : decode cX15_act 65 = .ok (.ladd, 1) := by decide +kernel
theorem dX15_act_66 : decode cX15_act 66 = .ok (.putfield 127, 3) := by decide +kernel
theorem dX15_act_69 : decode cX15_act 69 = .ok (.aload_n 0, 1) := by decide +kernel
theorem dX15_act_70 : decode cX15_act 70 = .ok (.getfield 78, 3) := by decide +kernel
theorem dX15_act_73 : decode cX15_act 73 = .ok (.iload_n 1, 1) := by decide +kernel
theorem dX15_act_74 : decode cX15_act 74 = .ok (.iload 5, 2) := by decide +kernel
theorem dX15_act_76 : decode cX15_act 76 = .ok (.iastore, 1) := by decide +kernel
theorem dX15_act_77 : decode cX15_act 77 = .ok (.aload_n 0, 1) := by decide +kernel
theorem dX15_act_78 : decode cX15_act 78 = .ok (.getfield 81, 3) := by decide +kernel
theorem dX15_act_81 : decode cX15_act 81 = .ok (.iload_n 1, 1) := by decide +kernel
theorem dX15_act_82 : decode cX15_act 82 = .ok (.aload_n 0, 1) := by decide +kernel
theorem dX15_act_83 : decode cX15_act 83 = .ok (.getfield 127, 3) := by decide +kernel
theorem dX15_act_86 : decode cX15_act 86 = .ok (.lastore, 1) := by decide +kernel
theorem dX15_act_87 : decode cX15_act 87 = .ok (.return_, 1) := by decide +kernel
theorem dX15_act_88 : decode cX15_act 88 = .ok (.aload_n 0, 1) := by decide +kernel
theorem dX15_act_89 : decode cX15_act 89 = .ok (.getfield 45, 3) := by decide +kernel
theorem dX15_act_92 : decode cX15_act 92 = .ok (.iload_n 1, 1) := by decide +kernel
theorem dX15_act_93 : decode cX15_act 93 = .ok (.dup2, 1) := by decide +kernel
theorem dX15_act_94 : decode cX15_act 94 = .ok (.iaload, 1) := by decide +kernel
theorem dX15_act_95 : decode cX15_act 95 = .ok (.iconst 1, 1) := by decide +kernel
theorem dX15_act_96 : decode cX15_act 96 = .ok (.iadd, 1) := by decide +kernel
theorem dX15_act_97 : decode cX15_act 97 = .ok (.iastore, 1) := by decide +kernel
theorem dX15_act_98 : decode cX15_act 98 = .ok (.iload_n 2, 1) := by decide +kernel
theorem dX15_act_99 : decode cX15_act 99 = .ok (.iconst 1, 1) := by decide +kernel
theorem dX15_act_100 : decode cX15_act 100 = .ok (.if_icmp .ne 28, 3) := by decide +kernel
theorem dX15_act_103 : decode cX15_act 103 = .ok (.aload_n 0, 1) := by decide +kernel
theorem dX15_act_104 : decode cX15_act 104 = .ok (.iload 5, 2) := by decide +kernel
theorem dX15_act_106 : decode cX15_act 106 = .ok (.invokevirtual 165, 3) := by decide +kernel
theorem dX15_act_109 : decode cX15_act 109 = .ok (.ifCond .eq 10, 3) := by decide +kernel
theorem dX15_act_112 : decode cX15_act 112 = .ok (.bipush 8, 2) := by decide +kernel
theorem dX15_act_114 : decode cX15_act 114 = .ok (.istore 6, 2) := by decide +kernel
theorem dX15_act_116 : decode cX15_act 116 = .ok (.goto 538, 3) := by decide +kernel
theorem dX15_act_119 : decode cX15_act 119 = .ok (.aload_n 0, 1) := by decide +kernel
theorem dX15_act_120 : decode cX15_act 120 = .ok (.iload 5, 2) := by decide +kernel
theorem dX15_act_122 : decode cX15_act 122 = .ok (.invokevirtual 192, 3) := by decide +kernel
theorem dX15_act_125 : decode cX15_act 125 = .ok (.goto 529, 3) := by decide +kernel
theorem dX15_act_128 : decode cX15_act 128 = .ok (.iload_n 2, 1) := by decide +kernel
theorem dX15_act_129 : decode cX15_act 129 = .ok (.iconst 3, 1) := by decide +kernel
theorem dX15_act_130 : decode cX15_act 130 = .ok (.if_icmp .ne 66, 3) := by decide +kernel
theorem dX15_act_133 : decode cX15_act 133 = .ok (.aload_n 0, 1) := by decide +kernel
theorem dX15_act_134 : decode cX15_act 134 = .ok (.getfield 19, 3) := by decide +kernel
theorem dX15_act_137 : decode cX15_act 137 = .ok (.iload_n 1, 1) := by decide +kernel
theorem dX15_act_138 : decode cX15_act 138 = .ok (.baload, 1) := by decide +kernel
theorem dX15_act_139 : decode cX15_act 139 = .ok (.ifCond .ne 7, 3) := by decide +kernel
theorem dX15_act_142 : decode cX15_act 142 = .ok (.iconst 2, 1) := by decide +kernel
theorem dX15_act_143 : decode cX15_act 143 = .ok (.goto 16, 3) := by decide +kernel
theorem dX15_act_146 : decode cX15_act 146 = .ok (.aload_n 0, 1) := by decide +kernel
theorem dX15_act_147 : decode cX15_act 147 = .ok (.iload_n 1, 1) := by decide +kernel
theorem dX15_act_148 : decode cX15_act 148 = .ok (.invokevirtual 183, 3) := by decide +kernel
theorem dX15_act_151 : decode cX15_act 151 = .ok (.ifCond .eq 7, 3) := by decide +kernel
theorem dX15_act_154 : decode cX15_act 154 = .ok (.iconst 4, 1) := by decide +kernel
theorem dX15_act_155 : decode cX15_act 155 = .ok (.goto 4, 3) := by decide +kernel
theorem dX15_act_158 : decode cX15_act 158 = .ok (.iconst 0, 1) := by decide +kernel
theorem dX15_act_159 : decode cX15_act 159 = .ok (.istore 6, 2) := by decide +kernel
theorem dX15_act_161 : decode cX15_act 161 = .ok (.iload 6, 2) := by decide +kernel
theorem dX15_act_163 : decode cX15_act 163 = .ok (.ifCond .ne 491, 3) := by decide +kernel
theorem dX15_act_166 : decode cX15_act 166 = .ok (.aload_n 0, 1) := by decide +kernel
theorem dX15_act_167 : decode cX15_act 167 = .ok (.getfield 54, 3) := by decide +kernel
theorem dX15_act_170 : decode cX15_act 170 = .ok (.iload_n 1, 1) := by decide +kernel
theorem dX15_act_171 : decode cX15_act 171 = .ok (.iaload, 1) := by decide +kernel
theorem dX15_act_172 : decode cX15_act 172 = .ok (.iload 5, 2) := by decide +kernel
theorem dX15_act_174 : decode cX15_act 174 = .ok (.iand, 1) := by decide +kernel
theorem dX15_act_175 : decode cX15_act 175 = .ok (.ifCond .ne 479, 3) := by decide +kernel
theorem dX15_act_178 : decode cX15_act 178 = .ok (.aload_n 0, 1) := by decide +kernel
theorem dX15_act_179 : decode cX15_act 179 = .ok (.getfield 36, 3) := by decide +kernel
theorem dX15_act_182 : decode cX15_act 182 = .ok (.iload_n 1, 1) := by decide +kernel
theorem dX15_act_183 : decode cX15_act 183 = .ok (.iconst 3, 1) := by decide +kernel
theorem dX15_act_184 : decode cX15_act 184 = .ok (.iastore, 1) := by decide +kernel
theorem dX15_act_185 : decode cX15_act 185 = .ok (.aload_n 0, 1) := by decide +kernel
theorem dX15_act_186 : decode cX15_act 186 = .ok (.getfield 57, 3) := by decide +kernel
theorem dX15_act_189 : decode cX15_act 189 = .ok (.iload_n 1, 1) := by decide +kernel
theorem dX15_act_190 : decode cX15_act 190 = .ok (.iload 5, 2) := by decide +kernel
theorem dX15_act_192 : decode cX15_act 192 = .ok (.iastore, 1) := by decide +kernel
theorem dX15_act_193 : decode cX15_act 193 = .ok (.goto 461, 3) := by decide +kernel
theorem dX15_act_196 : decode cX15_act 196 = .ok (.iload_n 2, 1) := by decide +kernel
theorem dX15_act_197 : decode cX15_act 197 = .ok (.iconst 4, 1) := by decide +kernel
theorem dX15_act_198 : decode cX15_act 198 = .ok (.if_icmp .ne 48, 3) := by decide +kernel
theorem dX15_act_201 : decode cX15_act 201 = .ok (.iload 5, 2) := by decide +kernel
theorem dX15_act_203 : decode cX15_act 203 = .ok (.ldc 201, 2) := by decide +kernel
theorem dX15_act_205 : decode cX15_act 205 = .ok (.idiv, 1) := by decide +kernel
theorem dX15_act_206 : decode cX15_act 206 = .ok (.istore 7, 2) := by decide +kernel
theorem dX15_act_208 : decode cX15_act 208 = .ok (.aload_n 0, 1) := by decide +kernel
theorem dX15_act_209 : decode cX15_act 209 = .ok (.iload 7, 2) := by decide +kernel
theorem dX15_act_211 : decode cX15_act 211 = .ok (.invokevirtual 165, 3) := by decide +kernel
theorem dX15_act_214 : decode cX15_act 214 = .ok (.ifCond .eq 8, 3) := by decide +kernel
theorem dX15_act_217 : decode cX15_act 217 = .ok (.bipush 8, 2) := by decide +kernel
theorem dX15_act_219 : decode cX15_act 219 = .ok (.goto 22, 3) := by decide +kernel
theorem dX15_act_222 : decode cX15_act 222 = .ok (.aload_n 0, 1) := by decide +kernel
theorem dX15_act_223 : decode cX15_act 223 = .ok (.iload 7, 2) := by decide +kernel
theorem dX15_act_225 : decode cX15_act 225 = .ok (.iload 5, 2) := by decide +kernel
theorem dX15_act_227 : decode cX15_act 227 = .ok (.ldc 201, 2) := by decide +kernel
theorem dX15_act_229 : decode cX15_act 229 = .ok (.irem, 1) := by decide +kernel
theorem dX15_act_230 : decode cX15_act 230 = .ok (.invokevirtual 202, 3) := by decide +kernel
theorem dX15_act_233 : decode cX15_act 233 = .ok (.ifCond .eq 7, 3) := by decide +kernel
theorem dX15_act_236 : decode cX15_act 236 = .ok (.iconst 0, 1) := by decide +kernel
theorem dX15_act_237 : decode cX15_act 237 = .ok (.goto 4, 3) := by decide +kernel
theorem dX15_act_240 : decode cX15_act 240 = .ok (.iconst 5, 1) := by decide +kernel
theorem dX15_act_241 : decode cX15_act 241 = .ok (.istore 6, 2) := by decide +kernel
theorem dX15_act_243 : decode cX15_act 243 = .ok (.goto 411, 3) := by decide +kernel
theorem dX15_act_246 : decode cX15_act 246 = .ok (.iload_n 2, 1) := by decide +kernel
theorem dX15_act_247 : decode cX15_act 247 = .ok (.iconst 5, 1) := by decide +kernel
theorem dX15_act_248 : decode cX15_act 248 = .ok (.if_icmp .ne 53, 3) := by decide +kernel
theorem dX15_act_251 : decode cX15_act 251 = .ok (.aload_n 0, 1) := by decide +kernel
theorem dX15_act_252 : decode cX15_act 252 = .ok (.getfield 19, 3) := by decide +kernel
theorem dX15_act_255 : decode cX15_act 255 = .ok (.iload_n 1, 1) := by decide +kernel
theorem dX15_act_256 : decode cX15_act 256 = .ok (.baload, 1) := by decide +kernel
theorem dX15_act_257 : decode cX15_act 257 = .ok (.ifCond .eq 7, 3) := by decide +kernel
theorem dX15_act_260 : decode cX15_act 260 = .ok (.iconst 0, 1) := by decide +kernel
theorem dX15_act_261 : decode cX15_act 261 = .ok (.goto 4, 3) := by decide +kernel
theorem dX15_act_264 : decode cX15_act 264 = .ok (.iconst 2, 1) := by decide +kernel
theorem dX15_act_265 : decode cX15_act 265 = .ok (.istore 6, 2) := by decide +kernel
theorem dX15_act_267 : decode cX15_act 267 = .ok (.aload_n 0, 1) := by decide +kernel
theorem dX15_act_268 : decode cX15_act 268 = .ok (.getfield 54, 3) := by decide +kernel
theorem dX15_act_271 : decode cX15_act 271 = .ok (.iload_n 1, 1) := by decide +kernel
theorem dX15_act_272 : decode cX15_act 272 = .ok (.iload 6, 2) := by decide +kernel
theorem dX15_act_274 : decode cX15_act 274 = .ok (.ifCond .ne 17, 3) := by decide +kernel
theorem dX15_act_277 : decode cX15_act 277 = .ok (.aload_n 0, 1) := by decide +kernel
theorem dX15_act_278 : decode cX15_act 278 = .ok (.getfield 54, 3) := by decide +kernel
theorem dX15_act_281 : decode cX15_act 281 = .ok (.iload_n 1, 1) := by decide +kernel
theorem dX15_act_282 : decode cX15_act 282 = .ok (.iaload, 1) := by decide +kernel
theorem dX15_act_283 : decode cX15_act 283 = .ok (.iload 5, 2) := by decide +kernel
theorem dX15_act_285 : decode cX15_act 285 = .ok (.iconst (-1), 1) := by decide +kernel
theorem dX15_act_286 : decode cX15_act 286 = .ok (.ixor, 1) := by decide +kernel
theorem dX15_act_287 : decode cX15_act 287 = .ok (.iand, 1) := by decide +kernel
theorem dX15_act_288 : decode cX15_act 288 = .ok (.goto 9, 3) := by decide +kernel
theorem dX15_act_291 : decode cX15_act 291 = .ok (.aload_n 0, 1) := by decide +kernel
theorem dX15_act_292 : decode cX15_act 292 = .ok (.getfield 54, 3) := by decide +kernel
theorem dX15_act_295 : decode cX15_act 295 = .ok (.iload_n 1, 1) := by decide +kernel
theorem dX15_act_296 : decode cX15_act 296 = .ok (.iaload, 1) := by decide +kernel
theorem dX15_act_297 : decode cX15_act 297 = .ok (.iastore, 1) := by decide +kernel
theorem dX15_act_298 : decode cX15_act 298 = .ok (.goto 356, 3) := by decide +kernel
theorem dX15_act_301 : decode cX15_act 301 = .ok (.iload_n 2, 1) := by decide +kernel
theorem dX15_act_302 : decode cX15_act 302 = .ok (.bipush 6, 2) := by decide +kernel
theorem dX15_act_304 : decode cX15_act 304 = .ok (.if_icmp .ne 57, 3) := by decide +kernel
theorem dX15_act_307 : decode cX15_act 307 = .ok (.aload_n 0, 1) := by decide +kernel
theorem dX15_act_308 : decode cX15_act 308 = .ok (.getfield 66, 3) := by decide +kernel
theorem dX15_act_311 : decode cX15_act 311 = .ok (.iload 5, 2) := by decide +kernel
theorem dX15_act_313 : decode cX15_act 313 = .ok (.iaload, 1) := by decide +kernel
theorem dX15_act_314 : decode cX15_act 314 = .ok (.ifCond .ne 7, 3) := by decide +kernel
theorem dX15_act_317 : decode cX15_act 317 = .ok (.iconst 0, 1) := by decide +kernel
theorem dX15_act_318 : decode cX15_act 318 = .ok (.goto 4, 3) := by decide +kernel
theorem dX15_act_321 : decode cX15_act 321 = .ok (.iconst 4, 1) := by decide +kernel
theorem dX15_act_322 : decode cX15_act 322 = .ok (.istore 6, 2) := by decide +kernel
theorem dX15_act_324 : decode cX15_act 324 = .ok (.iload 6, 2) := by decide +kernel
theorem dX15_act_326 : decode cX15_act 326 = .ok (.ifCond .ne 328, 3) := by decide +kernel
theorem dX15_act_329 : decode cX15_act 329 = .ok (.aload_n 0, 1) := by decide +kernel
theorem dX15_act_330 : decode cX15_act 330 = .ok (.dup, 1) := by decide +kernel
theorem dX15_act_331 : decode cX15_act 331 = .ok (.getfield 127, 3) := by decide +kernel
theorem dX15_act_334 : decode cX15_act 334 = .ok (.lconst 1, 1) := by decide +kernel
theorem dX15_act_335 : decode cX15_act 335 = .ok (.ladd, 1) := by decide +kernel
theorem dX15_act_336 : decode cX15_act 336 = .ok (.putfield 127, 3) := by decide +kernel
theorem dX15_act_339 : decode cX15_act 339 = .ok (.aload_n 0, 1) := by decide +kernel
theorem dX15_act_340 : decode cX15_act 340 = .ok (.getfield 66, 3) := by decide +kernel
theorem dX15_act_343 : decode cX15_act 343 = .ok (.iload 5, 2) := by decide +kernel
theorem dX15_act_345 : decode cX15_act 345 = .ok (.iload_n 1, 1) := by decide +kernel
theorem dX15_act_346 : decode cX15_act 346 = .ok (.iastore, 1) := by decide +kernel
theorem dX15_act_347 : decode cX15_act 347 = .ok (.aload_n 0, 1) := by decide +kernel
theorem dX15_act_348 : decode cX15_act 348 = .ok (.getfield 69, 3) := by decide +kernel
theorem dX15_act_351 : decode cX15_act 351 = .ok (.iload 5, 2) := by decide +kernel
theorem dX15_act_353 : decode cX15_act 353 = .ok (.aload_n 0, 1) := by decide +kernel
theorem dX15_act_354 : decode cX15_act 354 = .ok (.getfield 127, 3) := by decide +kernel
theorem dX15_act_357 : decode cX15_act 357 = .ok (.lastore, 1) := by decide +kernel
theorem dX15_act_358 : decode cX15_act 358 = .ok (.goto 296, 3) := by decide +kernel
theorem dX15_act_361 : decode cX15_act 361 = .ok (.iload_n 2, 1) := by decide +kernel
theorem dX15_act_362 : decode cX15_act 362 = .ok (.bipush 7, 2) := by decide +kernel
theorem dX15_act_364 : decode cX15_act 364 = .ok (.if_icmp .ne 100, 3) := by decide +kernel
theorem dX15_act_367 : decode cX15_act 367 = .ok (.aload_n 0, 1) := by decide +kernel
theorem dX15_act_368 : decode cX15_act 368 = .ok (.getfield 66, 3) := by decide +kernel
theorem dX15_act_371 : decode cX15_act 371 = .ok (.iload 5, 2) := by decide +kernel
theorem dX15_act_373 : decode cX15_act 373 = .ok (.iaload, 1) := by decide +kernel
theorem dX15_act_374 : decode cX15_act 374 = .ok (.iload_n 1, 1) := by decide +kernel
theorem dX15_act_375 : decode cX15_act 375 = .ok (.if_icmp .ne 7, 3) := by decide +kernel
theorem dX15_act_378 : decode cX15_act 378 = .ok (.iconst 0, 1) := by decide +kernel
theorem dX15_act_379 : decode cX15_act 379 = .ok (.goto 4, 3) := by decide +kernel
theorem dX15_act_382 : decode cX15_act 382 = .ok (.iconst 4, 1) := by decide +kernel
theorem dX15_act_383 : decode cX15_act 383 = .ok (.istore 6, 2) := by decide +kernel
theorem dX15_act_385 : decode cX15_act 385 = .ok (.iconst 1, 1) := by decide +kernel
theorem dX15_act_386 : decode cX15_act 386 = .ok (.istore 7, 2) := by decide +kernel
theorem dX15_act_388 : decode cX15_act 388 = .ok (.iload 7, 2) := by decide +kernel
theorem dX15_act_390 : decode cX15_act 390 = .ok (.bipush 32, 2) := by decide +kernel
theorem dX15_act_392 : decode cX15_act 392 = .ok (.if_icmp .gt 46, 3) := by decide +kernel
theorem dX15_act_395 : decode cX15_act 395 = .ok (.aload_n 0, 1) := by decide +kernel
theorem dX15_act_396 : decode cX15_act 396 = .ok (.getfield 66, 3) := by decide +kernel
theorem dX15_act_399 : decode cX15_act 399 = .ok (.iload 7, 2) := by decide +kernel
theorem dX15_act_401 : decode cX15_act 401 = .ok (.iaload, 1) := by decide +kernel
theorem dX15_act_402 : decode cX15_act 402 = .ok (.iload_n 1, 1) := by decide +kernel
theorem dX15_act_403 : decode cX15_act 403 = .ok (.if_icmp .ne 25, 3) := by decide +kernel
theorem dX15_act_406 : decode cX15_act 406 = .ok (.aload_n 0, 1) := by decide +kernel
theorem dX15_act_407 : decode cX15_act 407 = .ok (.getfield 69, 3) := by decide +kernel
theorem dX15_act_410 : decode cX15_act 410 = .ok (.iload 7, 2) := by decide +kernel
theorem dX15_act_412 : decode cX15_act 412 = .ok (.laload, 1) := by decide +kernel
theorem dX15_act_413 : decode cX15_act 413 = .ok (.aload_n 0, 1) := by decide +kernel
theorem dX15_act_414 : decode cX15_act 414 = .ok (.getfield 69, 3) := by decide +kernel
theorem dX15_act_417 : decode cX15_act 417 = .ok (.iload 5, 2) := by decide +kernel
theorem dX15_act_419 : decode cX15_act 419 = .ok (.laload, 1) := by decide +kernel
theorem dX15_act_420 : decode cX15_act 420 = .ok (.lcmp, 1) := by decide +kernel
theorem dX15_act_421 : decode cX15_act 421 = .ok (.ifCond .le 7, 3) := by decide +kernel
theorem dX15_act_424 : decode cX15_act 424 = .ok (.iconst 4, 1) := by decide +kernel
theorem dX15_act_425 : decode cX15_act 425 = .ok (.goto 5, 3) := by decide +kernel
theorem dX15_act_428 : decode cX15_act 428 = .ok (.iload 6, 2) := by decide +kernel
theorem dX15_act_430 : decode cX15_act 430 = .ok (.istore 6, 2) := by decide +kernel
theorem dX15_act_432 : decode cX15_act 432 = .ok (.iinc 7 1, 3) := by decide +kernel
theorem dX15_act_435 : decode cX15_act 435 = .ok (.goto (-47), 3) := by decide +kernel
theorem dX15_act_438 : decode cX15_act 438 = .ok (.aload_n 0, 1) := by decide +kernel
theorem dX15_act_439 : decode cX15_act 439 = .ok (.getfield 66, 3) := by decide +kernel
theorem dX15_act_442 : decode cX15_act 442 = .ok (.iload 5, 2) := by decide +kernel
theorem dX15_act_444 : decode cX15_act 444 = .ok (.iload 6, 2) := by decide +kernel
theorem dX15_act_446 : decode cX15_act 446 = .ok (.ifCond .ne 7, 3) := by decide +kernel
theorem dX15_act_449 : decode cX15_act 449 = .ok (.iconst 0, 1) := by decide +kernel
theorem dX15_act_450 : decode cX15_act 450 = .ok (.goto 10, 3) := by decide +kernel
theorem dX15_act_453 : decode cX15_act 453 = .ok (.aload_n 0, 1) := by decide +kernel
theorem dX15_act_454 : decode cX15_act 454 = .ok (.getfield 66, 3) := by decide +kernel
theorem dX15_act_457 : decode cX15_act 457 = .ok (.iload 5, 2) := by decide +kernel
theorem dX15_act_459 : decode cX15_act 459 = .ok (.iaload, 1) := by decide +kernel
theorem dX15_act_460 : decode cX15_act 460 = .ok (.iastore, 1) := by decide +kernel
theorem dX15_act_461 : decode cX15_act 461 = .ok (.goto 193, 3) := by decide +kernel
theorem dX15_act_464 : decode cX15_act 464 = .ok (.iload_n 2, 1) := by decide +kernel
theorem dX15_act_465 : decode cX15_act 465 = .ok (.bipush 8, 2) := by decide +kernel
theorem dX15_act_467 : decode cX15_act 467 = .ok (.if_icmp .ne 33, 3) := by decide +kernel
theorem dX15_act_470 : decode cX15_act 470 = .ok (.aload_n 0, 1) := by decide +kernel
theorem dX15_act_471 : decode cX15_act 471 = .ok (.getfield 75, 3) := by decide +kernel
theorem dX15_act_474 : decode cX15_act 474 = .ok (.iload 5, 2) := by decide +kernel
theorem dX15_act_476 : decode cX15_act 476 = .ok (.iaload, 1) := by decide +kernel
theorem dX15_act_477 : decode cX15_act 477 = .ok (.iload_n 1, 1) := by decide +kernel
theorem dX15_act_478 : decode cX15_act 478 = .ok (.if_icmp .ne 8, 3) := by decide +kernel
theorem dX15_act_481 : decode cX15_act 481 = .ok (.bipush 6, 2) := by decide +kernel
theorem dX15_act_483 : decode cX15_act 483 = .ok (.goto 4, 3) := by decide +kernel
theorem dX15_act_486 : decode cX15_act 486 = .ok (.iconst 0, 1) := by decide +kernel
theorem dX15_act_487 : decode cX15_act 487 = .ok (.istore 6, 2) := by decide +kernel
theorem dX15_act_489 : decode cX15_act 489 = .ok (.aload_n 0, 1) := by decide +kernel
theorem dX15_act_490 : decode cX15_act 490 = .ok (.getfield 75, 3) := by decide +kernel
theorem dX15_act_493 : decode cX15_act 493 = .ok (.iload 5, 2) := by decide +kernel
theorem dX15_act_495 : decode cX15_act 495 = .ok (.iload_n 1, 1) := by decide +kernel
theorem dX15_act_496 : decode cX15_act 496 = .ok (.iastore, 1) := by decide +kernel
theorem dX15_act_497 : decode cX15_act 497 = .ok (.goto 157, 3) := by decide +kernel
theorem dX15_act_500 : decode cX15_act 500 = .ok (.iload_n 2, 1) := by decide +kernel
theorem dX15_act_501 : decode cX15_act 501 = .ok (.bipush 9, 2) := by decide +kernel
theorem dX15_act_503 : decode cX15_act 503 = .ok (.if_icmp .ne 36, 3) := by decide +kernel
theorem dX15_act_506 : decode cX15_act 506 = .ok (.aload_n 0, 1) := by decide +kernel
theorem dX15_act_507 : decode cX15_act 507 = .ok (.getfield 75, 3) := by decide +kernel
theorem dX15_act_510 : decode cX15_act 510 = .ok (.iload 5, 2) := by decide +kernel
theorem dX15_act_512 : decode cX15_act 512 = .ok (.iaload, 1) := by decide +kernel
theorem dX15_act_513 : decode cX15_act 513 = .ok (.iload_n 1, 1) := by decide +kernel
theorem dX15_act_514 : decode cX15_act 514 = .ok (.if_icmp .ne 7, 3) := by decide +kernel
theorem dX15_act_517 : decode cX15_act 517 = .ok (.iconst 0, 1) := by decide +kernel
theorem dX15_act_518 : decode cX15_act 518 = .ok (.goto 5, 3) := by decide +kernel
theorem dX15_act_521 : decode cX15_act 521 = .ok (.bipush 6, 2) := by decide +kernel
theorem dX15_act_523 : decode cX15_act 523 = .ok (.istore 6, 2) := by decide +kernel
theorem dX15_act_525 : decode cX15_act 525 = .ok (.iload 6, 2) := by decide +kernel
theorem dX15_act_527 : decode cX15_act 527 = .ok (.ifCond .ne 127, 3) := by decide +kernel
theorem dX15_act_530 : decode cX15_act 530 = .ok (.aload_n 0, 1) := by decide +kernel
theorem dX15_act_531 : decode cX15_act 531 = .ok (.iload 5, 2) := by decide +kernel
theorem dX15_act_533 : decode cX15_act 533 = .ok (.invokevirtual 186, 3) := by decide +kernel
theorem dX15_act_536 : decode cX15_act 536 = .ok (.goto 118, 3) := by decide +kernel
theorem dX15_act_539 : decode cX15_act 539 = .ok (.iload_n 2, 1) := by decide +kernel
theorem dX15_act_540 : decode cX15_act 540 = .ok (.bipush 10, 2) := by decide +kernel
theorem dX15_act_542 : decode cX15_act 542 = .ok (.if_icmp .ne 13, 3) := by decide +kernel
theorem dX15_act_545 : decode cX15_act 545 = .ok (.aload_n 0, 1) := by decide +kernel
theorem dX15_act_546 : decode cX15_act 546 = .ok (.getfield 60, 3) := by decide +kernel
theorem dX15_act_549 : decode cX15_act 549 = .ok (.iload_n 1, 1) := by decide +kernel
theorem dX15_act_550 : decode cX15_act 550 = .ok (.iconst 1, 1) := by decide +kernel
theorem dX15_act_551 : decode cX15_act 551 = .ok (.bastore, 1) := by decide +kernel
theorem dX15_act_552 : decode cX15_act 552 = .ok (.goto 102, 3) := by decide +kernel
theorem dX15_act_555 : decode cX15_act 555 = .ok (.iload_n 2, 1) := by decide +kernel
theorem dX15_act_556 : decode cX15_act 556 = .ok (.bipush 12, 2) := by decide +kernel
theorem dX15_act_558 : decode cX15_act 558 = .ok (.if_icmp .ne 55, 3) := by decide +kernel
theorem dX15_act_561 : decode cX15_act 561 = .ok (.aload_n 0, 1) := by decide +kernel
theorem dX15_act_562 : decode cX15_act 562 = .ok (.getfield 13, 3) := by decide +kernel
theorem dX15_act_565 : decode cX15_act 565 = .ok (.iload_n 1, 1) := by decide +kernel
theorem dX15_act_566 : decode cX15_act 566 = .ok (.iaload, 1) := by decide +kernel
theorem dX15_act_567 : decode cX15_act 567 = .ok (.ifCond .ne 10, 3) := by decide +kernel
theorem dX15_act_570 : decode cX15_act 570 = .ok (.aload_n 0, 1) := by decide +kernel
theorem dX15_act_571 : decode cX15_act 571 = .ok (.getfield 130, 3) := by decide +kernel
theorem dX15_act_574 : decode cX15_act 574 = .ok (.ifCond .le 8, 3) := by decide +kernel
theorem dX15_act_577 : decode cX15_act 577 = .ok (.bipush 7, 2) := by decide +kernel
theorem dX15_act_579 : decode cX15_act 579 = .ok (.goto 4, 3) := by decide +kernel
theorem dX15_act_582 : decode cX15_act 582 = .ok (.iconst 0, 1) := by decide +kernel
theorem dX15_act_583 : decode cX15_act 583 = .ok (.istore 6, 2) := by decide +kernel
theorem dX15_act_585 : decode cX15_act 585 = .ok (.iload 6, 2) := by decide +kernel
theorem dX15_act_587 : decode cX15_act 587 = .ok (.ifCond .ne 67, 3) := by decide +kernel
theorem dX15_act_590 : decode cX15_act 590 = .ok (.aload_n 0, 1) := by decide +kernel
theorem dX15_act_591 : decode cX15_act 591 = .ok (.iload_n 1, 1) := by decide +kernel
theorem dX15_act_592 : decode cX15_act 592 = .ok (.putfield 130, 3) := by decide +kernel
theorem dX15_act_595 : decode cX15_act 595 = .ok (.aload_n 0, 1) := by decide +kernel
theorem dX15_act_596 : decode cX15_act 596 = .ok (.aload_n 0, 1) := by decide +kernel
theorem dX15_act_597 : decode cX15_act 597 = .ok (.getfield 146, 3) := by decide +kernel
theorem dX15_act_600 : decode cX15_act 600 = .ok (.lload_n 3, 1) := by decide +kernel
theorem dX15_act_601 : decode cX15_act 601 = .ok (.ladd, 1) := by decide +kernel
theorem dX15_act_602 : decode cX15_act 602 = .ok (.putfield 206, 3) := by decide +kernel
theorem dX15_act_605 : decode cX15_act 605 = .ok (.aload_n 0, 1) := by decide +kernel
theorem dX15_act_606 : decode cX15_act 606 = .ok (.iconst 0, 1) := by decide +kernel
theorem dX15_act_607 : decode cX15_act 607 = .ok (.putfield 133, 3) := by decide +kernel
theorem dX15_act_610 : decode cX15_act 610 = .ok (.goto 44, 3) := by decide +kernel
theorem dX15_act_613 : decode cX15_act 613 = .ok (.aload_n 0, 1) := by decide +kernel
theorem dX15_act_614 : decode cX15_act 614 = .ok (.getfield 13, 3) := by decide +kernel
theorem dX15_act_617 : decode cX15_act 617 = .ok (.iload_n 1, 1) := by decide +kernel
theorem dX15_act_618 : decode cX15_act 618 = .ok (.iaload, 1) := by decide +kernel
theorem dX15_act_619 : decode cX15_act 619 = .ok (.ifCond .ne 10, 3) := by decide +kernel
theorem dX15_act_622 : decode cX15_act 622 = .ok (.aload_n 0, 1) := by decide +kernel
theorem dX15_act_623 : decode cX15_act 623 = .ok (.getfield 130, 3) := by decide +kernel
theorem dX15_act_626 : decode cX15_act 626 = .ok (.ifCond .ne 8, 3) := by decide +kernel
theorem dX15_act_629 : decode cX15_act 629 = .ok (.bipush 7, 2) := by decide +kernel
theorem dX15_act_631 : decode cX15_act 631 = .ok (.goto 4, 3) := by decide +kernel
theorem dX15_act_634 : decode cX15_act 634 = .ok (.iconst 0, 1) := by decide +kernel
theorem dX15_act_635 : decode cX15_act 635 = .ok (.istore 6, 2) := by decide +kernel
theorem dX15_act_637 : decode cX15_act 637 = .ok (.aload_n 0, 1) := by decide +kernel
theorem dX15_act_638 : decode cX15_act 638 = .ok (.iload 6, 2) := by decide +kernel
theorem dX15_act_640 : decode cX15_act 640 = .ok (.ifCond .ne 7, 3) := by decide +kernel
theorem dX15_act_643 : decode cX15_act 643 = .ok (.iconst 0, 1) := by decide +kernel
theorem dX15_act_644 : decode cX15_act 644 = .ok (.goto 7, 3) := by decide +kernel
theorem dX15_act_647 : decode cX15_act 647 = .ok (.aload_n 0, 1) := by decide +kernel
theorem dX15_act_648 : decode cX15_act 648 = .ok (.getfield 130, 3) := by decide +kernel
theorem dX15_act_651 : decode cX15_act 651 = .ok (.putfield 130, 3) := by decide +kernel
theorem dX15_act_654 : decode cX15_act 654 = .ok (.iload 6, 2) := by decide +kernel
theorem dX15_act_656 : decode cX15_act 656 = .ok (.ifCond .le 10, 3) := by decide +kernel
theorem dX15_act_659 : decode cX15_act 659 = .ok (.aload_n 0, 1) := by decide +kernel
theorem dX15_act_660 : decode cX15_act 660 = .ok (.iload 6, 2) := by decide +kernel
theorem dX15_act_662 : decode cX15_act 662 = .ok (.iload_n 1, 1) := by decide +kernel
theorem dX15_act_663 : decode cX15_act 663 = .ok (.invokevirtual 175, 3) := by decide +kernel
theorem dX15_act_666 : decode cX15_act 666 = .ok (.return_, 1) := by decide +kernel
theorem cwX15_act : mw_cwV yX15_act cX15_act 8 (none) 3 := ⟨⟨wd_14, wd_3840, by decide +kernel⟩, wd_3839, sl_273⟩
set_option maxHeartbeats 4000000 in
set_option maxRecDepth 100000 in
theorem tX15_act (l : Launch) (G : mwG) (ad : Nat → Nat) (fu : Nat) (a1 : Int32) (a2 : Int32) (a3 : Int64) (M : mwM) (L : mwL) {M0 : mwM} {L0 : mwL} (hD : DX15_act fu a1 a2 a3 M L = some (M0, L0)) : Met l yX15_act (Cond.code yX15_act cX15_act 8 (none) :: GT) ({ frames := 4, cells := 0, slots := 0, locals := 89 }) (mw_Pre G ad NF TF FF M L [.ref (ad 787), .int a1, .int a2, .long a3]) (mw_Qv G ad NF TF FF (mw_eqV M0 L0)) 0 0 (mw_fr G) := by
  refine mw_enter (by decide) (Nat.le_of_ble_eq_true rfl) ?_
  intro p e s m below meth c ls C hr hlocks hnm hw hl
  have hl : lv_has ls 8 [(0, .ref (ad 787)), (1, .int a1), (2, .int a2), (3, .long a3)] := hl
  have hb666 : ∀ (M : mwM) (L : mwL) (H : Heap) (locs : List Loc) (ls : Array Slot), fX15_act_b666 fu a1 a2 a3 M L = some (M0, L0) → mw_W G ad NF TF FF M L H locs → lv_has ls 8 [] → W p l e ({ frames := 4, cells := 0, slots := 0, locals := 89 }) s m [.ref (ad 787), .int a1, .int a2, .long a3].toArray below meth c H locs 0 0 (MQ below (mw_Qv G ad NF TF FF (mw_eqV M0 L0)) [.ref (ad 787), .int a1, .int a2, .long a3].toArray s 0 0 (mw_fr G)) (F0 m 666 ls []) := by
    intro M L H locs ls hD hw hl
    unfold fX15_act_b666 at hD
    exact mr_vret C hr hlocks hw (Option.some.inj hD) dX15_act_666
  have hb654 : ∀ (v6 : Int32) (M : mwM) (L : mwL) (H : Heap) (locs : List Loc) (ls : Array Slot), fX15_act_b654 fu a1 a2 a3 v6 M L = some (M0, L0) → mw_W G ad NF TF FF M L H locs → lv_has ls 8 [(0, .ref (ad 787)), (1, .int a1), (6, .int v6)] → W p l e ({ frames := 4, cells := 0, slots := 0, locals := 89 }) s m [.ref (ad 787), .int a1, .int a2, .long a3].toArray below meth c H locs 0 0 (MQ below (mw_Qv G ad NF TF FF (mw_eqV M0 L0)) [.ref (ad 787), .int a1, .int a2, .long a3].toArray s 0 0 (mw_fr G)) (F0 m 654 ls []) := by
    intro v6 M L H locs ls hD hw hl
    unfold fX15_act_b654 at hD
    refine lv_iload C.1.1 C.1.2.1 dX15_act_654 (lv_at hl 2 rfl) ?_
    refine lv_if_le (tgt := 666) C.1.1 C.1.2.1 dX15_act_656 (by decide) (fun c95 => ?_) (fun c95 => ?_)
    · replace hD := g_pos c95 hD
      exact hb666 M L _ _ ls hD hw (lv_sub hl [] rfl)
    · replace hD := g_neg c95 hD
      refine lv_aload_n C.1.1 C.1.2.1 dX15_act_659 rfl (lv_at hl 0 rfl) ?_
      refine lv_iload C.1.1 C.1.2.1 dX15_act_660 (lv_at hl 2 rfl) ?_
      refine lv_iload_n C.1.1 C.1.2.1 dX15_act_662 rfl (lv_at hl 1 rfl) ?_
      obtain ⟨M96, L97, h1, hD⟩ := g_b2 hD
      refine md_cvV (As := [.int v6, .int a1]) (rest := []) C hw (tX15_tell l G ad fu v6 a1 M L h1) kc_15 (by decide) tf_787 wd_3789 cwX15_tell ⟨Nat.le_of_ble_eq_true rfl, Nat.le_of_ble_eq_true rfl⟩ rfl hl.1 (Nat.le_of_ble_eq_true rfl) dX15_act_663 rfl rfl ⟨Nat.zero_le _, Nat.zero_le _⟩ rfl (fun H locs hw => ?_)
      exact hb666 M96 L97 _ _ ls hD hw (lv_sub hl [] rfl)
  have hb159 : ∀ (v5 : Int32) (s0 : Int32) (M : mwM) (L : mwL) (H : Heap) (locs : List Loc) (ls : Array Slot), fX15_act_b159 fu a1 a2 a3 v5 s0 M L = some (M0, L0) → mw_W G ad NF TF FF M L H locs → lv_has ls 8 [(0, .ref (ad 787)), (1, .int a1), (5, .int v5)] → W p l e ({ frames := 4, cells := 0, slots := 0, locals := 89 }) s m [.ref (ad 787), .int a1, .int a2, .long a3].toArray below meth c H locs 0 0 (MQ below (mw_Qv G ad NF TF FF (mw_eqV M0 L0)) [.ref (ad 787), .int a1, .int a2, .long a3].toArray s 0 0 (mw_fr G)) (F0 m 159 ls [.int s0]) := by
    intro v5 s0 M L H locs ls hD hw hl
    unfold fX15_act_b159 at hD
    refine lv_istore (lv' := [(6, .int s0), (0, .ref (ad 787)), (1, .int a1), (5, .int v5)]) C.1.1 C.1.2.1 dX15_act_159 hl (by decide) rfl (fun ls hl => ?_)
    refine lv_iload C.1.1 C.1.2.1 dX15_act_161 (lv_at hl 0 rfl) ?_
    refine lv_if_ne (tgt := 654) C.1.1 C.1.2.1 dX15_act_163 (by decide) (fun c55 => ?_) (fun c55 => ?_)
    · replace hD := g_neg c55 hD
      exact hb654 s0 M L _ _ ls hD hw (lv_sub hl [1, 2, 0] rfl)
    · replace hD := g_pos c55 hD
      refine lv_aload_n C.1.1 C.1.2.1 dX15_act_166 rfl (lv_at hl 1 rfl) ?_
      refine mr_getR C hw kc_15 17 (by decide) tf_787 ff_787_17 wd_1972 dX15_act_167 (by decide) rfl ?_
      refine lv_iload_n C.1.1 C.1.2.1 dX15_act_170 rfl (lv_at hl 2 rfl) ?_
      obtain ⟨q56, hD⟩ := g_ck hD
      refine mr_iald C hw (by decide) tf_802 q56 dX15_act_171 ?_
      refine lv_iload C.1.1 C.1.2.1 dX15_act_172 (lv_at hl 3 rfl) ?_
      refine lv_iand C.1.1 C.1.2.1 dX15_act_174 ?_
      refine lv_if_ne (tgt := 654) C.1.1 C.1.2.1 dX15_act_175 (by decide) (fun c57 => ?_) (fun c57 => ?_)
      · replace hD := g_neg c57 hD
        exact hb654 s0 M L _ _ ls hD hw (lv_sub hl [1, 2, 0] rfl)
      · replace hD := g_pos c57 hD
        refine lv_aload_n C.1.1 C.1.2.1 dX15_act_178 rfl (lv_at hl 1 rfl) ?_
        refine mr_getR C hw kc_15 11 (by decide) tf_787 ff_787_11 wd_1966 dX15_act_179 (by decide) rfl ?_
        refine lv_iload_n C.1.1 C.1.2.1 dX15_act_182 rfl (lv_at hl 2 rfl) ?_
        refine lv_iconst (v := 3) C.1.1 C.1.2.1 dX15_act_183 (by decide) ?_
        obtain ⟨q58, hD⟩ := g_ck hD
        obtain ⟨M59, eM59, hD⟩ := g_let hD
        refine mr_iast C hw (by decide) tf_796 q58 dX15_act_184 (fun H locs hw => ?_)
        replace hw : mw_W G ad NF TF FF M59 L H locs := by rw [eM59]; exact hw
        refine lv_aload_n C.1.1 C.1.2.1 dX15_act_185 rfl (lv_at hl 1 rfl) ?_
        refine mr_getR C hw kc_15 18 (by decide) tf_787 ff_787_18 wd_1973 dX15_act_186 (by decide) rfl ?_
        refine lv_iload_n C.1.1 C.1.2.1 dX15_act_189 rfl (lv_at hl 2 rfl) ?_
        refine lv_iload C.1.1 C.1.2.1 dX15_act_190 (lv_at hl 3 rfl) ?_
        obtain ⟨q60, hD⟩ := g_ck hD
        obtain ⟨M61, eM61, hD⟩ := g_let hD
        refine mr_iast C hw (by decide) tf_803 q60 dX15_act_192 (fun H locs hw => ?_)
        replace hw : mw_W G ad NF TF FF M61 L H locs := by rw [eM61]; exact hw
        refine lv_goto (tgt := 654) C.1.1 C.1.2.1 dX15_act_193 (by decide) ?_
        exact hb654 s0 M61 L _ _ ls hD hw (lv_sub hl [1, 2, 0] rfl)
  have hb241 : ∀ (s0 : Int32) (M : mwM) (L : mwL) (H : Heap) (locs : List Loc) (ls : Array Slot), fX15_act_b241 fu a1 a2 a3 s0 M L = some (M0, L0) → mw_W G ad NF TF FF M L H locs → lv_has ls 8 [(0, .ref (ad 787)), (1, .int a1)] → W p l e ({ frames := 4, cells := 0, slots := 0, locals := 89 }) s m [.ref (ad 787), .int a1, .int a2, .long a3].toArray below meth c H locs 0 0 (MQ below (mw_Qv G ad NF TF FF (mw_eqV M0 L0)) [.ref (ad 787), .int a1, .int a2, .long a3].toArray s 0 0 (mw_fr G)) (F0 m 241 ls [.int s0]) := by
    intro s0 M L H locs ls hD hw hl
    unfold fX15_act_b241 at hD
    refine lv_istore (lv' := [(6, .int s0), (0, .ref (ad 787)), (1, .int a1)]) C.1.1 C.1.2.1 dX15_act_241 hl (by decide) rfl (fun ls hl => ?_)
    refine lv_goto (tgt := 654) C.1.1 C.1.2.1 dX15_act_243 (by decide) ?_
    exact hb654 s0 M L _ _ ls hD hw (lv_sub hl [1, 2, 0] rfl)
  have hb297 : ∀ (v6 : Int32) (s2 : Int32) (M : mwM) (L : mwL) (H : Heap) (locs : List Loc) (ls : Array Slot), fX15_act_b297 fu a1 a2 a3 v6 s2 M L = some (M0, L0) → mw_W G ad NF TF FF M L H locs → lv_has ls 8 [(0, .ref (ad 787)), (1, .int a1), (6, .int v6)] → W p l e ({ frames := 4, cells := 0, slots := 0, locals := 89 }) s m [.ref (ad 787), .int a1, .int a2, .long a3].toArray below meth c H locs 0 0 (MQ below (mw_Qv G ad NF TF FF (mw_eqV M0 L0)) [.ref (ad 787), .int a1, .int a2, .long a3].toArray s 0 0 (mw_fr G)) (F0 m 297 ls [.int s2, .int a1, .ref (ad 802)]) := by
    intro v6 s2 M L H locs ls hD hw hl
    unfold fX15_act_b297 at hD
    obtain ⟨q65, hD⟩ := g_ck hD
    obtain ⟨M66, eM66, hD⟩ := g_let hD
    refine mr_iast C hw (by decide) tf_802 q65 dX15_act_297 (fun H locs hw => ?_)
    replace hw : mw_W G ad NF TF FF M66 L H locs := by rw [eM66]; exact hw
    refine lv_goto (tgt := 654) C.1.1 C.1.2.1 dX15_act_298 (by decide) ?_
    exact hb654 v6 M66 L _ _ ls hD hw (lv_sub hl [0, 1, 2] rfl)
  have hb265 : ∀ (v5 : Int32) (s0 : Int32) (M : mwM) (L : mwL) (H : Heap) (locs : List Loc) (ls : Array Slot), fX15_act_b265 fu a1 a2 a3 v5 s0 M L = some (M0, L0) → mw_W G ad NF TF FF M L H locs → lv_has ls 8 [(0, .ref (ad 787)), (1, .int a1), (5, .int v5)] → W p l e ({ frames := 4, cells := 0, slots := 0, locals := 89 }) s m [.ref (ad 787), .int a1, .int a2, .long a3].toArray below meth c H locs 0 0 (MQ below (mw_Qv G ad NF TF FF (mw_eqV M0 L0)) [.ref (ad 787), .int a1, .int a2, .long a3].toArray s 0 0 (mw_fr G)) (F0 m 265 ls [.int s0]) := by
    intro v5 s0 M L H locs ls hD hw hl
    unfold fX15_act_b265 at hD
    refine lv_istore (lv' := [(6, .int s0), (0, .ref (ad 787)), (1, .int a1), (5, .int v5)]) C.1.1 C.1.2.1 dX15_act_265 hl (by decide) rfl (fun ls hl => ?_)
    refine lv_aload_n C.1.1 C.1.2.1 dX15_act_267 rfl (lv_at hl 1 rfl) ?_
    refine mr_getR C hw kc_15 17 (by decide) tf_787 ff_787_17 wd_1972 dX15_act_268 (by decide) rfl ?_
    refine lv_iload_n C.1.1 C.1.2.1 dX15_act_271 rfl (lv_at hl 2 rfl) ?_
    refine lv_iload C.1.1 C.1.2.1 dX15_act_272 (lv_at hl 0 rfl) ?_
    refine lv_if_ne (tgt := 291) C.1.1 C.1.2.1 dX15_act_274 (by decide) (fun c62 => ?_) (fun c62 => ?_)
    · replace hD := g_neg c62 hD
      refine lv_aload_n C.1.1 C.1.2.1 dX15_act_291 rfl (lv_at hl 1 rfl) ?_
      refine mr_getR C hw kc_15 17 (by decide) tf_787 ff_787_17 wd_1972 dX15_act_292 (by decide) rfl ?_
      refine lv_iload_n C.1.1 C.1.2.1 dX15_act_295 rfl (lv_at hl 2 rfl) ?_
      obtain ⟨q63, hD⟩ := g_ck hD
      refine mr_iald C hw (by decide) tf_802 q63 dX15_act_296 ?_
      exact hb297 s0 (M 802 a1.toNatClampNeg) M L _ _ ls hD hw (lv_sub hl [1, 2, 0] rfl)
    · replace hD := g_pos c62 hD
      refine lv_aload_n C.1.1 C.1.2.1 dX15_act_277 rfl (lv_at hl 1 rfl) ?_
      refine mr_getR C hw kc_15 17 (by decide) tf_787 ff_787_17 wd_1972 dX15_act_278 (by decide) rfl ?_
      refine lv_iload_n C.1.1 C.1.2.1 dX15_act_281 rfl (lv_at hl 2 rfl) ?_
      obtain ⟨q64, hD⟩ := g_ck hD
      refine mr_iald C hw (by decide) tf_802 q64 dX15_act_282 ?_
      refine lv_iload C.1.1 C.1.2.1 dX15_act_283 (lv_at hl 3 rfl) ?_
      refine lv_iconst (v := (-1)) C.1.1 C.1.2.1 dX15_act_285 (by decide) ?_
      refine lv_ixor C.1.1 C.1.2.1 dX15_act_286 ?_
      refine lv_iand C.1.1 C.1.2.1 dX15_act_287 ?_
      refine lv_goto (tgt := 297) C.1.1 C.1.2.1 dX15_act_288 (by decide) ?_
      exact hb297 s0 ((M 802 a1.toNatClampNeg) &&& (v5 ^^^ ((-1)))) M L _ _ ls hD hw (lv_sub hl [1, 2, 0] rfl)
  have hb322 : ∀ (v5 : Int32) (s0 : Int32) (M : mwM) (L : mwL) (H : Heap) (locs : List Loc) (ls : Array Slot), fX15_act_b322 fu a1 a2 a3 v5 s0 M L = some (M0, L0) → mw_W G ad NF TF FF M L H locs → lv_has ls 8 [(0, .ref (ad 787)), (1, .int a1), (5, .int v5)] → W p l e ({ frames := 4, cells := 0, slots := 0, locals := 89 }) s m [.ref (ad 787), .int a1, .int a2, .long a3].toArray below meth c H locs 0 0 (MQ below (mw_Qv G ad NF TF FF (mw_eqV M0 L0)) [.ref (ad 787), .int a1, .int a2, .long a3].toArray s 0 0 (mw_fr G)) (F0 m 322 ls [.int s0]) := by
    intro v5 s0 M L H locs ls hD hw hl
    unfold fX15_act_b322 at hD
    refine lv_istore (lv' := [(6, .int s0), (0, .ref (ad 787)), (1, .int a1), (5, .int v5)]) C.1.1 C.1.2.1 dX15_act_322 hl (by decide) rfl (fun ls hl => ?_)
    refine lv_iload C.1.1 C.1.2.1 dX15_act_324 (lv_at hl 0 rfl) ?_
    refine lv_if_ne (tgt := 654) C.1.1 C.1.2.1 dX15_act_326 (by decide) (fun c67 => ?_) (fun c67 => ?_)
    · replace hD := g_neg c67 hD
      exact hb654 s0 M L _ _ ls hD hw (lv_sub hl [1, 2, 0] rfl)
    · replace hD := g_pos c67 hD
      refine lv_aload_n C.1.1 C.1.2.1 dX15_act_329 rfl (lv_at hl 1 rfl) ?_
      refine lv_dup C.1.1 C.1.2.1 dX15_act_330 rfl ?_
      refine mr_getL C hw kc_15 28 (by decide) tf_787 wd_1983 dX15_act_331 (by decide) rfl ?_
      refine lv_lconst (v := 1) C.1.1 C.1.2.1 dX15_act_334 (by decide) ?_
      refine lv_ladd C.1.1 C.1.2.1 dX15_act_335 ?_
      obtain ⟨L68, eL68, hD⟩ := g_let hD
      refine mr_putL C hw kc_15 28 (by decide) tf_787 wd_1983 dX15_act_336 (by decide) rfl rfl rfl rfl (fun H locs hw => ?_)
      replace hw : mw_W G ad NF TF FF M L68 H locs := by rw [eL68]; exact hw
      refine lv_aload_n C.1.1 C.1.2.1 dX15_act_339 rfl (lv_at hl 1 rfl) ?_
      refine mr_getR C hw kc_15 22 (by decide) tf_787 ff_787_22 wd_1977 dX15_act_340 (by decide) rfl ?_
      refine lv_iload C.1.1 C.1.2.1 dX15_act_343 (lv_at hl 3 rfl) ?_
      refine lv_iload_n C.1.1 C.1.2.1 dX15_act_345 rfl (lv_at hl 2 rfl) ?_
      obtain ⟨q69, hD⟩ := g_ck hD
      obtain ⟨M70, eM70, hD⟩ := g_let hD
      refine mr_iast C hw (by decide) tf_806 q69 dX15_act_346 (fun H locs hw => ?_)
      replace hw : mw_W G ad NF TF FF M70 L68 H locs := by rw [eM70]; exact hw
      refine lv_aload_n C.1.1 C.1.2.1 dX15_act_347 rfl (lv_at hl 1 rfl) ?_
      refine mr_getR C hw kc_15 23 (by decide) tf_787 ff_787_23 wd_1978 dX15_act_348 (by decide) rfl ?_
      refine lv_iload C.1.1 C.1.2.1 dX15_act_351 (lv_at hl 3 rfl) ?_
      refine lv_aload_n C.1.1 C.1.2.1 dX15_act_353 rfl (lv_at hl 1 rfl) ?_
      refine mr_getL C hw kc_15 28 (by decide) tf_787 wd_1983 dX15_act_354 (by decide) rfl ?_
      obtain ⟨q71, hD⟩ := g_ck hD
      obtain ⟨L72, eL72, hD⟩ := g_let hD
      refine mr_last C hw (by decide) tf_807 q71 dX15_act_357 (fun H locs hw => ?_)
      replace hw : mw_W G ad NF TF FF M70 L72 H locs := by rw [eL72]; exact hw
      refine lv_goto (tgt := 654) C.1.1 C.1.2.1 dX15_act_358 (by decide) ?_
      exact hb654 s0 M70 L72 _ _ ls hD hw (lv_sub hl [1, 2, 0] rfl)
  have hb460 : ∀ (v6 : Int32) (s1 : Int32) (s2 : Int32) (M : mwM) (L : mwL) (H : Heap) (locs : List Loc) (ls : Array Slot), fX15_act_b460 fu a1 a2 a3 v6 s1 s2 M L = some (M0, L0) → mw_W G ad NF TF FF M L H locs → lv_has ls 8 [(0, .ref (ad 787)), (1, .int a1), (6, .int v6)] → W p l e ({ frames := 4, cells := 0, slots := 0, locals := 89 }) s m [.ref (ad 787), .int a1, .int a2, .long a3].toArray below meth c H locs 0 0 (MQ below (mw_Qv G ad NF TF FF (mw_eqV M0 L0)) [.ref (ad 787), .int a1, .int a2, .long a3].toArray s 0 0 (mw_fr G)) (F0 m 460 ls [.int s2, .int s1, .ref (ad 806)]) := by
    intro v6 s1 s2 M L H locs ls hD hw hl
    unfold fX15_act_b460 at hD
    obtain ⟨q82, hD⟩ := g_ck hD
    obtain ⟨M83, eM83, hD⟩ := g_let hD
    refine mr_iast C hw (by decide) tf_806 q82 dX15_act_460 (fun H locs hw => ?_)
    replace hw : mw_W G ad NF TF FF M83 L H locs := by rw [eM83]; exact hw
    refine lv_goto (tgt := 654) C.1.1 C.1.2.1 dX15_act_461 (by decide) ?_
    exact hb654 v6 M83 L _ _ ls hD hw (lv_sub hl [0, 1, 2] rfl)
  have hh388 : ∀ (f : Nat) (v5 : Int32) (v6 : Int32) (v7 : Int32) (M : mwM) (L : mwL) (H : Heap) (locs : List Loc) (ls : Array Slot), fX15_act_h388 fu a1 a2 a3 f (v5, v6, v7, M, L) = some (M0, L0) → mw_W G ad NF TF FF M L H locs → lv_has ls 8 [(0, .ref (ad 787)), (1, .int a1), (5, .int v5), (6, .int v6), (7, .int v7)] → W p l e ({ frames := 4, cells := 0, slots := 0, locals := 89 }) s m [.ref (ad 787), .int a1, .int a2, .long a3].toArray below meth c H locs 0 0 (MQ below (mw_Qv G ad NF TF FF (mw_eqV M0 L0)) [.ref (ad 787), .int a1, .int a2, .long a3].toArray s 0 0 (mw_fr G)) (F0 m 388 ls []) := by
    intro f
    induction f with
    | zero => intro v5 v6 v7 M L H locs ls hD; cases hD
    | succ f388 ih388 =>
      intro v5 v6 v7 M L H locs ls hD hw hl
      replace hD : fX15_act_i388 fu a1 a2 a3 (fX15_act_h388 fu a1 a2 a3 f388) v5 v6 v7 M L = some (M0, L0) := hD
      have hb430 : ∀ (v5 : Int32) (v7 : Int32) (s0 : Int32) (M : mwM) (L : mwL) (H : Heap) (locs : List Loc) (ls : Array Slot), fX15_act_b430 fu a1 a2 a3 (fX15_act_h388 fu a1 a2 a3 f388) v5 v7 s0 M L = some (M0, L0) → mw_W G ad NF TF FF M L H locs → lv_has ls 8 [(0, .ref (ad 787)), (1, .int a1), (5, .int v5), (7, .int v7)] → W p l e ({ frames := 4, cells := 0, slots := 0, locals := 89 }) s m [.ref (ad 787), .int a1, .int a2, .long a3].toArray below meth c H locs 0 0 (MQ below (mw_Qv G ad NF TF FF (mw_eqV M0 L0)) [.ref (ad 787), .int a1, .int a2, .long a3].toArray s 0 0 (mw_fr G)) (F0 m 430 ls [.int s0]) := by
        intro v5 v7 s0 M L H locs ls hD hw hl
        unfold fX15_act_b430 at hD
        refine lv_istore (lv' := [(6, .int s0), (0, .ref (ad 787)), (1, .int a1), (5, .int v5), (7, .int v7)]) C.1.1 C.1.2.1 dX15_act_430 hl (by decide) rfl (fun ls hl => ?_)
        obtain ⟨x81, ex81, hD⟩ := g_let hD
        refine lv_iinc (v := x81) (lv' := [(7, .int x81), (6, .int s0), (0, .ref (ad 787)), (1, .int a1), (5, .int v5)]) C.1.1 C.1.2.1 dX15_act_432 hl (k := 4) rfl (by rw [ex81]; rfl) (by decide) rfl (fun ls hl => ?_)
        refine lv_goto (tgt := 388) C.1.1 C.1.2.1 dX15_act_435 (by decide) ?_
        exact ih388 v5 s0 x81 M L _ _ ls hD hw (lv_sub hl [2, 3, 4, 1, 0] rfl)
      have hb428 : ∀ (v5 : Int32) (v6 : Int32) (v7 : Int32) (M : mwM) (L : mwL) (H : Heap) (locs : List Loc) (ls : Array Slot), fX15_act_b428 fu a1 a2 a3 (fX15_act_h388 fu a1 a2 a3 f388) v5 v6 v7 M L = some (M0, L0) → mw_W G ad NF TF FF M L H locs → lv_has ls 8 [(0, .ref (ad 787)), (1, .int a1), (5, .int v5), (6, .int v6), (7, .int v7)] → W p l e ({ frames := 4, cells := 0, slots := 0, locals := 89 }) s m [.ref (ad 787), .int a1, .int a2, .long a3].toArray below meth c H locs 0 0 (MQ below (mw_Qv G ad NF TF FF (mw_eqV M0 L0)) [.ref (ad 787), .int a1, .int a2, .long a3].toArray s 0 0 (mw_fr G)) (F0 m 428 ls []) := by
        intro v5 v6 v7 M L H locs ls hD hw hl
        unfold fX15_act_b428 at hD
        refine lv_iload C.1.1 C.1.2.1 dX15_act_428 (lv_at hl 3 rfl) ?_
        exact hb430 v5 v7 v6 M L _ _ ls hD hw (lv_sub hl [0, 1, 2, 4] rfl)
      unfold fX15_act_i388 at hD
      refine lv_iload C.1.1 C.1.2.1 dX15_act_388 (lv_at hl 4 rfl) ?_
      refine lv_bipush (v := 32) C.1.1 C.1.2.1 dX15_act_390 (by decide) ?_
      refine lv_icmp_gt (tgt := 438) C.1.1 C.1.2.1 dX15_act_392 (by decide) (fun c73 => ?_) (fun c73 => ?_)
      · replace hD := g_pos c73 hD
        refine lv_aload_n C.1.1 C.1.2.1 dX15_act_438 rfl (lv_at hl 0 rfl) ?_
        refine mr_getR C hw kc_15 22 (by decide) tf_787 ff_787_22 wd_1977 dX15_act_439 (by decide) rfl ?_
        refine lv_iload C.1.1 C.1.2.1 dX15_act_442 (lv_at hl 2 rfl) ?_
        refine lv_iload C.1.1 C.1.2.1 dX15_act_444 (lv_at hl 3 rfl) ?_
        refine lv_if_ne (tgt := 453) C.1.1 C.1.2.1 dX15_act_446 (by decide) (fun c74 => ?_) (fun c74 => ?_)
        · replace hD := g_neg c74 hD
          refine lv_aload_n C.1.1 C.1.2.1 dX15_act_453 rfl (lv_at hl 0 rfl) ?_
          refine mr_getR C hw kc_15 22 (by decide) tf_787 ff_787_22 wd_1977 dX15_act_454 (by decide) rfl ?_
          refine lv_iload C.1.1 C.1.2.1 dX15_act_457 (lv_at hl 2 rfl) ?_
          obtain ⟨q75, hD⟩ := g_ck hD
          refine mr_iald C hw (by decide) tf_806 q75 dX15_act_459 ?_
          exact hb460 v6 v5 (M 806 v5.toNatClampNeg) M L _ _ ls hD hw (lv_sub hl [0, 1, 3] rfl)
        · replace hD := g_pos c74 hD
          refine lv_iconst (v := 0) C.1.1 C.1.2.1 dX15_act_449 (by decide) ?_
          refine lv_goto (tgt := 460) C.1.1 C.1.2.1 dX15_act_450 (by decide) ?_
          exact hb460 v6 v5 0 M L _ _ ls hD hw (lv_sub hl [0, 1, 3] rfl)
      · replace hD := g_neg c73 hD
        refine lv_aload_n C.1.1 C.1.2.1 dX15_act_395 rfl (lv_at hl 0 rfl) ?_
        refine mr_getR C hw kc_15 22 (by decide) tf_787 ff_787_22 wd_1977 dX15_act_396 (by decide) rfl ?_
        refine lv_iload C.1.1 C.1.2.1 dX15_act_399 (lv_at hl 4 rfl) ?_
        obtain ⟨q76, hD⟩ := g_ck hD
        refine mr_iald C hw (by decide) tf_806 q76 dX15_act_401 ?_
        refine lv_iload_n C.1.1 C.1.2.1 dX15_act_402 rfl (lv_at hl 1 rfl) ?_
        refine lv_icmp_ne (tgt := 428) C.1.1 C.1.2.1 dX15_act_403 (by decide) (fun c77 => ?_) (fun c77 => ?_)
        · replace hD := g_neg c77 hD
          exact hb428 v5 v6 v7 M L _ _ ls hD hw (lv_sub hl [0, 1, 2, 3, 4] rfl)
        · replace hD := g_pos c77 hD
          refine lv_aload_n C.1.1 C.1.2.1 dX15_act_406 rfl (lv_at hl 0 rfl) ?_
          refine mr_getR C hw kc_15 23 (by decide) tf_787 ff_787_23 wd_1978 dX15_act_407 (by decide) rfl ?_
          refine lv_iload C.1.1 C.1.2.1 dX15_act_410 (lv_at hl 4 rfl) ?_
          obtain ⟨q78, hD⟩ := g_ck hD
          refine mr_lald C hw (by decide) tf_807 q78 dX15_act_412 ?_
          refine lv_aload_n C.1.1 C.1.2.1 dX15_act_413 rfl (lv_at hl 0 rfl) ?_
          refine mr_getR C hw kc_15 23 (by decide) tf_787 ff_787_23 wd_1978 dX15_act_414 (by decide) rfl ?_
          refine lv_iload C.1.1 C.1.2.1 dX15_act_417 (lv_at hl 2 rfl) ?_
          obtain ⟨q79, hD⟩ := g_ck hD
          refine mr_lald C hw (by decide) tf_807 q79 dX15_act_419 ?_
          refine W.lcmp C.1.1 C.1.2.1 dX15_act_420 ?_
          refine lv_if_le (tgt := 428) C.1.1 C.1.2.1 dX15_act_421 (by decide) (fun c80 => ?_) (fun c80 => ?_)
          · replace hD := g_pos c80 hD
            exact hb428 v5 v6 v7 M L _ _ ls hD hw (lv_sub hl [0, 1, 2, 3, 4] rfl)
          · replace hD := g_neg c80 hD
            refine lv_iconst (v := 4) C.1.1 C.1.2.1 dX15_act_424 (by decide) ?_
            refine lv_goto (tgt := 430) C.1.1 C.1.2.1 dX15_act_425 (by decide) ?_
            exact hb430 v5 v7 4 M L _ _ ls hD hw (lv_sub hl [0, 1, 2, 4] rfl)
  have hb383 : ∀ (v5 : Int32) (s0 : Int32) (M : mwM) (L : mwL) (H : Heap) (locs : List Loc) (ls : Array Slot), fX15_act_b383 fu a1 a2 a3 v5 s0 M L = some (M0, L0) → mw_W G ad NF TF FF M L H locs → lv_has ls 8 [(0, .ref (ad 787)), (1, .int a1), (5, .int v5)] → W p l e ({ frames := 4, cells := 0, slots := 0, locals := 89 }) s m [.ref (ad 787), .int a1, .int a2, .long a3].toArray below meth c H locs 0 0 (MQ below (mw_Qv G ad NF TF FF (mw_eqV M0 L0)) [.ref (ad 787), .int a1, .int a2, .long a3].toArray s 0 0 (mw_fr G)) (F0 m 383 ls [.int s0]) := by
    intro v5 s0 M L H locs ls hD hw hl
    unfold fX15_act_b383 at hD
    refine lv_istore (lv' := [(6, .int s0), (0, .ref (ad 787)), (1, .int a1), (5, .int v5)]) C.1.1 C.1.2.1 dX15_act_383 hl (by decide) rfl (fun ls hl => ?_)
    refine lv_iconst (v := 1) C.1.1 C.1.2.1 dX15_act_385 (by decide) ?_
    refine lv_istore (lv' := [(7, .int 1), (6, .int s0), (0, .ref (ad 787)), (1, .int a1), (5, .int v5)]) C.1.1 C.1.2.1 dX15_act_386 hl (by decide) rfl (fun ls hl => ?_)
    exact hh388 fu v5 s0 1 M L _ _ ls hD hw (lv_sub hl [2, 3, 4, 1, 0] rfl)
  have hb487 : ∀ (v5 : Int32) (s0 : Int32) (M : mwM) (L : mwL) (H : Heap) (locs : List Loc) (ls : Array Slot), fX15_act_b487 fu a1 a2 a3 v5 s0 M L = some (M0, L0) → mw_W G ad NF TF FF M L H locs → lv_has ls 8 [(0, .ref (ad 787)), (1, .int a1), (5, .int v5)] → W p l e ({ frames := 4, cells := 0, slots := 0, locals := 89 }) s m [.ref (ad 787), .int a1, .int a2, .long a3].toArray below meth c H locs 0 0 (MQ below (mw_Qv G ad NF TF FF (mw_eqV M0 L0)) [.ref (ad 787), .int a1, .int a2, .long a3].toArray s 0 0 (mw_fr G)) (F0 m 487 ls [.int s0]) := by
    intro v5 s0 M L H locs ls hD hw hl
    unfold fX15_act_b487 at hD
    refine lv_istore (lv' := [(6, .int s0), (0, .ref (ad 787)), (1, .int a1), (5, .int v5)]) C.1.1 C.1.2.1 dX15_act_487 hl (by decide) rfl (fun ls hl => ?_)
    refine lv_aload_n C.1.1 C.1.2.1 dX15_act_489 rfl (lv_at hl 1 rfl) ?_
    refine mr_getR C hw kc_15 25 (by decide) tf_787 ff_787_25 wd_1980 dX15_act_490 (by decide) rfl ?_
    refine lv_iload C.1.1 C.1.2.1 dX15_act_493 (lv_at hl 3 rfl) ?_
    refine lv_iload_n C.1.1 C.1.2.1 dX15_act_495 rfl (lv_at hl 2 rfl) ?_
    obtain ⟨q84, hD⟩ := g_ck hD
    obtain ⟨M85, eM85, hD⟩ := g_let hD
    refine mr_iast C hw (by decide) tf_809 q84 dX15_act_496 (fun H locs hw => ?_)
    replace hw : mw_W G ad NF TF FF M85 L H locs := by rw [eM85]; exact hw
    refine lv_goto (tgt := 654) C.1.1 C.1.2.1 dX15_act_497 (by decide) ?_
    exact hb654 s0 M85 L _ _ ls hD hw (lv_sub hl [1, 2, 0] rfl)
  have hb523 : ∀ (v5 : Int32) (s0 : Int32) (M : mwM) (L : mwL) (H : Heap) (locs : List Loc) (ls : Array Slot), fX15_act_b523 fu a1 a2 a3 v5 s0 M L = some (M0, L0) → mw_W G ad NF TF FF M L H locs → lv_has ls 8 [(0, .ref (ad 787)), (1, .int a1), (5, .int v5)] → W p l e ({ frames := 4, cells := 0, slots := 0, locals := 89 }) s m [.ref (ad 787), .int a1, .int a2, .long a3].toArray below meth c H locs 0 0 (MQ below (mw_Qv G ad NF TF FF (mw_eqV M0 L0)) [.ref (ad 787), .int a1, .int a2, .long a3].toArray s 0 0 (mw_fr G)) (F0 m 523 ls [.int s0]) := by
    intro v5 s0 M L H locs ls hD hw hl
    unfold fX15_act_b523 at hD
    refine lv_istore (lv' := [(6, .int s0), (0, .ref (ad 787)), (1, .int a1), (5, .int v5)]) C.1.1 C.1.2.1 dX15_act_523 hl (by decide) rfl (fun ls hl => ?_)
    refine lv_iload C.1.1 C.1.2.1 dX15_act_525 (lv_at hl 0 rfl) ?_
    refine lv_if_ne (tgt := 654) C.1.1 C.1.2.1 dX15_act_527 (by decide) (fun c86 => ?_) (fun c86 => ?_)
    · replace hD := g_neg c86 hD
      exact hb654 s0 M L _ _ ls hD hw (lv_sub hl [1, 2, 0] rfl)
    · replace hD := g_pos c86 hD
      refine lv_aload_n C.1.1 C.1.2.1 dX15_act_530 rfl (lv_at hl 1 rfl) ?_
      refine lv_iload C.1.1 C.1.2.1 dX15_act_531 (lv_at hl 3 rfl) ?_
      obtain ⟨M87, L88, h1, hD⟩ := g_b2 hD
      refine md_cvV (As := [.int v5]) (rest := []) C hw (tX15_unlock l G ad fu v5 M L h1) kc_15 (by decide) tf_787 wd_3833 cwX15_unlock ⟨Nat.le_of_ble_eq_true rfl, Nat.le_of_ble_eq_true rfl⟩ rfl hl.1 (Nat.le_of_ble_eq_true rfl) dX15_act_533 rfl rfl ⟨Nat.zero_le _, Nat.zero_le _⟩ rfl (fun H locs hw => ?_)
      refine lv_goto (tgt := 654) C.1.1 C.1.2.1 dX15_act_536 (by decide) ?_
      exact hb654 s0 M87 L88 _ _ ls hD hw (lv_sub hl [1, 2, 0] rfl)
  have hb583 : ∀ (s0 : Int32) (M : mwM) (L : mwL) (H : Heap) (locs : List Loc) (ls : Array Slot), fX15_act_b583 fu a1 a2 a3 s0 M L = some (M0, L0) → mw_W G ad NF TF FF M L H locs → lv_has ls 8 [(0, .ref (ad 787)), (1, .int a1), (3, .long a3)] → W p l e ({ frames := 4, cells := 0, slots := 0, locals := 89 }) s m [.ref (ad 787), .int a1, .int a2, .long a3].toArray below meth c H locs 0 0 (MQ below (mw_Qv G ad NF TF FF (mw_eqV M0 L0)) [.ref (ad 787), .int a1, .int a2, .long a3].toArray s 0 0 (mw_fr G)) (F0 m 583 ls [.int s0]) := by
    intro s0 M L H locs ls hD hw hl
    unfold fX15_act_b583 at hD
    refine lv_istore (lv' := [(6, .int s0), (0, .ref (ad 787)), (1, .int a1), (3, .long a3)]) C.1.1 C.1.2.1 dX15_act_583 hl (by decide) rfl (fun ls hl => ?_)
    refine lv_iload C.1.1 C.1.2.1 dX15_act_585 (lv_at hl 0 rfl) ?_
    refine lv_if_ne (tgt := 654) C.1.1 C.1.2.1 dX15_act_587 (by decide) (fun c89 => ?_) (fun c89 => ?_)
    · replace hD := g_neg c89 hD
      exact hb654 s0 M L _ _ ls hD hw (lv_sub hl [1, 2, 0] rfl)
    · replace hD := g_pos c89 hD
      refine lv_aload_n C.1.1 C.1.2.1 dX15_act_590 rfl (lv_at hl 1 rfl) ?_
      refine lv_iload_n C.1.1 C.1.2.1 dX15_act_591 rfl (lv_at hl 2 rfl) ?_
      obtain ⟨M90, eM90, hD⟩ := g_let hD
      refine mr_putI C hw kc_15 29 (by decide) tf_787 wd_1984 dX15_act_592 (by decide) rfl rfl rfl rfl (fun H locs hw => ?_)
      replace hw : mw_W G ad NF TF FF M90 L H locs := by rw [eM90]; exact hw
      refine lv_aload_n C.1.1 C.1.2.1 dX15_act_595 rfl (lv_at hl 1 rfl) ?_
      refine lv_aload_n C.1.1 C.1.2.1 dX15_act_596 rfl (lv_at hl 1 rfl) ?_
      refine mr_getL C hw kc_15 43 (by decide) tf_787 wd_1998 dX15_act_597 (by decide) rfl ?_
      refine lv_lload_n C.1.1 C.1.2.1 dX15_act_600 rfl (lv_at hl 3 rfl) ?_
      refine lv_ladd C.1.1 C.1.2.1 dX15_act_601 ?_
      obtain ⟨L91, eL91, hD⟩ := g_let hD
      refine mr_putL C hw kc_15 30 (by decide) tf_787 wd_1985 dX15_act_602 (by decide) rfl rfl rfl rfl (fun H locs hw => ?_)
      replace hw : mw_W G ad NF TF FF M90 L91 H locs := by rw [eL91]; exact hw
      refine lv_aload_n C.1.1 C.1.2.1 dX15_act_605 rfl (lv_at hl 1 rfl) ?_
      refine lv_iconst (v := 0) C.1.1 C.1.2.1 dX15_act_606 (by decide) ?_
      obtain ⟨M92, eM92, hD⟩ := g_let hD
      refine mr_putI C hw kc_15 31 (by decide) tf_787 wd_1986 dX15_act_607 (by decide) rfl rfl (by decide +kernel) (by decide +kernel) (fun H locs hw => ?_)
      replace hw : mw_W G ad NF TF FF M92 L91 H locs := by rw [eM92]; exact hw
      refine lv_goto (tgt := 654) C.1.1 C.1.2.1 dX15_act_610 (by decide) ?_
      exact hb654 s0 M92 L91 _ _ ls hD hw (lv_sub hl [1, 2, 0] rfl)
  have hb577 : ∀ (M : mwM) (L : mwL) (H : Heap) (locs : List Loc) (ls : Array Slot), fX15_act_b577 fu a1 a2 a3 M L = some (M0, L0) → mw_W G ad NF TF FF M L H locs → lv_has ls 8 [(0, .ref (ad 787)), (1, .int a1), (3, .long a3)] → W p l e ({ frames := 4, cells := 0, slots := 0, locals := 89 }) s m [.ref (ad 787), .int a1, .int a2, .long a3].toArray below meth c H locs 0 0 (MQ below (mw_Qv G ad NF TF FF (mw_eqV M0 L0)) [.ref (ad 787), .int a1, .int a2, .long a3].toArray s 0 0 (mw_fr G)) (F0 m 577 ls []) := by
    intro M L H locs ls hD hw hl
    unfold fX15_act_b577 at hD
    refine lv_bipush (v := 7) C.1.1 C.1.2.1 dX15_act_577 (by decide) ?_
    refine lv_goto (tgt := 583) C.1.1 C.1.2.1 dX15_act_579 (by decide) ?_
    exact hb583 7 M L _ _ ls hD hw (lv_sub hl [0, 1, 2] rfl)
  have hb651 : ∀ (v6 : Int32) (s1 : Int32) (M : mwM) (L : mwL) (H : Heap) (locs : List Loc) (ls : Array Slot), fX15_act_b651 fu a1 a2 a3 v6 s1 M L = some (M0, L0) → mw_W G ad NF TF FF M L H locs → lv_has ls 8 [(0, .ref (ad 787)), (1, .int a1), (6, .int v6)] → W p l e ({ frames := 4, cells := 0, slots := 0, locals := 89 }) s m [.ref (ad 787), .int a1, .int a2, .long a3].toArray below meth c H locs 0 0 (MQ below (mw_Qv G ad NF TF FF (mw_eqV M0 L0)) [.ref (ad 787), .int a1, .int a2, .long a3].toArray s 0 0 (mw_fr G)) (F0 m 651 ls [.int s1, .ref (ad 787)]) := by
    intro v6 s1 M L H locs ls hD hw hl
    unfold fX15_act_b651 at hD
    obtain ⟨M94, eM94, hD⟩ := g_let hD
    refine mr_putI C hw kc_15 29 (by decide) tf_787 wd_1984 dX15_act_651 (by decide) rfl rfl rfl rfl (fun H locs hw => ?_)
    replace hw : mw_W G ad NF TF FF M94 L H locs := by rw [eM94]; exact hw
    exact hb654 v6 M94 L _ _ ls hD hw (lv_sub hl [0, 1, 2] rfl)
  have hb635 : ∀ (s0 : Int32) (M : mwM) (L : mwL) (H : Heap) (locs : List Loc) (ls : Array Slot), fX15_act_b635 fu a1 a2 a3 s0 M L = some (M0, L0) → mw_W G ad NF TF FF M L H locs → lv_has ls 8 [(0, .ref (ad 787)), (1, .int a1)] → W p l e ({ frames := 4, cells := 0, slots := 0, locals := 89 }) s m [.ref (ad 787), .int a1, .int a2, .long a3].toArray below meth c H locs 0 0 (MQ below (mw_Qv G ad NF TF FF (mw_eqV M0 L0)) [.ref (ad 787), .int a1, .int a2, .long a3].toArray s 0 0 (mw_fr G)) (F0 m 635 ls [.int s0]) := by
    intro s0 M L H locs ls hD hw hl
    unfold fX15_act_b635 at hD
    refine lv_istore (lv' := [(6, .int s0), (0, .ref (ad 787)), (1, .int a1)]) C.1.1 C.1.2.1 dX15_act_635 hl (by decide) rfl (fun ls hl => ?_)
    refine lv_aload_n C.1.1 C.1.2.1 dX15_act_637 rfl (lv_at hl 1 rfl) ?_
    refine lv_iload C.1.1 C.1.2.1 dX15_act_638 (lv_at hl 0 rfl) ?_
    refine lv_if_ne (tgt := 647) C.1.1 C.1.2.1 dX15_act_640 (by decide) (fun c93 => ?_) (fun c93 => ?_)
    · replace hD := g_neg c93 hD
      refine lv_aload_n C.1.1 C.1.2.1 dX15_act_647 rfl (lv_at hl 1 rfl) ?_
      refine mr_getI C hw kc_15 29 (by decide) tf_787 wd_1984 dX15_act_648 (by decide) rfl ?_
      exact hb651 s0 (M 787 29) M L _ _ ls hD hw (lv_sub hl [1, 2, 0] rfl)
    · replace hD := g_pos c93 hD
      refine lv_iconst (v := 0) C.1.1 C.1.2.1 dX15_act_643 (by decide) ?_
      refine lv_goto (tgt := 651) C.1.1 C.1.2.1 dX15_act_644 (by decide) ?_
      exact hb651 s0 0 M L _ _ ls hD hw (lv_sub hl [1, 2, 0] rfl)
  have hb629 : ∀ (M : mwM) (L : mwL) (H : Heap) (locs : List Loc) (ls : Array Slot), fX15_act_b629 fu a1 a2 a3 M L = some (M0, L0) → mw_W G ad NF TF FF M L H locs → lv_has ls 8 [(0, .ref (ad 787)), (1, .int a1)] → W p l e ({ frames := 4, cells := 0, slots := 0, locals := 89 }) s m [.ref (ad 787), .int a1, .int a2, .long a3].toArray below meth c H locs 0 0 (MQ below (mw_Qv G ad NF TF FF (mw_eqV M0 L0)) [.ref (ad 787), .int a1, .int a2, .long a3].toArray s 0 0 (mw_fr G)) (F0 m 629 ls []) := by
    intro M L H locs ls hD hw hl
    unfold fX15_act_b629 at hD
    refine lv_bipush (v := 7) C.1.1 C.1.2.1 dX15_act_629 (by decide) ?_
    refine lv_goto (tgt := 635) C.1.1 C.1.2.1 dX15_act_631 (by decide) ?_
    exact hb635 7 M L _ _ ls hD hw (lv_sub hl [0, 1] rfl)
  have hb88 : ∀ (v5 : Int32) (v6 : Int32) (M : mwM) (L : mwL) (H : Heap) (locs : List Loc) (ls : Array Slot), fX15_act_b88 fu a1 a2 a3 v5 v6 M L = some (M0, L0) → mw_W G ad NF TF FF M L H locs → lv_has ls 8 [(0, .ref (ad 787)), (1, .int a1), (2, .int a2), (3, .long a3), (5, .int v5), (6, .int v6)] → W p l e ({ frames := 4, cells := 0, slots := 0, locals := 89 }) s m [.ref (ad 787), .int a1, .int a2, .long a3].toArray below meth c H locs 0 0 (MQ below (mw_Qv G ad NF TF FF (mw_eqV M0 L0)) [.ref (ad 787), .int a1, .int a2, .long a3].toArray s 0 0 (mw_fr G)) (F0 m 88 ls []) := by
    intro v5 v6 M L H locs ls hD hw hl
    unfold fX15_act_b88 at hD
    refine lv_aload_n C.1.1 C.1.2.1 dX15_act_88 rfl (lv_at hl 0 rfl) ?_
    refine mr_getR C hw kc_15 14 (by decide) tf_787 ff_787_14 wd_1969 dX15_act_89 (by decide) rfl ?_
    refine lv_iload_n C.1.1 C.1.2.1 dX15_act_92 rfl (lv_at hl 1 rfl) ?_
    refine lv_dup2_11 C.1.1 C.1.2.1 dX15_act_93 rfl rfl ?_
    obtain ⟨q1, hD⟩ := g_ck hD
    refine mr_iald C hw (by decide) tf_799 q1 dX15_act_94 ?_
    refine lv_iconst (v := 1) C.1.1 C.1.2.1 dX15_act_95 (by decide) ?_
    refine lv_iadd C.1.1 C.1.2.1 dX15_act_96 ?_
    obtain ⟨q2, hD⟩ := g_ck hD
    obtain ⟨M3, eM3, hD⟩ := g_let hD
    refine mr_iast C hw (by decide) tf_799 q2 dX15_act_97 (fun H locs hw => ?_)
    replace hw : mw_W G ad NF TF FF M3 L H locs := by rw [eM3]; exact hw
    refine lv_iload_n C.1.1 C.1.2.1 dX15_act_98 rfl (lv_at hl 2 rfl) ?_
    refine lv_iconst (v := 1) C.1.1 C.1.2.1 dX15_act_99 (by decide) ?_
    refine lv_icmp_ne (tgt := 128) C.1.1 C.1.2.1 dX15_act_100 (by decide) (fun c4 => ?_) (fun c4 => ?_)
    · replace hD := g_neg c4 hD
      refine lv_iload_n C.1.1 C.1.2.1 dX15_act_128 rfl (lv_at hl 2 rfl) ?_
      refine lv_iconst (v := 3) C.1.1 C.1.2.1 dX15_act_129 (by decide) ?_
      refine lv_icmp_ne (tgt := 196) C.1.1 C.1.2.1 dX15_act_130 (by decide) (fun c5 => ?_) (fun c5 => ?_)
      · replace hD := g_neg c5 hD
        refine lv_iload_n C.1.1 C.1.2.1 dX15_act_196 rfl (lv_at hl 2 rfl) ?_
        refine lv_iconst (v := 4) C.1.1 C.1.2.1 dX15_act_197 (by decide) ?_
        refine lv_icmp_ne (tgt := 246) C.1.1 C.1.2.1 dX15_act_198 (by decide) (fun c6 => ?_) (fun c6 => ?_)
        · replace hD := g_neg c6 hD
          refine lv_iload_n C.1.1 C.1.2.1 dX15_act_246 rfl (lv_at hl 2 rfl) ?_
          refine lv_iconst (v := 5) C.1.1 C.1.2.1 dX15_act_247 (by decide) ?_
          refine lv_icmp_ne (tgt := 301) C.1.1 C.1.2.1 dX15_act_248 (by decide) (fun c7 => ?_) (fun c7 => ?_)
          · replace hD := g_neg c7 hD
            refine lv_iload_n C.1.1 C.1.2.1 dX15_act_301 rfl (lv_at hl 2 rfl) ?_
            refine lv_bipush (v := 6) C.1.1 C.1.2.1 dX15_act_302 (by decide) ?_
            refine lv_icmp_ne (tgt := 361) C.1.1 C.1.2.1 dX15_act_304 (by decide) (fun c8 => ?_) (fun c8 => ?_)
            · replace hD := g_neg c8 hD
              refine lv_iload_n C.1.1 C.1.2.1 dX15_act_361 rfl (lv_at hl 2 rfl) ?_
              refine lv_bipush (v := 7) C.1.1 C.1.2.1 dX15_act_362 (by decide) ?_
              refine lv_icmp_ne (tgt := 464) C.1.1 C.1.2.1 dX15_act_364 (by decide) (fun c9 => ?_) (fun c9 => ?_)
              · replace hD := g_neg c9 hD
                refine lv_iload_n C.1.1 C.1.2.1 dX15_act_464 rfl (lv_at hl 2 rfl) ?_
                refine lv_bipush (v := 8) C.1.1 C.1.2.1 dX15_act_465 (by decide) ?_
                refine lv_icmp_ne (tgt := 500) C.1.1 C.1.2.1 dX15_act_467 (by decide) (fun c10 => ?_) (fun c10 => ?_)
                · replace hD := g_neg c10 hD
                  refine lv_iload_n C.1.1 C.1.2.1 dX15_act_500 rfl (lv_at hl 2 rfl) ?_
                  refine lv_bipush (v := 9) C.1.1 C.1.2.1 dX15_act_501 (by decide) ?_
                  refine lv_icmp_ne (tgt := 539) C.1.1 C.1.2.1 dX15_act_503 (by decide) (fun c11 => ?_) (fun c11 => ?_)
                  · replace hD := g_neg c11 hD
                    refine lv_iload_n C.1.1 C.1.2.1 dX15_act_539 rfl (lv_at hl 2 rfl) ?_
                    refine lv_bipush (v := 10) C.1.1 C.1.2.1 dX15_act_540 (by decide) ?_
                    refine lv_icmp_ne (tgt := 555) C.1.1 C.1.2.1 dX15_act_542 (by decide) (fun c12 => ?_) (fun c12 => ?_)
                    · replace hD := g_neg c12 hD
                      refine lv_iload_n C.1.1 C.1.2.1 dX15_act_555 rfl (lv_at hl 2 rfl) ?_
                      refine lv_bipush (v := 12) C.1.1 C.1.2.1 dX15_act_556 (by decide) ?_
                      refine lv_icmp_ne (tgt := 613) C.1.1 C.1.2.1 dX15_act_558 (by decide) (fun c13 => ?_) (fun c13 => ?_)
                      · replace hD := g_neg c13 hD
                        refine lv_aload_n C.1.1 C.1.2.1 dX15_act_613 rfl (lv_at hl 0 rfl) ?_
                        refine mr_getR C hw kc_15 3 (by decide) tf_787 ff_787_3 wd_1958 dX15_act_614 (by decide) rfl ?_
                        refine lv_iload_n C.1.1 C.1.2.1 dX15_act_617 rfl (lv_at hl 1 rfl) ?_
                        obtain ⟨q14, hD⟩ := g_ck hD
                        refine mr_iald C hw (by decide) tf_789 q14 dX15_act_618 ?_
                        refine lv_if_ne (tgt := 629) C.1.1 C.1.2.1 dX15_act_619 (by decide) (fun c15 => ?_) (fun c15 => ?_)
                        · replace hD := g_neg c15 hD
                          exact hb629 M3 L _ _ ls hD hw (lv_sub hl [0, 1] rfl)
                        · replace hD := g_pos c15 hD
                          refine lv_aload_n C.1.1 C.1.2.1 dX15_act_622 rfl (lv_at hl 0 rfl) ?_
                          refine mr_getI C hw kc_15 29 (by decide) tf_787 wd_1984 dX15_act_623 (by decide) rfl ?_
                          refine lv_if_ne (tgt := 634) C.1.1 C.1.2.1 dX15_act_626 (by decide) (fun c16 => ?_) (fun c16 => ?_)
                          · replace hD := g_neg c16 hD
                            refine lv_iconst (v := 0) C.1.1 C.1.2.1 dX15_act_634 (by decide) ?_
                            exact hb635 0 M3 L _ _ ls hD hw (lv_sub hl [0, 1] rfl)
                          · replace hD := g_pos c16 hD
                            exact hb629 M3 L _ _ ls hD hw (lv_sub hl [0, 1] rfl)
                      · replace hD := g_pos c13 hD
                        refine lv_aload_n C.1.1 C.1.2.1 dX15_act_561 rfl (lv_at hl 0 rfl) ?_
                        refine mr_getR C hw kc_15 3 (by decide) tf_787 ff_787_3 wd_1958 dX15_act_562 (by decide) rfl ?_
                        refine lv_iload_n C.1.1 C.1.2.1 dX15_act_565 rfl (lv_at hl 1 rfl) ?_
                        obtain ⟨q17, hD⟩ := g_ck hD
                        refine mr_iald C hw (by decide) tf_789 q17 dX15_act_566 ?_
                        refine lv_if_ne (tgt := 577) C.1.1 C.1.2.1 dX15_act_567 (by decide) (fun c18 => ?_) (fun c18 => ?_)
                        · replace hD := g_neg c18 hD
                          exact hb577 M3 L _ _ ls hD hw (lv_sub hl [0, 1, 3] rfl)
                        · replace hD := g_pos c18 hD
                          refine lv_aload_n C.1.1 C.1.2.1 dX15_act_570 rfl (lv_at hl 0 rfl) ?_
                          refine mr_getI C hw kc_15 29 (by decide) tf_787 wd_1984 dX15_act_571 (by decide) rfl ?_
                          refine lv_if_le (tgt := 582) C.1.1 C.1.2.1 dX15_act_574 (by decide) (fun c19 => ?_) (fun c19 => ?_)
                          · replace hD := g_pos c19 hD
                            refine lv_iconst (v := 0) C.1.1 C.1.2.1 dX15_act_582 (by decide) ?_
                            exact hb583 0 M3 L _ _ ls hD hw (lv_sub hl [0, 1, 3] rfl)
                          · replace hD := g_neg c19 hD
                            exact hb577 M3 L _ _ ls hD hw (lv_sub hl [0, 1, 3] rfl)
                    · replace hD := g_pos c12 hD
                      refine lv_aload_n C.1.1 C.1.2.1 dX15_act_545 rfl (lv_at hl 0 rfl) ?_
                      refine mr_getR C hw kc_15 19 (by decide) tf_787 ff_787_19 wd_1974 dX15_act_546 (by decide) rfl ?_
                      refine lv_iload_n C.1.1 C.1.2.1 dX15_act_549 rfl (lv_at hl 1 rfl) ?_
                      refine lv_iconst (v := 1) C.1.1 C.1.2.1 dX15_act_550 (by decide) ?_
                      obtain ⟨q20, hD⟩ := g_ck hD
                      obtain ⟨M21, eM21, hD⟩ := g_let hD
                      refine mr_zast C hw (by decide) tf_804 q20 dX15_act_551 (fun H locs hw => ?_)
                      replace hw : mw_W G ad NF TF FF M21 L H locs := by rw [eM21]; exact hw
                      refine lv_goto (tgt := 654) C.1.1 C.1.2.1 dX15_act_552 (by decide) ?_
                      exact hb654 v6 M21 L _ _ ls hD hw (lv_sub hl [0, 1, 5] rfl)
                  · replace hD := g_pos c11 hD
                    refine lv_aload_n C.1.1 C.1.2.1 dX15_act_506 rfl (lv_at hl 0 rfl) ?_
                    refine mr_getR C hw kc_15 25 (by decide) tf_787 ff_787_25 wd_1980 dX15_act_507 (by decide) rfl ?_
                    refine lv_iload C.1.1 C.1.2.1 dX15_act_510 (lv_at hl 4 rfl) ?_
                    obtain ⟨q22, hD⟩ := g_ck hD
                    refine mr_iald C hw (by decide) tf_809 q22 dX15_act_512 ?_
                    refine lv_iload_n C.1.1 C.1.2.1 dX15_act_513 rfl (lv_at hl 1 rfl) ?_
                    refine lv_icmp_ne (tgt := 521) C.1.1 C.1.2.1 dX15_act_514 (by decide) (fun c23 => ?_) (fun c23 => ?_)
                    · replace hD := g_neg c23 hD
                      refine lv_bipush (v := 6) C.1.1 C.1.2.1 dX15_act_521 (by decide) ?_
                      exact hb523 v5 6 M3 L _ _ ls hD hw (lv_sub hl [0, 1, 4] rfl)
                    · replace hD := g_pos c23 hD
                      refine lv_iconst (v := 0) C.1.1 C.1.2.1 dX15_act_517 (by decide) ?_
                      refine lv_goto (tgt := 523) C.1.1 C.1.2.1 dX15_act_518 (by decide) ?_
                      exact hb523 v5 0 M3 L _ _ ls hD hw (lv_sub hl [0, 1, 4] rfl)
                · replace hD := g_pos c10 hD
                  refine lv_aload_n C.1.1 C.1.2.1 dX15_act_470 rfl (lv_at hl 0 rfl) ?_
                  refine mr_getR C hw kc_15 25 (by decide) tf_787 ff_787_25 wd_1980 dX15_act_471 (by decide) rfl ?_
                  refine lv_iload C.1.1 C.1.2.1 dX15_act_474 (lv_at hl 4 rfl) ?_
                  obtain ⟨q24, hD⟩ := g_ck hD
                  refine mr_iald C hw (by decide) tf_809 q24 dX15_act_476 ?_
                  refine lv_iload_n C.1.1 C.1.2.1 dX15_act_477 rfl (lv_at hl 1 rfl) ?_
                  refine lv_icmp_ne (tgt := 486) C.1.1 C.1.2.1 dX15_act_478 (by decide) (fun c25 => ?_) (fun c25 => ?_)
                  · replace hD := g_neg c25 hD
                    refine lv_iconst (v := 0) C.1.1 C.1.2.1 dX15_act_486 (by decide) ?_
                    exact hb487 v5 0 M3 L _ _ ls hD hw (lv_sub hl [0, 1, 4] rfl)
                  · replace hD := g_pos c25 hD
                    refine lv_bipush (v := 6) C.1.1 C.1.2.1 dX15_act_481 (by decide) ?_
                    refine lv_goto (tgt := 487) C.1.1 C.1.2.1 dX15_act_483 (by decide) ?_
                    exact hb487 v5 6 M3 L _ _ ls hD hw (lv_sub hl [0, 1, 4] rfl)
              · replace hD := g_pos c9 hD
                refine lv_aload_n C.1.1 C.1.2.1 dX15_act_367 rfl (lv_at hl 0 rfl) ?_
                refine mr_getR C hw kc_15 22 (by decide) tf_787 ff_787_22 wd_1977 dX15_act_368 (by decide) rfl ?_
                refine lv_iload C.1.1 C.1.2.1 dX15_act_371 (lv_at hl 4 rfl) ?_
                obtain ⟨q26, hD⟩ := g_ck hD
                refine mr_iald C hw (by decide) tf_806 q26 dX15_act_373 ?_
                refine lv_iload_n C.1.1 C.1.2.1 dX15_act_374 rfl (lv_at hl 1 rfl) ?_
                refine lv_icmp_ne (tgt := 382) C.1.1 C.1.2.1 dX15_act_375 (by decide) (fun c27 => ?_) (fun c27 => ?_)
                · replace hD := g_neg c27 hD
                  refine lv_iconst (v := 4) C.1.1 C.1.2.1 dX15_act_382 (by decide) ?_
                  exact hb383 v5 4 M3 L _ _ ls hD hw (lv_sub hl [0, 1, 4] rfl)
                · replace hD := g_pos c27 hD
                  refine lv_iconst (v := 0) C.1.1 C.1.2.1 dX15_act_378 (by decide) ?_
                  refine lv_goto (tgt := 383) C.1.1 C.1.2.1 dX15_act_379 (by decide) ?_
                  exact hb383 v5 0 M3 L _ _ ls hD hw (lv_sub hl [0, 1, 4] rfl)
            · replace hD := g_pos c8 hD
              refine lv_aload_n C.1.1 C.1.2.1 dX15_act_307 rfl (lv_at hl 0 rfl) ?_
              refine mr_getR C hw kc_15 22 (by decide) tf_787 ff_787_22 wd_1977 dX15_act_308 (by decide) rfl ?_
              refine lv_iload C.1.1 C.1.2.1 dX15_act_311 (lv_at hl 4 rfl) ?_
              obtain ⟨q28, hD⟩ := g_ck hD
              refine mr_iald C hw (by decide) tf_806 q28 dX15_act_313 ?_
              refine lv_if_ne (tgt := 321) C.1.1 C.1.2.1 dX15_act_314 (by decide) (fun c29 => ?_) (fun c29 => ?_)
              · replace hD := g_neg c29 hD
                refine lv_iconst (v := 4) C.1.1 C.1.2.1 dX15_act_321 (by decide) ?_
                exact hb322 v5 4 M3 L _ _ ls hD hw (lv_sub hl [0, 1, 4] rfl)
              · replace hD := g_pos c29 hD
                refine lv_iconst (v := 0) C.1.1 C.1.2.1 dX15_act_317 (by decide) ?_
                refine lv_goto (tgt := 322) C.1.1 C.1.2.1 dX15_act_318 (by decide) ?_
                exact hb322 v5 0 M3 L _ _ ls hD hw (lv_sub hl [0, 1, 4] rfl)
          · replace hD := g_pos c7 hD
            refine lv_aload_n C.1.1 C.1.2.1 dX15_act_251 rfl (lv_at hl 0 rfl) ?_
            refine mr_getR C hw kc_15 5 (by decide) tf_787 ff_787_5 wd_1960 dX15_act_252 (by decide) rfl ?_
            refine lv_iload_n C.1.1 C.1.2.1 dX15_act_255 rfl (lv_at hl 1 rfl) ?_
            obtain ⟨q30, hD⟩ := g_ck hD
            refine mr_zald C hw (by decide) tf_791 q30 dX15_act_256 ?_
            refine lv_if_eq (tgt := 264) C.1.1 C.1.2.1 dX15_act_257 (by decide) (fun c31 => ?_) (fun c31 => ?_)
            · replace hD := g_pos c31 hD
              refine lv_iconst (v := 2) C.1.1 C.1.2.1 dX15_act_264 (by decide) ?_
              exact hb265 v5 2 M3 L _ _ ls hD hw (lv_sub hl [0, 1, 4] rfl)
            · replace hD := g_neg c31 hD
              refine lv_iconst (v := 0) C.1.1 C.1.2.1 dX15_act_260 (by decide) ?_
              refine lv_goto (tgt := 265) C.1.1 C.1.2.1 dX15_act_261 (by decide) ?_
              exact hb265 v5 0 M3 L _ _ ls hD hw (lv_sub hl [0, 1, 4] rfl)
        · replace hD := g_pos c6 hD
          refine lv_iload C.1.1 C.1.2.1 dX15_act_201 (lv_at hl 4 rfl) ?_
          refine lv_ldc (v := 65536) C.1.1 C.1.2.1 C.1.2.2.2.1 (C.1.2.2.2.2 _ wd_3845) dX15_act_203 ?_
          refine lv_idiv C.1.1 C.1.2.1 dX15_act_205 (by decide) ?_
          obtain ⟨x33, ex33, hD⟩ := g_let hD
          refine W.eq (g2 := F0 m 206 ls (.int x33 :: [])) (by rw [ex33]) ?_
          refine lv_istore (lv' := [(7, .int x33), (0, .ref (ad 787)), (1, .int a1), (2, .int a2), (3, .long a3), (5, .int v5), (6, .int v6)]) C.1.1 C.1.2.1 dX15_act_206 hl (by decide) rfl (fun ls hl => ?_)
          refine lv_aload_n C.1.1 C.1.2.1 dX15_act_208 rfl (lv_at hl 1 rfl) ?_
          refine lv_iload C.1.1 C.1.2.1 dX15_act_209 (lv_at hl 0 rfl) ?_
          obtain ⟨r36, M34, L35, h1, hD⟩ := g_b3 hD
          refine md_cvI (As := [.int x33]) (rest := []) C hw (tX15_no l G ad fu x33 M3 L h1) kc_15 (by decide) tf_787 wd_3515 cwX15_no ⟨Nat.le_of_ble_eq_true rfl, Nat.le_of_ble_eq_true rfl⟩ rfl hl.1 (Nat.le_of_ble_eq_true rfl) dX15_act_211 rfl rfl ⟨Nat.zero_le _, Nat.zero_le _⟩ rfl (fun H locs hw => ?_)
          refine lv_if_eq (tgt := 222) C.1.1 C.1.2.1 dX15_act_214 (by decide) (fun c37 => ?_) (fun c37 => ?_)
          · replace hD := g_pos c37 hD
            refine lv_aload_n C.1.1 C.1.2.1 dX15_act_222 rfl (lv_at hl 1 rfl) ?_
            refine lv_iload C.1.1 C.1.2.1 dX15_act_223 (lv_at hl 0 rfl) ?_
            refine lv_iload C.1.1 C.1.2.1 dX15_act_225 (lv_at hl 5 rfl) ?_
            refine lv_ldc (v := 65536) C.1.1 C.1.2.1 C.1.2.2.2.1 (C.1.2.2.2.2 _ wd_3845) dX15_act_227 ?_
            refine lv_irem C.1.1 C.1.2.1 dX15_act_229 (by decide) ?_
            obtain ⟨r41, M39, L40, h1, hD⟩ := g_b3 hD
            refine md_cvI (As := [.int x33, .int (v5 - v5 / 65536 * 65536)]) (rest := []) C hw (tX15_set l G ad fu x33 (v5 - v5 / 65536 * 65536) M34 L35 h1) kc_15 (by decide) tf_787 wd_3846 cwX15_set ⟨Nat.le_of_ble_eq_true rfl, Nat.le_of_ble_eq_true rfl⟩ rfl hl.1 (Nat.le_of_ble_eq_true rfl) dX15_act_230 rfl rfl ⟨Nat.zero_le _, Nat.zero_le _⟩ rfl (fun H locs hw => ?_)
            refine lv_if_eq (tgt := 240) C.1.1 C.1.2.1 dX15_act_233 (by decide) (fun c42 => ?_) (fun c42 => ?_)
            · replace hD := g_pos c42 hD
              refine lv_iconst (v := 5) C.1.1 C.1.2.1 dX15_act_240 (by decide) ?_
              exact hb241 5 M39 L40 _ _ ls hD hw (lv_sub hl [1, 2] rfl)
            · replace hD := g_neg c42 hD
              refine lv_iconst (v := 0) C.1.1 C.1.2.1 dX15_act_236 (by decide) ?_
              refine lv_goto (tgt := 241) C.1.1 C.1.2.1 dX15_act_237 (by decide) ?_
              exact hb241 0 M39 L40 _ _ ls hD hw (lv_sub hl [1, 2] rfl)
          · replace hD := g_neg c37 hD
            refine lv_bipush (v := 8) C.1.1 C.1.2.1 dX15_act_217 (by decide) ?_
            refine lv_goto (tgt := 241) C.1.1 C.1.2.1 dX15_act_219 (by decide) ?_
            exact hb241 8 M34 L35 _ _ ls hD hw (lv_sub hl [1, 2] rfl)
      · replace hD := g_pos c5 hD
        refine lv_aload_n C.1.1 C.1.2.1 dX15_act_133 rfl (lv_at hl 0 rfl) ?_
        refine mr_getR C hw kc_15 5 (by decide) tf_787 ff_787_5 wd_1960 dX15_act_134 (by decide) rfl ?_
        refine lv_iload_n C.1.1 C.1.2.1 dX15_act_137 rfl (lv_at hl 1 rfl) ?_
        obtain ⟨q43, hD⟩ := g_ck hD
        refine mr_zald C hw (by decide) tf_791 q43 dX15_act_138 ?_
        refine lv_if_ne (tgt := 146) C.1.1 C.1.2.1 dX15_act_139 (by decide) (fun c44 => ?_) (fun c44 => ?_)
        · replace hD := g_neg c44 hD
          refine lv_aload_n C.1.1 C.1.2.1 dX15_act_146 rfl (lv_at hl 0 rfl) ?_
          refine lv_iload_n C.1.1 C.1.2.1 dX15_act_147 rfl (lv_at hl 1 rfl) ?_
          obtain ⟨r47, M45, L46, h1, hD⟩ := g_b3 hD
          refine md_cvI (As := [.int a1]) (rest := []) C hw (tX15_holdsSome l G ad fu a1 M3 L h1) kc_15 (by decide) tf_787 wd_3829 cwX15_holdsSome ⟨Nat.le_of_ble_eq_true rfl, Nat.le_of_ble_eq_true rfl⟩ rfl hl.1 (Nat.le_of_ble_eq_true rfl) dX15_act_148 rfl rfl ⟨Nat.zero_le _, Nat.zero_le _⟩ rfl (fun H locs hw => ?_)
          refine lv_if_eq (tgt := 158) C.1.1 C.1.2.1 dX15_act_151 (by decide) (fun c48 => ?_) (fun c48 => ?_)
          · replace hD := g_pos c48 hD
            refine lv_iconst (v := 0) C.1.1 C.1.2.1 dX15_act_158 (by decide) ?_
            exact hb159 v5 0 M45 L46 _ _ ls hD hw (lv_sub hl [0, 1, 4] rfl)
          · replace hD := g_neg c48 hD
            refine lv_iconst (v := 4) C.1.1 C.1.2.1 dX15_act_154 (by decide) ?_
            refine lv_goto (tgt := 159) C.1.1 C.1.2.1 dX15_act_155 (by decide) ?_
            exact hb159 v5 4 M45 L46 _ _ ls hD hw (lv_sub hl [0, 1, 4] rfl)
        · replace hD := g_pos c44 hD
          refine lv_iconst (v := 2) C.1.1 C.1.2.1 dX15_act_142 (by decide) ?_
          refine lv_goto (tgt := 159) C.1.1 C.1.2.1 dX15_act_143 (by decide) ?_
          exact hb159 v5 2 M3 L _ _ ls hD hw (lv_sub hl [0, 1, 4] rfl)
    · replace hD := g_pos c4 hD
      refine lv_aload_n C.1.1 C.1.2.1 dX15_act_103 rfl (lv_at hl 0 rfl) ?_
      refine lv_iload C.1.1 C.1.2.1 dX15_act_104 (lv_at hl 4 rfl) ?_
      obtain ⟨r51, M49, L50, h1, hD⟩ := g_b3 hD
      refine md_cvI (As := [.int v5]) (rest := []) C hw (tX15_no l G ad fu v5 M3 L h1) kc_15 (by decide) tf_787 wd_3515 cwX15_no ⟨Nat.le_of_ble_eq_true rfl, Nat.le_of_ble_eq_true rfl⟩ rfl hl.1 (Nat.le_of_ble_eq_true rfl) dX15_act_106 rfl rfl ⟨Nat.zero_le _, Nat.zero_le _⟩ rfl (fun H locs hw => ?_)
      refine lv_if_eq (tgt := 119) C.1.1 C.1.2.1 dX15_act_109 (by decide) (fun c52 => ?_) (fun c52 => ?_)
      · replace hD := g_pos c52 hD
        refine lv_aload_n C.1.1 C.1.2.1 dX15_act_119 rfl (lv_at hl 0 rfl) ?_
        refine lv_iload C.1.1 C.1.2.1 dX15_act_120 (lv_at hl 4 rfl) ?_
        obtain ⟨M53, L54, h1, hD⟩ := g_b2 hD
        refine md_cvV (As := [.int v5]) (rest := []) C hw (tX15_begin l G ad fu v5 M49 L50 h1) kc_15 (by decide) tf_787 wd_3785 cwX15_begin ⟨Nat.le_of_ble_eq_true rfl, Nat.le_of_ble_eq_true rfl⟩ rfl hl.1 (Nat.le_of_ble_eq_true rfl) dX15_act_122 rfl rfl ⟨Nat.zero_le _, Nat.zero_le _⟩ rfl (fun H locs hw => ?_)
        refine lv_goto (tgt := 654) C.1.1 C.1.2.1 dX15_act_125 (by decide) ?_
        exact hb654 v6 M53 L54 _ _ ls hD hw (lv_sub hl [0, 1, 5] rfl)
      · replace hD := g_neg c52 hD
        refine lv_bipush (v := 8) C.1.1 C.1.2.1 dX15_act_112 (by decide) ?_
        refine lv_istore (lv' := [(6, .int 8), (0, .ref (ad 787)), (1, .int a1), (2, .int a2), (3, .long a3), (5, .int v5)]) C.1.1 C.1.2.1 dX15_act_114 hl (by decide) rfl (fun ls hl => ?_)
        refine lv_goto (tgt := 654) C.1.1 C.1.2.1 dX15_act_116 (by decide) ?_
        exact hb654 8 M49 L50 _ _ ls hD hw (lv_sub hl [1, 2, 0] rfl)
  unfold DX15_act at hD
  refine lv_lload_n C.1.1 C.1.2.1 dX15_act_0 rfl (lv_at hl 3 rfl) ?_
  refine lv_l2i C.1.1 C.1.2.1 dX15_act_1 rfl ?_
  obtain ⟨x98, ex98, hD⟩ := g_let hD
  refine W.eq (g2 := F0 m 2 ls (.int x98 :: [])) (by rw [ex98]) ?_
  refine lv_istore (lv' := [(5, .int x98), (0, .ref (ad 787)), (1, .int a1), (2, .int a2), (3, .long a3)]) C.1.1 C.1.2.1 dX15_act_2 hl (by decide) rfl (fun ls hl => ?_)
  refine lv_iconst (v := 0) C.1.1 C.1.2.1 dX15_act_4 (by decide) ?_
  refine lv_istore (lv' := [(6, .int 0), (5, .int x98), (0, .ref (ad 787)), (1, .int a1), (2, .int a2), (3, .long a3)]) C.1.1 C.1.2.1 dX15_act_5 hl (by decide) rfl (fun ls hl => ?_)
  refine lv_iload_n C.1.1 C.1.2.1 dX15_act_7 rfl (lv_at hl 4 rfl) ?_
  refine lv_iconst (v := 2) C.1.1 C.1.2.1 dX15_act_8 (by decide) ?_
  refine lv_icmp_ne (tgt := 20) C.1.1 C.1.2.1 dX15_act_9 (by decide) (fun c99 => ?_) (fun c99 => ?_)
  · replace hD := g_neg c99 hD
    refine lv_iload_n C.1.1 C.1.2.1 dX15_act_20 rfl (lv_at hl 4 rfl) ?_
    refine lv_bipush (v := 11) C.1.1 C.1.2.1 dX15_act_21 (by decide) ?_
    refine lv_icmp_ne (tgt := 32) C.1.1 C.1.2.1 dX15_act_23 (by decide) (fun c100 => ?_) (fun c100 => ?_)
    · replace hD := g_neg c100 hD
      refine lv_iload_n C.1.1 C.1.2.1 dX15_act_32 rfl (lv_at hl 4 rfl) ?_
      refine lv_bipush (v := 8) C.1.1 C.1.2.1 dX15_act_33 (by decide) ?_
      refine lv_icmp_ne (tgt := 88) C.1.1 C.1.2.1 dX15_act_35 (by decide) (fun c101 => ?_) (fun c101 => ?_)
      · replace hD := g_neg c101 hD
        exact hb88 x98 0 M L _ _ ls hD hw (lv_sub hl [2, 3, 4, 5, 1, 0] rfl)
      · replace hD := g_pos c101 hD
        refine lv_aload_n C.1.1 C.1.2.1 dX15_act_38 rfl (lv_at hl 2 rfl) ?_
        refine mr_getR C hw kc_15 25 (by decide) tf_787 ff_787_25 wd_1980 dX15_act_39 (by decide) rfl ?_
        refine lv_iload C.1.1 C.1.2.1 dX15_act_42 (lv_at hl 1 rfl) ?_
        obtain ⟨q102, hD⟩ := g_ck hD
        refine mr_iald C hw (by decide) tf_809 q102 dX15_act_44 ?_
        refine lv_if_eq (tgt := 88) C.1.1 C.1.2.1 dX15_act_45 (by decide) (fun c103 => ?_) (fun c103 => ?_)
        · replace hD := g_pos c103 hD
          exact hb88 x98 0 M L _ _ ls hD hw (lv_sub hl [2, 3, 4, 5, 1, 0] rfl)
        · replace hD := g_neg c103 hD
          refine lv_aload_n C.1.1 C.1.2.1 dX15_act_48 rfl (lv_at hl 2 rfl) ?_
          refine mr_getR C hw kc_15 25 (by decide) tf_787 ff_787_25 wd_1980 dX15_act_49 (by decide) rfl ?_
          refine lv_iload C.1.1 C.1.2.1 dX15_act_52 (lv_at hl 1 rfl) ?_
          obtain ⟨q104, hD⟩ := g_ck hD
          refine mr_iald C hw (by decide) tf_809 q104 dX15_act_54 ?_
          refine lv_iload_n C.1.1 C.1.2.1 dX15_act_55 rfl (lv_at hl 3 rfl) ?_
          refine lv_icmp_eq (tgt := 88) C.1.1 C.1.2.1 dX15_act_56 (by decide) (fun c105 => ?_) (fun c105 => ?_)
          · replace hD := g_pos c105 hD
            exact hb88 x98 0 M L _ _ ls hD hw (lv_sub hl [2, 3, 4, 5, 1, 0] rfl)
          · replace hD := g_neg c105 hD
            refine lv_aload_n C.1.1 C.1.2.1 dX15_act_59 rfl (lv_at hl 2 rfl) ?_
            refine lv_dup C.1.1 C.1.2.1 dX15_act_60 rfl ?_
            refine mr_getL C hw kc_15 28 (by decide) tf_787 wd_1983 dX15_act_61 (by decide) rfl ?_
            refine lv_lconst (v := 1) C.1.1 C.1.2.1 dX15_act_64 (by decide) ?_
            refine lv_ladd C.1.1 C.1.2.1 dX15_act_65 ?_
            obtain ⟨L106, eL106, hD⟩ := g_let hD
            refine mr_putL C hw kc_15 28 (by decide) tf_787 wd_1983 dX15_act_66 (by decide) rfl rfl rfl rfl (fun H locs hw => ?_)
            replace hw : mw_W G ad NF TF FF M L106 H locs := by rw [eL106]; exact hw
            refine lv_aload_n C.1.1 C.1.2.1 dX15_act_69 rfl (lv_at hl 2 rfl) ?_
            refine mr_getR C hw kc_15 26 (by decide) tf_787 ff_787_26 wd_1981 dX15_act_70 (by decide) rfl ?_
            refine lv_iload_n C.1.1 C.1.2.1 dX15_act_73 rfl (lv_at hl 3 rfl) ?_
            refine lv_iload C.1.1 C.1.2.1 dX15_act_74 (lv_at hl 1 rfl) ?_
            obtain ⟨q107, hD⟩ := g_ck hD
            obtain ⟨M108, eM108, hD⟩ := g_let hD
            refine mr_iast C hw (by decide) tf_810 q107 dX15_act_76 (fun H locs hw => ?_)
            replace hw : mw_W G ad NF TF FF M108 L106 H locs := by rw [eM108]; exact hw
            refine lv_aload_n C.1.1 C.1.2.1 dX15_act_77 rfl (lv_at hl 2 rfl) ?_
            refine mr_getR C hw kc_15 27 (by decide) tf_787 ff_787_27 wd_1982 dX15_act_78 (by decide) rfl ?_
            refine lv_iload_n C.1.1 C.1.2.1 dX15_act_81 rfl (lv_at hl 3 rfl) ?_
            refine lv_aload_n C.1.1 C.1.2.1 dX15_act_82 rfl (lv_at hl 2 rfl) ?_
            refine mr_getL C hw kc_15 28 (by decide) tf_787 wd_1983 dX15_act_83 (by decide) rfl ?_
            obtain ⟨q109, hD⟩ := g_ck hD
            obtain ⟨L110, eL110, hD⟩ := g_let hD
            refine mr_last C hw (by decide) tf_811 q109 dX15_act_86 (fun H locs hw => ?_)
            replace hw : mw_W G ad NF TF FF M108 L110 H locs := by rw [eL110]; exact hw
            exact mr_vret C hr hlocks hw (Option.some.inj hD) dX15_act_87
    · replace hD := g_pos c100 hD
      refine lv_aload_n C.1.1 C.1.2.1 dX15_act_26 rfl (lv_at hl 2 rfl) ?_
      refine lv_iload_n C.1.1 C.1.2.1 dX15_act_27 rfl (lv_at hl 3 rfl) ?_
      obtain ⟨M111, L112, h1, hD⟩ := g_b2 hD
      refine md_cvV (As := [.int a1]) (rest := []) C hw (tX15_ends l G ad fu a1 M L h1) kc_15 (by decide) tf_787 wd_3821 cwX15_ends ⟨Nat.le_of_ble_eq_true rfl, Nat.le_of_ble_eq_true rfl⟩ rfl hl.1 (Nat.le_of_ble_eq_true rfl) dX15_act_28 rfl rfl ⟨Nat.zero_le _, Nat.zero_le _⟩ rfl (fun H locs hw => ?_)
      exact mr_vret C hr hlocks hw (Option.some.inj hD) dX15_act_31
  · replace hD := g_pos c99 hD
    refine lv_aload_n C.1.1 C.1.2.1 dX15_act_12 rfl (lv_at hl 2 rfl) ?_
    refine lv_iload_n C.1.1 C.1.2.1 dX15_act_13 rfl (lv_at hl 3 rfl) ?_
    refine lv_iload C.1.1 C.1.2.1 dX15_act_14 (lv_at hl 1 rfl) ?_
    obtain ⟨M113, L114, h1, hD⟩ := g_b2 hD
    refine md_cvV (As := [.int a1, .int x98]) (rest := []) C hw (tX15_chain l G ad fu a1 x98 M L h1) kc_15 (by decide) tf_787 wd_3841 cwX15_chain ⟨Nat.le_of_ble_eq_true rfl, Nat.le_of_ble_eq_true rfl⟩ rfl hl.1 (Nat.le_of_ble_eq_true rfl) dX15_act_16 rfl rfl ⟨Nat.zero_le _, Nat.zero_le _⟩ rfl (fun H locs hw => ?_)
    exact mr_vret C hr hlocks hw (Option.some.inj hD) dX15_act_19

theorem dX15_height_0 : decode cX15_height 0 = .ok (.aload_n 0, 1) := by decide +kernel
theorem dX15_height_1 : decode cX15_height 1 = .ok (.getfield 7, 3) := by decide +kernel
theorem dX15_height_4 : decode cX15_height 4 = .ok (.iload_n 1, 1) := by decide +kernel
theorem dX15_height_5 : decode cX15_height 5 = .ok (.iaload, 1) := by decide +kernel
theorem dX15_height_6 : decode cX15_height 6 = .ok (.istore_n 2, 1) := by decide +kernel
theorem dX15_height_7 : decode cX15_height 7 = .ok (.iconst 1, 1) := by decide +kernel
theorem dX15_height_8 : decode cX15_height 8 = .ok (.istore_n 3, 1) := by decide +kernel
theorem dX15_height_9 : decode cX15_height 9 = .ok (.iload_n 3, 1) := by decide +kernel
theorem dX15_height_10 : decode cX15_height 10 = .ok (.bipush 32, 2) := by decide +kernel
theorem dX15_height_12 : decode cX15_height 12 = .ok (.if_icmp .gt 40, 3) := by decide +kernel
theorem dX15_height_15 : decode cX15_height 15 = .ok (.aload_n 0, 1) := by decide +kernel
theorem dX15_height_16 : decode cX15_height 16 = .ok (.getfield 66, 3) := by decide +kernel
theorem dX15_height_19 : decode cX15_height 19 = .ok (.iload_n 3, 1) := by decide +kernel
theorem dX15_height_20 : decode cX15_height 20 = .ok (.iaload, 1) := by decide +kernel
theorem dX15_height_21 : decode cX15_height 21 = .ok (.iload_n 1, 1) := by decide +kernel
theorem dX15_height_22 : decode cX15_height 22 = .ok (.if_icmp .ne 22, 3) := by decide +kernel
theorem dX15_height_25 : decode cX15_height 25 = .ok (.aload_n 0, 1) := by decide +kernel
theorem dX15_height_26 : decode cX15_height 26 = .ok (.getfield 72, 3) := by decide +kernel
theorem dX15_height_29 : decode cX15_height 29 = .ok (.iload_n 3, 1) := by decide +kernel
theorem dX15_height_30 : decode cX15_height 30 = .ok (.iaload, 1) := by decide +kernel
theorem dX15_height_31 : decode cX15_height 31 = .ok (.iload_n 2, 1) := by decide +kernel
theorem dX15_height_32 : decode cX15_height 32 = .ok (.if_icmp .le 12, 3) := by decide +kernel
theorem dX15_height_35 : decode cX15_height 35 = .ok (.aload_n 0, 1) := by decide +kernel
theorem dX15_height_36 : decode cX15_height 36 = .ok (.getfield 72, 3) := by decide +kernel
theorem dX15_height_39 : decode cX15_height 39 = .ok (.iload_n 3, 1) := by decide +kernel
theorem dX15_height_40 : decode cX15_height 40 = .ok (.iaload, 1) := by decide +kernel
theorem dX15_height_41 : decode cX15_height 41 = .ok (.goto 4, 3) := by decide +kernel
theorem dX15_height_44 : decode cX15_height 44 = .ok (.iload_n 2, 1) := by decide +kernel
theorem dX15_height_45 : decode cX15_height 45 = .ok (.istore_n 2, 1) := by decide +kernel
theorem dX15_height_46 : decode cX15_height 46 = .ok (.iinc 3 1, 3) := by decide +kernel
theorem dX15_height_49 : decode cX15_height 49 = .ok (.goto (-40), 3) := by decide +kernel
theorem dX15_height_52 : decode cX15_height 52 = .ok (.iload_n 2, 1) := by decide +kernel
theorem dX15_height_53 : decode cX15_height 53 = .ok (.ireturn, 1) := by decide +kernel
theorem cwX15_height : mw_cwV yX15_height cX15_height 4 ((some .int)) 1 := ⟨⟨wd_14, wd_3816, by decide +kernel⟩, wd_3815, sl_267⟩
set_option maxHeartbeats 4000000 in
set_option maxRecDepth 100000 in
theorem tX15_height (l : Launch) (G : mwG) (ad : Nat → Nat) (fu : Nat) (a1 : Int32) (M : mwM) (L : mwL) {r0 : Int32} {M0 : mwM} {L0 : mwL} (hD : DX15_height fu a1 M L = some (r0, M0, L0)) : Met l yX15_height (Cond.code yX15_height cX15_height 4 ((some .int)) :: GT) ({ frames := 0, cells := 0, slots := 0, locals := 0 }) (mw_Pre G ad NF TF FF M L [.ref (ad 787), .int a1]) (mw_Qi G ad NF TF FF (mw_eqI r0 M0 L0)) 0 0 (mw_fr G) := by
  refine mw_enter (by decide) (Nat.le_of_ble_eq_true rfl) ?_
  intro p e s m below meth c ls C hr hlocks hnm hw hl
  have hl : lv_has ls 4 [(0, .ref (ad 787)), (1, .int a1)] := hl
  have hh9 : ∀ (f : Nat) (v2 : Int32) (v3 : Int32) (M : mwM) (L : mwL) (H : Heap) (locs : List Loc) (ls : Array Slot), fX15_height_h9 fu a1 f (v2, v3, M, L) = some (r0, M0, L0) → mw_W G ad NF TF FF M L H locs → lv_has ls 4 [(0, .ref (ad 787)), (1, .int a1), (2, .int v2), (3, .int v3)] → W p l e ({ frames := 0, cells := 0, slots := 0, locals := 0 }) s m [.ref (ad 787), .int a1].toArray below meth c H locs 0 0 (MQ below (mw_Qi G ad NF TF FF (mw_eqI r0 M0 L0)) [.ref (ad 787), .int a1].toArray s 0 0 (mw_fr G)) (F0 m 9 ls []) := by
    intro f
    induction f with
    | zero => intro v2 v3 M L H locs ls hD; cases hD
    | succ f9 ih9 =>
      intro v2 v3 M L H locs ls hD hw hl
      replace hD : fX15_height_i9 fu a1 (fX15_height_h9 fu a1 f9) v2 v3 M L = some (r0, M0, L0) := hD
      have hb45 : ∀ (v3 : Int32) (s0 : Int32) (M : mwM) (L : mwL) (H : Heap) (locs : List Loc) (ls : Array Slot), fX15_height_b45 fu a1 (fX15_height_h9 fu a1 f9) v3 s0 M L = some (r0, M0, L0) → mw_W G ad NF TF FF M L H locs → lv_has ls 4 [(0, .ref (ad 787)), (1, .int a1), (3, .int v3)] → W p l e ({ frames := 0, cells := 0, slots := 0, locals := 0 }) s m [.ref (ad 787), .int a1].toArray below meth c H locs 0 0 (MQ below (mw_Qi G ad NF TF FF (mw_eqI r0 M0 L0)) [.ref (ad 787), .int a1].toArray s 0 0 (mw_fr G)) (F0 m 45 ls [.int s0]) := by
        intro v3 s0 M L H locs ls hD hw hl
        unfold fX15_height_b45 at hD
        refine lv_istore_n (lv' := [(2, .int s0), (0, .ref (ad 787)), (1, .int a1), (3, .int v3)]) C.1.1 C.1.2.1 dX15_height_45 rfl hl (by decide) rfl (fun ls hl => ?_)
        obtain ⟨x7, ex7, hD⟩ := g_let hD
        refine lv_iinc (v := x7) (lv' := [(3, .int x7), (2, .int s0), (0, .ref (ad 787)), (1, .int a1)]) C.1.1 C.1.2.1 dX15_height_46 hl (k := 3) rfl (by rw [ex7]; rfl) (by decide) rfl (fun ls hl => ?_)
        refine lv_goto (tgt := 9) C.1.1 C.1.2.1 dX15_height_49 (by decide) ?_
        exact ih9 s0 x7 M L _ _ ls hD hw (lv_sub hl [2, 3, 1, 0] rfl)
      have hb44 : ∀ (v2 : Int32) (v3 : Int32) (M : mwM) (L : mwL) (H : Heap) (locs : List Loc) (ls : Array Slot), fX15_height_b44 fu a1 (fX15_height_h9 fu a1 f9) v2 v3 M L = some (r0, M0, L0) → mw_W G ad NF TF FF M L H locs → lv_has ls 4 [(0, .ref (ad 787)), (1, .int a1), (2, .int v2), (3, .int v3)] → W p l e ({ frames := 0, cells := 0, slots := 0, locals := 0 }) s m [.ref (ad 787), .int a1].toArray below meth c H locs 0 0 (MQ below (mw_Qi G ad NF TF FF (mw_eqI r0 M0 L0)) [.ref (ad 787), .int a1].toArray s 0 0 (mw_fr G)) (F0 m 44 ls []) := by
        intro v2 v3 M L H locs ls hD hw hl
        unfold fX15_height_b44 at hD
        refine lv_iload_n C.1.1 C.1.2.1 dX15_height_44 rfl (lv_at hl 2 rfl) ?_
        exact hb45 v3 v2 M L _ _ ls hD hw (lv_sub hl [0, 1, 3] rfl)
      unfold fX15_height_i9 at hD
      refine lv_iload_n C.1.1 C.1.2.1 dX15_height_9 rfl (lv_at hl 3 rfl) ?_
      refine lv_bipush (v := 32) C.1.1 C.1.2.1 dX15_height_10 (by decide) ?_
      refine lv_icmp_gt (tgt := 52) C.1.1 C.1.2.1 dX15_height_12 (by decide) (fun c1 => ?_) (fun c1 => ?_)
      · replace hD := g_pos c1 hD
        refine lv_iload_n C.1.1 C.1.2.1 dX15_height_52 rfl (lv_at hl 2 rfl) ?_
        exact mr_iret C hr hlocks hw rfl (Option.some.inj hD) dX15_height_53
      · replace hD := g_neg c1 hD
        refine lv_aload_n C.1.1 C.1.2.1 dX15_height_15 rfl (lv_at hl 0 rfl) ?_
        refine mr_getR C hw kc_15 22 (by decide) tf_787 ff_787_22 wd_1977 dX15_height_16 (by decide) rfl ?_
        refine lv_iload_n C.1.1 C.1.2.1 dX15_height_19 rfl (lv_at hl 3 rfl) ?_
        obtain ⟨q2, hD⟩ := g_ck hD
        refine mr_iald C hw (by decide) tf_806 q2 dX15_height_20 ?_
        refine lv_iload_n C.1.1 C.1.2.1 dX15_height_21 rfl (lv_at hl 1 rfl) ?_
        refine lv_icmp_ne (tgt := 44) C.1.1 C.1.2.1 dX15_height_22 (by decide) (fun c3 => ?_) (fun c3 => ?_)
        · replace hD := g_neg c3 hD
          exact hb44 v2 v3 M L _ _ ls hD hw (lv_sub hl [0, 1, 2, 3] rfl)
        · replace hD := g_pos c3 hD
          refine lv_aload_n C.1.1 C.1.2.1 dX15_height_25 rfl (lv_at hl 0 rfl) ?_
          refine mr_getR C hw kc_15 24 (by decide) tf_787 ff_787_24 wd_1979 dX15_height_26 (by decide) rfl ?_
          refine lv_iload_n C.1.1 C.1.2.1 dX15_height_29 rfl (lv_at hl 3 rfl) ?_
          obtain ⟨q4, hD⟩ := g_ck hD
          refine mr_iald C hw (by decide) tf_808 q4 dX15_height_30 ?_
          refine lv_iload_n C.1.1 C.1.2.1 dX15_height_31 rfl (lv_at hl 2 rfl) ?_
          refine lv_icmp_le (tgt := 44) C.1.1 C.1.2.1 dX15_height_32 (by decide) (fun c5 => ?_) (fun c5 => ?_)
          · replace hD := g_pos c5 hD
            exact hb44 v2 v3 M L _ _ ls hD hw (lv_sub hl [0, 1, 2, 3] rfl)
          · replace hD := g_neg c5 hD
            refine lv_aload_n C.1.1 C.1.2.1 dX15_height_35 rfl (lv_at hl 0 rfl) ?_
            refine mr_getR C hw kc_15 24 (by decide) tf_787 ff_787_24 wd_1979 dX15_height_36 (by decide) rfl ?_
            refine lv_iload_n C.1.1 C.1.2.1 dX15_height_39 rfl (lv_at hl 3 rfl) ?_
            obtain ⟨q6, hD⟩ := g_ck hD
            refine mr_iald C hw (by decide) tf_808 q6 dX15_height_40 ?_
            refine lv_goto (tgt := 45) C.1.1 C.1.2.1 dX15_height_41 (by decide) ?_
            exact hb45 v3 (M 808 v3.toNatClampNeg) M L _ _ ls hD hw (lv_sub hl [0, 1, 3] rfl)
  unfold DX15_height at hD
  refine lv_aload_n C.1.1 C.1.2.1 dX15_height_0 rfl (lv_at hl 0 rfl) ?_
  refine mr_getR C hw kc_15 2 (by decide) tf_787 ff_787_2 wd_1957 dX15_height_1 (by decide) rfl ?_
  refine lv_iload_n C.1.1 C.1.2.1 dX15_height_4 rfl (lv_at hl 1 rfl) ?_
  obtain ⟨q8, hD⟩ := g_ck hD
  refine mr_iald C hw (by decide) tf_788 q8 dX15_height_5 ?_
  obtain ⟨x9, ex9, hD⟩ := g_let hD
  refine W.eq (g2 := F0 m 6 ls (.int x9 :: [])) (by rw [ex9]) ?_
  refine lv_istore_n (lv' := [(2, .int x9), (0, .ref (ad 787)), (1, .int a1)]) C.1.1 C.1.2.1 dX15_height_6 rfl hl (by decide) rfl (fun ls hl => ?_)
  refine lv_iconst (v := 1) C.1.1 C.1.2.1 dX15_height_7 (by decide) ?_
  refine lv_istore_n (lv' := [(3, .int 1), (2, .int x9), (0, .ref (ad 787)), (1, .int a1)]) C.1.1 C.1.2.1 dX15_height_8 rfl hl (by decide) rfl (fun ls hl => ?_)
  exact hh9 fu x9 1 M L _ _ ls hD hw (lv_sub hl [2, 3, 1, 0] rfl)

theorem dX15_findCeilings_0 : decode cX15_findCeilings 0 = .ok (.iconst 1, 1) := by decide +kernel
theorem dX15_findCeilings_1 : decode cX15_findCeilings 1 = .ok (.istore_n 1, 1) := by decide +kernel
theorem dX15_findCeilings_2 : decode cX15_findCeilings 2 = .ok (.iload_n 1, 1) := by decide +kernel
theorem dX15_findCeilings_3 : decode cX15_findCeilings 3 = .ok (.bipush 32, 2) := by decide +kernel
theorem dX15_findCeilings_5 : decode cX15_findCeilings 5 = .ok (.if_icmp .gt 16, 3) := by decide +kernel
theorem dX15_findCeilings_8 : decode cX15_findCeilings 8 = .ok (.aload_n 0, 1) := by decide +kernel
theorem dX15_findCeilings_9 : decode cX15_findCeilings 9 = .ok (.getfield 72, 3) := by decide +kernel
theorem dX15_findCeilings_12 : decode cX15_findCeilings 12 = .ok (.iload_n 1, 1) := by decide +kernel
theorem dX15_findCeilings_13 : decode cX15_findCeilings 13 = .ok (.iconst 0, 1) := by decide +kernel
theorem dX15_findCeilings_14 : decode cX15_findCeilings 14 = .ok (.iastore, 1) := by decide +kernel
theorem dX15_findCeilings_15 : decode cX15_findCeilings 15 = .ok (.iinc 1 1, 3) := by decide +kernel
theorem dX15_findCeilings_18 : decode cX15_findCeilings 18 = .ok (.goto (-16), 3) := by decide +kernel
theorem dX15_findCeilings_21 : decode cX15_findCeilings 21 = .ok (.iconst 0, 1) := by decide +kernel
theorem dX15_findCeilings_22 : decode cX15_findCeilings 22 = .ok (.istore_n 1, 1) := by decide +kernel
theorem dX15_findCeilings_23 : decode cX15_findCeilings 23 = .ok (.iload_n 1, 1) := by decide +kernel
theorem dX15_findCeilings_24 : decode cX15_findCeilings 24 = .ok (.aload_n 0, 1) := by decide +kernel
theorem dX15_findCeilings_25 : decode cX15_findCeilings 25 = .ok (.getfield 120, 3) := by decide +kernel
theorem dX15_findCeilings_28 : decode cX15_findCeilings 28 = .ok (.if_icmp .ge 65, 3) := by decide +kernel
theorem dX15_findCeilings_31 : decode cX15_findCeilings 31 = .ok (.aload_n 0, 1) := by decide +kernel
theorem dX15_findCeilings_32 : decode cX15_findCeilings 32 = .ok (.getfield 32, 3) := by decide +kernel
theorem dX15_findCeilings_35 : decode cX15_findCeilings 35 = .ok (.iload_n 1, 1) := by decide +kernel
theorem dX15_findCeilings_36 : decode cX15_findCeilings 36 = .ok (.laload, 1) := by decide +kernel
theorem dX15_findCeilings_37 : decode cX15_findCeilings 37 = .ok (.l2i, 1) := by decide +kernel
theorem dX15_findCeilings_38 : decode cX15_findCeilings 38 = .ok (.istore_n 2, 1) := by decide +kernel
theorem dX15_findCeilings_39 : decode cX15_findCeilings 39 = .ok (.aload_n 0, 1) := by decide +kernel
theorem dX15_findCeilings_40 : decode cX15_findCeilings 40 = .ok (.getfield 29, 3) := by decide +kernel
theorem dX15_findCeilings_43 : decode cX15_findCeilings 43 = .ok (.iload_n 1, 1) := by decide +kernel
theorem dX15_findCeilings_44 : decode cX15_findCeilings 44 = .ok (.iaload, 1) := by decide +kernel
theorem dX15_findCeilings_45 : decode cX15_findCeilings 45 = .ok (.bipush 6, 2) := by decide +kernel
theorem dX15_findCeilings_47 : decode cX15_findCeilings 47 = .ok (.if_icmp .ne 40, 3) := by decide +kernel
theorem dX15_findCeilings_50 : decode cX15_findCeilings 50 = .ok (.aload_n 0, 1) := by decide +kernel
theorem dX15_findCeilings_51 : decode cX15_findCeilings 51 = .ok (.getfield 7, 3) := by decide +kernel
theorem dX15_findCeilings_54 : decode cX15_findCeilings 54 = .ok (.aload_n 0, 1) := by decide +kernel
theorem dX15_findCeilings_55 : decode cX15_findCeilings 55 = .ok (.getfield 26, 3) := by decide +kernel
theorem dX15_findCeilings_58 : decode cX15_findCeilings 58 = .ok (.iload_n 1, 1) := by decide +kernel
theorem dX15_findCeilings_59 : decode cX15_findCeilings 59 = .ok (.iaload, 1) := by decide +kernel
theorem dX15_findCeilings_60 : decode cX15_findCeilings 60 = .ok (.iaload, 1) := by decide +kernel
theorem dX15_findCeilings_61 : decode cX15_findCeilings 61 = .ok (.aload_n 0, 1) := by decide +kernel
theorem dX15_findCeilings_62 : decode cX15_findCeilings 62 = .ok (.getfield 72, 3) := by decide +kernel
theorem dX15_findCeilings_65 : decode cX15_findCeilings 65 = .ok (.iload_n 2, 1) := by decide +kernel
theorem dX15_findCeilings_66 : decode cX15_findCeilings 66 = .ok (.iaload, 1) := by decide +kernel
theorem dX15_findCeilings_67 : decode cX15_findCeilings 67 = .ok (.if_icmp .le 20, 3) := by decide +kernel
theorem dX15_findCeilings_70 : decode cX15_findCeilings 70 = .ok (.aload_n 0, 1) := by decide +kernel
theorem dX15_findCeilings_71 : decode cX15_findCeilings 71 = .ok (.getfield 72, 3) := by decide +kernel
theorem dX15_findCeilings_74 : decode cX15_findCeilings 74 = .ok (.iload_n 2, 1) := by decide +kernel
theorem dX15_findCeilings_75 : decode cX15_findCeilings 75 = .ok (.aload_n 0, 1) := by decide +kernel
theorem dX15_findCeilings_76 : decode cX15_findCeilings 76 = .ok (.getfield 7, 3) := by decide +kernel
theorem dX15_findCeilings_79 : decode cX15_findCeilings 79 = .ok (.aload_n 0, 1) := by decide +kernel
theorem dX15_findCeilings_80 : decode cX15_findCeilings 80 = .ok (.getfield 26, 3) := by decide +kernel
theorem dX15_findCeilings_83 : decode cX15_findCeilings 83 = .ok (.iload_n 1, 1) := by decide +kernel
theorem dX15_findCeilings_84 : decode cX15_findCeilings 84 = .ok (.iaload, 1) := by decide +kernel
theorem dX15_findCeilings_85 : decode cX15_findCeilings 85 = .ok (.iaload, 1) := by decide +kernel
theorem dX15_findCeilings_86 : decode cX15_findCeilings 86 = .ok (.iastore, 1) := by decide +kernel
theorem dX15_findCeilings_87 : decode cX15_findCeilings 87 = .ok (.iinc 1 1, 3) := by decide +kernel
theorem dX15_findCeilings_90 : decode cX15_findCeilings 90 = .ok (.goto (-67), 3) := by decide +kernel
theorem dX15_findCeilings_93 : decode cX15_findCeilings 93 = .ok (.return_, 1) := by decide +kernel
theorem cwX15_findCeilings : mw_cwV yX15_findCeilings cX15_findCeilings 3 (none) 0 := ⟨⟨wd_14, wd_3780, by decide +kernel⟩, wd_3779, sl_258⟩
set_option maxHeartbeats 4000000 in
set_option maxRecDepth 100000 in
theorem tX15_findCeilings (l : Launch) (G : mwG) (ad : Nat → Nat) (fu : Nat) (M : mwM) (L : mwL) {M0 : mwM} {L0 : mwL} (hD : DX15_findCeilings fu M L = some (M0, L0)) : Met l yX15_findCeilings (Cond.code yX15_findCeilings cX15_findCeilings 3 (none) :: GT) ({ frames := 0, cells := 0, slots := 0, locals := 0 }) (mw_Pre G ad NF TF FF M L [.ref (ad 787)]) (mw_Qv G ad NF TF FF (mw_eqV M0 L0)) 0 0 (mw_fr G) := by
  refine mw_enter (by decide) (Nat.le_of_ble_eq_true rfl) ?_
  intro p e s m below meth c ls C hr hlocks hnm hw hl
  have hl : lv_has ls 3 [(0, .ref (ad 787))] := hl
  have hh23 : ∀ (f : Nat) (v1 : Int32) (M : mwM) (L : mwL) (H : Heap) (locs : List Loc) (ls : Array Slot), fX15_findCeilings_h23 fu f (v1, M, L) = some (M0, L0) → mw_W G ad NF TF FF M L H locs → lv_has ls 3 [(0, .ref (ad 787)), (1, .int v1)] → W p l e ({ frames := 0, cells := 0, slots := 0, locals := 0 }) s m [.ref (ad 787)].toArray below meth c H locs 0 0 (MQ below (mw_Qv G ad NF TF FF (mw_eqV M0 L0)) [.ref (ad 787)].toArray s 0 0 (mw_fr G)) (F0 m 23 ls []) := by
    intro f
    induction f with
    | zero => intro v1 M L H locs ls hD; cases hD
    | succ f23 ih23 =>
      intro v1 M L H locs ls hD hw hl
      replace hD : fX15_findCeilings_i23 fu (fX15_findCeilings_h23 fu f23) v1 M L = some (M0, L0) := hD
      have hb87 : ∀ (v1 : Int32) (M : mwM) (L : mwL) (H : Heap) (locs : List Loc) (ls : Array Slot), fX15_findCeilings_b87 fu (fX15_findCeilings_h23 fu f23) v1 M L = some (M0, L0) → mw_W G ad NF TF FF M L H locs → lv_has ls 3 [(0, .ref (ad 787)), (1, .int v1)] → W p l e ({ frames := 0, cells := 0, slots := 0, locals := 0 }) s m [.ref (ad 787)].toArray below meth c H locs 0 0 (MQ below (mw_Qv G ad NF TF FF (mw_eqV M0 L0)) [.ref (ad 787)].toArray s 0 0 (mw_fr G)) (F0 m 87 ls []) := by
        intro v1 M L H locs ls hD hw hl
        unfold fX15_findCeilings_b87 at hD
        obtain ⟨x18, ex18, hD⟩ := g_let hD
        refine lv_iinc (v := x18) (lv' := [(1, .int x18), (0, .ref (ad 787))]) C.1.1 C.1.2.1 dX15_findCeilings_87 hl (k := 1) rfl (by rw [ex18]; rfl) (by decide) rfl (fun ls hl => ?_)
        refine lv_goto (tgt := 23) C.1.1 C.1.2.1 dX15_findCeilings_90 (by decide) ?_
        exact ih23 x18 M L _ _ ls hD hw (lv_sub hl [1, 0] rfl)
      unfold fX15_findCeilings_i23 at hD
      refine lv_iload_n C.1.1 C.1.2.1 dX15_findCeilings_23 rfl (lv_at hl 1 rfl) ?_
      refine lv_aload_n C.1.1 C.1.2.1 dX15_findCeilings_24 rfl (lv_at hl 0 rfl) ?_
      refine mr_getI C hw kc_15 7 (by decide) tf_787 wd_1962 dX15_findCeilings_25 (by decide) rfl ?_
      refine lv_icmp_ge (tgt := 93) C.1.1 C.1.2.1 dX15_findCeilings_28 (by decide) (fun c5 => ?_) (fun c5 => ?_)
      · replace hD := g_pos c5 hD
        exact mr_vret C hr hlocks hw (Option.some.inj hD) dX15_findCeilings_93
      · replace hD := g_neg c5 hD
        refine lv_aload_n C.1.1 C.1.2.1 dX15_findCeilings_31 rfl (lv_at hl 0 rfl) ?_
        refine mr_getR C hw kc_15 10 (by decide) tf_787 ff_787_10 wd_1965 dX15_findCeilings_32 (by decide) rfl ?_
        refine lv_iload_n C.1.1 C.1.2.1 dX15_findCeilings_35 rfl (lv_at hl 1 rfl) ?_
        obtain ⟨q6, hD⟩ := g_ck hD
        refine mr_lald C hw (by decide) tf_795 q6 dX15_findCeilings_36 ?_
        refine lv_l2i C.1.1 C.1.2.1 dX15_findCeilings_37 rfl ?_
        obtain ⟨x7, ex7, hD⟩ := g_let hD
        refine W.eq (g2 := F0 m 38 ls (.int x7 :: [])) (by rw [ex7]) ?_
        refine lv_istore_n (lv' := [(2, .int x7), (0, .ref (ad 787)), (1, .int v1)]) C.1.1 C.1.2.1 dX15_findCeilings_38 rfl hl (by decide) rfl (fun ls hl => ?_)
        refine lv_aload_n C.1.1 C.1.2.1 dX15_findCeilings_39 rfl (lv_at hl 1 rfl) ?_
        refine mr_getR C hw kc_15 9 (by decide) tf_787 ff_787_9 wd_1964 dX15_findCeilings_40 (by decide) rfl ?_
        refine lv_iload_n C.1.1 C.1.2.1 dX15_findCeilings_43 rfl (lv_at hl 2 rfl) ?_
        obtain ⟨q8, hD⟩ := g_ck hD
        refine mr_iald C hw (by decide) tf_794 q8 dX15_findCeilings_44 ?_
        refine lv_bipush (v := 6) C.1.1 C.1.2.1 dX15_findCeilings_45 (by decide) ?_
        refine lv_icmp_ne (tgt := 87) C.1.1 C.1.2.1 dX15_findCeilings_47 (by decide) (fun c9 => ?_) (fun c9 => ?_)
        · replace hD := g_neg c9 hD
          exact hb87 v1 M L _ _ ls hD hw (lv_sub hl [1, 2] rfl)
        · replace hD := g_pos c9 hD
          refine lv_aload_n C.1.1 C.1.2.1 dX15_findCeilings_50 rfl (lv_at hl 1 rfl) ?_
          refine mr_getR C hw kc_15 2 (by decide) tf_787 ff_787_2 wd_1957 dX15_findCeilings_51 (by decide) rfl ?_
          refine lv_aload_n C.1.1 C.1.2.1 dX15_findCeilings_54 rfl (lv_at hl 1 rfl) ?_
          refine mr_getR C hw kc_15 8 (by decide) tf_787 ff_787_8 wd_1963 dX15_findCeilings_55 (by decide) rfl ?_
          refine lv_iload_n C.1.1 C.1.2.1 dX15_findCeilings_58 rfl (lv_at hl 2 rfl) ?_
          obtain ⟨q10, hD⟩ := g_ck hD
          refine mr_iald C hw (by decide) tf_793 q10 dX15_findCeilings_59 ?_
          obtain ⟨q11, hD⟩ := g_ck hD
          refine mr_iald C hw (by decide) tf_788 q11 dX15_findCeilings_60 ?_
          refine lv_aload_n C.1.1 C.1.2.1 dX15_findCeilings_61 rfl (lv_at hl 1 rfl) ?_
          refine mr_getR C hw kc_15 24 (by decide) tf_787 ff_787_24 wd_1979 dX15_findCeilings_62 (by decide) rfl ?_
          refine lv_iload_n C.1.1 C.1.2.1 dX15_findCeilings_65 rfl (lv_at hl 0 rfl) ?_
          obtain ⟨q12, hD⟩ := g_ck hD
          refine mr_iald C hw (by decide) tf_808 q12 dX15_findCeilings_66 ?_
          refine lv_icmp_le (tgt := 87) C.1.1 C.1.2.1 dX15_findCeilings_67 (by decide) (fun c13 => ?_) (fun c13 => ?_)
          · replace hD := g_pos c13 hD
            exact hb87 v1 M L _ _ ls hD hw (lv_sub hl [1, 2] rfl)
          · replace hD := g_neg c13 hD
            refine lv_aload_n C.1.1 C.1.2.1 dX15_findCeilings_70 rfl (lv_at hl 1 rfl) ?_
            refine mr_getR C hw kc_15 24 (by decide) tf_787 ff_787_24 wd_1979 dX15_findCeilings_71 (by decide) rfl ?_
            refine lv_iload_n C.1.1 C.1.2.1 dX15_findCeilings_74 rfl (lv_at hl 0 rfl) ?_
            refine lv_aload_n C.1.1 C.1.2.1 dX15_findCeilings_75 rfl (lv_at hl 1 rfl) ?_
            refine mr_getR C hw kc_15 2 (by decide) tf_787 ff_787_2 wd_1957 dX15_findCeilings_76 (by decide) rfl ?_
            refine lv_aload_n C.1.1 C.1.2.1 dX15_findCeilings_79 rfl (lv_at hl 1 rfl) ?_
            refine mr_getR C hw kc_15 8 (by decide) tf_787 ff_787_8 wd_1963 dX15_findCeilings_80 (by decide) rfl ?_
            refine lv_iload_n C.1.1 C.1.2.1 dX15_findCeilings_83 rfl (lv_at hl 2 rfl) ?_
            obtain ⟨q14, hD⟩ := g_ck hD
            refine mr_iald C hw (by decide) tf_793 q14 dX15_findCeilings_84 ?_
            obtain ⟨q15, hD⟩ := g_ck hD
            refine mr_iald C hw (by decide) tf_788 q15 dX15_findCeilings_85 ?_
            obtain ⟨q16, hD⟩ := g_ck hD
            obtain ⟨M17, eM17, hD⟩ := g_let hD
            refine mr_iast C hw (by decide) tf_808 q16 dX15_findCeilings_86 (fun H locs hw => ?_)
            replace hw : mw_W G ad NF TF FF M17 L H locs := by rw [eM17]; exact hw
            exact hb87 v1 M17 L _ _ ls hD hw (lv_sub hl [1, 2] rfl)
  have hh2 : ∀ (f : Nat) (v1 : Int32) (M : mwM) (L : mwL) (H : Heap) (locs : List Loc) (ls : Array Slot), fX15_findCeilings_h2 fu f (v1, M, L) = some (M0, L0) → mw_W G ad NF TF FF M L H locs → lv_has ls 3 [(0, .ref (ad 787)), (1, .int v1)] → W p l e ({ frames := 0, cells := 0, slots := 0, locals := 0 }) s m [.ref (ad 787)].toArray below meth c H locs 0 0 (MQ below (mw_Qv G ad NF TF FF (mw_eqV M0 L0)) [.ref (ad 787)].toArray s 0 0 (mw_fr G)) (F0 m 2 ls []) := by
    intro f
    induction f with
    | zero => intro v1 M L H locs ls hD; cases hD
    | succ f2 ih2 =>
      intro v1 M L H locs ls hD hw hl
      replace hD : fX15_findCeilings_i2 fu (fX15_findCeilings_h2 fu f2) v1 M L = some (M0, L0) := hD
      unfold fX15_findCeilings_i2 at hD
      refine lv_iload_n C.1.1 C.1.2.1 dX15_findCeilings_2 rfl (lv_at hl 1 rfl) ?_
      refine lv_bipush (v := 32) C.1.1 C.1.2.1 dX15_findCeilings_3 (by decide) ?_
      refine lv_icmp_gt (tgt := 21) C.1.1 C.1.2.1 dX15_findCeilings_5 (by decide) (fun c1 => ?_) (fun c1 => ?_)
      · replace hD := g_pos c1 hD
        refine lv_iconst (v := 0) C.1.1 C.1.2.1 dX15_findCeilings_21 (by decide) ?_
        refine lv_istore_n (lv' := [(1, .int 0), (0, .ref (ad 787))]) C.1.1 C.1.2.1 dX15_findCeilings_22 rfl hl (by decide) rfl (fun ls hl => ?_)
        exact hh23 fu 0 M L _ _ ls hD hw (lv_sub hl [1, 0] rfl)
      · replace hD := g_neg c1 hD
        refine lv_aload_n C.1.1 C.1.2.1 dX15_findCeilings_8 rfl (lv_at hl 0 rfl) ?_
        refine mr_getR C hw kc_15 24 (by decide) tf_787 ff_787_24 wd_1979 dX15_findCeilings_9 (by decide) rfl ?_
        refine lv_iload_n C.1.1 C.1.2.1 dX15_findCeilings_12 rfl (lv_at hl 1 rfl) ?_
        refine lv_iconst (v := 0) C.1.1 C.1.2.1 dX15_findCeilings_13 (by decide) ?_
        obtain ⟨q2, hD⟩ := g_ck hD
        obtain ⟨M3, eM3, hD⟩ := g_let hD
        refine mr_iast C hw (by decide) tf_808 q2 dX15_findCeilings_14 (fun H locs hw => ?_)
        replace hw : mw_W G ad NF TF FF M3 L H locs := by rw [eM3]; exact hw
        obtain ⟨x4, ex4, hD⟩ := g_let hD
        refine lv_iinc (v := x4) (lv' := [(1, .int x4), (0, .ref (ad 787))]) C.1.1 C.1.2.1 dX15_findCeilings_15 hl (k := 1) rfl (by rw [ex4]; rfl) (by decide) rfl (fun ls hl => ?_)
        refine lv_goto (tgt := 2) C.1.1 C.1.2.1 dX15_findCeilings_18 (by decide) ?_
        exact ih2 x4 M3 L _ _ ls hD hw (lv_sub hl [1, 0] rfl)
  unfold DX15_findCeilings at hD
  refine lv_iconst (v := 1) C.1.1 C.1.2.1 dX15_findCeilings_0 (by decide) ?_
  refine lv_istore_n (lv' := [(1, .int 1), (0, .ref (ad 787))]) C.1.1 C.1.2.1 dX15_findCeilings_1 rfl hl (by decide) rfl (fun ls hl => ?_)
  exact hh2 fu 1 M L _ _ ls hD hw (lv_sub hl [1, 0] rfl)

theorem dX15_runningOf_0 : decode cX15_runningOf 0 = .ok (.iconst 0, 1) := by decide +kernel
theorem dX15_runningOf_1 : decode cX15_runningOf 1 = .ok (.istore_n 2, 1) := by decide +kernel
theorem dX15_runningOf_2 : decode cX15_runningOf 2 = .ok (.iconst 1, 1) := by decide +kernel
theorem dX15_runningOf_3 : decode cX15_runningOf 3 = .ok (.istore_n 3, 1) := by decide +kernel
theorem dX15_runningOf_4 : decode cX15_runningOf 4 = .ok (.iload_n 3, 1) := by decide +kernel
theorem dX15_runningOf_5 : decode cX15_runningOf 5 = .ok (.aload_n 0, 1) := by decide +kernel
theorem dX15_runningOf_6 : decode cX15_runningOf 6 = .ok (.getfield 117, 3) := by decide +kernel
theorem dX15_runningOf_9 : decode cX15_runningOf 9 = .ok (.if_icmp .gt 35, 3) := by decide +kernel
theorem dX15_runningOf_12 : decode cX15_runningOf 12 = .ok (.aload_n 0, 1) := by decide +kernel
theorem dX15_runningOf_13 : decode cX15_runningOf 13 = .ok (.getfield 13, 3) := by decide +kernel
theorem dX15_runningOf_16 : decode cX15_runningOf 16 = .ok (.iload_n 3, 1) := by decide +kernel
theorem dX15_runningOf_17 : decode cX15_runningOf 17 = .ok (.iaload, 1) := by decide +kernel
theorem dX15_runningOf_18 : decode cX15_runningOf 18 = .ok (.iload_n 1, 1) := by decide +kernel
theorem dX15_runningOf_19 : decode cX15_runningOf 19 = .ok (.if_icmp .ne 17, 3) := by decide +kernel
theorem dX15_runningOf_22 : decode cX15_runningOf 22 = .ok (.aload_n 0, 1) := by decide +kernel
theorem dX15_runningOf_23 : decode cX15_runningOf 23 = .ok (.getfield 36, 3) := by decide +kernel
theorem dX15_runningOf_26 : decode cX15_runningOf 26 = .ok (.iload_n 3, 1) := by decide +kernel
theorem dX15_runningOf_27 : decode cX15_runningOf 27 = .ok (.iaload, 1) := by decide +kernel
theorem dX15_runningOf_28 : decode cX15_runningOf 28 = .ok (.iconst 2, 1) := by decide +kernel
theorem dX15_runningOf_29 : decode cX15_runningOf 29 = .ok (.if_icmp .ne 7, 3) := by decide +kernel
theorem dX15_runningOf_32 : decode cX15_runningOf 32 = .ok (.iload_n 3, 1) := by decide +kernel
theorem dX15_runningOf_33 : decode cX15_runningOf 33 = .ok (.goto 4, 3) := by decide +kernel
theorem dX15_runningOf_36 : decode cX15_runningOf 36 = .ok (.iload_n 2, 1) := by decide +kernel
theorem dX15_runningOf_37 : decode cX15_runningOf 37 = .ok (.istore_n 2, 1) := by decide +kernel
theorem dX15_runningOf_38 : decode cX15_runningOf 38 = .ok (.iinc 3 1, 3) := by decide +kernel
theorem dX15_runningOf_41 : decode cX15_runningOf 41 = .ok (.goto (-37), 3) := by decide +kernel
theorem dX15_runningOf_44 : decode cX15_runningOf 44 = .ok (.iload_n 2, 1) := by decide +kernel
theorem dX15_runningOf_45 : decode cX15_runningOf 45 = .ok (.ireturn, 1) := by decide +kernel
theorem cwX15_runningOf : mw_cwV yX15_runningOf cX15_runningOf 4 ((some .int)) 1 := ⟨⟨wd_14, wd_3812, by decide +kernel⟩, wd_3811, sl_266⟩
set_option maxHeartbeats 4000000 in
set_option maxRecDepth 100000 in
theorem tX15_runningOf (l : Launch) (G : mwG) (ad : Nat → Nat) (fu : Nat) (a1 : Int32) (M : mwM) (L : mwL) {r0 : Int32} {M0 : mwM} {L0 : mwL} (hD : DX15_runningOf fu a1 M L = some (r0, M0, L0)) : Met l yX15_runningOf (Cond.code yX15_runningOf cX15_runningOf 4 ((some .int)) :: GT) ({ frames := 0, cells := 0, slots := 0, locals := 0 }) (mw_Pre G ad NF TF FF M L [.ref (ad 787), .int a1]) (mw_Qi G ad NF TF FF (mw_eqI r0 M0 L0)) 0 0 (mw_fr G) := by
  refine mw_enter (by decide) (Nat.le_of_ble_eq_true rfl) ?_
  intro p e s m below meth c ls C hr hlocks hnm hw hl
  have hl : lv_has ls 4 [(0, .ref (ad 787)), (1, .int a1)] := hl
  have hh4 : ∀ (f : Nat) (v2 : Int32) (v3 : Int32) (M : mwM) (L : mwL) (H : Heap) (locs : List Loc) (ls : Array Slot), fX15_runningOf_h4 fu a1 f (v2, v3, M, L) = some (r0, M0, L0) → mw_W G ad NF TF FF M L H locs → lv_has ls 4 [(0, .ref (ad 787)), (1, .int a1), (2, .int v2), (3, .int v3)] → W p l e ({ frames := 0, cells := 0, slots := 0, locals := 0 }) s m [.ref (ad 787), .int a1].toArray below meth c H locs 0 0 (MQ below (mw_Qi G ad NF TF FF (mw_eqI r0 M0 L0)) [.ref (ad 787), .int a1].toArray s 0 0 (mw_fr G)) (F0 m 4 ls []) := by
    intro f
    induction f with
    | zero => intro v2 v3 M L H locs ls hD; cases hD
    | succ f4 ih4 =>
      intro v2 v3 M L H locs ls hD hw hl
      replace hD : fX15_runningOf_i4 fu a1 (fX15_runningOf_h4 fu a1 f4) v2 v3 M L = some (r0, M0, L0) := hD
      have hb37 : ∀ (v3 : Int32) (s0 : Int32) (M : mwM) (L : mwL) (H : Heap) (locs : List Loc) (ls : Array Slot), fX15_runningOf_b37 fu a1 (fX15_runningOf_h4 fu a1 f4) v3 s0 M L = some (r0, M0, L0) → mw_W G ad NF TF FF M L H locs → lv_has ls 4 [(0, .ref (ad 787)), (1, .int a1), (3, .int v3)] → W p l e ({ frames := 0, cells := 0, slots := 0, locals := 0 }) s m [.ref (ad 787), .int a1].toArray below meth c H locs 0 0 (MQ below (mw_Qi G ad NF TF FF (mw_eqI r0 M0 L0)) [.ref (ad 787), .int a1].toArray s 0 0 (mw_fr G)) (F0 m 37 ls [.int s0]) := by
        intro v3 s0 M L H locs ls hD hw hl
        unfold fX15_runningOf_b37 at hD
        refine lv_istore_n (lv' := [(2, .int s0), (0, .ref (ad 787)), (1, .int a1), (3, .int v3)]) C.1.1 C.1.2.1 dX15_runningOf_37 rfl hl (by decide) rfl (fun ls hl => ?_)
        obtain ⟨x6, ex6, hD⟩ := g_let hD
        refine lv_iinc (v := x6) (lv' := [(3, .int x6), (2, .int s0), (0, .ref (ad 787)), (1, .int a1)]) C.1.1 C.1.2.1 dX15_runningOf_38 hl (k := 3) rfl (by rw [ex6]; rfl) (by decide) rfl (fun ls hl => ?_)
        refine lv_goto (tgt := 4) C.1.1 C.1.2.1 dX15_runningOf_41 (by decide) ?_
        exact ih4 s0 x6 M L _ _ ls hD hw (lv_sub hl [2, 3, 1, 0] rfl)
      have hb36 : ∀ (v2 : Int32) (v3 : Int32) (M : mwM) (L : mwL) (H : Heap) (locs : List Loc) (ls : Array Slot), fX15_runningOf_b36 fu a1 (fX15_runningOf_h4 fu a1 f4) v2 v3 M L = some (r0, M0, L0) → mw_W G ad NF TF FF M L H locs → lv_has ls 4 [(0, .ref (ad 787)), (1, .int a1), (2, .int v2), (3, .int v3)] → W p l e ({ frames := 0, cells := 0, slots := 0, locals := 0 }) s m [.ref (ad 787), .int a1].toArray below meth c H locs 0 0 (MQ below (mw_Qi G ad NF TF FF (mw_eqI r0 M0 L0)) [.ref (ad 787), .int a1].toArray s 0 0 (mw_fr G)) (F0 m 36 ls []) := by
        intro v2 v3 M L H locs ls hD hw hl
        unfold fX15_runningOf_b36 at hD
        refine lv_iload_n C.1.1 C.1.2.1 dX15_runningOf_36 rfl (lv_at hl 2 rfl) ?_
        exact hb37 v3 v2 M L _ _ ls hD hw (lv_sub hl [0, 1, 3] rfl)
      unfold fX15_runningOf_i4 at hD
      refine lv_iload_n C.1.1 C.1.2.1 dX15_runningOf_4 rfl (lv_at hl 3 rfl) ?_
      refine lv_aload_n C.1.1 C.1.2.1 dX15_runningOf_5 rfl (lv_at hl 0 rfl) ?_
      refine mr_getI C hw kc_15 1 (by decide) tf_787 wd_1956 dX15_runningOf_6 (by decide) rfl ?_
      refine lv_icmp_gt (tgt := 44) C.1.1 C.1.2.1 dX15_runningOf_9 (by decide) (fun c1 => ?_) (fun c1 => ?_)
      · replace hD := g_pos c1 hD
        refine lv_iload_n C.1.1 C.1.2.1 dX15_runningOf_44 rfl (lv_at hl 2 rfl) ?_
        exact mr_iret C hr hlocks hw rfl (Option.some.inj hD) dX15_runningOf_45
      · replace hD := g_neg c1 hD
        refine lv_aload_n C.1.1 C.1.2.1 dX15_runningOf_12 rfl (lv_at hl 0 rfl) ?_
        refine mr_getR C hw kc_15 3 (by decide) tf_787 ff_787_3 wd_1958 dX15_runningOf_13 (by decide) rfl ?_
        refine lv_iload_n C.1.1 C.1.2.1 dX15_runningOf_16 rfl (lv_at hl 3 rfl) ?_
        obtain ⟨q2, hD⟩ := g_ck hD
        refine mr_iald C hw (by decide) tf_789 q2 dX15_runningOf_17 ?_
        refine lv_iload_n C.1.1 C.1.2.1 dX15_runningOf_18 rfl (lv_at hl 1 rfl) ?_
        refine lv_icmp_ne (tgt := 36) C.1.1 C.1.2.1 dX15_runningOf_19 (by decide) (fun c3 => ?_) (fun c3 => ?_)
        · replace hD := g_neg c3 hD
          exact hb36 v2 v3 M L _ _ ls hD hw (lv_sub hl [0, 1, 2, 3] rfl)
        · replace hD := g_pos c3 hD
          refine lv_aload_n C.1.1 C.1.2.1 dX15_runningOf_22 rfl (lv_at hl 0 rfl) ?_
          refine mr_getR C hw kc_15 11 (by decide) tf_787 ff_787_11 wd_1966 dX15_runningOf_23 (by decide) rfl ?_
          refine lv_iload_n C.1.1 C.1.2.1 dX15_runningOf_26 rfl (lv_at hl 3 rfl) ?_
          obtain ⟨q4, hD⟩ := g_ck hD
          refine mr_iald C hw (by decide) tf_796 q4 dX15_runningOf_27 ?_
          refine lv_iconst (v := 2) C.1.1 C.1.2.1 dX15_runningOf_28 (by decide) ?_
          refine lv_icmp_ne (tgt := 36) C.1.1 C.1.2.1 dX15_runningOf_29 (by decide) (fun c5 => ?_) (fun c5 => ?_)
          · replace hD := g_neg c5 hD
            exact hb36 v2 v3 M L _ _ ls hD hw (lv_sub hl [0, 1, 2, 3] rfl)
          · replace hD := g_pos c5 hD
            refine lv_iload_n C.1.1 C.1.2.1 dX15_runningOf_32 rfl (lv_at hl 3 rfl) ?_
            refine lv_goto (tgt := 37) C.1.1 C.1.2.1 dX15_runningOf_33 (by decide) ?_
            exact hb37 v3 v3 M L _ _ ls hD hw (lv_sub hl [0, 1, 3] rfl)
  unfold DX15_runningOf at hD
  refine lv_iconst (v := 0) C.1.1 C.1.2.1 dX15_runningOf_0 (by decide) ?_
  refine lv_istore_n (lv' := [(2, .int 0), (0, .ref (ad 787)), (1, .int a1)]) C.1.1 C.1.2.1 dX15_runningOf_1 rfl hl (by decide) rfl (fun ls hl => ?_)
  refine lv_iconst (v := 1) C.1.1 C.1.2.1 dX15_runningOf_2 (by decide) ?_
  refine lv_istore_n (lv' := [(3, .int 1), (2, .int 0), (0, .ref (ad 787)), (1, .int a1)]) C.1.1 C.1.2.1 dX15_runningOf_3 rfl hl (by decide) rfl (fun ls hl => ?_)
  exact hh4 fu 0 1 M L _ _ ls hD hw (lv_sub hl [2, 3, 1, 0] rfl)

theorem dX15_choose_0 : decode cX15_choose 0 = .ok (.aload_n 0, 1) := by decide +kernel
theorem dX15_choose_1 : decode cX15_choose 1 = .ok (.iload_n 1, 1) := by decide +kernel
theorem dX15_choose_2 : decode cX15_choose 2 = .ok (.invokevirtual 209, 3) := by decide +kernel
theorem dX15_choose_5 : decode cX15_choose 5 = .ok (.istore_n 2, 1) := by decide +kernel
theorem dX15_choose_6 : decode cX15_choose 6 = .ok (.iload_n 2, 1) := by decide +kernel
theorem dX15_choose_7 : decode cX15_choose 7 = .ok (.ifCond .le 23, 3) := by decide +kernel
theorem dX15_choose_10 : decode cX15_choose 10 = .ok (.aload_n 0, 1) := by decide +kernel
theorem dX15_choose_11 : decode cX15_choose 11 = .ok (.getfield 23, 3) := by decide +kernel
theorem dX15_choose_14 : decode cX15_choose 14 = .ok (.iload_n 2, 1) := by decide +kernel
theorem dX15_choose_15 : decode cX15_choose 15 = .ok (.baload, 1) := by decide +kernel
theorem dX15_choose_16 : decode cX15_choose 16 = .ok (.ifCond .ne 14, 3) := by decide +kernel
theorem dX15_choose_19 : decode cX15_choose 19 = .ok (.aload_n 0, 1) := by decide +kernel
theorem dX15_choose_20 : decode cX15_choose 20 = .ok (.getfield 60, 3) := by decide +kernel
theorem dX15_choose_23 : decode cX15_choose 23 = .ok (.iload_n 2, 1) := by decide +kernel
theorem dX15_choose_24 : decode cX15_choose 24 = .ok (.baload, 1) := by decide +kernel
theorem dX15_choose_25 : decode cX15_choose 25 = .ok (.ifCond .ne 5, 3) := by decide +kernel
theorem dX15_choose_28 : decode cX15_choose 28 = .ok (.iload_n 2, 1) := by decide +kernel
theorem dX15_choose_29 : decode cX15_choose 29 = .ok (.ireturn, 1) := by decide +kernel
theorem dX15_choose_30 : decode cX15_choose 30 = .ok (.iload_n 2, 1) := by decide +kernel
theorem dX15_choose_31 : decode cX15_choose 31 = .ok (.istore_n 3, 1) := by decide +kernel
theorem dX15_choose_32 : decode cX15_choose 32 = .ok (.iload_n 2, 1) := by decide +kernel
theorem dX15_choose_33 : decode cX15_choose 33 = .ok (.ifCond .le 11, 3) := by decide +kernel
theorem dX15_choose_36 : decode cX15_choose 36 = .ok (.aload_n 0, 1) := by decide +kernel
theorem dX15_choose_37 : decode cX15_choose 37 = .ok (.iload_n 2, 1) := by decide +kernel
theorem dX15_choose_38 : decode cX15_choose 38 = .ok (.invokevirtual 213, 3) := by decide +kernel
theorem dX15_choose_41 : decode cX15_choose 41 = .ok (.goto 4, 3) := by decide +kernel
theorem dX15_choose_44 : decode cX15_choose 44 = .ok (.iconst (-1), 1) := by decide +kernel
theorem dX15_choose_45 : decode cX15_choose 45 = .ok (.istore 4, 2) := by decide +kernel
theorem dX15_choose_47 : decode cX15_choose 47 = .ok (.iconst 1, 1) := by decide +kernel
theorem dX15_choose_48 : decode cX15_choose 48 = .ok (.istore 5, 2) := by decide +kernel
theorem dX15_choose_50 : decode cX15_choose 50 = .ok (.iload 5, 2) := by decide +kernel
theorem dX15_choose_52 : decode cX15_choose 52 = .ok (.aload_n 0, 1) := by decide +kernel
theorem dX15_choose_53 : decode cX15_choose 53 = .ok (.getfield 117, 3) := by decide +kernel
theorem dX15_choose_56 : decode cX15_choose 56 = .ok (.if_icmp .gt 85, 3) := by decide +kernel
theorem dX15_choose_59 : decode cX15_choose 59 = .ok (.aload_n 0, 1) := by decide +kernel
theorem dX15_choose_60 : decode cX15_choose 60 = .ok (.getfield 13, 3) := by decide +kernel
theorem dX15_choose_63 : decode cX15_choose 63 = .ok (.iload 5, 2) := by decide +kernel
theorem dX15_choose_65 : decode cX15_choose 65 = .ok (.iaload, 1) := by decide +kernel
theorem dX15_choose_66 : decode cX15_choose 66 = .ok (.iload_n 1, 1) := by decide +kernel
theorem dX15_choose_67 : decode cX15_choose 67 = .ok (.if_icmp .ne 68, 3) := by decide +kernel
theorem dX15_choose_70 : decode cX15_choose 70 = .ok (.aload_n 0, 1) := by decide +kernel
theorem dX15_choose_71 : decode cX15_choose 71 = .ok (.getfield 36, 3) := by decide +kernel
theorem dX15_choose_74 : decode cX15_choose 74 = .ok (.iload 5, 2) := by decide +kernel
theorem dX15_choose_76 : decode cX15_choose 76 = .ok (.iaload, 1) := by decide +kernel
theorem dX15_choose_77 : decode cX15_choose 77 = .ok (.iconst 1, 1) := by decide +kernel
theorem dX15_choose_78 : decode cX15_choose 78 = .ok (.if_icmp .eq 6, 3) := by decide +kernel
theorem dX15_choose_81 : decode cX15_choose 81 = .ok (.goto 54, 3) := by decide +kernel
theorem dX15_choose_84 : decode cX15_choose 84 = .ok (.aload_n 0, 1) := by decide +kernel
theorem dX15_choose_85 : decode cX15_choose 85 = .ok (.iload 5, 2) := by decide +kernel
theorem dX15_choose_87 : decode cX15_choose 87 = .ok (.invokevirtual 213, 3) := by decide +kernel
theorem dX15_choose_90 : decode cX15_choose 90 = .ok (.istore 6, 2) := by decide +kernel
theorem dX15_choose_92 : decode cX15_choose 92 = .ok (.iload 6, 2) := by decide +kernel
theorem dX15_choose_94 : decode cX15_choose 94 = .ok (.iload 4, 2) := by decide +kernel
theorem dX15_choose_96 : decode cX15_choose 96 = .ok (.if_icmp .gt 32, 3) := by decide +kernel
theorem dX15_choose_99 : decode cX15_choose 99 = .ok (.iload 6, 2) := by decide +kernel
theorem dX15_choose_101 : decode cX15_choose 101 = .ok (.iload 4, 2) := by decide +kernel
theorem dX15_choose_103 : decode cX15_choose 103 = .ok (.if_icmp .ne 32, 3) := by decide +kernel
theorem dX15_choose_106 : decode cX15_choose 106 = .ok (.iload_n 3, 1) := by decide +kernel
theorem dX15_choose_107 : decode cX15_choose 107 = .ok (.iload_n 2, 1) := by decide +kernel
theorem dX15_choose_108 : decode cX15_choose 108 = .ok (.if_icmp .eq 27, 3) := by decide +kernel
theorem dX15_choose_111 : decode cX15_choose 111 = .ok (.aload_n 0, 1) := by decide +kernel
theorem dX15_choose_112 : decode cX15_choose 112 = .ok (.getfield 39, 3) := by decide +kernel
theorem dX15_choose_115 : decode cX15_choose 115 = .ok (.iload 5, 2) := by decide +kernel
theorem dX15_choose_117 : decode cX15_choose 117 = .ok (.laload, 1) := by decide +kernel
theorem dX15_choose_118 : decode cX15_choose 118 = .ok (.aload_n 0, 1) := by decide +kernel
theorem dX15_choose_119 : decode cX15_choose 119 = .ok (.getfield 39, 3) := by decide +kernel
theorem dX15_choose_122 : decode cX15_choose 122 = .ok (.iload_n 3, 1) := by decide +kernel
theorem dX15_choose_123 : decode cX15_choose 123 = .ok (.laload, 1) := by decide +kernel
theorem dX15_choose_124 : decode cX15_choose 124 = .ok (.lcmp, 1) := by decide +kernel
theorem dX15_choose_125 : decode cX15_choose 125 = .ok (.ifCond .ge 10, 3) := by decide +kernel
theorem dX15_choose_128 : decode cX15_choose 128 = .ok (.iload 5, 2) := by decide +kernel
theorem dX15_choose_130 : decode cX15_choose 130 = .ok (.istore_n 3, 1) := by decide +kernel
theorem dX15_choose_131 : decode cX15_choose 131 = .ok (.iload 6, 2) := by decide +kernel
theorem dX15_choose_133 : decode cX15_choose 133 = .ok (.istore 4, 2) := by decide +kernel
theorem dX15_choose_135 : decode cX15_choose 135 = .ok (.iinc 5 1, 3) := by decide +kernel
theorem dX15_choose_138 : decode cX15_choose 138 = .ok (.goto (-88), 3) := by decide +kernel
theorem dX15_choose_141 : decode cX15_choose 141 = .ok (.iload_n 2, 1) := by decide +kernel
theorem dX15_choose_142 : decode cX15_choose 142 = .ok (.ifCond .le 17, 3) := by decide +kernel
theorem dX15_choose_145 : decode cX15_choose 145 = .ok (.aload_n 0, 1) := by decide +kernel
theorem dX15_choose_146 : decode cX15_choose 146 = .ok (.getfield 60, 3) := by decide +kernel
theorem dX15_choose_149 : decode cX15_choose 149 = .ok (.iload_n 2, 1) := by decide +kernel
theorem dX15_choose_150 : decode cX15_choose 150 = .ok (.iconst 0, 1) := by decide +kernel
theorem dX15_choose_151 : decode cX15_choose 151 = .ok (.bastore, 1) := by decide +kernel
theorem dX15_choose_152 : decode cX15_choose 152 = .ok (.aload_n 0, 1) := by decide +kernel
theorem dX15_choose_153 : decode cX15_choose 153 = .ok (.getfield 36, 3) := by decide +kernel
theorem dX15_choose_156 : decode cX15_choose 156 = .ok (.iload_n 2, 1) := by decide +kernel
theorem dX15_choose_157 : decode cX15_choose 157 = .ok (.iconst 1, 1) := by decide +kernel
theorem dX15_choose_158 : decode cX15_choose 158 = .ok (.iastore, 1) := by decide +kernel
theorem dX15_choose_159 : decode cX15_choose 159 = .ok (.iload_n 3, 1) := by decide +kernel
theorem dX15_choose_160 : decode cX15_choose 160 = .ok (.ifCond .le 10, 3) := by decide +kernel
theorem dX15_choose_163 : decode cX15_choose 163 = .ok (.aload_n 0, 1) := by decide +kernel
theorem dX15_choose_164 : decode cX15_choose 164 = .ok (.getfield 36, 3) := by decide +kernel
theorem dX15_choose_167 : decode cX15_choose 167 = .ok (.iload_n 3, 1) := by decide +kernel
theorem dX15_choose_168 : decode cX15_choose 168 = .ok (.iconst 2, 1) := by decide +kernel
theorem dX15_choose_169 : decode cX15_choose 169 = .ok (.iastore, 1) := by decide +kernel
theorem dX15_choose_170 : decode cX15_choose 170 = .ok (.iload_n 3, 1) := by decide +kernel
theorem dX15_choose_171 : decode cX15_choose 171 = .ok (.ireturn, 1) := by decide +kernel
theorem cwX15_choose : mw_cwV yX15_choose cX15_choose 7 ((some .int)) 1 := ⟨⟨wd_14, wd_3808, by decide +kernel⟩, wd_3807, sl_265⟩
set_option maxHeartbeats 4000000 in
set_option maxRecDepth 100000 in
theorem tX15_choose (l : Launch) (G : mwG) (ad : Nat → Nat) (fu : Nat) (a1 : Int32) (M : mwM) (L : mwL) {r0 : Int32} {M0 : mwM} {L0 : mwL} (hD : DX15_choose fu a1 M L = some (r0, M0, L0)) : Met l yX15_choose (Cond.code yX15_choose cX15_choose 7 ((some .int)) :: GT) ({ frames := 1, cells := 0, slots := 0, locals := 23 }) (mw_Pre G ad NF TF FF M L [.ref (ad 787), .int a1]) (mw_Qi G ad NF TF FF (mw_eqI r0 M0 L0)) 0 0 (mw_fr G) := by
  refine mw_enter (by decide) (Nat.le_of_ble_eq_true rfl) ?_
  intro p e s m below meth c ls C hr hlocks hnm hw hl
  have hl : lv_has ls 7 [(0, .ref (ad 787)), (1, .int a1)] := hl
  have hb170 : ∀ (v3 : Int32) (M : mwM) (L : mwL) (H : Heap) (locs : List Loc) (ls : Array Slot), fX15_choose_b170 fu a1 v3 M L = some (r0, M0, L0) → mw_W G ad NF TF FF M L H locs → lv_has ls 7 [(3, .int v3)] → W p l e ({ frames := 1, cells := 0, slots := 0, locals := 23 }) s m [.ref (ad 787), .int a1].toArray below meth c H locs 0 0 (MQ below (mw_Qi G ad NF TF FF (mw_eqI r0 M0 L0)) [.ref (ad 787), .int a1].toArray s 0 0 (mw_fr G)) (F0 m 170 ls []) := by
    intro v3 M L H locs ls hD hw hl
    unfold fX15_choose_b170 at hD
    refine lv_iload_n C.1.1 C.1.2.1 dX15_choose_170 rfl (lv_at hl 0 rfl) ?_
    exact mr_iret C hr hlocks hw rfl (Option.some.inj hD) dX15_choose_171
  have hb159 : ∀ (v3 : Int32) (M : mwM) (L : mwL) (H : Heap) (locs : List Loc) (ls : Array Slot), fX15_choose_b159 fu a1 v3 M L = some (r0, M0, L0) → mw_W G ad NF TF FF M L H locs → lv_has ls 7 [(0, .ref (ad 787)), (3, .int v3)] → W p l e ({ frames := 1, cells := 0, slots := 0, locals := 23 }) s m [.ref (ad 787), .int a1].toArray below meth c H locs 0 0 (MQ below (mw_Qi G ad NF TF FF (mw_eqI r0 M0 L0)) [.ref (ad 787), .int a1].toArray s 0 0 (mw_fr G)) (F0 m 159 ls []) := by
    intro v3 M L H locs ls hD hw hl
    unfold fX15_choose_b159 at hD
    refine lv_iload_n C.1.1 C.1.2.1 dX15_choose_159 rfl (lv_at hl 1 rfl) ?_
    refine lv_if_le (tgt := 170) C.1.1 C.1.2.1 dX15_choose_160 (by decide) (fun c25 => ?_) (fun c25 => ?_)
    · replace hD := g_pos c25 hD
      exact hb170 v3 M L _ _ ls hD hw (lv_sub hl [1] rfl)
    · replace hD := g_neg c25 hD
      refine lv_aload_n C.1.1 C.1.2.1 dX15_choose_163 rfl (lv_at hl 0 rfl) ?_
      refine mr_getR C hw kc_15 11 (by decide) tf_787 ff_787_11 wd_1966 dX15_choose_164 (by decide) rfl ?_
      refine lv_iload_n C.1.1 C.1.2.1 dX15_choose_167 rfl (lv_at hl 1 rfl) ?_
      refine lv_iconst (v := 2) C.1.1 C.1.2.1 dX15_choose_168 (by decide) ?_
      obtain ⟨q26, hD⟩ := g_ck hD
      obtain ⟨M27, eM27, hD⟩ := g_let hD
      refine mr_iast C hw (by decide) tf_796 q26 dX15_choose_169 (fun H locs hw => ?_)
      replace hw : mw_W G ad NF TF FF M27 L H locs := by rw [eM27]; exact hw
      exact hb170 v3 M27 L _ _ ls hD hw (lv_sub hl [1] rfl)
  have hh50 : ∀ (f : Nat) (v2 : Int32) (v3 : Int32) (v4 : Int32) (v5 : Int32) (M : mwM) (L : mwL) (H : Heap) (locs : List Loc) (ls : Array Slot), fX15_choose_h50 fu a1 f (v2, v3, v4, v5, M, L) = some (r0, M0, L0) → mw_W G ad NF TF FF M L H locs → lv_has ls 7 [(0, .ref (ad 787)), (1, .int a1), (2, .int v2), (3, .int v3), (4, .int v4), (5, .int v5)] → W p l e ({ frames := 1, cells := 0, slots := 0, locals := 23 }) s m [.ref (ad 787), .int a1].toArray below meth c H locs 0 0 (MQ below (mw_Qi G ad NF TF FF (mw_eqI r0 M0 L0)) [.ref (ad 787), .int a1].toArray s 0 0 (mw_fr G)) (F0 m 50 ls []) := by
    intro f
    induction f with
    | zero => intro v2 v3 v4 v5 M L H locs ls hD; cases hD
    | succ f50 ih50 =>
      intro v2 v3 v4 v5 M L H locs ls hD hw hl
      replace hD : fX15_choose_i50 fu a1 (fX15_choose_h50 fu a1 f50) v2 v3 v4 v5 M L = some (r0, M0, L0) := hD
      have hb135 : ∀ (v2 : Int32) (v3 : Int32) (v4 : Int32) (v5 : Int32) (M : mwM) (L : mwL) (H : Heap) (locs : List Loc) (ls : Array Slot), fX15_choose_b135 fu a1 (fX15_choose_h50 fu a1 f50) v2 v3 v4 v5 M L = some (r0, M0, L0) → mw_W G ad NF TF FF M L H locs → lv_has ls 7 [(0, .ref (ad 787)), (1, .int a1), (2, .int v2), (3, .int v3), (4, .int v4), (5, .int v5)] → W p l e ({ frames := 1, cells := 0, slots := 0, locals := 23 }) s m [.ref (ad 787), .int a1].toArray below meth c H locs 0 0 (MQ below (mw_Qi G ad NF TF FF (mw_eqI r0 M0 L0)) [.ref (ad 787), .int a1].toArray s 0 0 (mw_fr G)) (F0 m 135 ls []) := by
        intro v2 v3 v4 v5 M L H locs ls hD hw hl
        unfold fX15_choose_b135 at hD
        obtain ⟨x24, ex24, hD⟩ := g_let hD
        refine lv_iinc (v := x24) (lv' := [(5, .int x24), (0, .ref (ad 787)), (1, .int a1), (2, .int v2), (3, .int v3), (4, .int v4)]) C.1.1 C.1.2.1 dX15_choose_135 hl (k := 5) rfl (by rw [ex24]; rfl) (by decide) rfl (fun ls hl => ?_)
        refine lv_goto (tgt := 50) C.1.1 C.1.2.1 dX15_choose_138 (by decide) ?_
        exact ih50 v2 v3 v4 x24 M L _ _ ls hD hw (lv_sub hl [1, 2, 3, 4, 5, 0] rfl)
      have hb128 : ∀ (v2 : Int32) (v5 : Int32) (v6 : Int32) (M : mwM) (L : mwL) (H : Heap) (locs : List Loc) (ls : Array Slot), fX15_choose_b128 fu a1 (fX15_choose_h50 fu a1 f50) v2 v5 v6 M L = some (r0, M0, L0) → mw_W G ad NF TF FF M L H locs → lv_has ls 7 [(0, .ref (ad 787)), (1, .int a1), (2, .int v2), (5, .int v5), (6, .int v6)] → W p l e ({ frames := 1, cells := 0, slots := 0, locals := 23 }) s m [.ref (ad 787), .int a1].toArray below meth c H locs 0 0 (MQ below (mw_Qi G ad NF TF FF (mw_eqI r0 M0 L0)) [.ref (ad 787), .int a1].toArray s 0 0 (mw_fr G)) (F0 m 128 ls []) := by
        intro v2 v5 v6 M L H locs ls hD hw hl
        unfold fX15_choose_b128 at hD
        refine lv_iload C.1.1 C.1.2.1 dX15_choose_128 (lv_at hl 3 rfl) ?_
        refine lv_istore_n (lv' := [(3, .int v5), (0, .ref (ad 787)), (1, .int a1), (2, .int v2), (5, .int v5), (6, .int v6)]) C.1.1 C.1.2.1 dX15_choose_130 rfl hl (by decide) rfl (fun ls hl => ?_)
        refine lv_iload C.1.1 C.1.2.1 dX15_choose_131 (lv_at hl 5 rfl) ?_
        refine lv_istore (lv' := [(4, .int v6), (3, .int v5), (0, .ref (ad 787)), (1, .int a1), (2, .int v2), (5, .int v5), (6, .int v6)]) C.1.1 C.1.2.1 dX15_choose_133 hl (by decide) rfl (fun ls hl => ?_)
        exact hb135 v2 v5 v6 v5 M L _ _ ls hD hw (lv_sub hl [2, 3, 4, 1, 0, 5] rfl)
      unfold fX15_choose_i50 at hD
      refine lv_iload C.1.1 C.1.2.1 dX15_choose_50 (lv_at hl 5 rfl) ?_
      refine lv_aload_n C.1.1 C.1.2.1 dX15_choose_52 rfl (lv_at hl 0 rfl) ?_
      refine mr_getI C hw kc_15 1 (by decide) tf_787 wd_1956 dX15_choose_53 (by decide) rfl ?_
      refine lv_icmp_gt (tgt := 141) C.1.1 C.1.2.1 dX15_choose_56 (by decide) (fun c5 => ?_) (fun c5 => ?_)
      · replace hD := g_pos c5 hD
        refine lv_iload_n C.1.1 C.1.2.1 dX15_choose_141 rfl (lv_at hl 2 rfl) ?_
        refine lv_if_le (tgt := 159) C.1.1 C.1.2.1 dX15_choose_142 (by decide) (fun c6 => ?_) (fun c6 => ?_)
        · replace hD := g_pos c6 hD
          exact hb159 v3 M L _ _ ls hD hw (lv_sub hl [0, 3] rfl)
        · replace hD := g_neg c6 hD
          refine lv_aload_n C.1.1 C.1.2.1 dX15_choose_145 rfl (lv_at hl 0 rfl) ?_
          refine mr_getR C hw kc_15 19 (by decide) tf_787 ff_787_19 wd_1974 dX15_choose_146 (by decide) rfl ?_
          refine lv_iload_n C.1.1 C.1.2.1 dX15_choose_149 rfl (lv_at hl 2 rfl) ?_
          refine lv_iconst (v := 0) C.1.1 C.1.2.1 dX15_choose_150 (by decide) ?_
          obtain ⟨q7, hD⟩ := g_ck hD
          obtain ⟨M8, eM8, hD⟩ := g_let hD
          refine mr_zast C hw (by decide) tf_804 q7 dX15_choose_151 (fun H locs hw => ?_)
          replace hw : mw_W G ad NF TF FF M8 L H locs := by rw [eM8]; exact hw
          refine lv_aload_n C.1.1 C.1.2.1 dX15_choose_152 rfl (lv_at hl 0 rfl) ?_
          refine mr_getR C hw kc_15 11 (by decide) tf_787 ff_787_11 wd_1966 dX15_choose_153 (by decide) rfl ?_
          refine lv_iload_n C.1.1 C.1.2.1 dX15_choose_156 rfl (lv_at hl 2 rfl) ?_
          refine lv_iconst (v := 1) C.1.1 C.1.2.1 dX15_choose_157 (by decide) ?_
          obtain ⟨q9, hD⟩ := g_ck hD
          obtain ⟨M10, eM10, hD⟩ := g_let hD
          refine mr_iast C hw (by decide) tf_796 q9 dX15_choose_158 (fun H locs hw => ?_)
          replace hw : mw_W G ad NF TF FF M10 L H locs := by rw [eM10]; exact hw
          exact hb159 v3 M10 L _ _ ls hD hw (lv_sub hl [0, 3] rfl)
      · replace hD := g_neg c5 hD
        refine lv_aload_n C.1.1 C.1.2.1 dX15_choose_59 rfl (lv_at hl 0 rfl) ?_
        refine mr_getR C hw kc_15 3 (by decide) tf_787 ff_787_3 wd_1958 dX15_choose_60 (by decide) rfl ?_
        refine lv_iload C.1.1 C.1.2.1 dX15_choose_63 (lv_at hl 5 rfl) ?_
        obtain ⟨q11, hD⟩ := g_ck hD
        refine mr_iald C hw (by decide) tf_789 q11 dX15_choose_65 ?_
        refine lv_iload_n C.1.1 C.1.2.1 dX15_choose_66 rfl (lv_at hl 1 rfl) ?_
        refine lv_icmp_ne (tgt := 135) C.1.1 C.1.2.1 dX15_choose_67 (by decide) (fun c12 => ?_) (fun c12 => ?_)
        · replace hD := g_neg c12 hD
          exact hb135 v2 v3 v4 v5 M L _ _ ls hD hw (lv_sub hl [0, 1, 2, 3, 4, 5] rfl)
        · replace hD := g_pos c12 hD
          refine lv_aload_n C.1.1 C.1.2.1 dX15_choose_70 rfl (lv_at hl 0 rfl) ?_
          refine mr_getR C hw kc_15 11 (by decide) tf_787 ff_787_11 wd_1966 dX15_choose_71 (by decide) rfl ?_
          refine lv_iload C.1.1 C.1.2.1 dX15_choose_74 (lv_at hl 5 rfl) ?_
          obtain ⟨q13, hD⟩ := g_ck hD
          refine mr_iald C hw (by decide) tf_796 q13 dX15_choose_76 ?_
          refine lv_iconst (v := 1) C.1.1 C.1.2.1 dX15_choose_77 (by decide) ?_
          refine lv_icmp_eq (tgt := 84) C.1.1 C.1.2.1 dX15_choose_78 (by decide) (fun c14 => ?_) (fun c14 => ?_)
          · replace hD := g_pos c14 hD
            refine lv_aload_n C.1.1 C.1.2.1 dX15_choose_84 rfl (lv_at hl 0 rfl) ?_
            refine lv_iload C.1.1 C.1.2.1 dX15_choose_85 (lv_at hl 5 rfl) ?_
            obtain ⟨r17, M15, L16, h1, hD⟩ := g_b3 hD
            refine md_cvI (As := [.int v5]) (rest := []) C hw (tX15_height l G ad fu v5 M L h1) kc_15 (by decide) tf_787 wd_3813 cwX15_height ⟨Nat.le_of_ble_eq_true rfl, Nat.le_of_ble_eq_true rfl⟩ rfl hl.1 (Nat.le_of_ble_eq_true rfl) dX15_choose_87 rfl rfl ⟨Nat.zero_le _, Nat.zero_le _⟩ rfl (fun H locs hw => ?_)
            refine lv_istore (lv' := [(6, .int r17), (0, .ref (ad 787)), (1, .int a1), (2, .int v2), (3, .int v3), (4, .int v4), (5, .int v5)]) C.1.1 C.1.2.1 dX15_choose_90 hl (by decide) rfl (fun ls hl => ?_)
            refine lv_iload C.1.1 C.1.2.1 dX15_choose_92 (lv_at hl 0 rfl) ?_
            refine lv_iload C.1.1 C.1.2.1 dX15_choose_94 (lv_at hl 5 rfl) ?_
            refine lv_icmp_gt (tgt := 128) C.1.1 C.1.2.1 dX15_choose_96 (by decide) (fun c18 => ?_) (fun c18 => ?_)
            · replace hD := g_pos c18 hD
              exact hb128 v2 v5 r17 M15 L16 _ _ ls hD hw (lv_sub hl [1, 2, 3, 6, 0] rfl)
            · replace hD := g_neg c18 hD
              refine lv_iload C.1.1 C.1.2.1 dX15_choose_99 (lv_at hl 0 rfl) ?_
              refine lv_iload C.1.1 C.1.2.1 dX15_choose_101 (lv_at hl 5 rfl) ?_
              refine lv_icmp_ne (tgt := 135) C.1.1 C.1.2.1 dX15_choose_103 (by decide) (fun c19 => ?_) (fun c19 => ?_)
              · replace hD := g_neg c19 hD
                exact hb135 v2 v3 v4 v5 M15 L16 _ _ ls hD hw (lv_sub hl [1, 2, 3, 4, 5, 6] rfl)
              · replace hD := g_pos c19 hD
                refine lv_iload_n C.1.1 C.1.2.1 dX15_choose_106 rfl (lv_at hl 4 rfl) ?_
                refine lv_iload_n C.1.1 C.1.2.1 dX15_choose_107 rfl (lv_at hl 3 rfl) ?_
                refine lv_icmp_eq (tgt := 135) C.1.1 C.1.2.1 dX15_choose_108 (by decide) (fun c20 => ?_) (fun c20 => ?_)
                · replace hD := g_pos c20 hD
                  exact hb135 v2 v3 v4 v5 M15 L16 _ _ ls hD hw (lv_sub hl [1, 2, 3, 4, 5, 6] rfl)
                · replace hD := g_neg c20 hD
                  refine lv_aload_n C.1.1 C.1.2.1 dX15_choose_111 rfl (lv_at hl 1 rfl) ?_
                  refine mr_getR C hw kc_15 12 (by decide) tf_787 ff_787_12 wd_1967 dX15_choose_112 (by decide) rfl ?_
                  refine lv_iload C.1.1 C.1.2.1 dX15_choose_115 (lv_at hl 6 rfl) ?_
                  obtain ⟨q21, hD⟩ := g_ck hD
                  refine mr_lald C hw (by decide) tf_797 q21 dX15_choose_117 ?_
                  refine lv_aload_n C.1.1 C.1.2.1 dX15_choose_118 rfl (lv_at hl 1 rfl) ?_
                  refine mr_getR C hw kc_15 12 (by decide) tf_787 ff_787_12 wd_1967 dX15_choose_119 (by decide) rfl ?_
                  refine lv_iload_n C.1.1 C.1.2.1 dX15_choose_122 rfl (lv_at hl 4 rfl) ?_
                  obtain ⟨q22, hD⟩ := g_ck hD
                  refine mr_lald C hw (by decide) tf_797 q22 dX15_choose_123 ?_
                  refine W.lcmp C.1.1 C.1.2.1 dX15_choose_124 ?_
                  refine lv_if_ge (tgt := 135) C.1.1 C.1.2.1 dX15_choose_125 (by decide) (fun c23 => ?_) (fun c23 => ?_)
                  · replace hD := g_pos c23 hD
                    exact hb135 v2 v3 v4 v5 M15 L16 _ _ ls hD hw (lv_sub hl [1, 2, 3, 4, 5, 6] rfl)
                  · replace hD := g_neg c23 hD
                    exact hb128 v2 v5 r17 M15 L16 _ _ ls hD hw (lv_sub hl [1, 2, 3, 6, 0] rfl)
          · replace hD := g_neg c14 hD
            refine lv_goto (tgt := 135) C.1.1 C.1.2.1 dX15_choose_81 (by decide) ?_
            exact hb135 v2 v3 v4 v5 M L _ _ ls hD hw (lv_sub hl [0, 1, 2, 3, 4, 5] rfl)
  have hb45 : ∀ (v2 : Int32) (v3 : Int32) (s0 : Int32) (M : mwM) (L : mwL) (H : Heap) (locs : List Loc) (ls : Array Slot), fX15_choose_b45 fu a1 v2 v3 s0 M L = some (r0, M0, L0) → mw_W G ad NF TF FF M L H locs → lv_has ls 7 [(0, .ref (ad 787)), (1, .int a1), (2, .int v2), (3, .int v3)] → W p l e ({ frames := 1, cells := 0, slots := 0, locals := 23 }) s m [.ref (ad 787), .int a1].toArray below meth c H locs 0 0 (MQ below (mw_Qi G ad NF TF FF (mw_eqI r0 M0 L0)) [.ref (ad 787), .int a1].toArray s 0 0 (mw_fr G)) (F0 m 45 ls [.int s0]) := by
    intro v2 v3 s0 M L H locs ls hD hw hl
    unfold fX15_choose_b45 at hD
    refine lv_istore (lv' := [(4, .int s0), (0, .ref (ad 787)), (1, .int a1), (2, .int v2), (3, .int v3)]) C.1.1 C.1.2.1 dX15_choose_45 hl (by decide) rfl (fun ls hl => ?_)
    refine lv_iconst (v := 1) C.1.1 C.1.2.1 dX15_choose_47 (by decide) ?_
    refine lv_istore (lv' := [(5, .int 1), (4, .int s0), (0, .ref (ad 787)), (1, .int a1), (2, .int v2), (3, .int v3)]) C.1.1 C.1.2.1 dX15_choose_48 hl (by decide) rfl (fun ls hl => ?_)
    exact hh50 fu v2 v3 s0 1 M L _ _ ls hD hw (lv_sub hl [2, 3, 4, 5, 1, 0] rfl)
  have hb30 : ∀ (v2 : Int32) (M : mwM) (L : mwL) (H : Heap) (locs : List Loc) (ls : Array Slot), fX15_choose_b30 fu a1 v2 M L = some (r0, M0, L0) → mw_W G ad NF TF FF M L H locs → lv_has ls 7 [(0, .ref (ad 787)), (1, .int a1), (2, .int v2)] → W p l e ({ frames := 1, cells := 0, slots := 0, locals := 23 }) s m [.ref (ad 787), .int a1].toArray below meth c H locs 0 0 (MQ below (mw_Qi G ad NF TF FF (mw_eqI r0 M0 L0)) [.ref (ad 787), .int a1].toArray s 0 0 (mw_fr G)) (F0 m 30 ls []) := by
    intro v2 M L H locs ls hD hw hl
    unfold fX15_choose_b30 at hD
    refine lv_iload_n C.1.1 C.1.2.1 dX15_choose_30 rfl (lv_at hl 2 rfl) ?_
    refine lv_istore_n (lv' := [(3, .int v2), (0, .ref (ad 787)), (1, .int a1), (2, .int v2)]) C.1.1 C.1.2.1 dX15_choose_31 rfl hl (by decide) rfl (fun ls hl => ?_)
    refine lv_iload_n C.1.1 C.1.2.1 dX15_choose_32 rfl (lv_at hl 3 rfl) ?_
    refine lv_if_le (tgt := 44) C.1.1 C.1.2.1 dX15_choose_33 (by decide) (fun c1 => ?_) (fun c1 => ?_)
    · replace hD := g_pos c1 hD
      refine lv_iconst (v := (-1)) C.1.1 C.1.2.1 dX15_choose_44 (by decide) ?_
      exact hb45 v2 v2 ((-1)) M L _ _ ls hD hw (lv_sub hl [1, 2, 3, 0] rfl)
    · replace hD := g_neg c1 hD
      refine lv_aload_n C.1.1 C.1.2.1 dX15_choose_36 rfl (lv_at hl 1 rfl) ?_
      refine lv_iload_n C.1.1 C.1.2.1 dX15_choose_37 rfl (lv_at hl 3 rfl) ?_
      obtain ⟨r4, M2, L3, h1, hD⟩ := g_b3 hD
      refine md_cvI (As := [.int v2]) (rest := []) C hw (tX15_height l G ad fu v2 M L h1) kc_15 (by decide) tf_787 wd_3813 cwX15_height ⟨Nat.le_of_ble_eq_true rfl, Nat.le_of_ble_eq_true rfl⟩ rfl hl.1 (Nat.le_of_ble_eq_true rfl) dX15_choose_38 rfl rfl ⟨Nat.zero_le _, Nat.zero_le _⟩ rfl (fun H locs hw => ?_)
      refine lv_goto (tgt := 45) C.1.1 C.1.2.1 dX15_choose_41 (by decide) ?_
      exact hb45 v2 v2 r4 M2 L3 _ _ ls hD hw (lv_sub hl [1, 2, 3, 0] rfl)
  unfold DX15_choose at hD
  refine lv_aload_n C.1.1 C.1.2.1 dX15_choose_0 rfl (lv_at hl 0 rfl) ?_
  refine lv_iload_n C.1.1 C.1.2.1 dX15_choose_1 rfl (lv_at hl 1 rfl) ?_
  obtain ⟨r30, M28, L29, h1, hD⟩ := g_b3 hD
  refine md_cvI (As := [.int a1]) (rest := []) C hw (tX15_runningOf l G ad fu a1 M L h1) kc_15 (by decide) tf_787 wd_3809 cwX15_runningOf ⟨Nat.le_of_ble_eq_true rfl, Nat.le_of_ble_eq_true rfl⟩ rfl hl.1 (Nat.le_of_ble_eq_true rfl) dX15_choose_2 rfl rfl ⟨Nat.zero_le _, Nat.zero_le _⟩ rfl (fun H locs hw => ?_)
  refine lv_istore_n (lv' := [(2, .int r30), (0, .ref (ad 787)), (1, .int a1)]) C.1.1 C.1.2.1 dX15_choose_5 rfl hl (by decide) rfl (fun ls hl => ?_)
  refine lv_iload_n C.1.1 C.1.2.1 dX15_choose_6 rfl (lv_at hl 0 rfl) ?_
  refine lv_if_le (tgt := 30) C.1.1 C.1.2.1 dX15_choose_7 (by decide) (fun c31 => ?_) (fun c31 => ?_)
  · replace hD := g_pos c31 hD
    exact hb30 r30 M28 L29 _ _ ls hD hw (lv_sub hl [1, 2, 0] rfl)
  · replace hD := g_neg c31 hD
    refine lv_aload_n C.1.1 C.1.2.1 dX15_choose_10 rfl (lv_at hl 1 rfl) ?_
    refine mr_getR C hw kc_15 6 (by decide) tf_787 ff_787_6 wd_1961 dX15_choose_11 (by decide) rfl ?_
    refine lv_iload_n C.1.1 C.1.2.1 dX15_choose_14 rfl (lv_at hl 0 rfl) ?_
    obtain ⟨q32, hD⟩ := g_ck hD
    refine mr_zald C hw (by decide) tf_792 q32 dX15_choose_15 ?_
    refine lv_if_ne (tgt := 30) C.1.1 C.1.2.1 dX15_choose_16 (by decide) (fun c33 => ?_) (fun c33 => ?_)
    · replace hD := g_neg c33 hD
      exact hb30 r30 M28 L29 _ _ ls hD hw (lv_sub hl [1, 2, 0] rfl)
    · replace hD := g_pos c33 hD
      refine lv_aload_n C.1.1 C.1.2.1 dX15_choose_19 rfl (lv_at hl 1 rfl) ?_
      refine mr_getR C hw kc_15 19 (by decide) tf_787 ff_787_19 wd_1974 dX15_choose_20 (by decide) rfl ?_
      refine lv_iload_n C.1.1 C.1.2.1 dX15_choose_23 rfl (lv_at hl 0 rfl) ?_
      obtain ⟨q34, hD⟩ := g_ck hD
      refine mr_zald C hw (by decide) tf_804 q34 dX15_choose_24 ?_
      refine lv_if_ne (tgt := 30) C.1.1 C.1.2.1 dX15_choose_25 (by decide) (fun c35 => ?_) (fun c35 => ?_)
      · replace hD := g_neg c35 hD
        exact hb30 r30 M28 L29 _ _ ls hD hw (lv_sub hl [1, 2, 0] rfl)
      · replace hD := g_pos c35 hD
        refine lv_iload_n C.1.1 C.1.2.1 dX15_choose_28 rfl (lv_at hl 0 rfl) ?_
        exact mr_iret C hr hlocks hw rfl (Option.some.inj hD) dX15_choose_29

theorem dX15_atHand_0 : decode cX15_atHand 0 = .ok (.iconst (-1), 1) := by decide +kernel
theorem dX15_atHand_1 : decode cX15_atHand 1 = .ok (.istore_n 1, 1) := by decide +kernel
theorem dX15_atHand_2 : decode cX15_atHand 2 = .ok (.iconst 0, 1) := by decide +kernel
theorem dX15_atHand_3 : decode cX15_atHand 3 = .ok (.istore_n 2, 1) := by decide +kernel
theorem dX15_atHand_4 : decode cX15_atHand 4 = .ok (.iload_n 2, 1) := by decide +kernel
theorem dX15_atHand_5 : decode cX15_atHand 5 = .ok (.aload_n 0, 1) := by decide +kernel
theorem dX15_atHand_6 : decode cX15_atHand 6 = .ok (.getfield 140, 3) := by decide +kernel
theorem dX15_atHand_9 : decode cX15_atHand 9 = .ok (.if_icmp .ge 83, 3) := by decide +kernel
theorem dX15_atHand_12 : decode cX15_atHand 12 = .ok (.aload_n 0, 1) := by decide +kernel
theorem dX15_atHand_13 : decode cX15_atHand 13 = .ok (.getfield 93, 3) := by decide +kernel
theorem dX15_atHand_16 : decode cX15_atHand 16 = .ok (.iload_n 2, 1) := by decide +kernel
theorem dX15_atHand_17 : decode cX15_atHand 17 = .ok (.laload, 1) := by decide +kernel
theorem dX15_atHand_18 : decode cX15_atHand 18 = .ok (.aload_n 0, 1) := by decide +kernel
theorem dX15_atHand_19 : decode cX15_atHand 19 = .ok (.getfield 146, 3) := by decide +kernel
theorem dX15_atHand_22 : decode cX15_atHand 22 = .ok (.lcmp, 1) := by decide +kernel
theorem dX15_atHand_23 : decode cX15_atHand 23 = .ok (.ifCond .gt 36, 3) := by decide +kernel
theorem dX15_atHand_26 : decode cX15_atHand 26 = .ok (.aload_n 0, 1) := by decide +kernel
theorem dX15_atHand_27 : decode cX15_atHand 27 = .ok (.getfield 96, 3) := by decide +kernel
theorem dX15_atHand_30 : decode cX15_atHand 30 = .ok (.iload_n 2, 1) := by decide +kernel
theorem dX15_atHand_31 : decode cX15_atHand 31 = .ok (.laload, 1) := by decide +kernel
theorem dX15_atHand_32 : decode cX15_atHand 32 = .ok (.lconst 0, 1) := by decide +kernel
theorem dX15_atHand_33 : decode cX15_atHand 33 = .ok (.lcmp, 1) := by decide +kernel
theorem dX15_atHand_34 : decode cX15_atHand 34 = .ok (.ifCond .le 25, 3) := by decide +kernel
theorem dX15_atHand_37 : decode cX15_atHand 37 = .ok (.aload_n 0, 1) := by decide +kernel
theorem dX15_atHand_38 : decode cX15_atHand 38 = .ok (.getfield 90, 3) := by decide +kernel
theorem dX15_atHand_41 : decode cX15_atHand 41 = .ok (.iload_n 2, 1) := by decide +kernel
theorem dX15_atHand_42 : decode cX15_atHand 42 = .ok (.iaload, 1) := by decide +kernel
theorem dX15_atHand_43 : decode cX15_atHand 43 = .ok (.bipush 7, 2) := by decide +kernel
theorem dX15_atHand_45 : decode cX15_atHand 45 = .ok (.if_icmp .gt 10, 3) := by decide +kernel
theorem dX15_atHand_48 : decode cX15_atHand 48 = .ok (.aload_n 0, 1) := by decide +kernel
theorem dX15_atHand_49 : decode cX15_atHand 49 = .ok (.getfield 130, 3) := by decide +kernel
theorem dX15_atHand_52 : decode cX15_atHand 52 = .ok (.ifCond .ne 7, 3) := by decide +kernel
theorem dX15_atHand_55 : decode cX15_atHand 55 = .ok (.iconst 1, 1) := by decide +kernel
theorem dX15_atHand_56 : decode cX15_atHand 56 = .ok (.goto 4, 3) := by decide +kernel
theorem dX15_atHand_59 : decode cX15_atHand 59 = .ok (.iconst 0, 1) := by decide +kernel
theorem dX15_atHand_60 : decode cX15_atHand 60 = .ok (.istore_n 3, 1) := by decide +kernel
theorem dX15_atHand_61 : decode cX15_atHand 61 = .ok (.iload_n 3, 1) := by decide +kernel
theorem dX15_atHand_62 : decode cX15_atHand 62 = .ok (.ifCond .eq 24, 3) := by decide +kernel
theorem dX15_atHand_65 : decode cX15_atHand 65 = .ok (.iload_n 1, 1) := by decide +kernel
theorem dX15_atHand_66 : decode cX15_atHand 66 = .ok (.ifCond .lt 18, 3) := by decide +kernel
theorem dX15_atHand_69 : decode cX15_atHand 69 = .ok (.aload_n 0, 1) := by decide +kernel
theorem dX15_atHand_70 : decode cX15_atHand 70 = .ok (.getfield 90, 3) := by decide +kernel
theorem dX15_atHand_73 : decode cX15_atHand 73 = .ok (.iload_n 2, 1) := by decide +kernel
theorem dX15_atHand_74 : decode cX15_atHand 74 = .ok (.iaload, 1) := by decide +kernel
theorem dX15_atHand_75 : decode cX15_atHand 75 = .ok (.aload_n 0, 1) := by decide +kernel
theorem dX15_atHand_76 : decode cX15_atHand 76 = .ok (.getfield 90, 3) := by decide +kernel
theorem dX15_atHand_79 : decode cX15_atHand 79 = .ok (.iload_n 1, 1) := by decide +kernel
theorem dX15_atHand_80 : decode cX15_atHand 80 = .ok (.iaload, 1) := by decide +kernel
theorem dX15_atHand_81 : decode cX15_atHand 81 = .ok (.if_icmp .le 5, 3) := by decide +kernel
theorem dX15_atHand_84 : decode cX15_atHand 84 = .ok (.iload_n 2, 1) := by decide +kernel
theorem dX15_atHand_85 : decode cX15_atHand 85 = .ok (.istore_n 1, 1) := by decide +kernel
theorem dX15_atHand_86 : decode cX15_atHand 86 = .ok (.iinc 2 1, 3) := by decide +kernel
theorem dX15_atHand_89 : decode cX15_atHand 89 = .ok (.goto (-85), 3) := by decide +kernel
theorem dX15_atHand_92 : decode cX15_atHand 92 = .ok (.iload_n 1, 1) := by decide +kernel
theorem dX15_atHand_93 : decode cX15_atHand 93 = .ok (.ireturn, 1) := by decide +kernel
theorem cwX15_atHand : mw_cwV yX15_atHand cX15_atHand 4 ((some .int)) 0 := ⟨⟨wd_14, wd_3804, by decide +kernel⟩, wd_3803, sl_264⟩
set_option maxHeartbeats 4000000 in
set_option maxRecDepth 100000 in
theorem tX15_atHand (l : Launch) (G : mwG) (ad : Nat → Nat) (fu : Nat) (M : mwM) (L : mwL) {r0 : Int32} {M0 : mwM} {L0 : mwL} (hD : DX15_atHand fu M L = some (r0, M0, L0)) : Met l yX15_atHand (Cond.code yX15_atHand cX15_atHand 4 ((some .int)) :: GT) ({ frames := 0, cells := 0, slots := 0, locals := 0 }) (mw_Pre G ad NF TF FF M L [.ref (ad 787)]) (mw_Qi G ad NF TF FF (mw_eqI r0 M0 L0)) 0 0 (mw_fr G) := by
  refine mw_enter (by decide) (Nat.le_of_ble_eq_true rfl) ?_
  intro p e s m below meth c ls C hr hlocks hnm hw hl
  have hl : lv_has ls 4 [(0, .ref (ad 787))] := hl
  have hh4 : ∀ (f : Nat) (v1 : Int32) (v2 : Int32) (M : mwM) (L : mwL) (H : Heap) (locs : List Loc) (ls : Array Slot), fX15_atHand_h4 fu f (v1, v2, M, L) = some (r0, M0, L0) → mw_W G ad NF TF FF M L H locs → lv_has ls 4 [(0, .ref (ad 787)), (1, .int v1), (2, .int v2)] → W p l e ({ frames := 0, cells := 0, slots := 0, locals := 0 }) s m [.ref (ad 787)].toArray below meth c H locs 0 0 (MQ below (mw_Qi G ad NF TF FF (mw_eqI r0 M0 L0)) [.ref (ad 787)].toArray s 0 0 (mw_fr G)) (F0 m 4 ls []) := by
    intro f
    induction f with
    | zero => intro v1 v2 M L H locs ls hD; cases hD
    | succ f4 ih4 =>
      intro v1 v2 M L H locs ls hD hw hl
      replace hD : fX15_atHand_i4 fu (fX15_atHand_h4 fu f4) v1 v2 M L = some (r0, M0, L0) := hD
      have hb86 : ∀ (v1 : Int32) (v2 : Int32) (M : mwM) (L : mwL) (H : Heap) (locs : List Loc) (ls : Array Slot), fX15_atHand_b86 fu (fX15_atHand_h4 fu f4) v1 v2 M L = some (r0, M0, L0) → mw_W G ad NF TF FF M L H locs → lv_has ls 4 [(0, .ref (ad 787)), (1, .int v1), (2, .int v2)] → W p l e ({ frames := 0, cells := 0, slots := 0, locals := 0 }) s m [.ref (ad 787)].toArray below meth c H locs 0 0 (MQ below (mw_Qi G ad NF TF FF (mw_eqI r0 M0 L0)) [.ref (ad 787)].toArray s 0 0 (mw_fr G)) (F0 m 86 ls []) := by
        intro v1 v2 M L H locs ls hD hw hl
        unfold fX15_atHand_b86 at hD
        obtain ⟨x14, ex14, hD⟩ := g_let hD
        refine lv_iinc (v := x14) (lv' := [(2, .int x14), (0, .ref (ad 787)), (1, .int v1)]) C.1.1 C.1.2.1 dX15_atHand_86 hl (k := 2) rfl (by rw [ex14]; rfl) (by decide) rfl (fun ls hl => ?_)
        refine lv_goto (tgt := 4) C.1.1 C.1.2.1 dX15_atHand_89 (by decide) ?_
        exact ih4 v1 x14 M L _ _ ls hD hw (lv_sub hl [1, 2, 0] rfl)
      have hb84 : ∀ (v2 : Int32) (M : mwM) (L : mwL) (H : Heap) (locs : List Loc) (ls : Array Slot), fX15_atHand_b84 fu (fX15_atHand_h4 fu f4) v2 M L = some (r0, M0, L0) → mw_W G ad NF TF FF M L H locs → lv_has ls 4 [(0, .ref (ad 787)), (2, .int v2)] → W p l e ({ frames := 0, cells := 0, slots := 0, locals := 0 }) s m [.ref (ad 787)].toArray below meth c H locs 0 0 (MQ below (mw_Qi G ad NF TF FF (mw_eqI r0 M0 L0)) [.ref (ad 787)].toArray s 0 0 (mw_fr G)) (F0 m 84 ls []) := by
        intro v2 M L H locs ls hD hw hl
        unfold fX15_atHand_b84 at hD
        refine lv_iload_n C.1.1 C.1.2.1 dX15_atHand_84 rfl (lv_at hl 1 rfl) ?_
        refine lv_istore_n (lv' := [(1, .int v2), (0, .ref (ad 787)), (2, .int v2)]) C.1.1 C.1.2.1 dX15_atHand_85 rfl hl (by decide) rfl (fun ls hl => ?_)
        exact hb86 v2 v2 M L _ _ ls hD hw (lv_sub hl [1, 0, 2] rfl)
      have hb60 : ∀ (v1 : Int32) (v2 : Int32) (s0 : Int32) (M : mwM) (L : mwL) (H : Heap) (locs : List Loc) (ls : Array Slot), fX15_atHand_b60 fu (fX15_atHand_h4 fu f4) v1 v2 s0 M L = some (r0, M0, L0) → mw_W G ad NF TF FF M L H locs → lv_has ls 4 [(0, .ref (ad 787)), (1, .int v1), (2, .int v2)] → W p l e ({ frames := 0, cells := 0, slots := 0, locals := 0 }) s m [.ref (ad 787)].toArray below meth c H locs 0 0 (MQ below (mw_Qi G ad NF TF FF (mw_eqI r0 M0 L0)) [.ref (ad 787)].toArray s 0 0 (mw_fr G)) (F0 m 60 ls [.int s0]) := by
        intro v1 v2 s0 M L H locs ls hD hw hl
        unfold fX15_atHand_b60 at hD
        refine lv_istore_n (lv' := [(3, .int s0), (0, .ref (ad 787)), (1, .int v1), (2, .int v2)]) C.1.1 C.1.2.1 dX15_atHand_60 rfl hl (by decide) rfl (fun ls hl => ?_)
        refine lv_iload_n C.1.1 C.1.2.1 dX15_atHand_61 rfl (lv_at hl 0 rfl) ?_
        refine lv_if_eq (tgt := 86) C.1.1 C.1.2.1 dX15_atHand_62 (by decide) (fun c9 => ?_) (fun c9 => ?_)
        · replace hD := g_pos c9 hD
          exact hb86 v1 v2 M L _ _ ls hD hw (lv_sub hl [1, 2, 3] rfl)
        · replace hD := g_neg c9 hD
          refine lv_iload_n C.1.1 C.1.2.1 dX15_atHand_65 rfl (lv_at hl 2 rfl) ?_
          refine lv_if_lt (tgt := 84) C.1.1 C.1.2.1 dX15_atHand_66 (by decide) (fun c10 => ?_) (fun c10 => ?_)
          · replace hD := g_pos c10 hD
            exact hb84 v2 M L _ _ ls hD hw (lv_sub hl [1, 3] rfl)
          · replace hD := g_neg c10 hD
            refine lv_aload_n C.1.1 C.1.2.1 dX15_atHand_69 rfl (lv_at hl 1 rfl) ?_
            refine mr_getR C hw kc_15 36 (by decide) tf_787 ff_787_36 wd_1991 dX15_atHand_70 (by decide) rfl ?_
            refine lv_iload_n C.1.1 C.1.2.1 dX15_atHand_73 rfl (lv_at hl 3 rfl) ?_
            obtain ⟨q11, hD⟩ := g_ck hD
            refine mr_iald C hw (by decide) tf_814 q11 dX15_atHand_74 ?_
            refine lv_aload_n C.1.1 C.1.2.1 dX15_atHand_75 rfl (lv_at hl 1 rfl) ?_
            refine mr_getR C hw kc_15 36 (by decide) tf_787 ff_787_36 wd_1991 dX15_atHand_76 (by decide) rfl ?_
            refine lv_iload_n C.1.1 C.1.2.1 dX15_atHand_79 rfl (lv_at hl 2 rfl) ?_
            obtain ⟨q12, hD⟩ := g_ck hD
            refine mr_iald C hw (by decide) tf_814 q12 dX15_atHand_80 ?_
            refine lv_icmp_le (tgt := 86) C.1.1 C.1.2.1 dX15_atHand_81 (by decide) (fun c13 => ?_) (fun c13 => ?_)
            · replace hD := g_pos c13 hD
              exact hb86 v1 v2 M L _ _ ls hD hw (lv_sub hl [1, 2, 3] rfl)
            · replace hD := g_neg c13 hD
              exact hb84 v2 M L _ _ ls hD hw (lv_sub hl [1, 3] rfl)
      have hb59 : ∀ (v1 : Int32) (v2 : Int32) (M : mwM) (L : mwL) (H : Heap) (locs : List Loc) (ls : Array Slot), fX15_atHand_b59 fu (fX15_atHand_h4 fu f4) v1 v2 M L = some (r0, M0, L0) → mw_W G ad NF TF FF M L H locs → lv_has ls 4 [(0, .ref (ad 787)), (1, .int v1), (2, .int v2)] → W p l e ({ frames := 0, cells := 0, slots := 0, locals := 0 }) s m [.ref (ad 787)].toArray below meth c H locs 0 0 (MQ below (mw_Qi G ad NF TF FF (mw_eqI r0 M0 L0)) [.ref (ad 787)].toArray s 0 0 (mw_fr G)) (F0 m 59 ls []) := by
        intro v1 v2 M L H locs ls hD hw hl
        unfold fX15_atHand_b59 at hD
        refine lv_iconst (v := 0) C.1.1 C.1.2.1 dX15_atHand_59 (by decide) ?_
        exact hb60 v1 v2 0 M L _ _ ls hD hw (lv_sub hl [0, 1, 2] rfl)
      have hb55 : ∀ (v1 : Int32) (v2 : Int32) (M : mwM) (L : mwL) (H : Heap) (locs : List Loc) (ls : Array Slot), fX15_atHand_b55 fu (fX15_atHand_h4 fu f4) v1 v2 M L = some (r0, M0, L0) → mw_W G ad NF TF FF M L H locs → lv_has ls 4 [(0, .ref (ad 787)), (1, .int v1), (2, .int v2)] → W p l e ({ frames := 0, cells := 0, slots := 0, locals := 0 }) s m [.ref (ad 787)].toArray below meth c H locs 0 0 (MQ below (mw_Qi G ad NF TF FF (mw_eqI r0 M0 L0)) [.ref (ad 787)].toArray s 0 0 (mw_fr G)) (F0 m 55 ls []) := by
        intro v1 v2 M L H locs ls hD hw hl
        unfold fX15_atHand_b55 at hD
        refine lv_iconst (v := 1) C.1.1 C.1.2.1 dX15_atHand_55 (by decide) ?_
        refine lv_goto (tgt := 60) C.1.1 C.1.2.1 dX15_atHand_56 (by decide) ?_
        exact hb60 v1 v2 1 M L _ _ ls hD hw (lv_sub hl [0, 1, 2] rfl)
      unfold fX15_atHand_i4 at hD
      refine lv_iload_n C.1.1 C.1.2.1 dX15_atHand_4 rfl (lv_at hl 2 rfl) ?_
      refine lv_aload_n C.1.1 C.1.2.1 dX15_atHand_5 rfl (lv_at hl 0 rfl) ?_
      refine mr_getI C hw kc_15 35 (by decide) tf_787 wd_1990 dX15_atHand_6 (by decide) rfl ?_
      refine lv_icmp_ge (tgt := 92) C.1.1 C.1.2.1 dX15_atHand_9 (by decide) (fun c1 => ?_) (fun c1 => ?_)
      · replace hD := g_pos c1 hD
        refine lv_iload_n C.1.1 C.1.2.1 dX15_atHand_92 rfl (lv_at hl 1 rfl) ?_
        exact mr_iret C hr hlocks hw rfl (Option.some.inj hD) dX15_atHand_93
      · replace hD := g_neg c1 hD
        refine lv_aload_n C.1.1 C.1.2.1 dX15_atHand_12 rfl (lv_at hl 0 rfl) ?_
        refine mr_getR C hw kc_15 37 (by decide) tf_787 ff_787_37 wd_1992 dX15_atHand_13 (by decide) rfl ?_
        refine lv_iload_n C.1.1 C.1.2.1 dX15_atHand_16 rfl (lv_at hl 2 rfl) ?_
        obtain ⟨q2, hD⟩ := g_ck hD
        refine mr_lald C hw (by decide) tf_815 q2 dX15_atHand_17 ?_
        refine lv_aload_n C.1.1 C.1.2.1 dX15_atHand_18 rfl (lv_at hl 0 rfl) ?_
        refine mr_getL C hw kc_15 43 (by decide) tf_787 wd_1998 dX15_atHand_19 (by decide) rfl ?_
        refine W.lcmp C.1.1 C.1.2.1 dX15_atHand_22 ?_
        refine lv_if_gt (tgt := 59) C.1.1 C.1.2.1 dX15_atHand_23 (by decide) (fun c3 => ?_) (fun c3 => ?_)
        · replace hD := g_pos c3 hD
          exact hb59 v1 v2 M L _ _ ls hD hw (lv_sub hl [0, 1, 2] rfl)
        · replace hD := g_neg c3 hD
          refine lv_aload_n C.1.1 C.1.2.1 dX15_atHand_26 rfl (lv_at hl 0 rfl) ?_
          refine mr_getR C hw kc_15 38 (by decide) tf_787 ff_787_38 wd_1993 dX15_atHand_27 (by decide) rfl ?_
          refine lv_iload_n C.1.1 C.1.2.1 dX15_atHand_30 rfl (lv_at hl 2 rfl) ?_
          obtain ⟨q4, hD⟩ := g_ck hD
          refine mr_lald C hw (by decide) tf_816 q4 dX15_atHand_31 ?_
          refine lv_lconst (v := 0) C.1.1 C.1.2.1 dX15_atHand_32 (by decide) ?_
          refine W.lcmp C.1.1 C.1.2.1 dX15_atHand_33 ?_
          refine lv_if_le (tgt := 59) C.1.1 C.1.2.1 dX15_atHand_34 (by decide) (fun c5 => ?_) (fun c5 => ?_)
          · replace hD := g_pos c5 hD
            exact hb59 v1 v2 M L _ _ ls hD hw (lv_sub hl [0, 1, 2] rfl)
          · replace hD := g_neg c5 hD
            refine lv_aload_n C.1.1 C.1.2.1 dX15_atHand_37 rfl (lv_at hl 0 rfl) ?_
            refine mr_getR C hw kc_15 36 (by decide) tf_787 ff_787_36 wd_1991 dX15_atHand_38 (by decide) rfl ?_
            refine lv_iload_n C.1.1 C.1.2.1 dX15_atHand_41 rfl (lv_at hl 2 rfl) ?_
            obtain ⟨q6, hD⟩ := g_ck hD
            refine mr_iald C hw (by decide) tf_814 q6 dX15_atHand_42 ?_
            refine lv_bipush (v := 7) C.1.1 C.1.2.1 dX15_atHand_43 (by decide) ?_
            refine lv_icmp_gt (tgt := 55) C.1.1 C.1.2.1 dX15_atHand_45 (by decide) (fun c7 => ?_) (fun c7 => ?_)
            · replace hD := g_pos c7 hD
              exact hb55 v1 v2 M L _ _ ls hD hw (lv_sub hl [0, 1, 2] rfl)
            · replace hD := g_neg c7 hD
              refine lv_aload_n C.1.1 C.1.2.1 dX15_atHand_48 rfl (lv_at hl 0 rfl) ?_
              refine mr_getI C hw kc_15 29 (by decide) tf_787 wd_1984 dX15_atHand_49 (by decide) rfl ?_
              refine lv_if_ne (tgt := 59) C.1.1 C.1.2.1 dX15_atHand_52 (by decide) (fun c8 => ?_) (fun c8 => ?_)
              · replace hD := g_neg c8 hD
                exact hb59 v1 v2 M L _ _ ls hD hw (lv_sub hl [0, 1, 2] rfl)
              · replace hD := g_pos c8 hD
                exact hb55 v1 v2 M L _ _ ls hD hw (lv_sub hl [0, 1, 2] rfl)
  unfold DX15_atHand at hD
  refine lv_iconst (v := (-1)) C.1.1 C.1.2.1 dX15_atHand_0 (by decide) ?_
  refine lv_istore_n (lv' := [(1, .int ((-1))), (0, .ref (ad 787))]) C.1.1 C.1.2.1 dX15_atHand_1 rfl hl (by decide) rfl (fun ls hl => ?_)
  refine lv_iconst (v := 0) C.1.1 C.1.2.1 dX15_atHand_2 (by decide) ?_
  refine lv_istore_n (lv' := [(2, .int 0), (1, .int ((-1))), (0, .ref (ad 787))]) C.1.1 C.1.2.1 dX15_atHand_3 rfl hl (by decide) rfl (fun ls hl => ?_)
  exact hh4 fu ((-1)) 0 M L _ _ ls hD hw (lv_sub hl [2, 1, 0] rfl)
