theorem dX8_append_0 : decode cX8_append 0 = .ok (.bipush 24, 2) := by decide +kernel
theorem dX8_append_2 : decode cX8_append 2 = .ok (.istore_n 2, 1) := by decide +kernel
theorem dX8_append_3 : decode cX8_append 3 = .ok (.iload_n 2, 1) := by decide +kernel
theorem dX8_append_4 : decode cX8_append 4 = .ok (.ifCond .lt 52, 3) := by decide +kernel
theorem dX8_append_7 : decode cX8_append 7 = .ok (.iload_n 1, 1) := by decide +kernel
theorem dX8_append_8 : decode cX8_append 8 = .ok (.iload_n 2, 1) := by decide +kernel
theorem dX8_append_9 : decode cX8_append 9 = .ok (.iushr, 1) := by decide +kernel
theorem dX8_append_10 : decode cX8_append 10 = .ok (.sipush 255, 3) := by decide +kernel
theorem dX8_append_13 : decode cX8_append 13 = .ok (.iand, 1) := by decide +kernel
theorem dX8_append_14 : decode cX8_append 14 = .ok (.istore_n 3, 1) := by decide +kernel
theorem dX8_append_15 : decode cX8_append 15 = .ok (.iload_n 3, 1) := by decide +kernel
theorem dX8_append_16 : decode cX8_append 16 = .ok (.ifCond .eq 34, 3) := by decide +kernel
theorem dX8_append_19 : decode cX8_append 19 = .ok (.aload_n 0, 1) := by decide +kernel
theorem dX8_append_20 : decode cX8_append 20 = .ok (.getfield 27, 3) := by decide +kernel
theorem dX8_append_23 : decode cX8_append 23 = .ok (.sipush 6000, 3) := by decide +kernel
theorem dX8_append_26 : decode cX8_append 26 = .ok (.if_icmp .ge 24, 3) := by decide +kernel
theorem dX8_append_29 : decode cX8_append 29 = .ok (.aload_n 0, 1) := by decide +kernel
theorem dX8_append_30 : decode cX8_append 30 = .ok (.getfield 9, 3) := by decide +kernel
theorem dX8_append_33 : decode cX8_append 33 = .ok (.aload_n 0, 1) := by decide +kernel
theorem dX8_append_34 : decode cX8_append 34 = .ok (.getfield 27, 3) := by decide +kernel
theorem dX8_append_37 : decode cX8_append 37 = .ok (.iload_n 3, 1) := by decide +kernel
theorem dX8_append_38 : decode cX8_append 38 = .ok (.i2c, 1) := by decide +kernel
theorem dX8_append_39 : decode cX8_append 39 = .ok (.castore, 1) := by decide +kernel
theorem dX8_append_40 : decode cX8_append 40 = .ok (.aload_n 0, 1) := by decide +kernel
theorem dX8_append_41 : decode cX8_append 41 = .ok (.dup, 1) := by decide +kernel
theorem dX8_append_42 : decode cX8_append 42 = .ok (.getfield 27, 3) := by decide +kernel
theorem dX8_append_45 : decode cX8_append 45 = .ok (.iconst 1, 1) := by decide +kernel
theorem dX8_append_46 : decode cX8_append 46 = .ok (.iadd, 1) := by decide +kernel
theorem dX8_append_47 : decode cX8_append 47 = .ok (.putfield 27, 3) := by decide +kernel
theorem dX8_append_50 : decode cX8_append 50 = .ok (.iinc 2 (-8), 3) := by decide +kernel
theorem dX8_append_53 : decode cX8_append 53 = .ok (.goto (-50), 3) := by decide +kernel
theorem dX8_append_56 : decode cX8_append 56 = .ok (.return_, 1) := by decide +kernel
theorem cwX8_append : mw_cwV yX8_append cX8_append 4 (none) 1 := ⟨⟨wd_2, wd_764, by decide +kernel⟩, wd_762, wd_763⟩
set_option maxHeartbeats 4000000 in
set_option maxRecDepth 100000 in
theorem tX8_append (l : Launch) (G : mwG) (ad : Nat → Nat) (fu : Nat) (a1 : Int32) (M : mwM) (L : mwL) {M0 : mwM} {L0 : mwL} (hD : DX8_append fu a1 M L = some (M0, L0)) : Met l yX8_append (Cond.code yX8_append cX8_append 4 (none) :: GT) ({ frames := 0, cells := 0, slots := 0, locals := 0 }) (mw_Pre G ad NF TF FF M L [.ref (ad 1), .int a1]) (mw_Qv G ad NF TF FF (mw_eqV M0 L0)) 0 0 (mw_fr G) := by
  refine mw_enter (by decide) (Nat.le_of_ble_eq_true rfl) ?_
  intro p e s m below meth c ls C hr hlocks hnm hw hl
  have hl : lv_has ls 4 [(0, .ref (ad 1)), (1, .int a1)] := hl
  have hh3 : ∀ (f : Nat) (v2 : Int32) (M : mwM) (L : mwL) (H : Heap) (locs : List Loc) (ls : Array Slot), fX8_append_h3 fu a1 f (v2, M, L) = some (M0, L0) → mw_W G ad NF TF FF M L H locs → lv_has ls 4 [(0, .ref (ad 1)), (1, .int a1), (2, .int v2)] → W p l e ({ frames := 0, cells := 0, slots := 0, locals := 0 }) s m [.ref (ad 1), .int a1].toArray below meth c H locs 0 0 (MQ below (mw_Qv G ad NF TF FF (mw_eqV M0 L0)) [.ref (ad 1), .int a1].toArray s 0 0 (mw_fr G)) (F0 m 3 ls []) := by
    intro f
    induction f with
    | zero => intro v2 M L H locs ls hD; cases hD
    | succ f3 ih3 =>
      intro v2 M L H locs ls hD hw hl
      replace hD : fX8_append_i3 fu a1 (fX8_append_h3 fu a1 f3) v2 M L = some (M0, L0) := hD
      have hb50 : ∀ (v2 : Int32) (M : mwM) (L : mwL) (H : Heap) (locs : List Loc) (ls : Array Slot), fX8_append_b50 fu a1 (fX8_append_h3 fu a1 f3) v2 M L = some (M0, L0) → mw_W G ad NF TF FF M L H locs → lv_has ls 4 [(0, .ref (ad 1)), (1, .int a1), (2, .int v2)] → W p l e ({ frames := 0, cells := 0, slots := 0, locals := 0 }) s m [.ref (ad 1), .int a1].toArray below meth c H locs 0 0 (MQ below (mw_Qv G ad NF TF FF (mw_eqV M0 L0)) [.ref (ad 1), .int a1].toArray s 0 0 (mw_fr G)) (F0 m 50 ls []) := by
        intro v2 M L H locs ls hD hw hl
        unfold fX8_append_b50 at hD
        obtain ⟨x8, ex8, hD⟩ := g_let hD
        refine lv_iinc (v := x8) (lv' := [(2, .int x8), (0, .ref (ad 1)), (1, .int a1)]) C.1.1 C.1.2.1 dX8_append_50 hl (k := 2) rfl (by rw [ex8]; rfl) (by decide) rfl (fun ls hl => ?_)
        refine lv_goto (tgt := 3) C.1.1 C.1.2.1 dX8_append_53 (by decide) ?_
        exact ih3 x8 M L _ _ ls hD hw (lv_sub hl [1, 2, 0] rfl)
      unfold fX8_append_i3 at hD
      refine lv_iload_n C.1.1 C.1.2.1 dX8_append_3 rfl (lv_at hl 2 rfl) ?_
      refine lv_if_lt (tgt := 56) C.1.1 C.1.2.1 dX8_append_4 (by decide) (fun c1 => ?_) (fun c1 => ?_)
      · replace hD := g_pos c1 hD
        exact mr_vret C hr hlocks hw (Option.some.inj hD) dX8_append_56
      · replace hD := g_neg c1 hD
        refine lv_iload_n C.1.1 C.1.2.1 dX8_append_7 rfl (lv_at hl 1 rfl) ?_
        refine lv_iload_n C.1.1 C.1.2.1 dX8_append_8 rfl (lv_at hl 2 rfl) ?_
        refine lv_iushr C.1.1 C.1.2.1 dX8_append_9 rfl ?_
        refine lv_sipush (v := 255) C.1.1 C.1.2.1 dX8_append_10 (by decide) ?_
        refine lv_iand C.1.1 C.1.2.1 dX8_append_13 ?_
        obtain ⟨x2, ex2, hD⟩ := g_let hD
        refine W.eq (g2 := F0 m 14 ls (.int x2 :: [])) (by rw [ex2]) ?_
        refine lv_istore_n (lv' := [(3, .int x2), (0, .ref (ad 1)), (1, .int a1), (2, .int v2)]) C.1.1 C.1.2.1 dX8_append_14 rfl hl (by decide) rfl (fun ls hl => ?_)
        refine lv_iload_n C.1.1 C.1.2.1 dX8_append_15 rfl (lv_at hl 0 rfl) ?_
        refine lv_if_eq (tgt := 50) C.1.1 C.1.2.1 dX8_append_16 (by decide) (fun c3 => ?_) (fun c3 => ?_)
        · replace hD := g_pos c3 hD
          exact hb50 v2 M L _ _ ls hD hw (lv_sub hl [1, 2, 3] rfl)
        · replace hD := g_neg c3 hD
          refine lv_aload_n C.1.1 C.1.2.1 dX8_append_19 rfl (lv_at hl 1 rfl) ?_
          refine mr_getI C hw kc_8 4 (by decide) tf_1 wd_599 dX8_append_20 (by decide) rfl ?_
          refine lv_sipush (v := 6000) C.1.1 C.1.2.1 dX8_append_23 (by decide) ?_
          refine lv_icmp_ge (tgt := 50) C.1.1 C.1.2.1 dX8_append_26 (by decide) (fun c4 => ?_) (fun c4 => ?_)
          · replace hD := g_pos c4 hD
            exact hb50 v2 M L _ _ ls hD hw (lv_sub hl [1, 2, 3] rfl)
          · replace hD := g_neg c4 hD
            refine lv_aload_n C.1.1 C.1.2.1 dX8_append_29 rfl (lv_at hl 1 rfl) ?_
            refine mr_getR C hw kc_8 0 (by decide) tf_1 ff_1_0 wd_593 dX8_append_30 (by decide) rfl ?_
            refine lv_aload_n C.1.1 C.1.2.1 dX8_append_33 rfl (lv_at hl 1 rfl) ?_
            refine mr_getI C hw kc_8 4 (by decide) tf_1 wd_599 dX8_append_34 (by decide) rfl ?_
            refine lv_iload_n C.1.1 C.1.2.1 dX8_append_37 rfl (lv_at hl 0 rfl) ?_
            refine lv_i2c C.1.1 C.1.2.1 dX8_append_38 rfl ?_
            obtain ⟨q5, hD⟩ := g_ck hD
            obtain ⟨M6, eM6, hD⟩ := g_let hD
            refine mr_cast C hw (by decide) tf_2 q5 dX8_append_39 (fun H locs hw => ?_)
            replace hw : mw_W G ad NF TF FF M6 L H locs := by rw [eM6]; exact hw
            refine lv_aload_n C.1.1 C.1.2.1 dX8_append_40 rfl (lv_at hl 1 rfl) ?_
            refine lv_dup C.1.1 C.1.2.1 dX8_append_41 rfl ?_
            refine mr_getI C hw kc_8 4 (by decide) tf_1 wd_599 dX8_append_42 (by decide) rfl ?_
            refine lv_iconst (v := 1) C.1.1 C.1.2.1 dX8_append_45 (by decide) ?_
            refine lv_iadd C.1.1 C.1.2.1 dX8_append_46 ?_
            obtain ⟨M7, eM7, hD⟩ := g_let hD
            refine mr_putI C hw kc_8 4 (by decide) tf_1 wd_599 dX8_append_47 (by decide) rfl rfl rfl rfl (fun H locs hw => ?_)
            replace hw : mw_W G ad NF TF FF M7 L H locs := by rw [eM7]; exact hw
            exact hb50 v2 M7 L _ _ ls hD hw (lv_sub hl [1, 2, 3] rfl)
  unfold DX8_append at hD
  refine lv_bipush (v := 24) C.1.1 C.1.2.1 dX8_append_0 (by decide) ?_
  refine lv_istore_n (lv' := [(2, .int 24), (0, .ref (ad 1)), (1, .int a1)]) C.1.1 C.1.2.1 dX8_append_2 rfl hl (by decide) rfl (fun ls hl => ?_)
  exact hh3 fu 24 M L _ _ ls hD hw (lv_sub hl [1, 2, 0] rfl)

theorem dX8_findLineEnd_0 : decode cX8_findLineEnd 0 = .ok (.aload_n 0, 1) := by decide +kernel
theorem dX8_findLineEnd_1 : decode cX8_findLineEnd 1 = .ok (.iload_n 1, 1) := by decide +kernel
theorem dX8_findLineEnd_2 : decode cX8_findLineEnd 2 = .ok (.putfield 62, 3) := by decide +kernel
theorem dX8_findLineEnd_5 : decode cX8_findLineEnd 5 = .ok (.aload_n 0, 1) := by decide +kernel
theorem dX8_findLineEnd_6 : decode cX8_findLineEnd 6 = .ok (.getfield 62, 3) := by decide +kernel
theorem dX8_findLineEnd_9 : decode cX8_findLineEnd 9 = .ok (.aload_n 0, 1) := by decide +kernel
theorem dX8_findLineEnd_10 : decode cX8_findLineEnd 10 = .ok (.getfield 27, 3) := by decide +kernel
theorem dX8_findLineEnd_13 : decode cX8_findLineEnd 13 = .ok (.if_icmp .ge 30, 3) := by decide +kernel
theorem dX8_findLineEnd_16 : decode cX8_findLineEnd 16 = .ok (.aload_n 0, 1) := by decide +kernel
theorem dX8_findLineEnd_17 : decode cX8_findLineEnd 17 = .ok (.getfield 9, 3) := by decide +kernel
theorem dX8_findLineEnd_20 : decode cX8_findLineEnd 20 = .ok (.aload_n 0, 1) := by decide +kernel
theorem dX8_findLineEnd_21 : decode cX8_findLineEnd 21 = .ok (.getfield 62, 3) := by decide +kernel
theorem dX8_findLineEnd_24 : decode cX8_findLineEnd 24 = .ok (.caload, 1) := by decide +kernel
theorem dX8_findLineEnd_25 : decode cX8_findLineEnd 25 = .ok (.bipush 10, 2) := by decide +kernel
theorem dX8_findLineEnd_27 : decode cX8_findLineEnd 27 = .ok (.if_icmp .eq 16, 3) := by decide +kernel
theorem dX8_findLineEnd_30 : decode cX8_findLineEnd 30 = .ok (.aload_n 0, 1) := by decide +kernel
theorem dX8_findLineEnd_31 : decode cX8_findLineEnd 31 = .ok (.dup, 1) := by decide +kernel
theorem dX8_findLineEnd_32 : decode cX8_findLineEnd 32 = .ok (.getfield 62, 3) := by decide +kernel
theorem dX8_findLineEnd_35 : decode cX8_findLineEnd 35 = .ok (.iconst 1, 1) := by decide +kernel
theorem dX8_findLineEnd_36 : decode cX8_findLineEnd 36 = .ok (.iadd, 1) := by decide +kernel
theorem dX8_findLineEnd_37 : decode cX8_findLineEnd 37 = .ok (.putfield 62, 3) := by decide +kernel
theorem dX8_findLineEnd_40 : decode cX8_findLineEnd 40 = .ok (.goto (-35), 3) := by decide +kernel
theorem dX8_findLineEnd_43 : decode cX8_findLineEnd 43 = .ok (.return_, 1) := by decide +kernel
theorem cwX8_findLineEnd : mw_cwV yX8_findLineEnd cX8_findLineEnd 2 (none) 1 := ⟨⟨wd_2, wd_829, by decide +kernel⟩, wd_828, sl_2⟩
set_option maxHeartbeats 4000000 in
set_option maxRecDepth 100000 in
theorem tX8_findLineEnd (l : Launch) (G : mwG) (ad : Nat → Nat) (fu : Nat) (a1 : Int32) (M : mwM) (L : mwL) {M0 : mwM} {L0 : mwL} (hD : DX8_findLineEnd fu a1 M L = some (M0, L0)) : Met l yX8_findLineEnd (Cond.code yX8_findLineEnd cX8_findLineEnd 2 (none) :: GT) ({ frames := 0, cells := 0, slots := 0, locals := 0 }) (mw_Pre G ad NF TF FF M L [.ref (ad 1), .int a1]) (mw_Qv G ad NF TF FF (mw_eqV M0 L0)) 0 0 (mw_fr G) := by
  refine mw_enter (by decide) (Nat.le_of_ble_eq_true rfl) ?_
  intro p e s m below meth c ls C hr hlocks hnm hw hl
  have hl : lv_has ls 2 [(0, .ref (ad 1)), (1, .int a1)] := hl
  have hb43 : ∀ (M : mwM) (L : mwL) (H : Heap) (locs : List Loc) (ls : Array Slot), fX8_findLineEnd_b43 fu a1 M L = some (M0, L0) → mw_W G ad NF TF FF M L H locs → lv_has ls 2 [] → W p l e ({ frames := 0, cells := 0, slots := 0, locals := 0 }) s m [.ref (ad 1), .int a1].toArray below meth c H locs 0 0 (MQ below (mw_Qv G ad NF TF FF (mw_eqV M0 L0)) [.ref (ad 1), .int a1].toArray s 0 0 (mw_fr G)) (F0 m 43 ls []) := by
    intro M L H locs ls hD hw hl
    unfold fX8_findLineEnd_b43 at hD
    exact mr_vret C hr hlocks hw (Option.some.inj hD) dX8_findLineEnd_43
  have hh5 : ∀ (f : Nat) (M : mwM) (L : mwL) (H : Heap) (locs : List Loc) (ls : Array Slot), fX8_findLineEnd_h5 fu a1 f (M, L) = some (M0, L0) → mw_W G ad NF TF FF M L H locs → lv_has ls 2 [(0, .ref (ad 1))] → W p l e ({ frames := 0, cells := 0, slots := 0, locals := 0 }) s m [.ref (ad 1), .int a1].toArray below meth c H locs 0 0 (MQ below (mw_Qv G ad NF TF FF (mw_eqV M0 L0)) [.ref (ad 1), .int a1].toArray s 0 0 (mw_fr G)) (F0 m 5 ls []) := by
    intro f
    induction f with
    | zero => intro M L H locs ls hD; cases hD
    | succ f5 ih5 =>
      intro M L H locs ls hD hw hl
      replace hD : fX8_findLineEnd_i5 fu a1 (fX8_findLineEnd_h5 fu a1 f5) M L = some (M0, L0) := hD
      unfold fX8_findLineEnd_i5 at hD
      refine lv_aload_n C.1.1 C.1.2.1 dX8_findLineEnd_5 rfl (lv_at hl 0 rfl) ?_
      refine mr_getI C hw kc_8 6 (by decide) tf_1 wd_601 dX8_findLineEnd_6 (by decide) rfl ?_
      refine lv_aload_n C.1.1 C.1.2.1 dX8_findLineEnd_9 rfl (lv_at hl 0 rfl) ?_
      refine mr_getI C hw kc_8 4 (by decide) tf_1 wd_599 dX8_findLineEnd_10 (by decide) rfl ?_
      refine lv_icmp_ge (tgt := 43) C.1.1 C.1.2.1 dX8_findLineEnd_13 (by decide) (fun c1 => ?_) (fun c1 => ?_)
      · replace hD := g_pos c1 hD
        exact hb43 M L _ _ ls hD hw (lv_sub hl [] rfl)
      · replace hD := g_neg c1 hD
        refine lv_aload_n C.1.1 C.1.2.1 dX8_findLineEnd_16 rfl (lv_at hl 0 rfl) ?_
        refine mr_getR C hw kc_8 0 (by decide) tf_1 ff_1_0 wd_593 dX8_findLineEnd_17 (by decide) rfl ?_
        refine lv_aload_n C.1.1 C.1.2.1 dX8_findLineEnd_20 rfl (lv_at hl 0 rfl) ?_
        refine mr_getI C hw kc_8 6 (by decide) tf_1 wd_601 dX8_findLineEnd_21 (by decide) rfl ?_
        obtain ⟨q2, hD⟩ := g_ck hD
        refine mr_cald C hw (by decide) tf_2 q2 dX8_findLineEnd_24 ?_
        refine lv_bipush (v := 10) C.1.1 C.1.2.1 dX8_findLineEnd_25 (by decide) ?_
        refine lv_icmp_eq (tgt := 43) C.1.1 C.1.2.1 dX8_findLineEnd_27 (by decide) (fun c3 => ?_) (fun c3 => ?_)
        · replace hD := g_pos c3 hD
          exact hb43 M L _ _ ls hD hw (lv_sub hl [] rfl)
        · replace hD := g_neg c3 hD
          refine lv_aload_n C.1.1 C.1.2.1 dX8_findLineEnd_30 rfl (lv_at hl 0 rfl) ?_
          refine lv_dup C.1.1 C.1.2.1 dX8_findLineEnd_31 rfl ?_
          refine mr_getI C hw kc_8 6 (by decide) tf_1 wd_601 dX8_findLineEnd_32 (by decide) rfl ?_
          refine lv_iconst (v := 1) C.1.1 C.1.2.1 dX8_findLineEnd_35 (by decide) ?_
          refine lv_iadd C.1.1 C.1.2.1 dX8_findLineEnd_36 ?_
          obtain ⟨M4, eM4, hD⟩ := g_let hD
          refine mr_putI C hw kc_8 6 (by decide) tf_1 wd_601 dX8_findLineEnd_37 (by decide) rfl rfl rfl rfl (fun H locs hw => ?_)
          replace hw : mw_W G ad NF TF FF M4 L H locs := by rw [eM4]; exact hw
          refine lv_goto (tgt := 5) C.1.1 C.1.2.1 dX8_findLineEnd_40 (by decide) ?_
          exact ih5 M4 L _ _ ls hD hw (lv_sub hl [0] rfl)
  unfold DX8_findLineEnd at hD
  refine lv_aload_n C.1.1 C.1.2.1 dX8_findLineEnd_0 rfl (lv_at hl 0 rfl) ?_
  refine lv_iload_n C.1.1 C.1.2.1 dX8_findLineEnd_1 rfl (lv_at hl 1 rfl) ?_
  obtain ⟨M5, eM5, hD⟩ := g_let hD
  refine mr_putI C hw kc_8 6 (by decide) tf_1 wd_601 dX8_findLineEnd_2 (by decide) rfl rfl rfl rfl (fun H locs hw => ?_)
  replace hw : mw_W G ad NF TF FF M5 L H locs := by rw [eM5]; exact hw
  exact hh5 fu M5 L _ _ ls hD hw (lv_sub hl [0] rfl)

theorem dX8_nextWord_0 : decode cX8_nextWord 0 = .ok (.aload_n 0, 1) := by decide +kernel
theorem dX8_nextWord_1 : decode cX8_nextWord 1 = .ok (.getfield 44, 3) := by decide +kernel
theorem dX8_nextWord_4 : decode cX8_nextWord 4 = .ok (.aload_n 0, 1) := by decide +kernel
theorem dX8_nextWord_5 : decode cX8_nextWord 5 = .ok (.getfield 62, 3) := by decide +kernel
theorem dX8_nextWord_8 : decode cX8_nextWord 8 = .ok (.if_icmp .ge 30, 3) := by decide +kernel
theorem dX8_nextWord_11 : decode cX8_nextWord 11 = .ok (.aload_n 0, 1) := by decide +kernel
theorem dX8_nextWord_12 : decode cX8_nextWord 12 = .ok (.getfield 9, 3) := by decide +kernel
theorem dX8_nextWord_15 : decode cX8_nextWord 15 = .ok (.aload_n 0, 1) := by decide +kernel
theorem dX8_nextWord_16 : decode cX8_nextWord 16 = .ok (.getfield 44, 3) := by decide +kernel
theorem dX8_nextWord_19 : decode cX8_nextWord 19 = .ok (.caload, 1) := by decide +kernel
theorem dX8_nextWord_20 : decode cX8_nextWord 20 = .ok (.bipush 32, 2) := by decide +kernel
theorem dX8_nextWord_22 : decode cX8_nextWord 22 = .ok (.if_icmp .ne 16, 3) := by decide +kernel
theorem dX8_nextWord_25 : decode cX8_nextWord 25 = .ok (.aload_n 0, 1) := by decide +kernel
theorem dX8_nextWord_26 : decode cX8_nextWord 26 = .ok (.dup, 1) := by decide +kernel
theorem dX8_nextWord_27 : decode cX8_nextWord 27 = .ok (.getfield 44, 3) := by decide +kernel
theorem dX8_nextWord_30 : decode cX8_nextWord 30 = .ok (.iconst 1, 1) := by decide +kernel
theorem dX8_nextWord_31 : decode cX8_nextWord 31 = .ok (.iadd, 1) := by decide +kernel
theorem dX8_nextWord_32 : decode cX8_nextWord 32 = .ok (.putfield 44, 3) := by decide +kernel
theorem dX8_nextWord_35 : decode cX8_nextWord 35 = .ok (.goto (-35), 3) := by decide +kernel
theorem dX8_nextWord_38 : decode cX8_nextWord 38 = .ok (.aload_n 0, 1) := by decide +kernel
theorem dX8_nextWord_39 : decode cX8_nextWord 39 = .ok (.getfield 44, 3) := by decide +kernel
theorem dX8_nextWord_42 : decode cX8_nextWord 42 = .ok (.aload_n 0, 1) := by decide +kernel
theorem dX8_nextWord_43 : decode cX8_nextWord 43 = .ok (.getfield 62, 3) := by decide +kernel
theorem dX8_nextWord_46 : decode cX8_nextWord 46 = .ok (.if_icmp .ge 17, 3) := by decide +kernel
theorem dX8_nextWord_49 : decode cX8_nextWord 49 = .ok (.aload_n 0, 1) := by decide +kernel
theorem dX8_nextWord_50 : decode cX8_nextWord 50 = .ok (.getfield 9, 3) := by decide +kernel
theorem dX8_nextWord_53 : decode cX8_nextWord 53 = .ok (.aload_n 0, 1) := by decide +kernel
theorem dX8_nextWord_54 : decode cX8_nextWord 54 = .ok (.getfield 44, 3) := by decide +kernel
theorem dX8_nextWord_57 : decode cX8_nextWord 57 = .ok (.caload, 1) := by decide +kernel
theorem dX8_nextWord_58 : decode cX8_nextWord 58 = .ok (.bipush 35, 2) := by decide +kernel
theorem dX8_nextWord_60 : decode cX8_nextWord 60 = .ok (.if_icmp .ne 17, 3) := by decide +kernel
theorem dX8_nextWord_63 : decode cX8_nextWord 63 = .ok (.aload_n 0, 1) := by decide +kernel
theorem dX8_nextWord_64 : decode cX8_nextWord 64 = .ok (.aload_n 0, 1) := by decide +kernel
theorem dX8_nextWord_65 : decode cX8_nextWord 65 = .ok (.getfield 62, 3) := by decide +kernel
theorem dX8_nextWord_68 : decode cX8_nextWord 68 = .ok (.putfield 50, 3) := by decide +kernel
theorem dX8_nextWord_71 : decode cX8_nextWord 71 = .ok (.aload_n 0, 1) := by decide +kernel
theorem dX8_nextWord_72 : decode cX8_nextWord 72 = .ok (.iconst 0, 1) := by decide +kernel
theorem dX8_nextWord_73 : decode cX8_nextWord 73 = .ok (.putfield 56, 3) := by decide +kernel
theorem dX8_nextWord_76 : decode cX8_nextWord 76 = .ok (.return_, 1) := by decide +kernel
theorem dX8_nextWord_77 : decode cX8_nextWord 77 = .ok (.aload_n 0, 1) := by decide +kernel
theorem dX8_nextWord_78 : decode cX8_nextWord 78 = .ok (.aload_n 0, 1) := by decide +kernel
theorem dX8_nextWord_79 : decode cX8_nextWord 79 = .ok (.getfield 44, 3) := by decide +kernel
theorem dX8_nextWord_82 : decode cX8_nextWord 82 = .ok (.putfield 50, 3) := by decide +kernel
theorem dX8_nextWord_85 : decode cX8_nextWord 85 = .ok (.aload_n 0, 1) := by decide +kernel
theorem dX8_nextWord_86 : decode cX8_nextWord 86 = .ok (.getfield 44, 3) := by decide +kernel
theorem dX8_nextWord_89 : decode cX8_nextWord 89 = .ok (.aload_n 0, 1) := by decide +kernel
theorem dX8_nextWord_90 : decode cX8_nextWord 90 = .ok (.getfield 62, 3) := by decide +kernel
theorem dX8_nextWord_93 : decode cX8_nextWord 93 = .ok (.if_icmp .ge 30, 3) := by decide +kernel
theorem dX8_nextWord_96 : decode cX8_nextWord 96 = .ok (.aload_n 0, 1) := by decide +kernel
theorem dX8_nextWord_97 : decode cX8_nextWord 97 = .ok (.getfield 9, 3) := by decide +kernel
theorem dX8_nextWord_100 : decode cX8_nextWord 100 = .ok (.aload_n 0, 1) := by decide +kernel
theorem dX8_nextWord_101 : decode cX8_nextWord 101 = .ok (.getfield 44, 3) := by decide +kernel
theorem dX8_nextWord_104 : decode cX8_nextWord 104 = .ok (.caload, 1) := by decide +kernel
theorem dX8_nextWord_105 : decode cX8_nextWord 105 = .ok (.bipush 32, 2) := by decide +kernel
theorem dX8_nextWord_107 : decode cX8_nextWord 107 = .ok (.if_icmp .eq 16, 3) := by decide +kernel
theorem dX8_nextWord_110 : decode cX8_nextWord 110 = .ok (.aload_n 0, 1) := by decide +kernel
theorem dX8_nextWord_111 : decode cX8_nextWord 111 = .ok (.dup, 1) := by decide +kernel
theorem dX8_nextWord_112 : decode cX8_nextWord 112 = .ok (.getfield 44, 3) := by decide +kernel
theorem dX8_nextWord_115 : decode cX8_nextWord 115 = .ok (.iconst 1, 1) := by decide +kernel
theorem dX8_nextWord_116 : decode cX8_nextWord 116 = .ok (.iadd, 1) := by decide +kernel
theorem dX8_nextWord_117 : decode cX8_nextWord 117 = .ok (.putfield 44, 3) := by decide +kernel
theorem dX8_nextWord_120 : decode cX8_nextWord 120 = .ok (.goto (-35), 3) := by decide +kernel
theorem dX8_nextWord_123 : decode cX8_nextWord 123 = .ok (.aload_n 0, 1) := by decide +kernel
theorem dX8_nextWord_124 : decode cX8_nextWord 124 = .ok (.aload_n 0, 1) := by decide +kernel
theorem dX8_nextWord_125 : decode cX8_nextWord 125 = .ok (.getfield 44, 3) := by decide +kernel
theorem dX8_nextWord_128 : decode cX8_nextWord 128 = .ok (.aload_n 0, 1) := by decide +kernel
theorem dX8_nextWord_129 : decode cX8_nextWord 129 = .ok (.getfield 50, 3) := by decide +kernel
theorem dX8_nextWord_132 : decode cX8_nextWord 132 = .ok (.isub, 1) := by decide +kernel
theorem dX8_nextWord_133 : decode cX8_nextWord 133 = .ok (.putfield 56, 3) := by decide +kernel
theorem dX8_nextWord_136 : decode cX8_nextWord 136 = .ok (.return_, 1) := by decide +kernel
theorem cwX8_nextWord : mw_cwV yX8_nextWord cX8_nextWord 1 (none) 0 := ⟨⟨wd_2, wd_833, by decide +kernel⟩, wd_832, sl_3⟩
set_option maxHeartbeats 4000000 in
set_option maxRecDepth 100000 in
theorem tX8_nextWord (l : Launch) (G : mwG) (ad : Nat → Nat) (fu : Nat) (M : mwM) (L : mwL) {M0 : mwM} {L0 : mwL} (hD : DX8_nextWord fu M L = some (M0, L0)) : Met l yX8_nextWord (Cond.code yX8_nextWord cX8_nextWord 1 (none) :: GT) ({ frames := 0, cells := 0, slots := 0, locals := 0 }) (mw_Pre G ad NF TF FF M L [.ref (ad 1)]) (mw_Qv G ad NF TF FF (mw_eqV M0 L0)) 0 0 (mw_fr G) := by
  refine mw_enter (by decide) (Nat.le_of_ble_eq_true rfl) ?_
  intro p e s m below meth c ls C hr hlocks hnm hw hl
  have hl : lv_has ls 1 [(0, .ref (ad 1))] := hl
  have hb63 : ∀ (M : mwM) (L : mwL) (H : Heap) (locs : List Loc) (ls : Array Slot), fX8_nextWord_b63 fu M L = some (M0, L0) → mw_W G ad NF TF FF M L H locs → lv_has ls 1 [(0, .ref (ad 1))] → W p l e ({ frames := 0, cells := 0, slots := 0, locals := 0 }) s m [.ref (ad 1)].toArray below meth c H locs 0 0 (MQ below (mw_Qv G ad NF TF FF (mw_eqV M0 L0)) [.ref (ad 1)].toArray s 0 0 (mw_fr G)) (F0 m 63 ls []) := by
    intro M L H locs ls hD hw hl
    unfold fX8_nextWord_b63 at hD
    refine lv_aload_n C.1.1 C.1.2.1 dX8_nextWord_63 rfl (lv_at hl 0 rfl) ?_
    refine lv_aload_n C.1.1 C.1.2.1 dX8_nextWord_64 rfl (lv_at hl 0 rfl) ?_
    refine mr_getI C hw kc_8 6 (by decide) tf_1 wd_601 dX8_nextWord_65 (by decide) rfl ?_
    obtain ⟨M9, eM9, hD⟩ := g_let hD
    refine mr_putI C hw kc_8 8 (by decide) tf_1 wd_603 dX8_nextWord_68 (by decide) rfl rfl rfl rfl (fun H locs hw => ?_)
    replace hw : mw_W G ad NF TF FF M9 L H locs := by rw [eM9]; exact hw
    refine lv_aload_n C.1.1 C.1.2.1 dX8_nextWord_71 rfl (lv_at hl 0 rfl) ?_
    refine lv_iconst (v := 0) C.1.1 C.1.2.1 dX8_nextWord_72 (by decide) ?_
    obtain ⟨M10, eM10, hD⟩ := g_let hD
    refine mr_putI C hw kc_8 9 (by decide) tf_1 wd_604 dX8_nextWord_73 (by decide) rfl rfl rfl rfl (fun H locs hw => ?_)
    replace hw : mw_W G ad NF TF FF M10 L H locs := by rw [eM10]; exact hw
    exact mr_vret C hr hlocks hw (Option.some.inj hD) dX8_nextWord_76
  have hb123 : ∀ (M : mwM) (L : mwL) (H : Heap) (locs : List Loc) (ls : Array Slot), fX8_nextWord_b123 fu M L = some (M0, L0) → mw_W G ad NF TF FF M L H locs → lv_has ls 1 [(0, .ref (ad 1))] → W p l e ({ frames := 0, cells := 0, slots := 0, locals := 0 }) s m [.ref (ad 1)].toArray below meth c H locs 0 0 (MQ below (mw_Qv G ad NF TF FF (mw_eqV M0 L0)) [.ref (ad 1)].toArray s 0 0 (mw_fr G)) (F0 m 123 ls []) := by
    intro M L H locs ls hD hw hl
    unfold fX8_nextWord_b123 at hD
    refine lv_aload_n C.1.1 C.1.2.1 dX8_nextWord_123 rfl (lv_at hl 0 rfl) ?_
    refine lv_aload_n C.1.1 C.1.2.1 dX8_nextWord_124 rfl (lv_at hl 0 rfl) ?_
    refine mr_getI C hw kc_8 5 (by decide) tf_1 wd_600 dX8_nextWord_125 (by decide) rfl ?_
    refine lv_aload_n C.1.1 C.1.2.1 dX8_nextWord_128 rfl (lv_at hl 0 rfl) ?_
    refine mr_getI C hw kc_8 8 (by decide) tf_1 wd_603 dX8_nextWord_129 (by decide) rfl ?_
    refine lv_isub C.1.1 C.1.2.1 dX8_nextWord_132 ?_
    obtain ⟨M15, eM15, hD⟩ := g_let hD
    refine mr_putI C hw kc_8 9 (by decide) tf_1 wd_604 dX8_nextWord_133 (by decide) rfl rfl rfl rfl (fun H locs hw => ?_)
    replace hw : mw_W G ad NF TF FF M15 L H locs := by rw [eM15]; exact hw
    exact mr_vret C hr hlocks hw (Option.some.inj hD) dX8_nextWord_136
  have hh85 : ∀ (f : Nat) (M : mwM) (L : mwL) (H : Heap) (locs : List Loc) (ls : Array Slot), fX8_nextWord_h85 fu f (M, L) = some (M0, L0) → mw_W G ad NF TF FF M L H locs → lv_has ls 1 [(0, .ref (ad 1))] → W p l e ({ frames := 0, cells := 0, slots := 0, locals := 0 }) s m [.ref (ad 1)].toArray below meth c H locs 0 0 (MQ below (mw_Qv G ad NF TF FF (mw_eqV M0 L0)) [.ref (ad 1)].toArray s 0 0 (mw_fr G)) (F0 m 85 ls []) := by
    intro f
    induction f with
    | zero => intro M L H locs ls hD; cases hD
    | succ f85 ih85 =>
      intro M L H locs ls hD hw hl
      replace hD : fX8_nextWord_i85 fu (fX8_nextWord_h85 fu f85) M L = some (M0, L0) := hD
      unfold fX8_nextWord_i85 at hD
      refine lv_aload_n C.1.1 C.1.2.1 dX8_nextWord_85 rfl (lv_at hl 0 rfl) ?_
      refine mr_getI C hw kc_8 5 (by decide) tf_1 wd_600 dX8_nextWord_86 (by decide) rfl ?_
      refine lv_aload_n C.1.1 C.1.2.1 dX8_nextWord_89 rfl (lv_at hl 0 rfl) ?_
      refine mr_getI C hw kc_8 6 (by decide) tf_1 wd_601 dX8_nextWord_90 (by decide) rfl ?_
      refine lv_icmp_ge (tgt := 123) C.1.1 C.1.2.1 dX8_nextWord_93 (by decide) (fun c11 => ?_) (fun c11 => ?_)
      · replace hD := g_pos c11 hD
        exact hb123 M L _ _ ls hD hw (lv_sub hl [0] rfl)
      · replace hD := g_neg c11 hD
        refine lv_aload_n C.1.1 C.1.2.1 dX8_nextWord_96 rfl (lv_at hl 0 rfl) ?_
        refine mr_getR C hw kc_8 0 (by decide) tf_1 ff_1_0 wd_593 dX8_nextWord_97 (by decide) rfl ?_
        refine lv_aload_n C.1.1 C.1.2.1 dX8_nextWord_100 rfl (lv_at hl 0 rfl) ?_
        refine mr_getI C hw kc_8 5 (by decide) tf_1 wd_600 dX8_nextWord_101 (by decide) rfl ?_
        obtain ⟨q12, hD⟩ := g_ck hD
        refine mr_cald C hw (by decide) tf_2 q12 dX8_nextWord_104 ?_
        refine lv_bipush (v := 32) C.1.1 C.1.2.1 dX8_nextWord_105 (by decide) ?_
        refine lv_icmp_eq (tgt := 123) C.1.1 C.1.2.1 dX8_nextWord_107 (by decide) (fun c13 => ?_) (fun c13 => ?_)
        · replace hD := g_pos c13 hD
          exact hb123 M L _ _ ls hD hw (lv_sub hl [0] rfl)
        · replace hD := g_neg c13 hD
          refine lv_aload_n C.1.1 C.1.2.1 dX8_nextWord_110 rfl (lv_at hl 0 rfl) ?_
          refine lv_dup C.1.1 C.1.2.1 dX8_nextWord_111 rfl ?_
          refine mr_getI C hw kc_8 5 (by decide) tf_1 wd_600 dX8_nextWord_112 (by decide) rfl ?_
          refine lv_iconst (v := 1) C.1.1 C.1.2.1 dX8_nextWord_115 (by decide) ?_
          refine lv_iadd C.1.1 C.1.2.1 dX8_nextWord_116 ?_
          obtain ⟨M14, eM14, hD⟩ := g_let hD
          refine mr_putI C hw kc_8 5 (by decide) tf_1 wd_600 dX8_nextWord_117 (by decide) rfl rfl rfl rfl (fun H locs hw => ?_)
          replace hw : mw_W G ad NF TF FF M14 L H locs := by rw [eM14]; exact hw
          refine lv_goto (tgt := 85) C.1.1 C.1.2.1 dX8_nextWord_120 (by decide) ?_
          exact ih85 M14 L _ _ ls hD hw (lv_sub hl [0] rfl)
  have hb38 : ∀ (M : mwM) (L : mwL) (H : Heap) (locs : List Loc) (ls : Array Slot), fX8_nextWord_b38 fu M L = some (M0, L0) → mw_W G ad NF TF FF M L H locs → lv_has ls 1 [(0, .ref (ad 1))] → W p l e ({ frames := 0, cells := 0, slots := 0, locals := 0 }) s m [.ref (ad 1)].toArray below meth c H locs 0 0 (MQ below (mw_Qv G ad NF TF FF (mw_eqV M0 L0)) [.ref (ad 1)].toArray s 0 0 (mw_fr G)) (F0 m 38 ls []) := by
    intro M L H locs ls hD hw hl
    unfold fX8_nextWord_b38 at hD
    refine lv_aload_n C.1.1 C.1.2.1 dX8_nextWord_38 rfl (lv_at hl 0 rfl) ?_
    refine mr_getI C hw kc_8 5 (by decide) tf_1 wd_600 dX8_nextWord_39 (by decide) rfl ?_
    refine lv_aload_n C.1.1 C.1.2.1 dX8_nextWord_42 rfl (lv_at hl 0 rfl) ?_
    refine mr_getI C hw kc_8 6 (by decide) tf_1 wd_601 dX8_nextWord_43 (by decide) rfl ?_
    refine lv_icmp_ge (tgt := 63) C.1.1 C.1.2.1 dX8_nextWord_46 (by decide) (fun c5 => ?_) (fun c5 => ?_)
    · replace hD := g_pos c5 hD
      exact hb63 M L _ _ ls hD hw (lv_sub hl [0] rfl)
    · replace hD := g_neg c5 hD
      refine lv_aload_n C.1.1 C.1.2.1 dX8_nextWord_49 rfl (lv_at hl 0 rfl) ?_
      refine mr_getR C hw kc_8 0 (by decide) tf_1 ff_1_0 wd_593 dX8_nextWord_50 (by decide) rfl ?_
      refine lv_aload_n C.1.1 C.1.2.1 dX8_nextWord_53 rfl (lv_at hl 0 rfl) ?_
      refine mr_getI C hw kc_8 5 (by decide) tf_1 wd_600 dX8_nextWord_54 (by decide) rfl ?_
      obtain ⟨q6, hD⟩ := g_ck hD
      refine mr_cald C hw (by decide) tf_2 q6 dX8_nextWord_57 ?_
      refine lv_bipush (v := 35) C.1.1 C.1.2.1 dX8_nextWord_58 (by decide) ?_
      refine lv_icmp_ne (tgt := 77) C.1.1 C.1.2.1 dX8_nextWord_60 (by decide) (fun c7 => ?_) (fun c7 => ?_)
      · replace hD := g_neg c7 hD
        refine lv_aload_n C.1.1 C.1.2.1 dX8_nextWord_77 rfl (lv_at hl 0 rfl) ?_
        refine lv_aload_n C.1.1 C.1.2.1 dX8_nextWord_78 rfl (lv_at hl 0 rfl) ?_
        refine mr_getI C hw kc_8 5 (by decide) tf_1 wd_600 dX8_nextWord_79 (by decide) rfl ?_
        obtain ⟨M8, eM8, hD⟩ := g_let hD
        refine mr_putI C hw kc_8 8 (by decide) tf_1 wd_603 dX8_nextWord_82 (by decide) rfl rfl rfl rfl (fun H locs hw => ?_)
        replace hw : mw_W G ad NF TF FF M8 L H locs := by rw [eM8]; exact hw
        exact hh85 fu M8 L _ _ ls hD hw (lv_sub hl [0] rfl)
      · replace hD := g_pos c7 hD
        exact hb63 M L _ _ ls hD hw (lv_sub hl [0] rfl)
  have hh0 : ∀ (f : Nat) (M : mwM) (L : mwL) (H : Heap) (locs : List Loc) (ls : Array Slot), fX8_nextWord_h0 fu f (M, L) = some (M0, L0) → mw_W G ad NF TF FF M L H locs → lv_has ls 1 [(0, .ref (ad 1))] → W p l e ({ frames := 0, cells := 0, slots := 0, locals := 0 }) s m [.ref (ad 1)].toArray below meth c H locs 0 0 (MQ below (mw_Qv G ad NF TF FF (mw_eqV M0 L0)) [.ref (ad 1)].toArray s 0 0 (mw_fr G)) (F0 m 0 ls []) := by
    intro f
    induction f with
    | zero => intro M L H locs ls hD; cases hD
    | succ f0 ih0 =>
      intro M L H locs ls hD hw hl
      replace hD : fX8_nextWord_i0 fu (fX8_nextWord_h0 fu f0) M L = some (M0, L0) := hD
      unfold fX8_nextWord_i0 at hD
      refine lv_aload_n C.1.1 C.1.2.1 dX8_nextWord_0 rfl (lv_at hl 0 rfl) ?_
      refine mr_getI C hw kc_8 5 (by decide) tf_1 wd_600 dX8_nextWord_1 (by decide) rfl ?_
      refine lv_aload_n C.1.1 C.1.2.1 dX8_nextWord_4 rfl (lv_at hl 0 rfl) ?_
      refine mr_getI C hw kc_8 6 (by decide) tf_1 wd_601 dX8_nextWord_5 (by decide) rfl ?_
      refine lv_icmp_ge (tgt := 38) C.1.1 C.1.2.1 dX8_nextWord_8 (by decide) (fun c1 => ?_) (fun c1 => ?_)
      · replace hD := g_pos c1 hD
        exact hb38 M L _ _ ls hD hw (lv_sub hl [0] rfl)
      · replace hD := g_neg c1 hD
        refine lv_aload_n C.1.1 C.1.2.1 dX8_nextWord_11 rfl (lv_at hl 0 rfl) ?_
        refine mr_getR C hw kc_8 0 (by decide) tf_1 ff_1_0 wd_593 dX8_nextWord_12 (by decide) rfl ?_
        refine lv_aload_n C.1.1 C.1.2.1 dX8_nextWord_15 rfl (lv_at hl 0 rfl) ?_
        refine mr_getI C hw kc_8 5 (by decide) tf_1 wd_600 dX8_nextWord_16 (by decide) rfl ?_
        obtain ⟨q2, hD⟩ := g_ck hD
        refine mr_cald C hw (by decide) tf_2 q2 dX8_nextWord_19 ?_
        refine lv_bipush (v := 32) C.1.1 C.1.2.1 dX8_nextWord_20 (by decide) ?_
        refine lv_icmp_ne (tgt := 38) C.1.1 C.1.2.1 dX8_nextWord_22 (by decide) (fun c3 => ?_) (fun c3 => ?_)
        · replace hD := g_neg c3 hD
          exact hb38 M L _ _ ls hD hw (lv_sub hl [0] rfl)
        · replace hD := g_pos c3 hD
          refine lv_aload_n C.1.1 C.1.2.1 dX8_nextWord_25 rfl (lv_at hl 0 rfl) ?_
          refine lv_dup C.1.1 C.1.2.1 dX8_nextWord_26 rfl ?_
          refine mr_getI C hw kc_8 5 (by decide) tf_1 wd_600 dX8_nextWord_27 (by decide) rfl ?_
          refine lv_iconst (v := 1) C.1.1 C.1.2.1 dX8_nextWord_30 (by decide) ?_
          refine lv_iadd C.1.1 C.1.2.1 dX8_nextWord_31 ?_
          obtain ⟨M4, eM4, hD⟩ := g_let hD
          refine mr_putI C hw kc_8 5 (by decide) tf_1 wd_600 dX8_nextWord_32 (by decide) rfl rfl rfl rfl (fun H locs hw => ?_)
          replace hw : mw_W G ad NF TF FF M4 L H locs := by rw [eM4]; exact hw
          refine lv_goto (tgt := 0) C.1.1 C.1.2.1 dX8_nextWord_35 (by decide) ?_
          exact ih0 M4 L _ _ ls hD hw (lv_sub hl [0] rfl)
  unfold DX8_nextWord at hD
  exact hh0 fu M L _ _ ls hD hw (lv_sub hl [0] rfl)

theorem dX8_standsAt_0 : decode cX8_standsAt 0 = .ok (.iconst 0, 1) := by decide +kernel
theorem dX8_standsAt_1 : decode cX8_standsAt 1 = .ok (.istore_n 3, 1) := by decide +kernel
theorem dX8_standsAt_2 : decode cX8_standsAt 2 = .ok (.iload_n 3, 1) := by decide +kernel
theorem dX8_standsAt_3 : decode cX8_standsAt 3 = .ok (.aload_n 0, 1) := by decide +kernel
theorem dX8_standsAt_4 : decode cX8_standsAt 4 = .ok (.getfield 56, 3) := by decide +kernel
theorem dX8_standsAt_7 : decode cX8_standsAt 7 = .ok (.if_icmp .ge 42, 3) := by decide +kernel
theorem dX8_standsAt_10 : decode cX8_standsAt 10 = .ok (.iload_n 2, 1) := by decide +kernel
theorem dX8_standsAt_11 : decode cX8_standsAt 11 = .ok (.iload_n 3, 1) := by decide +kernel
theorem dX8_standsAt_12 : decode cX8_standsAt 12 = .ok (.iadd, 1) := by decide +kernel
theorem dX8_standsAt_13 : decode cX8_standsAt 13 = .ok (.aload_n 1, 1) := by decide +kernel
theorem dX8_standsAt_14 : decode cX8_standsAt 14 = .ok (.invokevirtual 301, 3) := by decide +kernel
theorem dX8_standsAt_17 : decode cX8_standsAt 17 = .ok (.if_icmp .ge 24, 3) := by decide +kernel
theorem dX8_standsAt_20 : decode cX8_standsAt 20 = .ok (.aload_n 1, 1) := by decide +kernel
theorem dX8_standsAt_21 : decode cX8_standsAt 21 = .ok (.iload_n 2, 1) := by decide +kernel
theorem dX8_standsAt_22 : decode cX8_standsAt 22 = .ok (.iload_n 3, 1) := by decide +kernel
theorem dX8_standsAt_23 : decode cX8_standsAt 23 = .ok (.iadd, 1) := by decide +kernel
theorem dX8_standsAt_24 : decode cX8_standsAt 24 = .ok (.invokevirtual 309, 3) := by decide +kernel
theorem dX8_standsAt_27 : decode cX8_standsAt 27 = .ok (.aload_n 0, 1) := by decide +kernel
theorem dX8_standsAt_28 : decode cX8_standsAt 28 = .ok (.getfield 9, 3) := by decide +kernel
theorem dX8_standsAt_31 : decode cX8_standsAt 31 = .ok (.aload_n 0, 1) := by decide +kernel
theorem dX8_standsAt_32 : decode cX8_standsAt 32 = .ok (.getfield 50, 3) := by decide +kernel
theorem dX8_standsAt_35 : decode cX8_standsAt 35 = .ok (.iload_n 3, 1) := by decide +kernel
theorem dX8_standsAt_36 : decode cX8_standsAt 36 = .ok (.iadd, 1) := by decide +kernel
theorem dX8_standsAt_37 : decode cX8_standsAt 37 = .ok (.caload, 1) := by decide +kernel
theorem dX8_standsAt_38 : decode cX8_standsAt 38 = .ok (.if_icmp .eq 5, 3) := by decide +kernel
theorem dX8_standsAt_41 : decode cX8_standsAt 41 = .ok (.iconst 0, 1) := by decide +kernel
theorem dX8_standsAt_42 : decode cX8_standsAt 42 = .ok (.ireturn, 1) := by decide +kernel
theorem dX8_standsAt_43 : decode cX8_standsAt 43 = .ok (.iinc 3 1, 3) := by decide +kernel
theorem dX8_standsAt_46 : decode cX8_standsAt 46 = .ok (.goto (-44), 3) := by decide +kernel
theorem dX8_standsAt_49 : decode cX8_standsAt 49 = .ok (.iconst 1, 1) := by decide +kernel
theorem dX8_standsAt_50 : decode cX8_standsAt 50 = .ok (.ireturn, 1) := by decide +kernel
theorem cwX8_standsAt : mw_cwV yX8_standsAt cX8_standsAt 4 ((some .boolean)) 2 := ⟨⟨wd_2, wd_894, by decide +kernel⟩, wd_893, sl_6⟩
set_option maxHeartbeats 4000000 in
set_option maxRecDepth 100000 in
theorem tX8_standsAt (l : Launch) (G : mwG) (ad : Nat → Nat) (fu : Nat) (a1 : Nat) (a2 : Int32) (M : mwM) (L : mwL) {r0 : Int32} {M0 : mwM} {L0 : mwL} (hD : DX8_standsAt fu a1 a2 M L = some (r0, M0, L0)) (hs1 : a1 < 8) : Met l yX8_standsAt (Cond.code yX8_standsAt cX8_standsAt 4 ((some .boolean)) :: GT) ({ frames := 4, cells := 0, slots := 0, locals := 85 }) (mw_Pre G ad NF TF FF M L [.ref (ad 1), .ref (G.2.1 1000 a1), .int a2]) (mw_Qi G ad NF TF FF (mw_eqI r0 M0 L0)) 0 0 (mw_fr G) := by
  refine mw_enter (by decide) (Nat.le_of_ble_eq_true rfl) ?_
  intro p e s m below meth c ls C hr hlocks hnm hw hl
  have hl : lv_has ls 4 [(0, .ref (ad 1)), (1, .ref (G.2.1 1000 a1)), (2, .int a2)] := hl
  have hb41 : ∀ (M : mwM) (L : mwL) (H : Heap) (locs : List Loc) (ls : Array Slot), fX8_standsAt_b41 fu a1 a2 M L = some (r0, M0, L0) → mw_W G ad NF TF FF M L H locs → lv_has ls 4 [] → W p l e ({ frames := 4, cells := 0, slots := 0, locals := 85 }) s m [.ref (ad 1), .ref (G.2.1 1000 a1), .int a2].toArray below meth c H locs 0 0 (MQ below (mw_Qi G ad NF TF FF (mw_eqI r0 M0 L0)) [.ref (ad 1), .ref (G.2.1 1000 a1), .int a2].toArray s 0 0 (mw_fr G)) (F0 m 41 ls []) := by
    intro M L H locs ls hD hw hl
    unfold fX8_standsAt_b41 at hD
    refine lv_iconst (v := 0) C.1.1 C.1.2.1 dX8_standsAt_41 (by decide) ?_
    exact mr_iret C hr hlocks hw (by decide +kernel) (Option.some.inj hD) dX8_standsAt_42
  have hh2 : ∀ (f : Nat) (v3 : Int32) (M : mwM) (L : mwL) (H : Heap) (locs : List Loc) (ls : Array Slot), fX8_standsAt_h2 fu a1 a2 f (v3, M, L) = some (r0, M0, L0) → mw_W G ad NF TF FF M L H locs → lv_has ls 4 [(0, .ref (ad 1)), (1, .ref (G.2.1 1000 a1)), (2, .int a2), (3, .int v3)] → W p l e ({ frames := 4, cells := 0, slots := 0, locals := 85 }) s m [.ref (ad 1), .ref (G.2.1 1000 a1), .int a2].toArray below meth c H locs 0 0 (MQ below (mw_Qi G ad NF TF FF (mw_eqI r0 M0 L0)) [.ref (ad 1), .ref (G.2.1 1000 a1), .int a2].toArray s 0 0 (mw_fr G)) (F0 m 2 ls []) := by
    intro f
    induction f with
    | zero => intro v3 M L H locs ls hD; cases hD
    | succ f2 ih2 =>
      intro v3 M L H locs ls hD hw hl
      replace hD : fX8_standsAt_i2 fu a1 a2 (fX8_standsAt_h2 fu a1 a2 f2) v3 M L = some (r0, M0, L0) := hD
      unfold fX8_standsAt_i2 at hD
      refine lv_iload_n C.1.1 C.1.2.1 dX8_standsAt_2 rfl (lv_at hl 3 rfl) ?_
      refine lv_aload_n C.1.1 C.1.2.1 dX8_standsAt_3 rfl (lv_at hl 0 rfl) ?_
      refine mr_getI C hw kc_8 9 (by decide) tf_1 wd_604 dX8_standsAt_4 (by decide) rfl ?_
      refine lv_icmp_ge (tgt := 49) C.1.1 C.1.2.1 dX8_standsAt_7 (by decide) (fun c1 => ?_) (fun c1 => ?_)
      · replace hD := g_pos c1 hD
        refine lv_iconst (v := 1) C.1.1 C.1.2.1 dX8_standsAt_49 (by decide) ?_
        exact mr_iret C hr hlocks hw (by decide +kernel) (Option.some.inj hD) dX8_standsAt_50
      · replace hD := g_neg c1 hD
        refine lv_iload_n C.1.1 C.1.2.1 dX8_standsAt_10 rfl (lv_at hl 2 rfl) ?_
        refine lv_iload_n C.1.1 C.1.2.1 dX8_standsAt_11 rfl (lv_at hl 3 rfl) ?_
        refine lv_iadd C.1.1 C.1.2.1 dX8_standsAt_12 ?_
        refine lv_aload_n C.1.1 C.1.2.1 dX8_standsAt_13 rfl (lv_at hl 1 rfl) ?_
        refine md_kvI (As := []) (rest := [.int (a2 + v3)]) C hw (tJ_len l G ad NF TF FF M L hs1) rfl hs1 wd_843 cwJ_len ⟨Nat.le_of_ble_eq_true rfl, Nat.le_of_ble_eq_true rfl⟩ rfl hl.1 (Nat.le_of_ble_eq_true rfl) dX8_standsAt_14 rfl rfl ⟨Nat.zero_le _, Nat.zero_le _⟩ rfl (fun H locs hw => ?_)
        refine lv_icmp_ge (tgt := 41) C.1.1 C.1.2.1 dX8_standsAt_17 (by decide) (fun c2 => ?_) (fun c2 => ?_)
        · replace hD := g_pos c2 hD
          exact hb41 M L _ _ ls hD hw (lv_sub hl [] rfl)
        · replace hD := g_neg c2 hD
          refine lv_aload_n C.1.1 C.1.2.1 dX8_standsAt_20 rfl (lv_at hl 1 rfl) ?_
          refine lv_iload_n C.1.1 C.1.2.1 dX8_standsAt_21 rfl (lv_at hl 2 rfl) ?_
          refine lv_iload_n C.1.1 C.1.2.1 dX8_standsAt_22 rfl (lv_at hl 3 rfl) ?_
          refine lv_iadd C.1.1 C.1.2.1 dX8_standsAt_23 ?_
          obtain ⟨q3, hD⟩ := g_ck hD
          refine md_kvI (As := [.int (a2 + v3)]) (rest := []) C hw (tJ_cha l G ad NF TF FF M L hs1 q3 (mw_slt hs1 q3)) rfl hs1 wd_853 cwJ_cha ⟨Nat.le_of_ble_eq_true rfl, Nat.le_of_ble_eq_true rfl⟩ rfl hl.1 (Nat.le_of_ble_eq_true rfl) dX8_standsAt_24 rfl rfl ⟨Nat.zero_le _, Nat.zero_le _⟩ rfl (fun H locs hw => ?_)
          refine lv_aload_n C.1.1 C.1.2.1 dX8_standsAt_27 rfl (lv_at hl 0 rfl) ?_
          refine mr_getR C hw kc_8 0 (by decide) tf_1 ff_1_0 wd_593 dX8_standsAt_28 (by decide) rfl ?_
          refine lv_aload_n C.1.1 C.1.2.1 dX8_standsAt_31 rfl (lv_at hl 0 rfl) ?_
          refine mr_getI C hw kc_8 8 (by decide) tf_1 wd_603 dX8_standsAt_32 (by decide) rfl ?_
          refine lv_iload_n C.1.1 C.1.2.1 dX8_standsAt_35 rfl (lv_at hl 3 rfl) ?_
          refine lv_iadd C.1.1 C.1.2.1 dX8_standsAt_36 ?_
          obtain ⟨q4, hD⟩ := g_ck hD
          refine mr_cald C hw (by decide) tf_2 q4 dX8_standsAt_37 ?_
          refine lv_icmp_eq (tgt := 43) C.1.1 C.1.2.1 dX8_standsAt_38 (by decide) (fun c5 => ?_) (fun c5 => ?_)
          · replace hD := g_pos c5 hD
            obtain ⟨x6, ex6, hD⟩ := g_let hD
            refine lv_iinc (v := x6) (lv' := [(3, .int x6), (0, .ref (ad 1)), (1, .ref (G.2.1 1000 a1)), (2, .int a2)]) C.1.1 C.1.2.1 dX8_standsAt_43 hl (k := 3) rfl (by rw [ex6]; rfl) (by decide) rfl (fun ls hl => ?_)
            refine lv_goto (tgt := 2) C.1.1 C.1.2.1 dX8_standsAt_46 (by decide) ?_
            exact ih2 x6 M L _ _ ls hD hw (lv_sub hl [1, 2, 3, 0] rfl)
          · replace hD := g_neg c5 hD
            exact hb41 M L _ _ ls hD hw (lv_sub hl [] rfl)
  unfold DX8_standsAt at hD
  refine lv_iconst (v := 0) C.1.1 C.1.2.1 dX8_standsAt_0 (by decide) ?_
  refine lv_istore_n (lv' := [(3, .int 0), (0, .ref (ad 1)), (1, .ref (G.2.1 1000 a1)), (2, .int a2)]) C.1.1 C.1.2.1 dX8_standsAt_1 rfl hl (by decide) rfl (fun ls hl => ?_)
  exact hh2 fu 0 M L _ _ ls hD hw (lv_sub hl [1, 2, 3, 0] rfl)

theorem dX8_indexIn_0 : decode cX8_indexIn 0 = .ok (.iconst 0, 1) := by decide +kernel
theorem dX8_indexIn_1 : decode cX8_indexIn 1 = .ok (.istore_n 2, 1) := by decide +kernel
theorem dX8_indexIn_2 : decode cX8_indexIn 2 = .ok (.iconst 0, 1) := by decide +kernel
theorem dX8_indexIn_3 : decode cX8_indexIn 3 = .ok (.istore_n 3, 1) := by decide +kernel
theorem dX8_indexIn_4 : decode cX8_indexIn 4 = .ok (.iconst 0, 1) := by decide +kernel
theorem dX8_indexIn_5 : decode cX8_indexIn 5 = .ok (.istore 4, 2) := by decide +kernel
theorem dX8_indexIn_7 : decode cX8_indexIn 7 = .ok (.iload 4, 2) := by decide +kernel
theorem dX8_indexIn_9 : decode cX8_indexIn 9 = .ok (.aload_n 1, 1) := by decide +kernel
theorem dX8_indexIn_10 : decode cX8_indexIn 10 = .ok (.invokevirtual 301, 3) := by decide +kernel
theorem dX8_indexIn_13 : decode cX8_indexIn 13 = .ok (.if_icmp .gt 59, 3) := by decide +kernel
theorem dX8_indexIn_16 : decode cX8_indexIn 16 = .ok (.iload 4, 2) := by decide +kernel
theorem dX8_indexIn_18 : decode cX8_indexIn 18 = .ok (.aload_n 1, 1) := by decide +kernel
theorem dX8_indexIn_19 : decode cX8_indexIn 19 = .ok (.invokevirtual 301, 3) := by decide +kernel
theorem dX8_indexIn_22 : decode cX8_indexIn 22 = .ok (.if_icmp .eq 14, 3) := by decide +kernel
theorem dX8_indexIn_25 : decode cX8_indexIn 25 = .ok (.aload_n 1, 1) := by decide +kernel
theorem dX8_indexIn_26 : decode cX8_indexIn 26 = .ok (.iload 4, 2) := by decide +kernel
theorem dX8_indexIn_28 : decode cX8_indexIn 28 = .ok (.invokevirtual 309, 3) := by decide +kernel
theorem dX8_indexIn_31 : decode cX8_indexIn 31 = .ok (.bipush 32, 2) := by decide +kernel
theorem dX8_indexIn_33 : decode cX8_indexIn 33 = .ok (.if_icmp .ne 33, 3) := by decide +kernel
theorem dX8_indexIn_36 : decode cX8_indexIn 36 = .ok (.iload 4, 2) := by decide +kernel
theorem dX8_indexIn_38 : decode cX8_indexIn 38 = .ok (.iload_n 3, 1) := by decide +kernel
theorem dX8_indexIn_39 : decode cX8_indexIn 39 = .ok (.isub, 1) := by decide +kernel
theorem dX8_indexIn_40 : decode cX8_indexIn 40 = .ok (.aload_n 0, 1) := by decide +kernel
theorem dX8_indexIn_41 : decode cX8_indexIn 41 = .ok (.getfield 56, 3) := by decide +kernel
theorem dX8_indexIn_44 : decode cX8_indexIn 44 = .ok (.if_icmp .ne 14, 3) := by decide +kernel
theorem dX8_indexIn_47 : decode cX8_indexIn 47 = .ok (.aload_n 0, 1) := by decide +kernel
theorem dX8_indexIn_48 : decode cX8_indexIn 48 = .ok (.aload_n 1, 1) := by decide +kernel
theorem dX8_indexIn_49 : decode cX8_indexIn 49 = .ok (.iload_n 3, 1) := by decide +kernel
theorem dX8_indexIn_50 : decode cX8_indexIn 50 = .ok (.invokevirtual 305, 3) := by decide +kernel
theorem dX8_indexIn_53 : decode cX8_indexIn 53 = .ok (.ifCond .eq 5, 3) := by decide +kernel
theorem dX8_indexIn_56 : decode cX8_indexIn 56 = .ok (.iload_n 2, 1) := by decide +kernel
theorem dX8_indexIn_57 : decode cX8_indexIn 57 = .ok (.ireturn, 1) := by decide +kernel
theorem dX8_indexIn_58 : decode cX8_indexIn 58 = .ok (.iinc 2 1, 3) := by decide +kernel
theorem dX8_indexIn_61 : decode cX8_indexIn 61 = .ok (.iload 4, 2) := by decide +kernel
theorem dX8_indexIn_63 : decode cX8_indexIn 63 = .ok (.iconst 1, 1) := by decide +kernel
theorem dX8_indexIn_64 : decode cX8_indexIn 64 = .ok (.iadd, 1) := by decide +kernel
theorem dX8_indexIn_65 : decode cX8_indexIn 65 = .ok (.istore_n 3, 1) := by decide +kernel
theorem dX8_indexIn_66 : decode cX8_indexIn 66 = .ok (.iinc 4 1, 3) := by decide +kernel
theorem dX8_indexIn_69 : decode cX8_indexIn 69 = .ok (.goto (-62), 3) := by decide +kernel
theorem dX8_indexIn_72 : decode cX8_indexIn 72 = .ok (.iconst (-1), 1) := by decide +kernel
theorem dX8_indexIn_73 : decode cX8_indexIn 73 = .ok (.ireturn, 1) := by decide +kernel
theorem cwX8_indexIn : mw_cwV yX8_indexIn cX8_indexIn 5 ((some .int)) 1 := ⟨⟨wd_2, wd_842, by decide +kernel⟩, wd_841, sl_5⟩
set_option maxHeartbeats 4000000 in
set_option maxRecDepth 100000 in
theorem tX8_indexIn (l : Launch) (G : mwG) (ad : Nat → Nat) (fu : Nat) (a1 : Nat) (M : mwM) (L : mwL) {r0 : Int32} {M0 : mwM} {L0 : mwL} (hD : DX8_indexIn fu a1 M L = some (r0, M0, L0)) (hs1 : a1 < 8) : Met l yX8_indexIn (Cond.code yX8_indexIn cX8_indexIn 5 ((some .int)) :: GT) ({ frames := 5, cells := 0, slots := 0, locals := 108 }) (mw_Pre G ad NF TF FF M L [.ref (ad 1), .ref (G.2.1 1000 a1)]) (mw_Qi G ad NF TF FF (mw_eqI r0 M0 L0)) 0 0 (mw_fr G) := by
  refine mw_enter (by decide) (Nat.le_of_ble_eq_true rfl) ?_
  intro p e s m below meth c ls C hr hlocks hnm hw hl
  have hl : lv_has ls 5 [(0, .ref (ad 1)), (1, .ref (G.2.1 1000 a1))] := hl
  have hh7 : ∀ (f : Nat) (v2 : Int32) (v3 : Int32) (v4 : Int32) (M : mwM) (L : mwL) (H : Heap) (locs : List Loc) (ls : Array Slot), fX8_indexIn_h7 fu a1 f (v2, v3, v4, M, L) = some (r0, M0, L0) → mw_W G ad NF TF FF M L H locs → lv_has ls 5 [(0, .ref (ad 1)), (1, .ref (G.2.1 1000 a1)), (2, .int v2), (3, .int v3), (4, .int v4)] → W p l e ({ frames := 5, cells := 0, slots := 0, locals := 108 }) s m [.ref (ad 1), .ref (G.2.1 1000 a1)].toArray below meth c H locs 0 0 (MQ below (mw_Qi G ad NF TF FF (mw_eqI r0 M0 L0)) [.ref (ad 1), .ref (G.2.1 1000 a1)].toArray s 0 0 (mw_fr G)) (F0 m 7 ls []) := by
    intro f
    induction f with
    | zero => intro v2 v3 v4 M L H locs ls hD; cases hD
    | succ f7 ih7 =>
      intro v2 v3 v4 M L H locs ls hD hw hl
      replace hD : fX8_indexIn_i7 fu a1 (fX8_indexIn_h7 fu a1 f7) v2 v3 v4 M L = some (r0, M0, L0) := hD
      have hb66 : ∀ (v2 : Int32) (v3 : Int32) (v4 : Int32) (M : mwM) (L : mwL) (H : Heap) (locs : List Loc) (ls : Array Slot), fX8_indexIn_b66 fu a1 (fX8_indexIn_h7 fu a1 f7) v2 v3 v4 M L = some (r0, M0, L0) → mw_W G ad NF TF FF M L H locs → lv_has ls 5 [(0, .ref (ad 1)), (1, .ref (G.2.1 1000 a1)), (2, .int v2), (3, .int v3), (4, .int v4)] → W p l e ({ frames := 5, cells := 0, slots := 0, locals := 108 }) s m [.ref (ad 1), .ref (G.2.1 1000 a1)].toArray below meth c H locs 0 0 (MQ below (mw_Qi G ad NF TF FF (mw_eqI r0 M0 L0)) [.ref (ad 1), .ref (G.2.1 1000 a1)].toArray s 0 0 (mw_fr G)) (F0 m 66 ls []) := by
        intro v2 v3 v4 M L H locs ls hD hw hl
        unfold fX8_indexIn_b66 at hD
        obtain ⟨x12, ex12, hD⟩ := g_let hD
        refine lv_iinc (v := x12) (lv' := [(4, .int x12), (0, .ref (ad 1)), (1, .ref (G.2.1 1000 a1)), (2, .int v2), (3, .int v3)]) C.1.1 C.1.2.1 dX8_indexIn_66 hl (k := 4) rfl (by rw [ex12]; rfl) (by decide) rfl (fun ls hl => ?_)
        refine lv_goto (tgt := 7) C.1.1 C.1.2.1 dX8_indexIn_69 (by decide) ?_
        exact ih7 v2 v3 x12 M L _ _ ls hD hw (lv_sub hl [1, 2, 3, 4, 0] rfl)
      have hb58 : ∀ (v2 : Int32) (v4 : Int32) (M : mwM) (L : mwL) (H : Heap) (locs : List Loc) (ls : Array Slot), fX8_indexIn_b58 fu a1 (fX8_indexIn_h7 fu a1 f7) v2 v4 M L = some (r0, M0, L0) → mw_W G ad NF TF FF M L H locs → lv_has ls 5 [(0, .ref (ad 1)), (1, .ref (G.2.1 1000 a1)), (2, .int v2), (4, .int v4)] → W p l e ({ frames := 5, cells := 0, slots := 0, locals := 108 }) s m [.ref (ad 1), .ref (G.2.1 1000 a1)].toArray below meth c H locs 0 0 (MQ below (mw_Qi G ad NF TF FF (mw_eqI r0 M0 L0)) [.ref (ad 1), .ref (G.2.1 1000 a1)].toArray s 0 0 (mw_fr G)) (F0 m 58 ls []) := by
        intro v2 v4 M L H locs ls hD hw hl
        unfold fX8_indexIn_b58 at hD
        obtain ⟨x10, ex10, hD⟩ := g_let hD
        refine lv_iinc (v := x10) (lv' := [(2, .int x10), (0, .ref (ad 1)), (1, .ref (G.2.1 1000 a1)), (4, .int v4)]) C.1.1 C.1.2.1 dX8_indexIn_58 hl (k := 2) rfl (by rw [ex10]; rfl) (by decide) rfl (fun ls hl => ?_)
        refine lv_iload C.1.1 C.1.2.1 dX8_indexIn_61 (lv_at hl 3 rfl) ?_
        refine lv_iconst (v := 1) C.1.1 C.1.2.1 dX8_indexIn_63 (by decide) ?_
        refine lv_iadd C.1.1 C.1.2.1 dX8_indexIn_64 ?_
        obtain ⟨x11, ex11, hD⟩ := g_let hD
        refine W.eq (g2 := F0 m 65 ls (.int x11 :: [])) (by rw [ex11]) ?_
        refine lv_istore_n (lv' := [(3, .int x11), (2, .int x10), (0, .ref (ad 1)), (1, .ref (G.2.1 1000 a1)), (4, .int v4)]) C.1.1 C.1.2.1 dX8_indexIn_65 rfl hl (by decide) rfl (fun ls hl => ?_)
        exact hb66 x10 x11 v4 M L _ _ ls hD hw (lv_sub hl [2, 3, 1, 0, 4] rfl)
      have hb36 : ∀ (v2 : Int32) (v3 : Int32) (v4 : Int32) (M : mwM) (L : mwL) (H : Heap) (locs : List Loc) (ls : Array Slot), fX8_indexIn_b36 fu a1 (fX8_indexIn_h7 fu a1 f7) v2 v3 v4 M L = some (r0, M0, L0) → mw_W G ad NF TF FF M L H locs → lv_has ls 5 [(0, .ref (ad 1)), (1, .ref (G.2.1 1000 a1)), (2, .int v2), (3, .int v3), (4, .int v4)] → W p l e ({ frames := 5, cells := 0, slots := 0, locals := 108 }) s m [.ref (ad 1), .ref (G.2.1 1000 a1)].toArray below meth c H locs 0 0 (MQ below (mw_Qi G ad NF TF FF (mw_eqI r0 M0 L0)) [.ref (ad 1), .ref (G.2.1 1000 a1)].toArray s 0 0 (mw_fr G)) (F0 m 36 ls []) := by
        intro v2 v3 v4 M L H locs ls hD hw hl
        unfold fX8_indexIn_b36 at hD
        refine lv_iload C.1.1 C.1.2.1 dX8_indexIn_36 (lv_at hl 4 rfl) ?_
        refine lv_iload_n C.1.1 C.1.2.1 dX8_indexIn_38 rfl (lv_at hl 3 rfl) ?_
        refine lv_isub C.1.1 C.1.2.1 dX8_indexIn_39 ?_
        refine lv_aload_n C.1.1 C.1.2.1 dX8_indexIn_40 rfl (lv_at hl 0 rfl) ?_
        refine mr_getI C hw kc_8 9 (by decide) tf_1 wd_604 dX8_indexIn_41 (by decide) rfl ?_
        refine lv_icmp_ne (tgt := 58) C.1.1 C.1.2.1 dX8_indexIn_44 (by decide) (fun c5 => ?_) (fun c5 => ?_)
        · replace hD := g_neg c5 hD
          exact hb58 v2 v4 M L _ _ ls hD hw (lv_sub hl [0, 1, 2, 4] rfl)
        · replace hD := g_pos c5 hD
          refine lv_aload_n C.1.1 C.1.2.1 dX8_indexIn_47 rfl (lv_at hl 0 rfl) ?_
          refine lv_aload_n C.1.1 C.1.2.1 dX8_indexIn_48 rfl (lv_at hl 1 rfl) ?_
          refine lv_iload_n C.1.1 C.1.2.1 dX8_indexIn_49 rfl (lv_at hl 3 rfl) ?_
          obtain ⟨r8, M6, L7, h1, hD⟩ := g_b3 hD
          refine md_cvI (As := [.ref (G.2.1 1000 a1), .int v3]) (rest := []) C hw (tX8_standsAt l G ad fu a1 v3 M L h1 hs1) kc_8 (by decide) tf_1 wd_891 cwX8_standsAt ⟨Nat.le_of_ble_eq_true rfl, Nat.le_of_ble_eq_true rfl⟩ rfl hl.1 (Nat.le_of_ble_eq_true rfl) dX8_indexIn_50 rfl rfl ⟨Nat.zero_le _, Nat.zero_le _⟩ rfl (fun H locs hw => ?_)
          refine lv_if_eq (tgt := 58) C.1.1 C.1.2.1 dX8_indexIn_53 (by decide) (fun c9 => ?_) (fun c9 => ?_)
          · replace hD := g_pos c9 hD
            exact hb58 v2 v4 M6 L7 _ _ ls hD hw (lv_sub hl [0, 1, 2, 4] rfl)
          · replace hD := g_neg c9 hD
            refine lv_iload_n C.1.1 C.1.2.1 dX8_indexIn_56 rfl (lv_at hl 2 rfl) ?_
            exact mr_iret C hr hlocks hw rfl (Option.some.inj hD) dX8_indexIn_57
      unfold fX8_indexIn_i7 at hD
      refine lv_iload C.1.1 C.1.2.1 dX8_indexIn_7 (lv_at hl 4 rfl) ?_
      refine lv_aload_n C.1.1 C.1.2.1 dX8_indexIn_9 rfl (lv_at hl 1 rfl) ?_
      refine md_kvI (As := []) (rest := [.int v4]) C hw (tJ_len l G ad NF TF FF M L hs1) rfl hs1 wd_843 cwJ_len ⟨Nat.le_of_ble_eq_true rfl, Nat.le_of_ble_eq_true rfl⟩ rfl hl.1 (Nat.le_of_ble_eq_true rfl) dX8_indexIn_10 rfl rfl ⟨Nat.zero_le _, Nat.zero_le _⟩ rfl (fun H locs hw => ?_)
      refine lv_icmp_gt (tgt := 72) C.1.1 C.1.2.1 dX8_indexIn_13 (by decide) (fun c1 => ?_) (fun c1 => ?_)
      · replace hD := g_pos c1 hD
        refine lv_iconst (v := (-1)) C.1.1 C.1.2.1 dX8_indexIn_72 (by decide) ?_
        exact mr_iret C hr hlocks hw rfl (Option.some.inj hD) dX8_indexIn_73
      · replace hD := g_neg c1 hD
        refine lv_iload C.1.1 C.1.2.1 dX8_indexIn_16 (lv_at hl 4 rfl) ?_
        refine lv_aload_n C.1.1 C.1.2.1 dX8_indexIn_18 rfl (lv_at hl 1 rfl) ?_
        refine md_kvI (As := []) (rest := [.int v4]) C hw (tJ_len l G ad NF TF FF M L hs1) rfl hs1 wd_843 cwJ_len ⟨Nat.le_of_ble_eq_true rfl, Nat.le_of_ble_eq_true rfl⟩ rfl hl.1 (Nat.le_of_ble_eq_true rfl) dX8_indexIn_19 rfl rfl ⟨Nat.zero_le _, Nat.zero_le _⟩ rfl (fun H locs hw => ?_)
        refine lv_icmp_eq (tgt := 36) C.1.1 C.1.2.1 dX8_indexIn_22 (by decide) (fun c2 => ?_) (fun c2 => ?_)
        · replace hD := g_pos c2 hD
          exact hb36 v2 v3 v4 M L _ _ ls hD hw (lv_sub hl [0, 1, 2, 3, 4] rfl)
        · replace hD := g_neg c2 hD
          refine lv_aload_n C.1.1 C.1.2.1 dX8_indexIn_25 rfl (lv_at hl 1 rfl) ?_
          refine lv_iload C.1.1 C.1.2.1 dX8_indexIn_26 (lv_at hl 4 rfl) ?_
          obtain ⟨q3, hD⟩ := g_ck hD
          refine md_kvI (As := [.int v4]) (rest := []) C hw (tJ_cha l G ad NF TF FF M L hs1 q3 (mw_slt hs1 q3)) rfl hs1 wd_853 cwJ_cha ⟨Nat.le_of_ble_eq_true rfl, Nat.le_of_ble_eq_true rfl⟩ rfl hl.1 (Nat.le_of_ble_eq_true rfl) dX8_indexIn_28 rfl rfl ⟨Nat.zero_le _, Nat.zero_le _⟩ rfl (fun H locs hw => ?_)
          refine lv_bipush (v := 32) C.1.1 C.1.2.1 dX8_indexIn_31 (by decide) ?_
          refine lv_icmp_ne (tgt := 66) C.1.1 C.1.2.1 dX8_indexIn_33 (by decide) (fun c4 => ?_) (fun c4 => ?_)
          · replace hD := g_neg c4 hD
            exact hb66 v2 v3 v4 M L _ _ ls hD hw (lv_sub hl [0, 1, 2, 3, 4] rfl)
          · replace hD := g_pos c4 hD
            exact hb36 v2 v3 v4 M L _ _ ls hD hw (lv_sub hl [0, 1, 2, 3, 4] rfl)
  unfold DX8_indexIn at hD
  refine lv_iconst (v := 0) C.1.1 C.1.2.1 dX8_indexIn_0 (by decide) ?_
  refine lv_istore_n (lv' := [(2, .int 0), (0, .ref (ad 1)), (1, .ref (G.2.1 1000 a1))]) C.1.1 C.1.2.1 dX8_indexIn_1 rfl hl (by decide) rfl (fun ls hl => ?_)
  refine lv_iconst (v := 0) C.1.1 C.1.2.1 dX8_indexIn_2 (by decide) ?_
  refine lv_istore_n (lv' := [(3, .int 0), (2, .int 0), (0, .ref (ad 1)), (1, .ref (G.2.1 1000 a1))]) C.1.1 C.1.2.1 dX8_indexIn_3 rfl hl (by decide) rfl (fun ls hl => ?_)
  refine lv_iconst (v := 0) C.1.1 C.1.2.1 dX8_indexIn_4 (by decide) ?_
  refine lv_istore (lv' := [(4, .int 0), (3, .int 0), (2, .int 0), (0, .ref (ad 1)), (1, .ref (G.2.1 1000 a1))]) C.1.1 C.1.2.1 dX8_indexIn_5 hl (by decide) rfl (fun ls hl => ?_)
  exact hh7 fu 0 0 0 M L _ _ ls hD hw (lv_sub hl [3, 4, 2, 1, 0] rfl)

theorem dX8_isLetter_0 : decode cX8_isLetter 0 = .ok (.iload_n 0, 1) := by decide +kernel
theorem dX8_isLetter_1 : decode cX8_isLetter 1 = .ok (.bipush 97, 2) := by decide +kernel
theorem dX8_isLetter_3 : decode cX8_isLetter 3 = .ok (.if_icmp .lt 13, 3) := by decide +kernel
theorem dX8_isLetter_6 : decode cX8_isLetter 6 = .ok (.iload_n 0, 1) := by decide +kernel
theorem dX8_isLetter_7 : decode cX8_isLetter 7 = .ok (.bipush 122, 2) := by decide +kernel
theorem dX8_isLetter_9 : decode cX8_isLetter 9 = .ok (.if_icmp .gt 7, 3) := by decide +kernel
theorem dX8_isLetter_12 : decode cX8_isLetter 12 = .ok (.iconst 1, 1) := by decide +kernel
theorem dX8_isLetter_13 : decode cX8_isLetter 13 = .ok (.goto 4, 3) := by decide +kernel
theorem dX8_isLetter_16 : decode cX8_isLetter 16 = .ok (.iconst 0, 1) := by decide +kernel
theorem dX8_isLetter_17 : decode cX8_isLetter 17 = .ok (.ireturn, 1) := by decide +kernel
theorem cwX8_isLetter : mw_cwS yX8_isLetter cX8_isLetter 1 ((some .boolean)) 1 := ⟨⟨wd_2, wd_909, by decide +kernel⟩, wd_908⟩
set_option maxHeartbeats 4000000 in
set_option maxRecDepth 100000 in
theorem tX8_isLetter (l : Launch) (G : mwG) (ad : Nat → Nat) (fu : Nat) (a1 : Int32) (M : mwM) (L : mwL) {r0 : Int32} {M0 : mwM} {L0 : mwL} (hD : DX8_isLetter fu a1 M L = some (r0, M0, L0)) : Met l yX8_isLetter (Cond.code yX8_isLetter cX8_isLetter 1 ((some .boolean)) :: GT) ({ frames := 0, cells := 0, slots := 0, locals := 0 }) (mw_Pre G ad NF TF FF M L [.int a1]) (mw_Qi G ad NF TF FF (mw_eqI r0 M0 L0)) 0 0 (mw_fr G) := by
  refine mw_enter (by decide) (Nat.le_of_ble_eq_true rfl) ?_
  intro p e s m below meth c ls C hr hlocks hnm hw hl
  have hl : lv_has ls 1 [(0, .int a1)] := hl
  have hb17 : ∀ (s0 : Int32) (M : mwM) (L : mwL) (H : Heap) (locs : List Loc) (ls : Array Slot), fX8_isLetter_b17 fu a1 s0 M L = some (r0, M0, L0) → mw_W G ad NF TF FF M L H locs → lv_has ls 1 [] → W p l e ({ frames := 0, cells := 0, slots := 0, locals := 0 }) s m [.int a1].toArray below meth c H locs 0 0 (MQ below (mw_Qi G ad NF TF FF (mw_eqI r0 M0 L0)) [.int a1].toArray s 0 0 (mw_fr G)) (F0 m 17 ls [.int s0]) := by
    intro s0 M L H locs ls hD hw hl
    unfold fX8_isLetter_b17 at hD
    obtain ⟨z1, hD⟩ := g_zz hD
    exact mr_iret C hr hlocks hw (nz_zz z1) (Option.some.inj hD) dX8_isLetter_17
  have hb16 : ∀ (M : mwM) (L : mwL) (H : Heap) (locs : List Loc) (ls : Array Slot), fX8_isLetter_b16 fu a1 M L = some (r0, M0, L0) → mw_W G ad NF TF FF M L H locs → lv_has ls 1 [] → W p l e ({ frames := 0, cells := 0, slots := 0, locals := 0 }) s m [.int a1].toArray below meth c H locs 0 0 (MQ below (mw_Qi G ad NF TF FF (mw_eqI r0 M0 L0)) [.int a1].toArray s 0 0 (mw_fr G)) (F0 m 16 ls []) := by
    intro M L H locs ls hD hw hl
    unfold fX8_isLetter_b16 at hD
    refine lv_iconst (v := 0) C.1.1 C.1.2.1 dX8_isLetter_16 (by decide) ?_
    exact hb17 0 M L _ _ ls hD hw (lv_sub hl [] rfl)
  unfold DX8_isLetter at hD
  refine lv_iload_n C.1.1 C.1.2.1 dX8_isLetter_0 rfl (lv_at hl 0 rfl) ?_
  refine lv_bipush (v := 97) C.1.1 C.1.2.1 dX8_isLetter_1 (by decide) ?_
  refine lv_icmp_lt (tgt := 16) C.1.1 C.1.2.1 dX8_isLetter_3 (by decide) (fun c2 => ?_) (fun c2 => ?_)
  · replace hD := g_pos c2 hD
    exact hb16 M L _ _ ls hD hw (lv_sub hl [] rfl)
  · replace hD := g_neg c2 hD
    refine lv_iload_n C.1.1 C.1.2.1 dX8_isLetter_6 rfl (lv_at hl 0 rfl) ?_
    refine lv_bipush (v := 122) C.1.1 C.1.2.1 dX8_isLetter_7 (by decide) ?_
    refine lv_icmp_gt (tgt := 16) C.1.1 C.1.2.1 dX8_isLetter_9 (by decide) (fun c3 => ?_) (fun c3 => ?_)
    · replace hD := g_pos c3 hD
      exact hb16 M L _ _ ls hD hw (lv_sub hl [] rfl)
    · replace hD := g_neg c3 hD
      refine lv_iconst (v := 1) C.1.1 C.1.2.1 dX8_isLetter_12 (by decide) ?_
      refine lv_goto (tgt := 17) C.1.1 C.1.2.1 dX8_isLetter_13 (by decide) ?_
      exact hb17 1 M L _ _ ls hD hw (lv_sub hl [] rfl)

theorem dX8_isDigit_0 : decode cX8_isDigit 0 = .ok (.iload_n 0, 1) := by decide +kernel
theorem dX8_isDigit_1 : decode cX8_isDigit 1 = .ok (.bipush 48, 2) := by decide +kernel
theorem dX8_isDigit_3 : decode cX8_isDigit 3 = .ok (.if_icmp .lt 13, 3) := by decide +kernel
theorem dX8_isDigit_6 : decode cX8_isDigit 6 = .ok (.iload_n 0, 1) := by decide +kernel
theorem dX8_isDigit_7 : decode cX8_isDigit 7 = .ok (.bipush 57, 2) := by decide +kernel
theorem dX8_isDigit_9 : decode cX8_isDigit 9 = .ok (.if_icmp .gt 7, 3) := by decide +kernel
theorem dX8_isDigit_12 : decode cX8_isDigit 12 = .ok (.iconst 1, 1) := by decide +kernel
theorem dX8_isDigit_13 : decode cX8_isDigit 13 = .ok (.goto 4, 3) := by decide +kernel
theorem dX8_isDigit_16 : decode cX8_isDigit 16 = .ok (.iconst 0, 1) := by decide +kernel
theorem dX8_isDigit_17 : decode cX8_isDigit 17 = .ok (.ireturn, 1) := by decide +kernel
theorem cwX8_isDigit : mw_cwS yX8_isDigit cX8_isDigit 1 ((some .boolean)) 1 := ⟨⟨wd_2, wd_912, by decide +kernel⟩, wd_911⟩
set_option maxHeartbeats 4000000 in
set_option maxRecDepth 100000 in
theorem tX8_isDigit (l : Launch) (G : mwG) (ad : Nat → Nat) (fu : Nat) (a1 : Int32) (M : mwM) (L : mwL) {r0 : Int32} {M0 : mwM} {L0 : mwL} (hD : DX8_isDigit fu a1 M L = some (r0, M0, L0)) : Met l yX8_isDigit (Cond.code yX8_isDigit cX8_isDigit 1 ((some .boolean)) :: GT) ({ frames := 0, cells := 0, slots := 0, locals := 0 }) (mw_Pre G ad NF TF FF M L [.int a1]) (mw_Qi G ad NF TF FF (mw_eqI r0 M0 L0)) 0 0 (mw_fr G) := by
  refine mw_enter (by decide) (Nat.le_of_ble_eq_true rfl) ?_
  intro p e s m below meth c ls C hr hlocks hnm hw hl
  have hl : lv_has ls 1 [(0, .int a1)] := hl
  have hb17 : ∀ (s0 : Int32) (M : mwM) (L : mwL) (H : Heap) (locs : List Loc) (ls : Array Slot), fX8_isDigit_b17 fu a1 s0 M L = some (r0, M0, L0) → mw_W G ad NF TF FF M L H locs → lv_has ls 1 [] → W p l e ({ frames := 0, cells := 0, slots := 0, locals := 0 }) s m [.int a1].toArray below meth c H locs 0 0 (MQ below (mw_Qi G ad NF TF FF (mw_eqI r0 M0 L0)) [.int a1].toArray s 0 0 (mw_fr G)) (F0 m 17 ls [.int s0]) := by
    intro s0 M L H locs ls hD hw hl
    unfold fX8_isDigit_b17 at hD
    obtain ⟨z1, hD⟩ := g_zz hD
    exact mr_iret C hr hlocks hw (nz_zz z1) (Option.some.inj hD) dX8_isDigit_17
  have hb16 : ∀ (M : mwM) (L : mwL) (H : Heap) (locs : List Loc) (ls : Array Slot), fX8_isDigit_b16 fu a1 M L = some (r0, M0, L0) → mw_W G ad NF TF FF M L H locs → lv_has ls 1 [] → W p l e ({ frames := 0, cells := 0, slots := 0, locals := 0 }) s m [.int a1].toArray below meth c H locs 0 0 (MQ below (mw_Qi G ad NF TF FF (mw_eqI r0 M0 L0)) [.int a1].toArray s 0 0 (mw_fr G)) (F0 m 16 ls []) := by
    intro M L H locs ls hD hw hl
    unfold fX8_isDigit_b16 at hD
    refine lv_iconst (v := 0) C.1.1 C.1.2.1 dX8_isDigit_16 (by decide) ?_
    exact hb17 0 M L _ _ ls hD hw (lv_sub hl [] rfl)
  unfold DX8_isDigit at hD
  refine lv_iload_n C.1.1 C.1.2.1 dX8_isDigit_0 rfl (lv_at hl 0 rfl) ?_
  refine lv_bipush (v := 48) C.1.1 C.1.2.1 dX8_isDigit_1 (by decide) ?_
  refine lv_icmp_lt (tgt := 16) C.1.1 C.1.2.1 dX8_isDigit_3 (by decide) (fun c2 => ?_) (fun c2 => ?_)
  · replace hD := g_pos c2 hD
    exact hb16 M L _ _ ls hD hw (lv_sub hl [] rfl)
  · replace hD := g_neg c2 hD
    refine lv_iload_n C.1.1 C.1.2.1 dX8_isDigit_6 rfl (lv_at hl 0 rfl) ?_
    refine lv_bipush (v := 57) C.1.1 C.1.2.1 dX8_isDigit_7 (by decide) ?_
    refine lv_icmp_gt (tgt := 16) C.1.1 C.1.2.1 dX8_isDigit_9 (by decide) (fun c3 => ?_) (fun c3 => ?_)
    · replace hD := g_pos c3 hD
      exact hb16 M L _ _ ls hD hw (lv_sub hl [] rfl)
    · replace hD := g_neg c3 hD
      refine lv_iconst (v := 1) C.1.1 C.1.2.1 dX8_isDigit_12 (by decide) ?_
      refine lv_goto (tgt := 17) C.1.1 C.1.2.1 dX8_isDigit_13 (by decide) ?_
      exact hb17 1 M L _ _ ls hD hw (lv_sub hl [] rfl)

theorem dX8_isName_0 : decode cX8_isName 0 = .ok (.aload_n 0, 1) := by decide +kernel
theorem dX8_isName_1 : decode cX8_isName 1 = .ok (.getfield 56, 3) := by decide +kernel
theorem dX8_isName_4 : decode cX8_isName 4 = .ok (.iconst 1, 1) := by decide +kernel
theorem dX8_isName_5 : decode cX8_isName 5 = .ok (.if_icmp .lt 27, 3) := by decide +kernel
theorem dX8_isName_8 : decode cX8_isName 8 = .ok (.aload_n 0, 1) := by decide +kernel
theorem dX8_isName_9 : decode cX8_isName 9 = .ok (.getfield 56, 3) := by decide +kernel
theorem dX8_isName_12 : decode cX8_isName 12 = .ok (.bipush 10, 2) := by decide +kernel
theorem dX8_isName_14 : decode cX8_isName 14 = .ok (.if_icmp .gt 18, 3) := by decide +kernel
theorem dX8_isName_17 : decode cX8_isName 17 = .ok (.aload_n 0, 1) := by decide +kernel
theorem dX8_isName_18 : decode cX8_isName 18 = .ok (.getfield 9, 3) := by decide +kernel
theorem dX8_isName_21 : decode cX8_isName 21 = .ok (.aload_n 0, 1) := by decide +kernel
theorem dX8_isName_22 : decode cX8_isName 22 = .ok (.getfield 50, 3) := by decide +kernel
theorem dX8_isName_25 : decode cX8_isName 25 = .ok (.caload, 1) := by decide +kernel
theorem dX8_isName_26 : decode cX8_isName 26 = .ok (.invokestatic 313, 3) := by decide +kernel
theorem dX8_isName_29 : decode cX8_isName 29 = .ok (.ifCond .ne 5, 3) := by decide +kernel
theorem dX8_isName_32 : decode cX8_isName 32 = .ok (.iconst 0, 1) := by decide +kernel
theorem dX8_isName_33 : decode cX8_isName 33 = .ok (.ireturn, 1) := by decide +kernel
theorem dX8_isName_34 : decode cX8_isName 34 = .ok (.iconst 1, 1) := by decide +kernel
theorem dX8_isName_35 : decode cX8_isName 35 = .ok (.istore_n 1, 1) := by decide +kernel
theorem dX8_isName_36 : decode cX8_isName 36 = .ok (.iload_n 1, 1) := by decide +kernel
theorem dX8_isName_37 : decode cX8_isName 37 = .ok (.aload_n 0, 1) := by decide +kernel
theorem dX8_isName_38 : decode cX8_isName 38 = .ok (.getfield 56, 3) := by decide +kernel
theorem dX8_isName_41 : decode cX8_isName 41 = .ok (.if_icmp .ge 45, 3) := by decide +kernel
theorem dX8_isName_44 : decode cX8_isName 44 = .ok (.aload_n 0, 1) := by decide +kernel
theorem dX8_isName_45 : decode cX8_isName 45 = .ok (.getfield 9, 3) := by decide +kernel
theorem dX8_isName_48 : decode cX8_isName 48 = .ok (.aload_n 0, 1) := by decide +kernel
theorem dX8_isName_49 : decode cX8_isName 49 = .ok (.getfield 50, 3) := by decide +kernel
theorem dX8_isName_52 : decode cX8_isName 52 = .ok (.iload_n 1, 1) := by decide +kernel
theorem dX8_isName_53 : decode cX8_isName 53 = .ok (.iadd, 1) := by decide +kernel
theorem dX8_isName_54 : decode cX8_isName 54 = .ok (.caload, 1) := by decide +kernel
theorem dX8_isName_55 : decode cX8_isName 55 = .ok (.invokestatic 313, 3) := by decide +kernel
theorem dX8_isName_58 : decode cX8_isName 58 = .ok (.ifCond .ne 22, 3) := by decide +kernel
theorem dX8_isName_61 : decode cX8_isName 61 = .ok (.aload_n 0, 1) := by decide +kernel
theorem dX8_isName_62 : decode cX8_isName 62 = .ok (.getfield 9, 3) := by decide +kernel
theorem dX8_isName_65 : decode cX8_isName 65 = .ok (.aload_n 0, 1) := by decide +kernel
theorem dX8_isName_66 : decode cX8_isName 66 = .ok (.getfield 50, 3) := by decide +kernel
theorem dX8_isName_69 : decode cX8_isName 69 = .ok (.iload_n 1, 1) := by decide +kernel
theorem dX8_isName_70 : decode cX8_isName 70 = .ok (.iadd, 1) := by decide +kernel
theorem dX8_isName_71 : decode cX8_isName 71 = .ok (.caload, 1) := by decide +kernel
theorem dX8_isName_72 : decode cX8_isName 72 = .ok (.invokestatic 317, 3) := by decide +kernel
theorem dX8_isName_75 : decode cX8_isName 75 = .ok (.ifCond .ne 5, 3) := by decide +kernel
theorem dX8_isName_78 : decode cX8_isName 78 = .ok (.iconst 0, 1) := by decide +kernel
theorem dX8_isName_79 : decode cX8_isName 79 = .ok (.ireturn, 1) := by decide +kernel
theorem dX8_isName_80 : decode cX8_isName 80 = .ok (.iinc 1 1, 3) := by decide +kernel
theorem dX8_isName_83 : decode cX8_isName 83 = .ok (.goto (-47), 3) := by decide +kernel
theorem dX8_isName_86 : decode cX8_isName 86 = .ok (.iconst 1, 1) := by decide +kernel
theorem dX8_isName_87 : decode cX8_isName 87 = .ok (.ireturn, 1) := by decide +kernel
theorem cwX8_isName : mw_cwV yX8_isName cX8_isName 2 ((some .boolean)) 0 := ⟨⟨wd_2, wd_906, by decide +kernel⟩, wd_905, sl_9⟩
set_option maxHeartbeats 4000000 in
set_option maxRecDepth 100000 in
theorem tX8_isName (l : Launch) (G : mwG) (ad : Nat → Nat) (fu : Nat) (M : mwM) (L : mwL) {r0 : Int32} {M0 : mwM} {L0 : mwL} (hD : DX8_isName fu M L = some (r0, M0, L0)) : Met l yX8_isName (Cond.code yX8_isName cX8_isName 2 ((some .boolean)) :: GT) ({ frames := 1, cells := 0, slots := 0, locals := 20 }) (mw_Pre G ad NF TF FF M L [.ref (ad 1)]) (mw_Qi G ad NF TF FF (mw_eqI r0 M0 L0)) 0 0 (mw_fr G) := by
  refine mw_enter (by decide) (Nat.le_of_ble_eq_true rfl) ?_
  intro p e s m below meth c ls C hr hlocks hnm hw hl
  have hl : lv_has ls 2 [(0, .ref (ad 1))] := hl
  have hb32 : ∀ (M : mwM) (L : mwL) (H : Heap) (locs : List Loc) (ls : Array Slot), fX8_isName_b32 fu M L = some (r0, M0, L0) → mw_W G ad NF TF FF M L H locs → lv_has ls 2 [] → W p l e ({ frames := 1, cells := 0, slots := 0, locals := 20 }) s m [.ref (ad 1)].toArray below meth c H locs 0 0 (MQ below (mw_Qi G ad NF TF FF (mw_eqI r0 M0 L0)) [.ref (ad 1)].toArray s 0 0 (mw_fr G)) (F0 m 32 ls []) := by
    intro M L H locs ls hD hw hl
    unfold fX8_isName_b32 at hD
    refine lv_iconst (v := 0) C.1.1 C.1.2.1 dX8_isName_32 (by decide) ?_
    exact mr_iret C hr hlocks hw (by decide +kernel) (Option.some.inj hD) dX8_isName_33
  have hh36 : ∀ (f : Nat) (v1 : Int32) (M : mwM) (L : mwL) (H : Heap) (locs : List Loc) (ls : Array Slot), fX8_isName_h36 fu f (v1, M, L) = some (r0, M0, L0) → mw_W G ad NF TF FF M L H locs → lv_has ls 2 [(0, .ref (ad 1)), (1, .int v1)] → W p l e ({ frames := 1, cells := 0, slots := 0, locals := 20 }) s m [.ref (ad 1)].toArray below meth c H locs 0 0 (MQ below (mw_Qi G ad NF TF FF (mw_eqI r0 M0 L0)) [.ref (ad 1)].toArray s 0 0 (mw_fr G)) (F0 m 36 ls []) := by
    intro f
    induction f with
    | zero => intro v1 M L H locs ls hD; cases hD
    | succ f36 ih36 =>
      intro v1 M L H locs ls hD hw hl
      replace hD : fX8_isName_i36 fu (fX8_isName_h36 fu f36) v1 M L = some (r0, M0, L0) := hD
      have hb80 : ∀ (v1 : Int32) (M : mwM) (L : mwL) (H : Heap) (locs : List Loc) (ls : Array Slot), fX8_isName_b80 fu (fX8_isName_h36 fu f36) v1 M L = some (r0, M0, L0) → mw_W G ad NF TF FF M L H locs → lv_has ls 2 [(0, .ref (ad 1)), (1, .int v1)] → W p l e ({ frames := 1, cells := 0, slots := 0, locals := 20 }) s m [.ref (ad 1)].toArray below meth c H locs 0 0 (MQ below (mw_Qi G ad NF TF FF (mw_eqI r0 M0 L0)) [.ref (ad 1)].toArray s 0 0 (mw_fr G)) (F0 m 80 ls []) := by
        intro v1 M L H locs ls hD hw hl
        unfold fX8_isName_b80 at hD
        obtain ⟨x12, ex12, hD⟩ := g_let hD
        refine lv_iinc (v := x12) (lv' := [(1, .int x12), (0, .ref (ad 1))]) C.1.1 C.1.2.1 dX8_isName_80 hl (k := 1) rfl (by rw [ex12]; rfl) (by decide) rfl (fun ls hl => ?_)
        refine lv_goto (tgt := 36) C.1.1 C.1.2.1 dX8_isName_83 (by decide) ?_
        exact ih36 x12 M L _ _ ls hD hw (lv_sub hl [1, 0] rfl)
      unfold fX8_isName_i36 at hD
      refine lv_iload_n C.1.1 C.1.2.1 dX8_isName_36 rfl (lv_at hl 1 rfl) ?_
      refine lv_aload_n C.1.1 C.1.2.1 dX8_isName_37 rfl (lv_at hl 0 rfl) ?_
      refine mr_getI C hw kc_8 9 (by decide) tf_1 wd_604 dX8_isName_38 (by decide) rfl ?_
      refine lv_icmp_ge (tgt := 86) C.1.1 C.1.2.1 dX8_isName_41 (by decide) (fun c1 => ?_) (fun c1 => ?_)
      · replace hD := g_pos c1 hD
        refine lv_iconst (v := 1) C.1.1 C.1.2.1 dX8_isName_86 (by decide) ?_
        exact mr_iret C hr hlocks hw (by decide +kernel) (Option.some.inj hD) dX8_isName_87
      · replace hD := g_neg c1 hD
        refine lv_aload_n C.1.1 C.1.2.1 dX8_isName_44 rfl (lv_at hl 0 rfl) ?_
        refine mr_getR C hw kc_8 0 (by decide) tf_1 ff_1_0 wd_593 dX8_isName_45 (by decide) rfl ?_
        refine lv_aload_n C.1.1 C.1.2.1 dX8_isName_48 rfl (lv_at hl 0 rfl) ?_
        refine mr_getI C hw kc_8 8 (by decide) tf_1 wd_603 dX8_isName_49 (by decide) rfl ?_
        refine lv_iload_n C.1.1 C.1.2.1 dX8_isName_52 rfl (lv_at hl 1 rfl) ?_
        refine lv_iadd C.1.1 C.1.2.1 dX8_isName_53 ?_
        obtain ⟨q2, hD⟩ := g_ck hD
        refine mr_cald C hw (by decide) tf_2 q2 dX8_isName_54 ?_
        obtain ⟨r5, M3, L4, h1, hD⟩ := g_b3 hD
        refine md_csI (As := [.int (M 2 ((M 1 8) + v1).toNatClampNeg)]) (rest := []) C hw (tX8_isLetter l G ad fu (M 2 ((M 1 8) + v1).toNatClampNeg) M L h1) wd_907 cwX8_isLetter ⟨Nat.le_of_ble_eq_true rfl, Nat.le_of_ble_eq_true rfl⟩ rfl hl.1 (Nat.le_of_ble_eq_true rfl) dX8_isName_55 rfl rfl ⟨Nat.zero_le _, Nat.zero_le _⟩ rfl (fun H locs hw => ?_)
        refine lv_if_ne (tgt := 80) C.1.1 C.1.2.1 dX8_isName_58 (by decide) (fun c6 => ?_) (fun c6 => ?_)
        · replace hD := g_neg c6 hD
          exact hb80 v1 M3 L4 _ _ ls hD hw (lv_sub hl [0, 1] rfl)
        · replace hD := g_pos c6 hD
          refine lv_aload_n C.1.1 C.1.2.1 dX8_isName_61 rfl (lv_at hl 0 rfl) ?_
          refine mr_getR C hw kc_8 0 (by decide) tf_1 ff_1_0 wd_593 dX8_isName_62 (by decide) rfl ?_
          refine lv_aload_n C.1.1 C.1.2.1 dX8_isName_65 rfl (lv_at hl 0 rfl) ?_
          refine mr_getI C hw kc_8 8 (by decide) tf_1 wd_603 dX8_isName_66 (by decide) rfl ?_
          refine lv_iload_n C.1.1 C.1.2.1 dX8_isName_69 rfl (lv_at hl 1 rfl) ?_
          refine lv_iadd C.1.1 C.1.2.1 dX8_isName_70 ?_
          obtain ⟨q7, hD⟩ := g_ck hD
          refine mr_cald C hw (by decide) tf_2 q7 dX8_isName_71 ?_
          obtain ⟨r10, M8, L9, h1, hD⟩ := g_b3 hD
          refine md_csI (As := [.int (M3 2 ((M3 1 8) + v1).toNatClampNeg)]) (rest := []) C hw (tX8_isDigit l G ad fu (M3 2 ((M3 1 8) + v1).toNatClampNeg) M3 L4 h1) wd_910 cwX8_isDigit ⟨Nat.le_of_ble_eq_true rfl, Nat.le_of_ble_eq_true rfl⟩ rfl hl.1 (Nat.le_of_ble_eq_true rfl) dX8_isName_72 rfl rfl ⟨Nat.zero_le _, Nat.zero_le _⟩ rfl (fun H locs hw => ?_)
          refine lv_if_ne (tgt := 80) C.1.1 C.1.2.1 dX8_isName_75 (by decide) (fun c11 => ?_) (fun c11 => ?_)
          · replace hD := g_neg c11 hD
            exact hb80 v1 M8 L9 _ _ ls hD hw (lv_sub hl [0, 1] rfl)
          · replace hD := g_pos c11 hD
            refine lv_iconst (v := 0) C.1.1 C.1.2.1 dX8_isName_78 (by decide) ?_
            exact mr_iret C hr hlocks hw (by decide +kernel) (Option.some.inj hD) dX8_isName_79
  unfold DX8_isName at hD
  refine lv_aload_n C.1.1 C.1.2.1 dX8_isName_0 rfl (lv_at hl 0 rfl) ?_
  refine mr_getI C hw kc_8 9 (by decide) tf_1 wd_604 dX8_isName_1 (by decide) rfl ?_
  refine lv_iconst (v := 1) C.1.1 C.1.2.1 dX8_isName_4 (by decide) ?_
  refine lv_icmp_lt (tgt := 32) C.1.1 C.1.2.1 dX8_isName_5 (by decide) (fun c13 => ?_) (fun c13 => ?_)
  · replace hD := g_pos c13 hD
    exact hb32 M L _ _ ls hD hw (lv_sub hl [] rfl)
  · replace hD := g_neg c13 hD
    refine lv_aload_n C.1.1 C.1.2.1 dX8_isName_8 rfl (lv_at hl 0 rfl) ?_
    refine mr_getI C hw kc_8 9 (by decide) tf_1 wd_604 dX8_isName_9 (by decide) rfl ?_
    refine lv_bipush (v := 10) C.1.1 C.1.2.1 dX8_isName_12 (by decide) ?_
    refine lv_icmp_gt (tgt := 32) C.1.1 C.1.2.1 dX8_isName_14 (by decide) (fun c14 => ?_) (fun c14 => ?_)
    · replace hD := g_pos c14 hD
      exact hb32 M L _ _ ls hD hw (lv_sub hl [] rfl)
    · replace hD := g_neg c14 hD
      refine lv_aload_n C.1.1 C.1.2.1 dX8_isName_17 rfl (lv_at hl 0 rfl) ?_
      refine mr_getR C hw kc_8 0 (by decide) tf_1 ff_1_0 wd_593 dX8_isName_18 (by decide) rfl ?_
      refine lv_aload_n C.1.1 C.1.2.1 dX8_isName_21 rfl (lv_at hl 0 rfl) ?_
      refine mr_getI C hw kc_8 8 (by decide) tf_1 wd_603 dX8_isName_22 (by decide) rfl ?_
      obtain ⟨q15, hD⟩ := g_ck hD
      refine mr_cald C hw (by decide) tf_2 q15 dX8_isName_25 ?_
      obtain ⟨r18, M16, L17, h1, hD⟩ := g_b3 hD
      refine md_csI (As := [.int (M 2 (M 1 8).toNatClampNeg)]) (rest := []) C hw (tX8_isLetter l G ad fu (M 2 (M 1 8).toNatClampNeg) M L h1) wd_907 cwX8_isLetter ⟨Nat.le_of_ble_eq_true rfl, Nat.le_of_ble_eq_true rfl⟩ rfl hl.1 (Nat.le_of_ble_eq_true rfl) dX8_isName_26 rfl rfl ⟨Nat.zero_le _, Nat.zero_le _⟩ rfl (fun H locs hw => ?_)
      refine lv_if_ne (tgt := 34) C.1.1 C.1.2.1 dX8_isName_29 (by decide) (fun c19 => ?_) (fun c19 => ?_)
      · replace hD := g_neg c19 hD
        refine lv_iconst (v := 1) C.1.1 C.1.2.1 dX8_isName_34 (by decide) ?_
        refine lv_istore_n (lv' := [(1, .int 1), (0, .ref (ad 1))]) C.1.1 C.1.2.1 dX8_isName_35 rfl hl (by decide) rfl (fun ls hl => ?_)
        exact hh36 fu 1 M16 L17 _ _ ls hD hw (lv_sub hl [1, 0] rfl)
      · replace hD := g_pos c19 hD
        exact hb32 M16 L17 _ _ ls hD hw (lv_sub hl [] rfl)

theorem dX8_isWord_0 : decode cX8_isWord 0 = .ok (.aload_n 1, 1) := by decide +kernel
theorem dX8_isWord_1 : decode cX8_isWord 1 = .ok (.invokevirtual 301, 3) := by decide +kernel
theorem dX8_isWord_4 : decode cX8_isWord 4 = .ok (.aload_n 0, 1) := by decide +kernel
theorem dX8_isWord_5 : decode cX8_isWord 5 = .ok (.getfield 56, 3) := by decide +kernel
theorem dX8_isWord_8 : decode cX8_isWord 8 = .ok (.if_icmp .ne 16, 3) := by decide +kernel
theorem dX8_isWord_11 : decode cX8_isWord 11 = .ok (.aload_n 0, 1) := by decide +kernel
theorem dX8_isWord_12 : decode cX8_isWord 12 = .ok (.aload_n 1, 1) := by decide +kernel
theorem dX8_isWord_13 : decode cX8_isWord 13 = .ok (.iconst 0, 1) := by decide +kernel
theorem dX8_isWord_14 : decode cX8_isWord 14 = .ok (.invokevirtual 305, 3) := by decide +kernel
theorem dX8_isWord_17 : decode cX8_isWord 17 = .ok (.ifCond .eq 7, 3) := by decide +kernel
theorem dX8_isWord_20 : decode cX8_isWord 20 = .ok (.iconst 1, 1) := by decide +kernel
theorem dX8_isWord_21 : decode cX8_isWord 21 = .ok (.goto 4, 3) := by decide +kernel
theorem dX8_isWord_24 : decode cX8_isWord 24 = .ok (.iconst 0, 1) := by decide +kernel
theorem dX8_isWord_25 : decode cX8_isWord 25 = .ok (.ireturn, 1) := by decide +kernel
theorem cwX8_isWord : mw_cwV yX8_isWord cX8_isWord 2 ((some .boolean)) 1 := ⟨⟨wd_2, wd_917, by decide +kernel⟩, wd_916, sl_10⟩
set_option maxHeartbeats 4000000 in
set_option maxRecDepth 100000 in
theorem tX8_isWord (l : Launch) (G : mwG) (ad : Nat → Nat) (fu : Nat) (a1 : Nat) (M : mwM) (L : mwL) {r0 : Int32} {M0 : mwM} {L0 : mwL} (hD : DX8_isWord fu a1 M L = some (r0, M0, L0)) (hs1 : a1 < 8) : Met l yX8_isWord (Cond.code yX8_isWord cX8_isWord 2 ((some .boolean)) :: GT) ({ frames := 5, cells := 0, slots := 0, locals := 108 }) (mw_Pre G ad NF TF FF M L [.ref (ad 1), .ref (G.2.1 1000 a1)]) (mw_Qi G ad NF TF FF (mw_eqI r0 M0 L0)) 0 0 (mw_fr G) := by
  refine mw_enter (by decide) (Nat.le_of_ble_eq_true rfl) ?_
  intro p e s m below meth c ls C hr hlocks hnm hw hl
  have hl : lv_has ls 2 [(0, .ref (ad 1)), (1, .ref (G.2.1 1000 a1))] := hl
  have hb25 : ∀ (s0 : Int32) (M : mwM) (L : mwL) (H : Heap) (locs : List Loc) (ls : Array Slot), fX8_isWord_b25 fu a1 s0 M L = some (r0, M0, L0) → mw_W G ad NF TF FF M L H locs → lv_has ls 2 [] → W p l e ({ frames := 5, cells := 0, slots := 0, locals := 108 }) s m [.ref (ad 1), .ref (G.2.1 1000 a1)].toArray below meth c H locs 0 0 (MQ below (mw_Qi G ad NF TF FF (mw_eqI r0 M0 L0)) [.ref (ad 1), .ref (G.2.1 1000 a1)].toArray s 0 0 (mw_fr G)) (F0 m 25 ls [.int s0]) := by
    intro s0 M L H locs ls hD hw hl
    unfold fX8_isWord_b25 at hD
    obtain ⟨z1, hD⟩ := g_zz hD
    exact mr_iret C hr hlocks hw (nz_zz z1) (Option.some.inj hD) dX8_isWord_25
  have hb24 : ∀ (M : mwM) (L : mwL) (H : Heap) (locs : List Loc) (ls : Array Slot), fX8_isWord_b24 fu a1 M L = some (r0, M0, L0) → mw_W G ad NF TF FF M L H locs → lv_has ls 2 [] → W p l e ({ frames := 5, cells := 0, slots := 0, locals := 108 }) s m [.ref (ad 1), .ref (G.2.1 1000 a1)].toArray below meth c H locs 0 0 (MQ below (mw_Qi G ad NF TF FF (mw_eqI r0 M0 L0)) [.ref (ad 1), .ref (G.2.1 1000 a1)].toArray s 0 0 (mw_fr G)) (F0 m 24 ls []) := by
    intro M L H locs ls hD hw hl
    unfold fX8_isWord_b24 at hD
    refine lv_iconst (v := 0) C.1.1 C.1.2.1 dX8_isWord_24 (by decide) ?_
    exact hb25 0 M L _ _ ls hD hw (lv_sub hl [] rfl)
  unfold DX8_isWord at hD
  refine lv_aload_n C.1.1 C.1.2.1 dX8_isWord_0 rfl (lv_at hl 1 rfl) ?_
  refine md_kvI (As := []) (rest := []) C hw (tJ_len l G ad NF TF FF M L hs1) rfl hs1 wd_843 cwJ_len ⟨Nat.le_of_ble_eq_true rfl, Nat.le_of_ble_eq_true rfl⟩ rfl hl.1 (Nat.le_of_ble_eq_true rfl) dX8_isWord_1 rfl rfl ⟨Nat.zero_le _, Nat.zero_le _⟩ rfl (fun H locs hw => ?_)
  refine lv_aload_n C.1.1 C.1.2.1 dX8_isWord_4 rfl (lv_at hl 0 rfl) ?_
  refine mr_getI C hw kc_8 9 (by decide) tf_1 wd_604 dX8_isWord_5 (by decide) rfl ?_
  refine lv_icmp_ne (tgt := 24) C.1.1 C.1.2.1 dX8_isWord_8 (by decide) (fun c2 => ?_) (fun c2 => ?_)
  · replace hD := g_neg c2 hD
    exact hb24 M L _ _ ls hD hw (lv_sub hl [] rfl)
  · replace hD := g_pos c2 hD
    refine lv_aload_n C.1.1 C.1.2.1 dX8_isWord_11 rfl (lv_at hl 0 rfl) ?_
    refine lv_aload_n C.1.1 C.1.2.1 dX8_isWord_12 rfl (lv_at hl 1 rfl) ?_
    refine lv_iconst (v := 0) C.1.1 C.1.2.1 dX8_isWord_13 (by decide) ?_
    obtain ⟨r5, M3, L4, h1, hD⟩ := g_b3 hD
    refine md_cvI (As := [.ref (G.2.1 1000 a1), .int 0]) (rest := []) C hw (tX8_standsAt l G ad fu a1 0 M L h1 hs1) kc_8 (by decide) tf_1 wd_891 cwX8_standsAt ⟨Nat.le_of_ble_eq_true rfl, Nat.le_of_ble_eq_true rfl⟩ rfl hl.1 (Nat.le_of_ble_eq_true rfl) dX8_isWord_14 rfl rfl ⟨Nat.zero_le _, Nat.zero_le _⟩ rfl (fun H locs hw => ?_)
    refine lv_if_eq (tgt := 24) C.1.1 C.1.2.1 dX8_isWord_17 (by decide) (fun c6 => ?_) (fun c6 => ?_)
    · replace hD := g_pos c6 hD
      exact hb24 M3 L4 _ _ ls hD hw (lv_sub hl [] rfl)
    · replace hD := g_neg c6 hD
      refine lv_iconst (v := 1) C.1.1 C.1.2.1 dX8_isWord_20 (by decide) ?_
      refine lv_goto (tgt := 25) C.1.1 C.1.2.1 dX8_isWord_21 (by decide) ?_
      exact hb25 1 M3 L4 _ _ ls hD hw (lv_sub hl [] rfl)

theorem dX8_fail_0 : decode cX8_fail 0 = .ok (.aload_n 0, 1) := by decide +kernel
theorem dX8_fail_1 : decode cX8_fail 1 = .ok (.getfield 34, 3) := by decide +kernel
theorem dX8_fail_4 : decode cX8_fail 4 = .ok (.ifCond .ne 13, 3) := by decide +kernel
theorem dX8_fail_7 : decode cX8_fail 7 = .ok (.aload_n 0, 1) := by decide +kernel
theorem dX8_fail_8 : decode cX8_fail 8 = .ok (.iload_n 1, 1) := by decide +kernel
theorem dX8_fail_9 : decode cX8_fail 9 = .ok (.putfield 34, 3) := by decide +kernel
theorem dX8_fail_12 : decode cX8_fail 12 = .ok (.aload_n 0, 1) := by decide +kernel
theorem dX8_fail_13 : decode cX8_fail 13 = .ok (.iload_n 2, 1) := by decide +kernel
theorem dX8_fail_14 : decode cX8_fail 14 = .ok (.putfield 37, 3) := by decide +kernel
theorem dX8_fail_17 : decode cX8_fail 17 = .ok (.return_, 1) := by decide +kernel
theorem cwX8_fail : mw_cwV yX8_fail cX8_fail 3 (none) 2 := ⟨⟨wd_2, wd_921, by decide +kernel⟩, wd_920, sl_11⟩
set_option maxHeartbeats 4000000 in
set_option maxRecDepth 100000 in
theorem tX8_fail (l : Launch) (G : mwG) (ad : Nat → Nat) (fu : Nat) (a1 : Int32) (a2 : Int32) (M : mwM) (L : mwL) {M0 : mwM} {L0 : mwL} (hD : DX8_fail fu a1 a2 M L = some (M0, L0)) : Met l yX8_fail (Cond.code yX8_fail cX8_fail 3 (none) :: GT) ({ frames := 0, cells := 0, slots := 0, locals := 0 }) (mw_Pre G ad NF TF FF M L [.ref (ad 1), .int a1, .int a2]) (mw_Qv G ad NF TF FF (mw_eqV M0 L0)) 0 0 (mw_fr G) := by
  refine mw_enter (by decide) (Nat.le_of_ble_eq_true rfl) ?_
  intro p e s m below meth c ls C hr hlocks hnm hw hl
  have hl : lv_has ls 3 [(0, .ref (ad 1)), (1, .int a1), (2, .int a2)] := hl
  have hb17 : ∀ (M : mwM) (L : mwL) (H : Heap) (locs : List Loc) (ls : Array Slot), fX8_fail_b17 fu a1 a2 M L = some (M0, L0) → mw_W G ad NF TF FF M L H locs → lv_has ls 3 [] → W p l e ({ frames := 0, cells := 0, slots := 0, locals := 0 }) s m [.ref (ad 1), .int a1, .int a2].toArray below meth c H locs 0 0 (MQ below (mw_Qv G ad NF TF FF (mw_eqV M0 L0)) [.ref (ad 1), .int a1, .int a2].toArray s 0 0 (mw_fr G)) (F0 m 17 ls []) := by
    intro M L H locs ls hD hw hl
    unfold fX8_fail_b17 at hD
    exact mr_vret C hr hlocks hw (Option.some.inj hD) dX8_fail_17
  unfold DX8_fail at hD
  refine lv_aload_n C.1.1 C.1.2.1 dX8_fail_0 rfl (lv_at hl 0 rfl) ?_
  refine mr_getI C hw kc_8 12 (by decide) tf_1 wd_607 dX8_fail_1 (by decide) rfl ?_
  refine lv_if_ne (tgt := 17) C.1.1 C.1.2.1 dX8_fail_4 (by decide) (fun c1 => ?_) (fun c1 => ?_)
  · replace hD := g_neg c1 hD
    exact hb17 M L _ _ ls hD hw (lv_sub hl [] rfl)
  · replace hD := g_pos c1 hD
    refine lv_aload_n C.1.1 C.1.2.1 dX8_fail_7 rfl (lv_at hl 0 rfl) ?_
    refine lv_iload_n C.1.1 C.1.2.1 dX8_fail_8 rfl (lv_at hl 1 rfl) ?_
    obtain ⟨M2, eM2, hD⟩ := g_let hD
    refine mr_putI C hw kc_8 12 (by decide) tf_1 wd_607 dX8_fail_9 (by decide) rfl rfl rfl rfl (fun H locs hw => ?_)
    replace hw : mw_W G ad NF TF FF M2 L H locs := by rw [eM2]; exact hw
    refine lv_aload_n C.1.1 C.1.2.1 dX8_fail_12 rfl (lv_at hl 0 rfl) ?_
    refine lv_iload_n C.1.1 C.1.2.1 dX8_fail_13 rfl (lv_at hl 2 rfl) ?_
    obtain ⟨M3, eM3, hD⟩ := g_let hD
    refine mr_putI C hw kc_8 13 (by decide) tf_1 wd_609 dX8_fail_14 (by decide) rfl rfl rfl rfl (fun H locs hw => ?_)
    replace hw : mw_W G ad NF TF FF M3 L H locs := by rw [eM3]; exact hw
    exact hb17 M3 L _ _ ls hD hw (lv_sub hl [] rfl)

theorem dX8_isSame_0 : decode cX8_isSame 0 = .ok (.iconst 0, 1) := by decide +kernel
theorem dX8_isSame_1 : decode cX8_isSame 1 = .ok (.istore_n 2, 1) := by decide +kernel
theorem dX8_isSame_2 : decode cX8_isSame 2 = .ok (.iload_n 2, 1) := by decide +kernel
theorem dX8_isSame_3 : decode cX8_isSame 3 = .ok (.aload_n 0, 1) := by decide +kernel
theorem dX8_isSame_4 : decode cX8_isSame 4 = .ok (.getfield 56, 3) := by decide +kernel
theorem dX8_isSame_7 : decode cX8_isSame 7 = .ok (.if_icmp .ge 33, 3) := by decide +kernel
theorem dX8_isSame_10 : decode cX8_isSame 10 = .ok (.aload_n 0, 1) := by decide +kernel
theorem dX8_isSame_11 : decode cX8_isSame 11 = .ok (.getfield 9, 3) := by decide +kernel
theorem dX8_isSame_14 : decode cX8_isSame 14 = .ok (.iload_n 1, 1) := by decide +kernel
theorem dX8_isSame_15 : decode cX8_isSame 15 = .ok (.iload_n 2, 1) := by decide +kernel
theorem dX8_isSame_16 : decode cX8_isSame 16 = .ok (.iadd, 1) := by decide +kernel
theorem dX8_isSame_17 : decode cX8_isSame 17 = .ok (.caload, 1) := by decide +kernel
theorem dX8_isSame_18 : decode cX8_isSame 18 = .ok (.aload_n 0, 1) := by decide +kernel
theorem dX8_isSame_19 : decode cX8_isSame 19 = .ok (.getfield 9, 3) := by decide +kernel
theorem dX8_isSame_22 : decode cX8_isSame 22 = .ok (.aload_n 0, 1) := by decide +kernel
theorem dX8_isSame_23 : decode cX8_isSame 23 = .ok (.getfield 50, 3) := by decide +kernel
theorem dX8_isSame_26 : decode cX8_isSame 26 = .ok (.iload_n 2, 1) := by decide +kernel
theorem dX8_isSame_27 : decode cX8_isSame 27 = .ok (.iadd, 1) := by decide +kernel
theorem dX8_isSame_28 : decode cX8_isSame 28 = .ok (.caload, 1) := by decide +kernel
theorem dX8_isSame_29 : decode cX8_isSame 29 = .ok (.if_icmp .eq 5, 3) := by decide +kernel
theorem dX8_isSame_32 : decode cX8_isSame 32 = .ok (.iconst 0, 1) := by decide +kernel
theorem dX8_isSame_33 : decode cX8_isSame 33 = .ok (.ireturn, 1) := by decide +kernel
theorem dX8_isSame_34 : decode cX8_isSame 34 = .ok (.iinc 2 1, 3) := by decide +kernel
theorem dX8_isSame_37 : decode cX8_isSame 37 = .ok (.goto (-35), 3) := by decide +kernel
theorem dX8_isSame_40 : decode cX8_isSame 40 = .ok (.iconst 1, 1) := by decide +kernel
theorem dX8_isSame_41 : decode cX8_isSame 41 = .ok (.ireturn, 1) := by decide +kernel
theorem cwX8_isSame : mw_cwV yX8_isSame cX8_isSame 3 ((some .boolean)) 1 := ⟨⟨wd_2, wd_929, by decide +kernel⟩, wd_928, sl_13⟩
set_option maxHeartbeats 4000000 in
set_option maxRecDepth 100000 in
theorem tX8_isSame (l : Launch) (G : mwG) (ad : Nat → Nat) (fu : Nat) (a1 : Int32) (M : mwM) (L : mwL) {r0 : Int32} {M0 : mwM} {L0 : mwL} (hD : DX8_isSame fu a1 M L = some (r0, M0, L0)) : Met l yX8_isSame (Cond.code yX8_isSame cX8_isSame 3 ((some .boolean)) :: GT) ({ frames := 0, cells := 0, slots := 0, locals := 0 }) (mw_Pre G ad NF TF FF M L [.ref (ad 1), .int a1]) (mw_Qi G ad NF TF FF (mw_eqI r0 M0 L0)) 0 0 (mw_fr G) := by
  refine mw_enter (by decide) (Nat.le_of_ble_eq_true rfl) ?_
  intro p e s m below meth c ls C hr hlocks hnm hw hl
  have hl : lv_has ls 3 [(0, .ref (ad 1)), (1, .int a1)] := hl
  have hh2 : ∀ (f : Nat) (v2 : Int32) (M : mwM) (L : mwL) (H : Heap) (locs : List Loc) (ls : Array Slot), fX8_isSame_h2 fu a1 f (v2, M, L) = some (r0, M0, L0) → mw_W G ad NF TF FF M L H locs → lv_has ls 3 [(0, .ref (ad 1)), (1, .int a1), (2, .int v2)] → W p l e ({ frames := 0, cells := 0, slots := 0, locals := 0 }) s m [.ref (ad 1), .int a1].toArray below meth c H locs 0 0 (MQ below (mw_Qi G ad NF TF FF (mw_eqI r0 M0 L0)) [.ref (ad 1), .int a1].toArray s 0 0 (mw_fr G)) (F0 m 2 ls []) := by
    intro f
    induction f with
    | zero => intro v2 M L H locs ls hD; cases hD
    | succ f2 ih2 =>
      intro v2 M L H locs ls hD hw hl
      replace hD : fX8_isSame_i2 fu a1 (fX8_isSame_h2 fu a1 f2) v2 M L = some (r0, M0, L0) := hD
      unfold fX8_isSame_i2 at hD
      refine lv_iload_n C.1.1 C.1.2.1 dX8_isSame_2 rfl (lv_at hl 2 rfl) ?_
      refine lv_aload_n C.1.1 C.1.2.1 dX8_isSame_3 rfl (lv_at hl 0 rfl) ?_
      refine mr_getI C hw kc_8 9 (by decide) tf_1 wd_604 dX8_isSame_4 (by decide) rfl ?_
      refine lv_icmp_ge (tgt := 40) C.1.1 C.1.2.1 dX8_isSame_7 (by decide) (fun c1 => ?_) (fun c1 => ?_)
      · replace hD := g_pos c1 hD
        refine lv_iconst (v := 1) C.1.1 C.1.2.1 dX8_isSame_40 (by decide) ?_
        exact mr_iret C hr hlocks hw (by decide +kernel) (Option.some.inj hD) dX8_isSame_41
      · replace hD := g_neg c1 hD
        refine lv_aload_n C.1.1 C.1.2.1 dX8_isSame_10 rfl (lv_at hl 0 rfl) ?_
        refine mr_getR C hw kc_8 0 (by decide) tf_1 ff_1_0 wd_593 dX8_isSame_11 (by decide) rfl ?_
        refine lv_iload_n C.1.1 C.1.2.1 dX8_isSame_14 rfl (lv_at hl 1 rfl) ?_
        refine lv_iload_n C.1.1 C.1.2.1 dX8_isSame_15 rfl (lv_at hl 2 rfl) ?_
        refine lv_iadd C.1.1 C.1.2.1 dX8_isSame_16 ?_
        obtain ⟨q2, hD⟩ := g_ck hD
        refine mr_cald C hw (by decide) tf_2 q2 dX8_isSame_17 ?_
        refine lv_aload_n C.1.1 C.1.2.1 dX8_isSame_18 rfl (lv_at hl 0 rfl) ?_
        refine mr_getR C hw kc_8 0 (by decide) tf_1 ff_1_0 wd_593 dX8_isSame_19 (by decide) rfl ?_
        refine lv_aload_n C.1.1 C.1.2.1 dX8_isSame_22 rfl (lv_at hl 0 rfl) ?_
        refine mr_getI C hw kc_8 8 (by decide) tf_1 wd_603 dX8_isSame_23 (by decide) rfl ?_
        refine lv_iload_n C.1.1 C.1.2.1 dX8_isSame_26 rfl (lv_at hl 2 rfl) ?_
        refine lv_iadd C.1.1 C.1.2.1 dX8_isSame_27 ?_
        obtain ⟨q3, hD⟩ := g_ck hD
        refine mr_cald C hw (by decide) tf_2 q3 dX8_isSame_28 ?_
        refine lv_icmp_eq (tgt := 34) C.1.1 C.1.2.1 dX8_isSame_29 (by decide) (fun c4 => ?_) (fun c4 => ?_)
        · replace hD := g_pos c4 hD
          obtain ⟨x5, ex5, hD⟩ := g_let hD
          refine lv_iinc (v := x5) (lv' := [(2, .int x5), (0, .ref (ad 1)), (1, .int a1)]) C.1.1 C.1.2.1 dX8_isSame_34 hl (k := 2) rfl (by rw [ex5]; rfl) (by decide) rfl (fun ls hl => ?_)
          refine lv_goto (tgt := 2) C.1.1 C.1.2.1 dX8_isSame_37 (by decide) ?_
          exact ih2 x5 M L _ _ ls hD hw (lv_sub hl [1, 2, 0] rfl)
        · replace hD := g_neg c4 hD
          refine lv_iconst (v := 0) C.1.1 C.1.2.1 dX8_isSame_32 (by decide) ?_
          exact mr_iret C hr hlocks hw (by decide +kernel) (Option.some.inj hD) dX8_isSame_33
  unfold DX8_isSame at hD
  refine lv_iconst (v := 0) C.1.1 C.1.2.1 dX8_isSame_0 (by decide) ?_
  refine lv_istore_n (lv' := [(2, .int 0), (0, .ref (ad 1)), (1, .int a1)]) C.1.1 C.1.2.1 dX8_isSame_1 rfl hl (by decide) rfl (fun ls hl => ?_)
  exact hh2 fu 0 M L _ _ ls hD hw (lv_sub hl [1, 2, 0] rfl)

theorem dX8_findName_0 : decode cX8_findName 0 = .ok (.iconst 0, 1) := by decide +kernel
theorem dX8_findName_1 : decode cX8_findName 1 = .ok (.istore_n 2, 1) := by decide +kernel
theorem dX8_findName_2 : decode cX8_findName 2 = .ok (.iload_n 2, 1) := by decide +kernel
theorem dX8_findName_3 : decode cX8_findName 3 = .ok (.aload_n 0, 1) := by decide +kernel
theorem dX8_findName_4 : decode cX8_findName 4 = .ok (.getfield 31, 3) := by decide +kernel
theorem dX8_findName_7 : decode cX8_findName 7 = .ok (.if_icmp .ge 53, 3) := by decide +kernel
theorem dX8_findName_10 : decode cX8_findName 10 = .ok (.aload_n 0, 1) := by decide +kernel
theorem dX8_findName_11 : decode cX8_findName 11 = .ok (.getfield 24, 3) := by decide +kernel
theorem dX8_findName_14 : decode cX8_findName 14 = .ok (.iconst 0, 1) := by decide +kernel
theorem dX8_findName_15 : decode cX8_findName 15 = .ok (.aaload, 1) := by decide +kernel
theorem dX8_findName_16 : decode cX8_findName 16 = .ok (.iload_n 2, 1) := by decide +kernel
theorem dX8_findName_17 : decode cX8_findName 17 = .ok (.iaload, 1) := by decide +kernel
theorem dX8_findName_18 : decode cX8_findName 18 = .ok (.iload_n 1, 1) := by decide +kernel
theorem dX8_findName_19 : decode cX8_findName 19 = .ok (.if_icmp .ne 35, 3) := by decide +kernel
theorem dX8_findName_22 : decode cX8_findName 22 = .ok (.aload_n 0, 1) := by decide +kernel
theorem dX8_findName_23 : decode cX8_findName 23 = .ok (.getfield 24, 3) := by decide +kernel
theorem dX8_findName_26 : decode cX8_findName 26 = .ok (.iconst 2, 1) := by decide +kernel
theorem dX8_findName_27 : decode cX8_findName 27 = .ok (.aaload, 1) := by decide +kernel
theorem dX8_findName_28 : decode cX8_findName 28 = .ok (.iload_n 2, 1) := by decide +kernel
theorem dX8_findName_29 : decode cX8_findName 29 = .ok (.iaload, 1) := by decide +kernel
theorem dX8_findName_30 : decode cX8_findName 30 = .ok (.aload_n 0, 1) := by decide +kernel
theorem dX8_findName_31 : decode cX8_findName 31 = .ok (.getfield 56, 3) := by decide +kernel
theorem dX8_findName_34 : decode cX8_findName 34 = .ok (.if_icmp .ne 20, 3) := by decide +kernel
theorem dX8_findName_37 : decode cX8_findName 37 = .ok (.aload_n 0, 1) := by decide +kernel
theorem dX8_findName_38 : decode cX8_findName 38 = .ok (.aload_n 0, 1) := by decide +kernel
theorem dX8_findName_39 : decode cX8_findName 39 = .ok (.getfield 24, 3) := by decide +kernel
theorem dX8_findName_42 : decode cX8_findName 42 = .ok (.iconst 1, 1) := by decide +kernel
theorem dX8_findName_43 : decode cX8_findName 43 = .ok (.aaload, 1) := by decide +kernel
theorem dX8_findName_44 : decode cX8_findName 44 = .ok (.iload_n 2, 1) := by decide +kernel
theorem dX8_findName_45 : decode cX8_findName 45 = .ok (.iaload, 1) := by decide +kernel
theorem dX8_findName_46 : decode cX8_findName 46 = .ok (.invokevirtual 297, 3) := by decide +kernel
theorem dX8_findName_49 : decode cX8_findName 49 = .ok (.ifCond .eq 5, 3) := by decide +kernel
theorem dX8_findName_52 : decode cX8_findName 52 = .ok (.iload_n 2, 1) := by decide +kernel
theorem dX8_findName_53 : decode cX8_findName 53 = .ok (.ireturn, 1) := by decide +kernel
theorem dX8_findName_54 : decode cX8_findName 54 = .ok (.iinc 2 1, 3) := by decide +kernel
theorem dX8_findName_57 : decode cX8_findName 57 = .ok (.goto (-55), 3) := by decide +kernel
theorem dX8_findName_60 : decode cX8_findName 60 = .ok (.iconst (-1), 1) := by decide +kernel
theorem dX8_findName_61 : decode cX8_findName 61 = .ok (.ireturn, 1) := by decide +kernel
theorem cwX8_findName : mw_cwV yX8_findName cX8_findName 3 ((some .int)) 1 := ⟨⟨wd_2, wd_925, by decide +kernel⟩, wd_924, sl_12⟩
set_option maxHeartbeats 4000000 in
set_option maxRecDepth 100000 in
theorem tX8_findName (l : Launch) (G : mwG) (ad : Nat → Nat) (fu : Nat) (a1 : Int32) (M : mwM) (L : mwL) {r0 : Int32} {M0 : mwM} {L0 : mwL} (hD : DX8_findName fu a1 M L = some (r0, M0, L0)) : Met l yX8_findName (Cond.code yX8_findName cX8_findName 3 ((some .int)) :: GT) ({ frames := 1, cells := 0, slots := 0, locals := 22 }) (mw_Pre G ad NF TF FF M L [.ref (ad 1), .int a1]) (mw_Qi G ad NF TF FF (mw_eqI r0 M0 L0)) 0 0 (mw_fr G) := by
  refine mw_enter (by decide) (Nat.le_of_ble_eq_true rfl) ?_
  intro p e s m below meth c ls C hr hlocks hnm hw hl
  have hl : lv_has ls 3 [(0, .ref (ad 1)), (1, .int a1)] := hl
  have hh2 : ∀ (f : Nat) (v2 : Int32) (M : mwM) (L : mwL) (H : Heap) (locs : List Loc) (ls : Array Slot), fX8_findName_h2 fu a1 f (v2, M, L) = some (r0, M0, L0) → mw_W G ad NF TF FF M L H locs → lv_has ls 3 [(0, .ref (ad 1)), (1, .int a1), (2, .int v2)] → W p l e ({ frames := 1, cells := 0, slots := 0, locals := 22 }) s m [.ref (ad 1), .int a1].toArray below meth c H locs 0 0 (MQ below (mw_Qi G ad NF TF FF (mw_eqI r0 M0 L0)) [.ref (ad 1), .int a1].toArray s 0 0 (mw_fr G)) (F0 m 2 ls []) := by
    intro f
    induction f with
    | zero => intro v2 M L H locs ls hD; cases hD
    | succ f2 ih2 =>
      intro v2 M L H locs ls hD hw hl
      replace hD : fX8_findName_i2 fu a1 (fX8_findName_h2 fu a1 f2) v2 M L = some (r0, M0, L0) := hD
      have hb54 : ∀ (v2 : Int32) (M : mwM) (L : mwL) (H : Heap) (locs : List Loc) (ls : Array Slot), fX8_findName_b54 fu a1 (fX8_findName_h2 fu a1 f2) v2 M L = some (r0, M0, L0) → mw_W G ad NF TF FF M L H locs → lv_has ls 3 [(0, .ref (ad 1)), (1, .int a1), (2, .int v2)] → W p l e ({ frames := 1, cells := 0, slots := 0, locals := 22 }) s m [.ref (ad 1), .int a1].toArray below meth c H locs 0 0 (MQ below (mw_Qi G ad NF TF FF (mw_eqI r0 M0 L0)) [.ref (ad 1), .int a1].toArray s 0 0 (mw_fr G)) (F0 m 54 ls []) := by
        intro v2 M L H locs ls hD hw hl
        unfold fX8_findName_b54 at hD
        obtain ⟨x14, ex14, hD⟩ := g_let hD
        refine lv_iinc (v := x14) (lv' := [(2, .int x14), (0, .ref (ad 1)), (1, .int a1)]) C.1.1 C.1.2.1 dX8_findName_54 hl (k := 2) rfl (by rw [ex14]; rfl) (by decide) rfl (fun ls hl => ?_)
        refine lv_goto (tgt := 2) C.1.1 C.1.2.1 dX8_findName_57 (by decide) ?_
        exact ih2 x14 M L _ _ ls hD hw (lv_sub hl [1, 2, 0] rfl)
      unfold fX8_findName_i2 at hD
      refine lv_iload_n C.1.1 C.1.2.1 dX8_findName_2 rfl (lv_at hl 2 rfl) ?_
      refine lv_aload_n C.1.1 C.1.2.1 dX8_findName_3 rfl (lv_at hl 0 rfl) ?_
      refine mr_getI C hw kc_8 3 (by decide) tf_1 wd_597 dX8_findName_4 (by decide) rfl ?_
      refine lv_icmp_ge (tgt := 60) C.1.1 C.1.2.1 dX8_findName_7 (by decide) (fun c1 => ?_) (fun c1 => ?_)
      · replace hD := g_pos c1 hD
        refine lv_iconst (v := (-1)) C.1.1 C.1.2.1 dX8_findName_60 (by decide) ?_
        exact mr_iret C hr hlocks hw rfl (Option.some.inj hD) dX8_findName_61
      · replace hD := g_neg c1 hD
        refine lv_aload_n C.1.1 C.1.2.1 dX8_findName_10 rfl (lv_at hl 0 rfl) ?_
        refine mr_getR C hw kc_8 2 (by decide) tf_1 ff_1_2 wd_596 dX8_findName_11 (by decide) rfl ?_
        refine lv_iconst (v := 0) C.1.1 C.1.2.1 dX8_findName_14 (by decide) ?_
        refine mr_aald C hw (by decide) tf_725 (by decide) (by decide) rfl rfl (show vp_in 0 5 from by unfold vp_in; decide) ff_725_0 dX8_findName_15 ?_
        refine lv_iload_n C.1.1 C.1.2.1 dX8_findName_16 rfl (lv_at hl 2 rfl) ?_
        obtain ⟨q3, hD⟩ := g_ck hD
        refine mr_iald C hw (by decide) tf_726 q3 dX8_findName_17 ?_
        refine lv_iload_n C.1.1 C.1.2.1 dX8_findName_18 rfl (lv_at hl 1 rfl) ?_
        refine lv_icmp_ne (tgt := 54) C.1.1 C.1.2.1 dX8_findName_19 (by decide) (fun c4 => ?_) (fun c4 => ?_)
        · replace hD := g_neg c4 hD
          exact hb54 v2 M L _ _ ls hD hw (lv_sub hl [0, 1, 2] rfl)
        · replace hD := g_pos c4 hD
          refine lv_aload_n C.1.1 C.1.2.1 dX8_findName_22 rfl (lv_at hl 0 rfl) ?_
          refine mr_getR C hw kc_8 2 (by decide) tf_1 ff_1_2 wd_596 dX8_findName_23 (by decide) rfl ?_
          refine lv_iconst (v := 2) C.1.1 C.1.2.1 dX8_findName_26 (by decide) ?_
          refine mr_aald C hw (by decide) tf_725 (by decide) (by decide) rfl rfl (show vp_in 2 5 from by unfold vp_in; decide) ff_725_2 dX8_findName_27 ?_
          refine lv_iload_n C.1.1 C.1.2.1 dX8_findName_28 rfl (lv_at hl 2 rfl) ?_
          obtain ⟨q6, hD⟩ := g_ck hD
          refine mr_iald C hw (by decide) tf_728 q6 dX8_findName_29 ?_
          refine lv_aload_n C.1.1 C.1.2.1 dX8_findName_30 rfl (lv_at hl 0 rfl) ?_
          refine mr_getI C hw kc_8 9 (by decide) tf_1 wd_604 dX8_findName_31 (by decide) rfl ?_
          refine lv_icmp_ne (tgt := 54) C.1.1 C.1.2.1 dX8_findName_34 (by decide) (fun c7 => ?_) (fun c7 => ?_)
          · replace hD := g_neg c7 hD
            exact hb54 v2 M L _ _ ls hD hw (lv_sub hl [0, 1, 2] rfl)
          · replace hD := g_pos c7 hD
            refine lv_aload_n C.1.1 C.1.2.1 dX8_findName_37 rfl (lv_at hl 0 rfl) ?_
            refine lv_aload_n C.1.1 C.1.2.1 dX8_findName_38 rfl (lv_at hl 0 rfl) ?_
            refine mr_getR C hw kc_8 2 (by decide) tf_1 ff_1_2 wd_596 dX8_findName_39 (by decide) rfl ?_
            refine lv_iconst (v := 1) C.1.1 C.1.2.1 dX8_findName_42 (by decide) ?_
            refine mr_aald C hw (by decide) tf_725 (by decide) (by decide) rfl rfl (show vp_in 1 5 from by unfold vp_in; decide) ff_725_1 dX8_findName_43 ?_
            refine lv_iload_n C.1.1 C.1.2.1 dX8_findName_44 rfl (lv_at hl 2 rfl) ?_
            obtain ⟨q9, hD⟩ := g_ck hD
            refine mr_iald C hw (by decide) tf_727 q9 dX8_findName_45 ?_
            obtain ⟨r12, M10, L11, h1, hD⟩ := g_b3 hD
            refine md_cvI (As := [.int (M 727 v2.toNatClampNeg)]) (rest := []) C hw (tX8_isSame l G ad fu (M 727 v2.toNatClampNeg) M L h1) kc_8 (by decide) tf_1 wd_926 cwX8_isSame ⟨Nat.le_of_ble_eq_true rfl, Nat.le_of_ble_eq_true rfl⟩ rfl hl.1 (Nat.le_of_ble_eq_true rfl) dX8_findName_46 rfl rfl ⟨Nat.zero_le _, Nat.zero_le _⟩ rfl (fun H locs hw => ?_)
            refine lv_if_eq (tgt := 54) C.1.1 C.1.2.1 dX8_findName_49 (by decide) (fun c13 => ?_) (fun c13 => ?_)
            · replace hD := g_pos c13 hD
              exact hb54 v2 M10 L11 _ _ ls hD hw (lv_sub hl [0, 1, 2] rfl)
            · replace hD := g_neg c13 hD
              refine lv_iload_n C.1.1 C.1.2.1 dX8_findName_52 rfl (lv_at hl 2 rfl) ?_
              exact mr_iret C hr hlocks hw rfl (Option.some.inj hD) dX8_findName_53
  unfold DX8_findName at hD
  refine lv_iconst (v := 0) C.1.1 C.1.2.1 dX8_findName_0 (by decide) ?_
  refine lv_istore_n (lv' := [(2, .int 0), (0, .ref (ad 1)), (1, .int a1)]) C.1.1 C.1.2.1 dX8_findName_1 rfl hl (by decide) rfl (fun ls hl => ?_)
  exact hh2 fu 0 M L _ _ ls hD hw (lv_sub hl [1, 2, 0] rfl)

theorem dX8_newName_0 : decode cX8_newName 0 = .ok (.aload_n 0, 1) := by decide +kernel
theorem dX8_newName_1 : decode cX8_newName 1 = .ok (.getfield 34, 3) := by decide +kernel
theorem dX8_newName_4 : decode cX8_newName 4 = .ok (.ifCond .eq 4, 3) := by decide +kernel
theorem dX8_newName_7 : decode cX8_newName 7 = .ok (.return_, 1) := by decide +kernel
theorem dX8_newName_8 : decode cX8_newName 8 = .ok (.aload_n 0, 1) := by decide +kernel
theorem dX8_newName_9 : decode cX8_newName 9 = .ok (.invokevirtual 47, 3) := by decide +kernel
theorem dX8_newName_12 : decode cX8_newName 12 = .ok (.aload_n 0, 1) := by decide +kernel
theorem dX8_newName_13 : decode cX8_newName 13 = .ok (.aload_n 0, 1) := by decide +kernel
theorem dX8_newName_14 : decode cX8_newName 14 = .ok (.getfield 50, 3) := by decide +kernel
theorem dX8_newName_17 : decode cX8_newName 17 = .ok (.putfield 236, 3) := by decide +kernel
theorem dX8_newName_20 : decode cX8_newName 20 = .ok (.aload_n 0, 1) := by decide +kernel
theorem dX8_newName_21 : decode cX8_newName 21 = .ok (.aload_n 0, 1) := by decide +kernel
theorem dX8_newName_22 : decode cX8_newName 22 = .ok (.getfield 56, 3) := by decide +kernel
theorem dX8_newName_25 : decode cX8_newName 25 = .ok (.putfield 267, 3) := by decide +kernel
theorem dX8_newName_28 : decode cX8_newName 28 = .ok (.aload_n 0, 1) := by decide +kernel
theorem dX8_newName_29 : decode cX8_newName 29 = .ok (.invokevirtual 270, 3) := by decide +kernel
theorem dX8_newName_32 : decode cX8_newName 32 = .ok (.ifCond .eq 17, 3) := by decide +kernel
theorem dX8_newName_35 : decode cX8_newName 35 = .ok (.iload_n 1, 1) := by decide +kernel
theorem dX8_newName_36 : decode cX8_newName 36 = .ok (.ifCond .eq 25, 3) := by decide +kernel
theorem dX8_newName_39 : decode cX8_newName 39 = .ok (.aload_n 0, 1) := by decide +kernel
theorem dX8_newName_40 : decode cX8_newName 40 = .ok (.ldc_w 274, 3) := by decide +kernel
theorem dX8_newName_43 : decode cX8_newName 43 = .ok (.invokevirtual 276, 3) := by decide +kernel
theorem dX8_newName_46 : decode cX8_newName 46 = .ok (.ifCond .eq 15, 3) := by decide +kernel
theorem dX8_newName_49 : decode cX8_newName 49 = .ok (.aload_n 0, 1) := by decide +kernel
theorem dX8_newName_50 : decode cX8_newName 50 = .ok (.iconst 2, 1) := by decide +kernel
theorem dX8_newName_51 : decode cX8_newName 51 = .ok (.aload_n 0, 1) := by decide +kernel
theorem dX8_newName_52 : decode cX8_newName 52 = .ok (.getfield 50, 3) := by decide +kernel
theorem dX8_newName_55 : decode cX8_newName 55 = .ok (.invokevirtual 71, 3) := by decide +kernel
theorem dX8_newName_58 : decode cX8_newName 58 = .ok (.goto 38, 3) := by decide +kernel
theorem dX8_newName_61 : decode cX8_newName 61 = .ok (.aload_n 0, 1) := by decide +kernel
theorem dX8_newName_62 : decode cX8_newName 62 = .ok (.iload_n 1, 1) := by decide +kernel
theorem dX8_newName_63 : decode cX8_newName 63 = .ok (.invokevirtual 279, 3) := by decide +kernel
theorem dX8_newName_66 : decode cX8_newName 66 = .ok (.ifCond .lt 15, 3) := by decide +kernel
theorem dX8_newName_69 : decode cX8_newName 69 = .ok (.aload_n 0, 1) := by decide +kernel
theorem dX8_newName_70 : decode cX8_newName 70 = .ok (.iconst 3, 1) := by decide +kernel
theorem dX8_newName_71 : decode cX8_newName 71 = .ok (.aload_n 0, 1) := by decide +kernel
theorem dX8_newName_72 : decode cX8_newName 72 = .ok (.getfield 50, 3) := by decide +kernel
theorem dX8_newName_75 : decode cX8_newName 75 = .ok (.invokevirtual 71, 3) := by decide +kernel
theorem dX8_newName_78 : decode cX8_newName 78 = .ok (.goto 18, 3) := by decide +kernel
theorem dX8_newName_81 : decode cX8_newName 81 = .ok (.iload_n 2, 1) := by decide +kernel
theorem dX8_newName_82 : decode cX8_newName 82 = .ok (.iload_n 3, 1) := by decide +kernel
theorem dX8_newName_83 : decode cX8_newName 83 = .ok (.if_icmp .lt 13, 3) := by decide +kernel
theorem dX8_newName_86 : decode cX8_newName 86 = .ok (.aload_n 0, 1) := by decide +kernel
theorem dX8_newName_87 : decode cX8_newName 87 = .ok (.bipush 6, 2) := by decide +kernel
theorem dX8_newName_89 : decode cX8_newName 89 = .ok (.aload_n 0, 1) := by decide +kernel
theorem dX8_newName_90 : decode cX8_newName 90 = .ok (.getfield 50, 3) := by decide +kernel
theorem dX8_newName_93 : decode cX8_newName 93 = .ok (.invokevirtual 71, 3) := by decide +kernel
theorem dX8_newName_96 : decode cX8_newName 96 = .ok (.return_, 1) := by decide +kernel
theorem cwX8_newName : mw_cwV yX8_newName cX8_newName 4 (none) 3 := ⟨⟨wd_2, wd_902, by decide +kernel⟩, wd_901, sl_8⟩
set_option maxHeartbeats 4000000 in
set_option maxRecDepth 100000 in
theorem tX8_newName (l : Launch) (G : mwG) (ad : Nat → Nat) (fu : Nat) (a1 : Int32) (a2 : Int32) (a3 : Int32) (M : mwM) (L : mwL) {M0 : mwM} {L0 : mwL} (hD : DX8_newName fu a1 a2 a3 M L = some (M0, L0)) : Met l yX8_newName (Cond.code yX8_newName cX8_newName 4 (none) :: GT) ({ frames := 6, cells := 0, slots := 0, locals := 129 }) (mw_Pre G ad NF TF FF M L [.ref (ad 1), .int a1, .int a2, .int a3]) (mw_Qv G ad NF TF FF (mw_eqV M0 L0)) 0 0 (mw_fr G) := by
  refine mw_enter (by decide) (Nat.le_of_ble_eq_true rfl) ?_
  intro p e s m below meth c ls C hr hlocks hnm hw hl
  have hl : lv_has ls 4 [(0, .ref (ad 1)), (1, .int a1), (2, .int a2), (3, .int a3)] := hl
  have hb96 : ∀ (M : mwM) (L : mwL) (H : Heap) (locs : List Loc) (ls : Array Slot), fX8_newName_b96 fu a1 a2 a3 M L = some (M0, L0) → mw_W G ad NF TF FF M L H locs → lv_has ls 4 [] → W p l e ({ frames := 6, cells := 0, slots := 0, locals := 129 }) s m [.ref (ad 1), .int a1, .int a2, .int a3].toArray below meth c H locs 0 0 (MQ below (mw_Qv G ad NF TF FF (mw_eqV M0 L0)) [.ref (ad 1), .int a1, .int a2, .int a3].toArray s 0 0 (mw_fr G)) (F0 m 96 ls []) := by
    intro M L H locs ls hD hw hl
    unfold fX8_newName_b96 at hD
    exact mr_vret C hr hlocks hw (Option.some.inj hD) dX8_newName_96
  have hb49 : ∀ (M : mwM) (L : mwL) (H : Heap) (locs : List Loc) (ls : Array Slot), fX8_newName_b49 fu a1 a2 a3 M L = some (M0, L0) → mw_W G ad NF TF FF M L H locs → lv_has ls 4 [(0, .ref (ad 1))] → W p l e ({ frames := 6, cells := 0, slots := 0, locals := 129 }) s m [.ref (ad 1), .int a1, .int a2, .int a3].toArray below meth c H locs 0 0 (MQ below (mw_Qv G ad NF TF FF (mw_eqV M0 L0)) [.ref (ad 1), .int a1, .int a2, .int a3].toArray s 0 0 (mw_fr G)) (F0 m 49 ls []) := by
    intro M L H locs ls hD hw hl
    unfold fX8_newName_b49 at hD
    refine lv_aload_n C.1.1 C.1.2.1 dX8_newName_49 rfl (lv_at hl 0 rfl) ?_
    refine lv_iconst (v := 2) C.1.1 C.1.2.1 dX8_newName_50 (by decide) ?_
    refine lv_aload_n C.1.1 C.1.2.1 dX8_newName_51 rfl (lv_at hl 0 rfl) ?_
    refine mr_getI C hw kc_8 8 (by decide) tf_1 wd_603 dX8_newName_52 (by decide) rfl ?_
    obtain ⟨M1, L2, h1, hD⟩ := g_b2 hD
    refine md_cvV (As := [.int 2, .int (M 1 8)]) (rest := []) C hw (tX8_fail l G ad fu 2 (M 1 8) M L h1) kc_8 (by decide) tf_1 wd_918 cwX8_fail ⟨Nat.le_of_ble_eq_true rfl, Nat.le_of_ble_eq_true rfl⟩ rfl hl.1 (Nat.le_of_ble_eq_true rfl) dX8_newName_55 rfl rfl ⟨Nat.zero_le _, Nat.zero_le _⟩ rfl (fun H locs hw => ?_)
    refine lv_goto (tgt := 96) C.1.1 C.1.2.1 dX8_newName_58 (by decide) ?_
    exact hb96 M1 L2 _ _ ls hD hw (lv_sub hl [] rfl)
  have hb61 : ∀ (M : mwM) (L : mwL) (H : Heap) (locs : List Loc) (ls : Array Slot), fX8_newName_b61 fu a1 a2 a3 M L = some (M0, L0) → mw_W G ad NF TF FF M L H locs → lv_has ls 4 [(0, .ref (ad 1)), (1, .int a1), (2, .int a2), (3, .int a3)] → W p l e ({ frames := 6, cells := 0, slots := 0, locals := 129 }) s m [.ref (ad 1), .int a1, .int a2, .int a3].toArray below meth c H locs 0 0 (MQ below (mw_Qv G ad NF TF FF (mw_eqV M0 L0)) [.ref (ad 1), .int a1, .int a2, .int a3].toArray s 0 0 (mw_fr G)) (F0 m 61 ls []) := by
    intro M L H locs ls hD hw hl
    unfold fX8_newName_b61 at hD
    refine lv_aload_n C.1.1 C.1.2.1 dX8_newName_61 rfl (lv_at hl 0 rfl) ?_
    refine lv_iload_n C.1.1 C.1.2.1 dX8_newName_62 rfl (lv_at hl 1 rfl) ?_
    obtain ⟨r5, M3, L4, h1, hD⟩ := g_b3 hD
    refine md_cvI (As := [.int a1]) (rest := []) C hw (tX8_findName l G ad fu a1 M L h1) kc_8 (by decide) tf_1 wd_922 cwX8_findName ⟨Nat.le_of_ble_eq_true rfl, Nat.le_of_ble_eq_true rfl⟩ rfl hl.1 (Nat.le_of_ble_eq_true rfl) dX8_newName_63 rfl rfl ⟨Nat.zero_le _, Nat.zero_le _⟩ rfl (fun H locs hw => ?_)
    refine lv_if_lt (tgt := 81) C.1.1 C.1.2.1 dX8_newName_66 (by decide) (fun c6 => ?_) (fun c6 => ?_)
    · replace hD := g_pos c6 hD
      refine lv_iload_n C.1.1 C.1.2.1 dX8_newName_81 rfl (lv_at hl 2 rfl) ?_
      refine lv_iload_n C.1.1 C.1.2.1 dX8_newName_82 rfl (lv_at hl 3 rfl) ?_
      refine lv_icmp_lt (tgt := 96) C.1.1 C.1.2.1 dX8_newName_83 (by decide) (fun c7 => ?_) (fun c7 => ?_)
      · replace hD := g_pos c7 hD
        exact hb96 M3 L4 _ _ ls hD hw (lv_sub hl [] rfl)
      · replace hD := g_neg c7 hD
        refine lv_aload_n C.1.1 C.1.2.1 dX8_newName_86 rfl (lv_at hl 0 rfl) ?_
        refine lv_bipush (v := 6) C.1.1 C.1.2.1 dX8_newName_87 (by decide) ?_
        refine lv_aload_n C.1.1 C.1.2.1 dX8_newName_89 rfl (lv_at hl 0 rfl) ?_
        refine mr_getI C hw kc_8 8 (by decide) tf_1 wd_603 dX8_newName_90 (by decide) rfl ?_
        obtain ⟨M8, L9, h1, hD⟩ := g_b2 hD
        refine md_cvV (As := [.int 6, .int (M3 1 8)]) (rest := []) C hw (tX8_fail l G ad fu 6 (M3 1 8) M3 L4 h1) kc_8 (by decide) tf_1 wd_918 cwX8_fail ⟨Nat.le_of_ble_eq_true rfl, Nat.le_of_ble_eq_true rfl⟩ rfl hl.1 (Nat.le_of_ble_eq_true rfl) dX8_newName_93 rfl rfl ⟨Nat.zero_le _, Nat.zero_le _⟩ rfl (fun H locs hw => ?_)
        exact hb96 M8 L9 _ _ ls hD hw (lv_sub hl [] rfl)
    · replace hD := g_neg c6 hD
      refine lv_aload_n C.1.1 C.1.2.1 dX8_newName_69 rfl (lv_at hl 0 rfl) ?_
      refine lv_iconst (v := 3) C.1.1 C.1.2.1 dX8_newName_70 (by decide) ?_
      refine lv_aload_n C.1.1 C.1.2.1 dX8_newName_71 rfl (lv_at hl 0 rfl) ?_
      refine mr_getI C hw kc_8 8 (by decide) tf_1 wd_603 dX8_newName_72 (by decide) rfl ?_
      obtain ⟨M10, L11, h1, hD⟩ := g_b2 hD
      refine md_cvV (As := [.int 3, .int (M3 1 8)]) (rest := []) C hw (tX8_fail l G ad fu 3 (M3 1 8) M3 L4 h1) kc_8 (by decide) tf_1 wd_918 cwX8_fail ⟨Nat.le_of_ble_eq_true rfl, Nat.le_of_ble_eq_true rfl⟩ rfl hl.1 (Nat.le_of_ble_eq_true rfl) dX8_newName_75 rfl rfl ⟨Nat.zero_le _, Nat.zero_le _⟩ rfl (fun H locs hw => ?_)
      refine lv_goto (tgt := 96) C.1.1 C.1.2.1 dX8_newName_78 (by decide) ?_
      exact hb96 M10 L11 _ _ ls hD hw (lv_sub hl [] rfl)
  unfold DX8_newName at hD
  refine lv_aload_n C.1.1 C.1.2.1 dX8_newName_0 rfl (lv_at hl 0 rfl) ?_
  refine mr_getI C hw kc_8 12 (by decide) tf_1 wd_607 dX8_newName_1 (by decide) rfl ?_
  refine lv_if_eq (tgt := 8) C.1.1 C.1.2.1 dX8_newName_4 (by decide) (fun c12 => ?_) (fun c12 => ?_)
  · replace hD := g_pos c12 hD
    refine lv_aload_n C.1.1 C.1.2.1 dX8_newName_8 rfl (lv_at hl 0 rfl) ?_
    obtain ⟨M13, L14, h1, hD⟩ := g_b2 hD
    refine md_cvV (As := []) (rest := []) C hw (tX8_nextWord l G ad fu M L h1) kc_8 (by decide) tf_1 wd_830 cwX8_nextWord ⟨Nat.le_of_ble_eq_true rfl, Nat.le_of_ble_eq_true rfl⟩ rfl hl.1 (Nat.le_of_ble_eq_true rfl) dX8_newName_9 rfl rfl ⟨Nat.zero_le _, Nat.zero_le _⟩ rfl (fun H locs hw => ?_)
    refine lv_aload_n C.1.1 C.1.2.1 dX8_newName_12 rfl (lv_at hl 0 rfl) ?_
    refine lv_aload_n C.1.1 C.1.2.1 dX8_newName_13 rfl (lv_at hl 0 rfl) ?_
    refine mr_getI C hw kc_8 8 (by decide) tf_1 wd_603 dX8_newName_14 (by decide) rfl ?_
    obtain ⟨M15, eM15, hD⟩ := g_let hD
    refine mr_putI C hw kc_8 10 (by decide) tf_1 wd_605 dX8_newName_17 (by decide) rfl rfl rfl rfl (fun H locs hw => ?_)
    replace hw : mw_W G ad NF TF FF M15 L14 H locs := by rw [eM15]; exact hw
    refine lv_aload_n C.1.1 C.1.2.1 dX8_newName_20 rfl (lv_at hl 0 rfl) ?_
    refine lv_aload_n C.1.1 C.1.2.1 dX8_newName_21 rfl (lv_at hl 0 rfl) ?_
    refine mr_getI C hw kc_8 9 (by decide) tf_1 wd_604 dX8_newName_22 (by decide) rfl ?_
    obtain ⟨M16, eM16, hD⟩ := g_let hD
    refine mr_putI C hw kc_8 11 (by decide) tf_1 wd_606 dX8_newName_25 (by decide) rfl rfl rfl rfl (fun H locs hw => ?_)
    replace hw : mw_W G ad NF TF FF M16 L14 H locs := by rw [eM16]; exact hw
    refine lv_aload_n C.1.1 C.1.2.1 dX8_newName_28 rfl (lv_at hl 0 rfl) ?_
    obtain ⟨r19, M17, L18, h1, hD⟩ := g_b3 hD
    refine md_cvI (As := []) (rest := []) C hw (tX8_isName l G ad fu M16 L14 h1) kc_8 (by decide) tf_1 wd_903 cwX8_isName ⟨Nat.le_of_ble_eq_true rfl, Nat.le_of_ble_eq_true rfl⟩ rfl hl.1 (Nat.le_of_ble_eq_true rfl) dX8_newName_29 rfl rfl ⟨Nat.zero_le _, Nat.zero_le _⟩ rfl (fun H locs hw => ?_)
    refine lv_if_eq (tgt := 49) C.1.1 C.1.2.1 dX8_newName_32 (by decide) (fun c20 => ?_) (fun c20 => ?_)
    · replace hD := g_pos c20 hD
      exact hb49 M17 L18 _ _ ls hD hw (lv_sub hl [0] rfl)
    · replace hD := g_neg c20 hD
      refine lv_iload_n C.1.1 C.1.2.1 dX8_newName_35 rfl (lv_at hl 1 rfl) ?_
      refine lv_if_eq (tgt := 61) C.1.1 C.1.2.1 dX8_newName_36 (by decide) (fun c21 => ?_) (fun c21 => ?_)
      · replace hD := g_pos c21 hD
        exact hb61 M17 L18 _ _ ls hD hw (lv_sub hl [0, 1, 2, 3] rfl)
      · replace hD := g_neg c21 hD
        refine lv_aload_n C.1.1 C.1.2.1 dX8_newName_39 rfl (lv_at hl 0 rfl) ?_
        refine mr_ldcSW (i := 6) C (by decide) rfl dX8_newName_40 ?_
        obtain ⟨r24, M22, L23, h1, hD⟩ := g_b3 hD
        refine md_cvI (As := [.ref (G.2.1 1000 6)]) (rest := []) C hw (tX8_isWord l G ad fu 6 M17 L18 h1 (by decide : 6 < 8)) kc_8 (by decide) tf_1 wd_914 cwX8_isWord ⟨Nat.le_of_ble_eq_true rfl, Nat.le_of_ble_eq_true rfl⟩ rfl hl.1 (Nat.le_of_ble_eq_true rfl) dX8_newName_43 rfl rfl ⟨Nat.zero_le _, Nat.zero_le _⟩ rfl (fun H locs hw => ?_)
        refine lv_if_eq (tgt := 61) C.1.1 C.1.2.1 dX8_newName_46 (by decide) (fun c25 => ?_) (fun c25 => ?_)
        · replace hD := g_pos c25 hD
          exact hb61 M22 L23 _ _ ls hD hw (lv_sub hl [0, 1, 2, 3] rfl)
        · replace hD := g_neg c25 hD
          exact hb49 M22 L23 _ _ ls hD hw (lv_sub hl [0] rfl)
  · replace hD := g_neg c12 hD
    exact mr_vret C hr hlocks hw (Option.some.inj hD) dX8_newName_7

theorem dX8_endLine_0 : decode cX8_endLine 0 = .ok (.aload_n 0, 1) := by decide +kernel
theorem dX8_endLine_1 : decode cX8_endLine 1 = .ok (.getfield 34, 3) := by decide +kernel
theorem dX8_endLine_4 : decode cX8_endLine 4 = .ok (.ifCond .eq 4, 3) := by decide +kernel
theorem dX8_endLine_7 : decode cX8_endLine 7 = .ok (.return_, 1) := by decide +kernel
theorem dX8_endLine_8 : decode cX8_endLine 8 = .ok (.aload_n 0, 1) := by decide +kernel
theorem dX8_endLine_9 : decode cX8_endLine 9 = .ok (.invokevirtual 47, 3) := by decide +kernel
theorem dX8_endLine_12 : decode cX8_endLine 12 = .ok (.aload_n 0, 1) := by decide +kernel
theorem dX8_endLine_13 : decode cX8_endLine 13 = .ok (.getfield 56, 3) := by decide +kernel
theorem dX8_endLine_16 : decode cX8_endLine 16 = .ok (.ifCond .le 12, 3) := by decide +kernel
theorem dX8_endLine_19 : decode cX8_endLine 19 = .ok (.aload_n 0, 1) := by decide +kernel
theorem dX8_endLine_20 : decode cX8_endLine 20 = .ok (.iconst 2, 1) := by decide +kernel
theorem dX8_endLine_21 : decode cX8_endLine 21 = .ok (.aload_n 0, 1) := by decide +kernel
theorem dX8_endLine_22 : decode cX8_endLine 22 = .ok (.getfield 50, 3) := by decide +kernel
theorem dX8_endLine_25 : decode cX8_endLine 25 = .ok (.invokevirtual 71, 3) := by decide +kernel
theorem dX8_endLine_28 : decode cX8_endLine 28 = .ok (.return_, 1) := by decide +kernel
theorem cwX8_endLine : mw_cwV yX8_endLine cX8_endLine 1 (none) 0 := ⟨⟨wd_2, wd_933, by decide +kernel⟩, wd_932, sl_14⟩
set_option maxHeartbeats 4000000 in
set_option maxRecDepth 100000 in
theorem tX8_endLine (l : Launch) (G : mwG) (ad : Nat → Nat) (fu : Nat) (M : mwM) (L : mwL) {M0 : mwM} {L0 : mwL} (hD : DX8_endLine fu M L = some (M0, L0)) : Met l yX8_endLine (Cond.code yX8_endLine cX8_endLine 1 (none) :: GT) ({ frames := 1, cells := 0, slots := 0, locals := 22 }) (mw_Pre G ad NF TF FF M L [.ref (ad 1)]) (mw_Qv G ad NF TF FF (mw_eqV M0 L0)) 0 0 (mw_fr G) := by
  refine mw_enter (by decide) (Nat.le_of_ble_eq_true rfl) ?_
  intro p e s m below meth c ls C hr hlocks hnm hw hl
  have hl : lv_has ls 1 [(0, .ref (ad 1))] := hl
  have hb28 : ∀ (M : mwM) (L : mwL) (H : Heap) (locs : List Loc) (ls : Array Slot), fX8_endLine_b28 fu M L = some (M0, L0) → mw_W G ad NF TF FF M L H locs → lv_has ls 1 [] → W p l e ({ frames := 1, cells := 0, slots := 0, locals := 22 }) s m [.ref (ad 1)].toArray below meth c H locs 0 0 (MQ below (mw_Qv G ad NF TF FF (mw_eqV M0 L0)) [.ref (ad 1)].toArray s 0 0 (mw_fr G)) (F0 m 28 ls []) := by
    intro M L H locs ls hD hw hl
    unfold fX8_endLine_b28 at hD
    exact mr_vret C hr hlocks hw (Option.some.inj hD) dX8_endLine_28
  unfold DX8_endLine at hD
  refine lv_aload_n C.1.1 C.1.2.1 dX8_endLine_0 rfl (lv_at hl 0 rfl) ?_
  refine mr_getI C hw kc_8 12 (by decide) tf_1 wd_607 dX8_endLine_1 (by decide) rfl ?_
  refine lv_if_eq (tgt := 8) C.1.1 C.1.2.1 dX8_endLine_4 (by decide) (fun c1 => ?_) (fun c1 => ?_)
  · replace hD := g_pos c1 hD
    refine lv_aload_n C.1.1 C.1.2.1 dX8_endLine_8 rfl (lv_at hl 0 rfl) ?_
    obtain ⟨M2, L3, h1, hD⟩ := g_b2 hD
    refine md_cvV (As := []) (rest := []) C hw (tX8_nextWord l G ad fu M L h1) kc_8 (by decide) tf_1 wd_830 cwX8_nextWord ⟨Nat.le_of_ble_eq_true rfl, Nat.le_of_ble_eq_true rfl⟩ rfl hl.1 (Nat.le_of_ble_eq_true rfl) dX8_endLine_9 rfl rfl ⟨Nat.zero_le _, Nat.zero_le _⟩ rfl (fun H locs hw => ?_)
    refine lv_aload_n C.1.1 C.1.2.1 dX8_endLine_12 rfl (lv_at hl 0 rfl) ?_
    refine mr_getI C hw kc_8 9 (by decide) tf_1 wd_604 dX8_endLine_13 (by decide) rfl ?_
    refine lv_if_le (tgt := 28) C.1.1 C.1.2.1 dX8_endLine_16 (by decide) (fun c4 => ?_) (fun c4 => ?_)
    · replace hD := g_pos c4 hD
      exact hb28 M2 L3 _ _ ls hD hw (lv_sub hl [] rfl)
    · replace hD := g_neg c4 hD
      refine lv_aload_n C.1.1 C.1.2.1 dX8_endLine_19 rfl (lv_at hl 0 rfl) ?_
      refine lv_iconst (v := 2) C.1.1 C.1.2.1 dX8_endLine_20 (by decide) ?_
      refine lv_aload_n C.1.1 C.1.2.1 dX8_endLine_21 rfl (lv_at hl 0 rfl) ?_
      refine mr_getI C hw kc_8 8 (by decide) tf_1 wd_603 dX8_endLine_22 (by decide) rfl ?_
      obtain ⟨M5, L6, h1, hD⟩ := g_b2 hD
      refine md_cvV (As := [.int 2, .int (M2 1 8)]) (rest := []) C hw (tX8_fail l G ad fu 2 (M2 1 8) M2 L3 h1) kc_8 (by decide) tf_1 wd_918 cwX8_fail ⟨Nat.le_of_ble_eq_true rfl, Nat.le_of_ble_eq_true rfl⟩ rfl hl.1 (Nat.le_of_ble_eq_true rfl) dX8_endLine_25 rfl rfl ⟨Nat.zero_le _, Nat.zero_le _⟩ rfl (fun H locs hw => ?_)
      exact hb28 M5 L6 _ _ ls hD hw (lv_sub hl [] rfl)
  · replace hD := g_neg c1 hD
    exact mr_vret C hr hlocks hw (Option.some.inj hD) dX8_endLine_7

theorem dX8_keepName_0 : decode cX8_keepName 0 = .ok (.aload_n 0, 1) := by decide +kernel
theorem dX8_keepName_1 : decode cX8_keepName 1 = .ok (.getfield 34, 3) := by decide +kernel
theorem dX8_keepName_4 : decode cX8_keepName 4 = .ok (.ifCond .ne 13, 3) := by decide +kernel
theorem dX8_keepName_7 : decode cX8_keepName 7 = .ok (.aload_n 0, 1) := by decide +kernel
theorem dX8_keepName_8 : decode cX8_keepName 8 = .ok (.getfield 31, 3) := by decide +kernel
theorem dX8_keepName_11 : decode cX8_keepName 11 = .ok (.sipush 600, 3) := by decide +kernel
theorem dX8_keepName_14 : decode cX8_keepName 14 = .ok (.if_icmp .lt 4, 3) := by decide +kernel
theorem dX8_keepName_17 : decode cX8_keepName 17 = .ok (.return_, 1) := by decide +kernel
theorem dX8_keepName_18 : decode cX8_keepName 18 = .ok (.aload_n 0, 1) := by decide +kernel
theorem dX8_keepName_19 : decode cX8_keepName 19 = .ok (.getfield 24, 3) := by decide +kernel
theorem dX8_keepName_22 : decode cX8_keepName 22 = .ok (.iconst 0, 1) := by decide +kernel
theorem dX8_keepName_23 : decode cX8_keepName 23 = .ok (.aaload, 1) := by decide +kernel
theorem dX8_keepName_24 : decode cX8_keepName 24 = .ok (.aload_n 0, 1) := by decide +kernel
theorem dX8_keepName_25 : decode cX8_keepName 25 = .ok (.getfield 31, 3) := by decide +kernel
theorem dX8_keepName_28 : decode cX8_keepName 28 = .ok (.iload_n 1, 1) := by decide +kernel
theorem dX8_keepName_29 : decode cX8_keepName 29 = .ok (.iastore, 1) := by decide +kernel
theorem dX8_keepName_30 : decode cX8_keepName 30 = .ok (.aload_n 0, 1) := by decide +kernel
theorem dX8_keepName_31 : decode cX8_keepName 31 = .ok (.getfield 24, 3) := by decide +kernel
theorem dX8_keepName_34 : decode cX8_keepName 34 = .ok (.iconst 1, 1) := by decide +kernel
theorem dX8_keepName_35 : decode cX8_keepName 35 = .ok (.aaload, 1) := by decide +kernel
theorem dX8_keepName_36 : decode cX8_keepName 36 = .ok (.aload_n 0, 1) := by decide +kernel
theorem dX8_keepName_37 : decode cX8_keepName 37 = .ok (.getfield 31, 3) := by decide +kernel
theorem dX8_keepName_40 : decode cX8_keepName 40 = .ok (.aload_n 0, 1) := by decide +kernel
theorem dX8_keepName_41 : decode cX8_keepName 41 = .ok (.getfield 236, 3) := by decide +kernel
theorem dX8_keepName_44 : decode cX8_keepName 44 = .ok (.iastore, 1) := by decide +kernel
theorem dX8_keepName_45 : decode cX8_keepName 45 = .ok (.aload_n 0, 1) := by decide +kernel
theorem dX8_keepName_46 : decode cX8_keepName 46 = .ok (.getfield 24, 3) := by decide +kernel
theorem dX8_keepName_49 : decode cX8_keepName 49 = .ok (.iconst 2, 1) := by decide +kernel
theorem dX8_keepName_50 : decode cX8_keepName 50 = .ok (.aaload, 1) := by decide +kernel
theorem dX8_keepName_51 : decode cX8_keepName 51 = .ok (.aload_n 0, 1) := by decide +kernel
theorem dX8_keepName_52 : decode cX8_keepName 52 = .ok (.getfield 31, 3) := by decide +kernel
theorem dX8_keepName_55 : decode cX8_keepName 55 = .ok (.aload_n 0, 1) := by decide +kernel
theorem dX8_keepName_56 : decode cX8_keepName 56 = .ok (.getfield 267, 3) := by decide +kernel
theorem dX8_keepName_59 : decode cX8_keepName 59 = .ok (.iastore, 1) := by decide +kernel
theorem dX8_keepName_60 : decode cX8_keepName 60 = .ok (.aload_n 0, 1) := by decide +kernel
theorem dX8_keepName_61 : decode cX8_keepName 61 = .ok (.getfield 24, 3) := by decide +kernel
theorem dX8_keepName_64 : decode cX8_keepName 64 = .ok (.iconst 3, 1) := by decide +kernel
theorem dX8_keepName_65 : decode cX8_keepName 65 = .ok (.aaload, 1) := by decide +kernel
theorem dX8_keepName_66 : decode cX8_keepName 66 = .ok (.aload_n 0, 1) := by decide +kernel
theorem dX8_keepName_67 : decode cX8_keepName 67 = .ok (.getfield 31, 3) := by decide +kernel
theorem dX8_keepName_70 : decode cX8_keepName 70 = .ok (.iload_n 2, 1) := by decide +kernel
theorem dX8_keepName_71 : decode cX8_keepName 71 = .ok (.iastore, 1) := by decide +kernel
theorem dX8_keepName_72 : decode cX8_keepName 72 = .ok (.aload_n 0, 1) := by decide +kernel
theorem dX8_keepName_73 : decode cX8_keepName 73 = .ok (.getfield 24, 3) := by decide +kernel
theorem dX8_keepName_76 : decode cX8_keepName 76 = .ok (.iconst 4, 1) := by decide +kernel
theorem dX8_keepName_77 : decode cX8_keepName 77 = .ok (.aaload, 1) := by decide +kernel
theorem dX8_keepName_78 : decode cX8_keepName 78 = .ok (.aload_n 0, 1) := by decide +kernel
theorem dX8_keepName_79 : decode cX8_keepName 79 = .ok (.getfield 31, 3) := by decide +kernel
theorem dX8_keepName_82 : decode cX8_keepName 82 = .ok (.iload_n 3, 1) := by decide +kernel
theorem dX8_keepName_83 : decode cX8_keepName 83 = .ok (.iastore, 1) := by decide +kernel
theorem dX8_keepName_84 : decode cX8_keepName 84 = .ok (.aload_n 0, 1) := by decide +kernel
theorem dX8_keepName_85 : decode cX8_keepName 85 = .ok (.dup, 1) := by decide +kernel
theorem dX8_keepName_86 : decode cX8_keepName 86 = .ok (.getfield 31, 3) := by decide +kernel
theorem dX8_keepName_89 : decode cX8_keepName 89 = .ok (.iconst 1, 1) := by decide +kernel
theorem dX8_keepName_90 : decode cX8_keepName 90 = .ok (.iadd, 1) := by decide +kernel
theorem dX8_keepName_91 : decode cX8_keepName 91 = .ok (.putfield 31, 3) := by decide +kernel
theorem dX8_keepName_94 : decode cX8_keepName 94 = .ok (.return_, 1) := by decide +kernel
theorem cwX8_keepName : mw_cwV yX8_keepName cX8_keepName 4 (none) 3 := ⟨⟨wd_2, wd_937, by decide +kernel⟩, wd_936, sl_15⟩
set_option maxHeartbeats 4000000 in
set_option maxRecDepth 100000 in
theorem tX8_keepName (l : Launch) (G : mwG) (ad : Nat → Nat) (fu : Nat) (a1 : Int32) (a2 : Int32) (a3 : Int32) (M : mwM) (L : mwL) {M0 : mwM} {L0 : mwL} (hD : DX8_keepName fu a1 a2 a3 M L = some (M0, L0)) : Met l yX8_keepName (Cond.code yX8_keepName cX8_keepName 4 (none) :: GT) ({ frames := 0, cells := 0, slots := 0, locals := 0 }) (mw_Pre G ad NF TF FF M L [.ref (ad 1), .int a1, .int a2, .int a3]) (mw_Qv G ad NF TF FF (mw_eqV M0 L0)) 0 0 (mw_fr G) := by
  refine mw_enter (by decide) (Nat.le_of_ble_eq_true rfl) ?_
  intro p e s m below meth c ls C hr hlocks hnm hw hl
  have hl : lv_has ls 4 [(0, .ref (ad 1)), (1, .int a1), (2, .int a2), (3, .int a3)] := hl
  have hb17 : ∀ (M : mwM) (L : mwL) (H : Heap) (locs : List Loc) (ls : Array Slot), fX8_keepName_b17 fu a1 a2 a3 M L = some (M0, L0) → mw_W G ad NF TF FF M L H locs → lv_has ls 4 [] → W p l e ({ frames := 0, cells := 0, slots := 0, locals := 0 }) s m [.ref (ad 1), .int a1, .int a2, .int a3].toArray below meth c H locs 0 0 (MQ below (mw_Qv G ad NF TF FF (mw_eqV M0 L0)) [.ref (ad 1), .int a1, .int a2, .int a3].toArray s 0 0 (mw_fr G)) (F0 m 17 ls []) := by
    intro M L H locs ls hD hw hl
    unfold fX8_keepName_b17 at hD
    exact mr_vret C hr hlocks hw (Option.some.inj hD) dX8_keepName_17
  unfold DX8_keepName at hD
  refine lv_aload_n C.1.1 C.1.2.1 dX8_keepName_0 rfl (lv_at hl 0 rfl) ?_
  refine mr_getI C hw kc_8 12 (by decide) tf_1 wd_607 dX8_keepName_1 (by decide) rfl ?_
  refine lv_if_ne (tgt := 17) C.1.1 C.1.2.1 dX8_keepName_4 (by decide) (fun c1 => ?_) (fun c1 => ?_)
  · replace hD := g_neg c1 hD
    exact hb17 M L _ _ ls hD hw (lv_sub hl [] rfl)
  · replace hD := g_pos c1 hD
    refine lv_aload_n C.1.1 C.1.2.1 dX8_keepName_7 rfl (lv_at hl 0 rfl) ?_
    refine mr_getI C hw kc_8 3 (by decide) tf_1 wd_597 dX8_keepName_8 (by decide) rfl ?_
    refine lv_sipush (v := 600) C.1.1 C.1.2.1 dX8_keepName_11 (by decide) ?_
    refine lv_icmp_lt (tgt := 18) C.1.1 C.1.2.1 dX8_keepName_14 (by decide) (fun c2 => ?_) (fun c2 => ?_)
    · replace hD := g_pos c2 hD
      refine lv_aload_n C.1.1 C.1.2.1 dX8_keepName_18 rfl (lv_at hl 0 rfl) ?_
      refine mr_getR C hw kc_8 2 (by decide) tf_1 ff_1_2 wd_596 dX8_keepName_19 (by decide) rfl ?_
      refine lv_iconst (v := 0) C.1.1 C.1.2.1 dX8_keepName_22 (by decide) ?_
      refine mr_aald C hw (by decide) tf_725 (by decide) (by decide) rfl rfl (show vp_in 0 5 from by unfold vp_in; decide) ff_725_0 dX8_keepName_23 ?_
      refine lv_aload_n C.1.1 C.1.2.1 dX8_keepName_24 rfl (lv_at hl 0 rfl) ?_
      refine mr_getI C hw kc_8 3 (by decide) tf_1 wd_597 dX8_keepName_25 (by decide) rfl ?_
      refine lv_iload_n C.1.1 C.1.2.1 dX8_keepName_28 rfl (lv_at hl 1 rfl) ?_
      obtain ⟨q4, hD⟩ := g_ck hD
      obtain ⟨M5, eM5, hD⟩ := g_let hD
      refine mr_iast C hw (by decide) tf_726 q4 dX8_keepName_29 (fun H locs hw => ?_)
      replace hw : mw_W G ad NF TF FF M5 L H locs := by rw [eM5]; exact hw
      refine lv_aload_n C.1.1 C.1.2.1 dX8_keepName_30 rfl (lv_at hl 0 rfl) ?_
      refine mr_getR C hw kc_8 2 (by decide) tf_1 ff_1_2 wd_596 dX8_keepName_31 (by decide) rfl ?_
      refine lv_iconst (v := 1) C.1.1 C.1.2.1 dX8_keepName_34 (by decide) ?_
      refine mr_aald C hw (by decide) tf_725 (by decide) (by decide) rfl rfl (show vp_in 1 5 from by unfold vp_in; decide) ff_725_1 dX8_keepName_35 ?_
      refine lv_aload_n C.1.1 C.1.2.1 dX8_keepName_36 rfl (lv_at hl 0 rfl) ?_
      refine mr_getI C hw kc_8 3 (by decide) tf_1 wd_597 dX8_keepName_37 (by decide) rfl ?_
      refine lv_aload_n C.1.1 C.1.2.1 dX8_keepName_40 rfl (lv_at hl 0 rfl) ?_
      refine mr_getI C hw kc_8 10 (by decide) tf_1 wd_605 dX8_keepName_41 (by decide) rfl ?_
      obtain ⟨q7, hD⟩ := g_ck hD
      obtain ⟨M8, eM8, hD⟩ := g_let hD
      refine mr_iast C hw (by decide) tf_727 q7 dX8_keepName_44 (fun H locs hw => ?_)
      replace hw : mw_W G ad NF TF FF M8 L H locs := by rw [eM8]; exact hw
      refine lv_aload_n C.1.1 C.1.2.1 dX8_keepName_45 rfl (lv_at hl 0 rfl) ?_
      refine mr_getR C hw kc_8 2 (by decide) tf_1 ff_1_2 wd_596 dX8_keepName_46 (by decide) rfl ?_
      refine lv_iconst (v := 2) C.1.1 C.1.2.1 dX8_keepName_49 (by decide) ?_
      refine mr_aald C hw (by decide) tf_725 (by decide) (by decide) rfl rfl (show vp_in 2 5 from by unfold vp_in; decide) ff_725_2 dX8_keepName_50 ?_
      refine lv_aload_n C.1.1 C.1.2.1 dX8_keepName_51 rfl (lv_at hl 0 rfl) ?_
      refine mr_getI C hw kc_8 3 (by decide) tf_1 wd_597 dX8_keepName_52 (by decide) rfl ?_
      refine lv_aload_n C.1.1 C.1.2.1 dX8_keepName_55 rfl (lv_at hl 0 rfl) ?_
      refine mr_getI C hw kc_8 11 (by decide) tf_1 wd_606 dX8_keepName_56 (by decide) rfl ?_
      obtain ⟨q10, hD⟩ := g_ck hD
      obtain ⟨M11, eM11, hD⟩ := g_let hD
      refine mr_iast C hw (by decide) tf_728 q10 dX8_keepName_59 (fun H locs hw => ?_)
      replace hw : mw_W G ad NF TF FF M11 L H locs := by rw [eM11]; exact hw
      refine lv_aload_n C.1.1 C.1.2.1 dX8_keepName_60 rfl (lv_at hl 0 rfl) ?_
      refine mr_getR C hw kc_8 2 (by decide) tf_1 ff_1_2 wd_596 dX8_keepName_61 (by decide) rfl ?_
      refine lv_iconst (v := 3) C.1.1 C.1.2.1 dX8_keepName_64 (by decide) ?_
      refine mr_aald C hw (by decide) tf_725 (by decide) (by decide) rfl rfl (show vp_in 3 5 from by unfold vp_in; decide) ff_725_3 dX8_keepName_65 ?_
      refine lv_aload_n C.1.1 C.1.2.1 dX8_keepName_66 rfl (lv_at hl 0 rfl) ?_
      refine mr_getI C hw kc_8 3 (by decide) tf_1 wd_597 dX8_keepName_67 (by decide) rfl ?_
      refine lv_iload_n C.1.1 C.1.2.1 dX8_keepName_70 rfl (lv_at hl 2 rfl) ?_
      obtain ⟨q13, hD⟩ := g_ck hD
      obtain ⟨M14, eM14, hD⟩ := g_let hD
      refine mr_iast C hw (by decide) tf_729 q13 dX8_keepName_71 (fun H locs hw => ?_)
      replace hw : mw_W G ad NF TF FF M14 L H locs := by rw [eM14]; exact hw
      refine lv_aload_n C.1.1 C.1.2.1 dX8_keepName_72 rfl (lv_at hl 0 rfl) ?_
      refine mr_getR C hw kc_8 2 (by decide) tf_1 ff_1_2 wd_596 dX8_keepName_73 (by decide) rfl ?_
      refine lv_iconst (v := 4) C.1.1 C.1.2.1 dX8_keepName_76 (by decide) ?_
      refine mr_aald C hw (by decide) tf_725 (by decide) (by decide) rfl rfl (show vp_in 4 5 from by unfold vp_in; decide) ff_725_4 dX8_keepName_77 ?_
      refine lv_aload_n C.1.1 C.1.2.1 dX8_keepName_78 rfl (lv_at hl 0 rfl) ?_
      refine mr_getI C hw kc_8 3 (by decide) tf_1 wd_597 dX8_keepName_79 (by decide) rfl ?_
      refine lv_iload_n C.1.1 C.1.2.1 dX8_keepName_82 rfl (lv_at hl 3 rfl) ?_
      obtain ⟨q16, hD⟩ := g_ck hD
      obtain ⟨M17, eM17, hD⟩ := g_let hD
      refine mr_iast C hw (by decide) tf_730 q16 dX8_keepName_83 (fun H locs hw => ?_)
      replace hw : mw_W G ad NF TF FF M17 L H locs := by rw [eM17]; exact hw
      refine lv_aload_n C.1.1 C.1.2.1 dX8_keepName_84 rfl (lv_at hl 0 rfl) ?_
      refine lv_dup C.1.1 C.1.2.1 dX8_keepName_85 rfl ?_
      refine mr_getI C hw kc_8 3 (by decide) tf_1 wd_597 dX8_keepName_86 (by decide) rfl ?_
      refine lv_iconst (v := 1) C.1.1 C.1.2.1 dX8_keepName_89 (by decide) ?_
      refine lv_iadd C.1.1 C.1.2.1 dX8_keepName_90 ?_
      obtain ⟨M18, eM18, hD⟩ := g_let hD
      refine mr_putI C hw kc_8 3 (by decide) tf_1 wd_597 dX8_keepName_91 (by decide) rfl rfl rfl rfl (fun H locs hw => ?_)
      replace hw : mw_W G ad NF TF FF M18 L H locs := by rw [eM18]; exact hw
      exact mr_vret C hr hlocks hw (Option.some.inj hD) dX8_keepName_94
    · replace hD := g_neg c2 hD
      exact hb17 M L _ _ ls hD hw (lv_sub hl [] rfl)

theorem dX8_readController_0 : decode cX8_readController 0 = .ok (.aload_n 0, 1) := by decide +kernel
theorem dX8_readController_1 : decode cX8_readController 1 = .ok (.iconst 0, 1) := by decide +kernel
theorem dX8_readController_2 : decode cX8_readController 2 = .ok (.aload_n 0, 1) := by decide +kernel
theorem dX8_readController_3 : decode cX8_readController 3 = .ok (.getfield 18, 3) := by decide +kernel
theorem dX8_readController_6 : decode cX8_readController 6 = .ok (.getfield 68, 3) := by decide +kernel
theorem dX8_readController_9 : decode cX8_readController 9 = .ok (.bipush 6, 2) := by decide +kernel
theorem dX8_readController_11 : decode cX8_readController 11 = .ok (.invokevirtual 132, 3) := by decide +kernel
theorem dX8_readController_14 : decode cX8_readController 14 = .ok (.aload_n 0, 1) := by decide +kernel
theorem dX8_readController_15 : decode cX8_readController 15 = .ok (.invokevirtual 136, 3) := by decide +kernel
theorem dX8_readController_18 : decode cX8_readController 18 = .ok (.aload_n 0, 1) := by decide +kernel
theorem dX8_readController_19 : decode cX8_readController 19 = .ok (.getfield 34, 3) := by decide +kernel
theorem dX8_readController_22 : decode cX8_readController 22 = .ok (.ifCond .ne 29, 3) := by decide +kernel
theorem dX8_readController_25 : decode cX8_readController 25 = .ok (.aload_n 0, 1) := by decide +kernel
theorem dX8_readController_26 : decode cX8_readController 26 = .ok (.iconst 0, 1) := by decide +kernel
theorem dX8_readController_27 : decode cX8_readController 27 = .ok (.iconst 0, 1) := by decide +kernel
theorem dX8_readController_28 : decode cX8_readController 28 = .ok (.aload_n 0, 1) := by decide +kernel
theorem dX8_readController_29 : decode cX8_readController 29 = .ok (.getfield 18, 3) := by decide +kernel
theorem dX8_readController_32 : decode cX8_readController 32 = .ok (.getfield 68, 3) := by decide +kernel
theorem dX8_readController_35 : decode cX8_readController 35 = .ok (.invokevirtual 139, 3) := by decide +kernel
theorem dX8_readController_38 : decode cX8_readController 38 = .ok (.aload_n 0, 1) := by decide +kernel
theorem dX8_readController_39 : decode cX8_readController 39 = .ok (.getfield 18, 3) := by decide +kernel
theorem dX8_readController_42 : decode cX8_readController 42 = .ok (.dup, 1) := by decide +kernel
theorem dX8_readController_43 : decode cX8_readController 43 = .ok (.getfield 68, 3) := by decide +kernel
theorem dX8_readController_46 : decode cX8_readController 46 = .ok (.iconst 1, 1) := by decide +kernel
theorem dX8_readController_47 : decode cX8_readController 47 = .ok (.iadd, 1) := by decide +kernel
theorem dX8_readController_48 : decode cX8_readController 48 = .ok (.putfield 68, 3) := by decide +kernel
theorem dX8_readController_51 : decode cX8_readController 51 = .ok (.return_, 1) := by decide +kernel
theorem cwX8_readController : mw_cwV yX8_readController cX8_readController 1 (none) 0 := ⟨⟨wd_2, wd_898, by decide +kernel⟩, wd_897, sl_7⟩
set_option maxHeartbeats 4000000 in
set_option maxRecDepth 100000 in
theorem tX8_readController (l : Launch) (G : mwG) (ad : Nat → Nat) (fu : Nat) (M : mwM) (L : mwL) {M0 : mwM} {L0 : mwL} (hD : DX8_readController fu M L = some (M0, L0)) : Met l yX8_readController (Cond.code yX8_readController cX8_readController 1 (none) :: GT) ({ frames := 7, cells := 0, slots := 0, locals := 152 }) (mw_Pre G ad NF TF FF M L [.ref (ad 1)]) (mw_Qv G ad NF TF FF (mw_eqV M0 L0)) 0 0 (mw_fr G) := by
  refine mw_enter (by decide) (Nat.le_of_ble_eq_true rfl) ?_
  intro p e s m below meth c ls C hr hlocks hnm hw hl
  have hl : lv_has ls 1 [(0, .ref (ad 1))] := hl
  have hb51 : ∀ (M : mwM) (L : mwL) (H : Heap) (locs : List Loc) (ls : Array Slot), fX8_readController_b51 fu M L = some (M0, L0) → mw_W G ad NF TF FF M L H locs → lv_has ls 1 [] → W p l e ({ frames := 7, cells := 0, slots := 0, locals := 152 }) s m [.ref (ad 1)].toArray below meth c H locs 0 0 (MQ below (mw_Qv G ad NF TF FF (mw_eqV M0 L0)) [.ref (ad 1)].toArray s 0 0 (mw_fr G)) (F0 m 51 ls []) := by
    intro M L H locs ls hD hw hl
    unfold fX8_readController_b51 at hD
    exact mr_vret C hr hlocks hw (Option.some.inj hD) dX8_readController_51
  unfold DX8_readController at hD
  refine lv_aload_n C.1.1 C.1.2.1 dX8_readController_0 rfl (lv_at hl 0 rfl) ?_
  refine lv_iconst (v := 0) C.1.1 C.1.2.1 dX8_readController_1 (by decide) ?_
  refine lv_aload_n C.1.1 C.1.2.1 dX8_readController_2 rfl (lv_at hl 0 rfl) ?_
  refine mr_getR C hw kc_8 1 (by decide) tf_1 ff_1_1 wd_595 dX8_readController_3 (by decide) rfl ?_
  refine mr_getNI C hw kc_1 13 (by decide) tf_3 nd_540 dX8_readController_6 (by decide) rfl ?_
  refine lv_bipush (v := 6) C.1.1 C.1.2.1 dX8_readController_9 (by decide) ?_
  obtain ⟨M1, L2, h1, hD⟩ := g_b2 hD
  refine md_cvV (As := [.int 0, .int (M 3 13), .int 6]) (rest := []) C hw (tX8_newName l G ad fu 0 (M 3 13) 6 M L h1) kc_8 (by decide) tf_1 wd_899 cwX8_newName ⟨Nat.le_of_ble_eq_true rfl, Nat.le_of_ble_eq_true rfl⟩ rfl hl.1 (Nat.le_of_ble_eq_true rfl) dX8_readController_11 rfl rfl ⟨Nat.zero_le _, Nat.zero_le _⟩ rfl (fun H locs hw => ?_)
  refine lv_aload_n C.1.1 C.1.2.1 dX8_readController_14 rfl (lv_at hl 0 rfl) ?_
  obtain ⟨M3, L4, h1, hD⟩ := g_b2 hD
  refine md_cvV (As := []) (rest := []) C hw (tX8_endLine l G ad fu M1 L2 h1) kc_8 (by decide) tf_1 wd_930 cwX8_endLine ⟨Nat.le_of_ble_eq_true rfl, Nat.le_of_ble_eq_true rfl⟩ rfl hl.1 (Nat.le_of_ble_eq_true rfl) dX8_readController_15 rfl rfl ⟨Nat.zero_le _, Nat.zero_le _⟩ rfl (fun H locs hw => ?_)
  refine lv_aload_n C.1.1 C.1.2.1 dX8_readController_18 rfl (lv_at hl 0 rfl) ?_
  refine mr_getI C hw kc_8 12 (by decide) tf_1 wd_607 dX8_readController_19 (by decide) rfl ?_
  refine lv_if_ne (tgt := 51) C.1.1 C.1.2.1 dX8_readController_22 (by decide) (fun c5 => ?_) (fun c5 => ?_)
  · replace hD := g_neg c5 hD
    exact hb51 M3 L4 _ _ ls hD hw (lv_sub hl [] rfl)
  · replace hD := g_pos c5 hD
    refine lv_aload_n C.1.1 C.1.2.1 dX8_readController_25 rfl (lv_at hl 0 rfl) ?_
    refine lv_iconst (v := 0) C.1.1 C.1.2.1 dX8_readController_26 (by decide) ?_
    refine lv_iconst (v := 0) C.1.1 C.1.2.1 dX8_readController_27 (by decide) ?_
    refine lv_aload_n C.1.1 C.1.2.1 dX8_readController_28 rfl (lv_at hl 0 rfl) ?_
    refine mr_getR C hw kc_8 1 (by decide) tf_1 ff_1_1 wd_595 dX8_readController_29 (by decide) rfl ?_
    refine mr_getNI C hw kc_1 13 (by decide) tf_3 nd_540 dX8_readController_32 (by decide) rfl ?_
    obtain ⟨M6, L7, h1, hD⟩ := g_b2 hD
    refine md_cvV (As := [.int 0, .int 0, .int (M3 3 13)]) (rest := []) C hw (tX8_keepName l G ad fu 0 0 (M3 3 13) M3 L4 h1) kc_8 (by decide) tf_1 wd_934 cwX8_keepName ⟨Nat.le_of_ble_eq_true rfl, Nat.le_of_ble_eq_true rfl⟩ rfl hl.1 (Nat.le_of_ble_eq_true rfl) dX8_readController_35 rfl rfl ⟨Nat.zero_le _, Nat.zero_le _⟩ rfl (fun H locs hw => ?_)
    refine lv_aload_n C.1.1 C.1.2.1 dX8_readController_38 rfl (lv_at hl 0 rfl) ?_
    refine mr_getR C hw kc_8 1 (by decide) tf_1 ff_1_1 wd_595 dX8_readController_39 (by decide) rfl ?_
    refine lv_dup C.1.1 C.1.2.1 dX8_readController_42 rfl ?_
    refine mr_getNI C hw kc_1 13 (by decide) tf_3 nd_540 dX8_readController_43 (by decide) rfl ?_
    refine lv_iconst (v := 1) C.1.1 C.1.2.1 dX8_readController_46 (by decide) ?_
    refine lv_iadd C.1.1 C.1.2.1 dX8_readController_47 ?_
    obtain ⟨M8, eM8, hD⟩ := g_let hD
    refine mr_putNI C hw kc_1 13 (by decide) tf_3 nd_540 dX8_readController_48 (by decide) rfl rfl rfl rfl (fun H locs hw => ?_)
    replace hw : mw_W G ad NF TF FF M8 L7 H locs := by rw [eM8]; exact hw
    exact hb51 M8 L7 _ _ ls hD hw (lv_sub hl [] rfl)

theorem dX8_fetchWord_0 : decode cX8_fetchWord 0 = .ok (.aload_n 0, 1) := by decide +kernel
theorem dX8_fetchWord_1 : decode cX8_fetchWord 1 = .ok (.getfield 34, 3) := by decide +kernel
theorem dX8_fetchWord_4 : decode cX8_fetchWord 4 = .ok (.ifCond .eq 5, 3) := by decide +kernel
theorem dX8_fetchWord_7 : decode cX8_fetchWord 7 = .ok (.iconst 0, 1) := by decide +kernel
theorem dX8_fetchWord_8 : decode cX8_fetchWord 8 = .ok (.ireturn, 1) := by decide +kernel
theorem dX8_fetchWord_9 : decode cX8_fetchWord 9 = .ok (.aload_n 0, 1) := by decide +kernel
theorem dX8_fetchWord_10 : decode cX8_fetchWord 10 = .ok (.invokevirtual 47, 3) := by decide +kernel
theorem dX8_fetchWord_13 : decode cX8_fetchWord 13 = .ok (.aload_n 0, 1) := by decide +kernel
theorem dX8_fetchWord_14 : decode cX8_fetchWord 14 = .ok (.getfield 56, 3) := by decide +kernel
theorem dX8_fetchWord_17 : decode cX8_fetchWord 17 = .ok (.ifCond .ne 12, 3) := by decide +kernel
theorem dX8_fetchWord_20 : decode cX8_fetchWord 20 = .ok (.aload_n 0, 1) := by decide +kernel
theorem dX8_fetchWord_21 : decode cX8_fetchWord 21 = .ok (.iconst 2, 1) := by decide +kernel
theorem dX8_fetchWord_22 : decode cX8_fetchWord 22 = .ok (.aload_n 0, 1) := by decide +kernel
theorem dX8_fetchWord_23 : decode cX8_fetchWord 23 = .ok (.getfield 50, 3) := by decide +kernel
theorem dX8_fetchWord_26 : decode cX8_fetchWord 26 = .ok (.invokevirtual 71, 3) := by decide +kernel
theorem dX8_fetchWord_29 : decode cX8_fetchWord 29 = .ok (.aload_n 0, 1) := by decide +kernel
theorem dX8_fetchWord_30 : decode cX8_fetchWord 30 = .ok (.getfield 56, 3) := by decide +kernel
theorem dX8_fetchWord_33 : decode cX8_fetchWord 33 = .ok (.ifCond .le 7, 3) := by decide +kernel
theorem dX8_fetchWord_36 : decode cX8_fetchWord 36 = .ok (.iconst 1, 1) := by decide +kernel
theorem dX8_fetchWord_37 : decode cX8_fetchWord 37 = .ok (.goto 4, 3) := by decide +kernel
theorem dX8_fetchWord_40 : decode cX8_fetchWord 40 = .ok (.iconst 0, 1) := by decide +kernel
theorem dX8_fetchWord_41 : decode cX8_fetchWord 41 = .ok (.ireturn, 1) := by decide +kernel
theorem cwX8_fetchWord : mw_cwV yX8_fetchWord cX8_fetchWord 1 ((some .boolean)) 0 := ⟨⟨wd_2, wd_949, by decide +kernel⟩, wd_948, sl_18⟩
set_option maxHeartbeats 4000000 in
set_option maxRecDepth 100000 in
theorem tX8_fetchWord (l : Launch) (G : mwG) (ad : Nat → Nat) (fu : Nat) (M : mwM) (L : mwL) {r0 : Int32} {M0 : mwM} {L0 : mwL} (hD : DX8_fetchWord fu M L = some (r0, M0, L0)) : Met l yX8_fetchWord (Cond.code yX8_fetchWord cX8_fetchWord 1 ((some .boolean)) :: GT) ({ frames := 1, cells := 0, slots := 0, locals := 22 }) (mw_Pre G ad NF TF FF M L [.ref (ad 1)]) (mw_Qi G ad NF TF FF (mw_eqI r0 M0 L0)) 0 0 (mw_fr G) := by
  refine mw_enter (by decide) (Nat.le_of_ble_eq_true rfl) ?_
  intro p e s m below meth c ls C hr hlocks hnm hw hl
  have hl : lv_has ls 1 [(0, .ref (ad 1))] := hl
  have hb41 : ∀ (s0 : Int32) (M : mwM) (L : mwL) (H : Heap) (locs : List Loc) (ls : Array Slot), fX8_fetchWord_b41 fu s0 M L = some (r0, M0, L0) → mw_W G ad NF TF FF M L H locs → lv_has ls 1 [] → W p l e ({ frames := 1, cells := 0, slots := 0, locals := 22 }) s m [.ref (ad 1)].toArray below meth c H locs 0 0 (MQ below (mw_Qi G ad NF TF FF (mw_eqI r0 M0 L0)) [.ref (ad 1)].toArray s 0 0 (mw_fr G)) (F0 m 41 ls [.int s0]) := by
    intro s0 M L H locs ls hD hw hl
    unfold fX8_fetchWord_b41 at hD
    obtain ⟨z2, hD⟩ := g_zz hD
    exact mr_iret C hr hlocks hw (nz_zz z2) (Option.some.inj hD) dX8_fetchWord_41
  have hb29 : ∀ (M : mwM) (L : mwL) (H : Heap) (locs : List Loc) (ls : Array Slot), fX8_fetchWord_b29 fu M L = some (r0, M0, L0) → mw_W G ad NF TF FF M L H locs → lv_has ls 1 [(0, .ref (ad 1))] → W p l e ({ frames := 1, cells := 0, slots := 0, locals := 22 }) s m [.ref (ad 1)].toArray below meth c H locs 0 0 (MQ below (mw_Qi G ad NF TF FF (mw_eqI r0 M0 L0)) [.ref (ad 1)].toArray s 0 0 (mw_fr G)) (F0 m 29 ls []) := by
    intro M L H locs ls hD hw hl
    unfold fX8_fetchWord_b29 at hD
    refine lv_aload_n C.1.1 C.1.2.1 dX8_fetchWord_29 rfl (lv_at hl 0 rfl) ?_
    refine mr_getI C hw kc_8 9 (by decide) tf_1 wd_604 dX8_fetchWord_30 (by decide) rfl ?_
    refine lv_if_le (tgt := 40) C.1.1 C.1.2.1 dX8_fetchWord_33 (by decide) (fun c1 => ?_) (fun c1 => ?_)
    · replace hD := g_pos c1 hD
      refine lv_iconst (v := 0) C.1.1 C.1.2.1 dX8_fetchWord_40 (by decide) ?_
      exact hb41 0 M L _ _ ls hD hw (lv_sub hl [] rfl)
    · replace hD := g_neg c1 hD
      refine lv_iconst (v := 1) C.1.1 C.1.2.1 dX8_fetchWord_36 (by decide) ?_
      refine lv_goto (tgt := 41) C.1.1 C.1.2.1 dX8_fetchWord_37 (by decide) ?_
      exact hb41 1 M L _ _ ls hD hw (lv_sub hl [] rfl)
  unfold DX8_fetchWord at hD
  refine lv_aload_n C.1.1 C.1.2.1 dX8_fetchWord_0 rfl (lv_at hl 0 rfl) ?_
  refine mr_getI C hw kc_8 12 (by decide) tf_1 wd_607 dX8_fetchWord_1 (by decide) rfl ?_
  refine lv_if_eq (tgt := 9) C.1.1 C.1.2.1 dX8_fetchWord_4 (by decide) (fun c3 => ?_) (fun c3 => ?_)
  · replace hD := g_pos c3 hD
    refine lv_aload_n C.1.1 C.1.2.1 dX8_fetchWord_9 rfl (lv_at hl 0 rfl) ?_
    obtain ⟨M4, L5, h1, hD⟩ := g_b2 hD
    refine md_cvV (As := []) (rest := []) C hw (tX8_nextWord l G ad fu M L h1) kc_8 (by decide) tf_1 wd_830 cwX8_nextWord ⟨Nat.le_of_ble_eq_true rfl, Nat.le_of_ble_eq_true rfl⟩ rfl hl.1 (Nat.le_of_ble_eq_true rfl) dX8_fetchWord_10 rfl rfl ⟨Nat.zero_le _, Nat.zero_le _⟩ rfl (fun H locs hw => ?_)
    refine lv_aload_n C.1.1 C.1.2.1 dX8_fetchWord_13 rfl (lv_at hl 0 rfl) ?_
    refine mr_getI C hw kc_8 9 (by decide) tf_1 wd_604 dX8_fetchWord_14 (by decide) rfl ?_
    refine lv_if_ne (tgt := 29) C.1.1 C.1.2.1 dX8_fetchWord_17 (by decide) (fun c6 => ?_) (fun c6 => ?_)
    · replace hD := g_neg c6 hD
      exact hb29 M4 L5 _ _ ls hD hw (lv_sub hl [0] rfl)
    · replace hD := g_pos c6 hD
      refine lv_aload_n C.1.1 C.1.2.1 dX8_fetchWord_20 rfl (lv_at hl 0 rfl) ?_
      refine lv_iconst (v := 2) C.1.1 C.1.2.1 dX8_fetchWord_21 (by decide) ?_
      refine lv_aload_n C.1.1 C.1.2.1 dX8_fetchWord_22 rfl (lv_at hl 0 rfl) ?_
      refine mr_getI C hw kc_8 8 (by decide) tf_1 wd_603 dX8_fetchWord_23 (by decide) rfl ?_
      obtain ⟨M7, L8, h1, hD⟩ := g_b2 hD
      refine md_cvV (As := [.int 2, .int (M4 1 8)]) (rest := []) C hw (tX8_fail l G ad fu 2 (M4 1 8) M4 L5 h1) kc_8 (by decide) tf_1 wd_918 cwX8_fail ⟨Nat.le_of_ble_eq_true rfl, Nat.le_of_ble_eq_true rfl⟩ rfl hl.1 (Nat.le_of_ble_eq_true rfl) dX8_fetchWord_26 rfl rfl ⟨Nat.zero_le _, Nat.zero_le _⟩ rfl (fun H locs hw => ?_)
      exact hb29 M7 L8 _ _ ls hD hw (lv_sub hl [0] rfl)
  · replace hD := g_neg c3 hD
    refine lv_iconst (v := 0) C.1.1 C.1.2.1 dX8_fetchWord_7 (by decide) ?_
    exact mr_iret C hr hlocks hw (by decide +kernel) (Option.some.inj hD) dX8_fetchWord_8

theorem dX8_toldName_0 : decode cX8_toldName 0 = .ok (.aload_n 0, 1) := by decide +kernel
theorem dX8_toldName_1 : decode cX8_toldName 1 = .ok (.invokevirtual 282, 3) := by decide +kernel
theorem dX8_toldName_4 : decode cX8_toldName 4 = .ok (.ifCond .ne 5, 3) := by decide +kernel
theorem dX8_toldName_7 : decode cX8_toldName 7 = .ok (.iconst 0, 1) := by decide +kernel
theorem dX8_toldName_8 : decode cX8_toldName 8 = .ok (.ireturn, 1) := by decide +kernel
theorem dX8_toldName_9 : decode cX8_toldName 9 = .ok (.aload_n 0, 1) := by decide +kernel
theorem dX8_toldName_10 : decode cX8_toldName 10 = .ok (.iload_n 1, 1) := by decide +kernel
theorem dX8_toldName_11 : decode cX8_toldName 11 = .ok (.invokevirtual 279, 3) := by decide +kernel
theorem dX8_toldName_14 : decode cX8_toldName 14 = .ok (.istore_n 3, 1) := by decide +kernel
theorem dX8_toldName_15 : decode cX8_toldName 15 = .ok (.iload_n 3, 1) := by decide +kernel
theorem dX8_toldName_16 : decode cX8_toldName 16 = .ok (.ifCond .lt 15, 3) := by decide +kernel
theorem dX8_toldName_19 : decode cX8_toldName 19 = .ok (.aload_n 0, 1) := by decide +kernel
theorem dX8_toldName_20 : decode cX8_toldName 20 = .ok (.getfield 24, 3) := by decide +kernel
theorem dX8_toldName_23 : decode cX8_toldName 23 = .ok (.iconst 3, 1) := by decide +kernel
theorem dX8_toldName_24 : decode cX8_toldName 24 = .ok (.aaload, 1) := by decide +kernel
theorem dX8_toldName_25 : decode cX8_toldName 25 = .ok (.iload_n 3, 1) := by decide +kernel
theorem dX8_toldName_26 : decode cX8_toldName 26 = .ok (.iaload, 1) := by decide +kernel
theorem dX8_toldName_27 : decode cX8_toldName 27 = .ok (.iload_n 2, 1) := by decide +kernel
theorem dX8_toldName_28 : decode cX8_toldName 28 = .ok (.if_icmp .eq 14, 3) := by decide +kernel
theorem dX8_toldName_31 : decode cX8_toldName 31 = .ok (.aload_n 0, 1) := by decide +kernel
theorem dX8_toldName_32 : decode cX8_toldName 32 = .ok (.iconst 4, 1) := by decide +kernel
theorem dX8_toldName_33 : decode cX8_toldName 33 = .ok (.aload_n 0, 1) := by decide +kernel
theorem dX8_toldName_34 : decode cX8_toldName 34 = .ok (.getfield 50, 3) := by decide +kernel
theorem dX8_toldName_37 : decode cX8_toldName 37 = .ok (.invokevirtual 71, 3) := by decide +kernel
theorem dX8_toldName_40 : decode cX8_toldName 40 = .ok (.iconst 0, 1) := by decide +kernel
theorem dX8_toldName_41 : decode cX8_toldName 41 = .ok (.ireturn, 1) := by decide +kernel
theorem dX8_toldName_42 : decode cX8_toldName 42 = .ok (.aload_n 0, 1) := by decide +kernel
theorem dX8_toldName_43 : decode cX8_toldName 43 = .ok (.getfield 24, 3) := by decide +kernel
theorem dX8_toldName_46 : decode cX8_toldName 46 = .ok (.iconst 4, 1) := by decide +kernel
theorem dX8_toldName_47 : decode cX8_toldName 47 = .ok (.aaload, 1) := by decide +kernel
theorem dX8_toldName_48 : decode cX8_toldName 48 = .ok (.iload_n 3, 1) := by decide +kernel
theorem dX8_toldName_49 : decode cX8_toldName 49 = .ok (.iaload, 1) := by decide +kernel
theorem dX8_toldName_50 : decode cX8_toldName 50 = .ok (.ireturn, 1) := by decide +kernel
theorem cwX8_toldName : mw_cwV yX8_toldName cX8_toldName 4 ((some .int)) 2 := ⟨⟨wd_2, wd_945, by decide +kernel⟩, wd_944, sl_17⟩
set_option maxHeartbeats 4000000 in
set_option maxRecDepth 100000 in
theorem tX8_toldName (l : Launch) (G : mwG) (ad : Nat → Nat) (fu : Nat) (a1 : Int32) (a2 : Int32) (M : mwM) (L : mwL) {r0 : Int32} {M0 : mwM} {L0 : mwL} (hD : DX8_toldName fu a1 a2 M L = some (r0, M0, L0)) : Met l yX8_toldName (Cond.code yX8_toldName cX8_toldName 4 ((some .int)) :: GT) ({ frames := 2, cells := 0, slots := 0, locals := 44 }) (mw_Pre G ad NF TF FF M L [.ref (ad 1), .int a1, .int a2]) (mw_Qi G ad NF TF FF (mw_eqI r0 M0 L0)) 0 0 (mw_fr G) := by
  refine mw_enter (by decide) (Nat.le_of_ble_eq_true rfl) ?_
  intro p e s m below meth c ls C hr hlocks hnm hw hl
  have hl : lv_has ls 4 [(0, .ref (ad 1)), (1, .int a1), (2, .int a2)] := hl
  have hb31 : ∀ (M : mwM) (L : mwL) (H : Heap) (locs : List Loc) (ls : Array Slot), fX8_toldName_b31 fu a1 a2 M L = some (r0, M0, L0) → mw_W G ad NF TF FF M L H locs → lv_has ls 4 [(0, .ref (ad 1))] → W p l e ({ frames := 2, cells := 0, slots := 0, locals := 44 }) s m [.ref (ad 1), .int a1, .int a2].toArray below meth c H locs 0 0 (MQ below (mw_Qi G ad NF TF FF (mw_eqI r0 M0 L0)) [.ref (ad 1), .int a1, .int a2].toArray s 0 0 (mw_fr G)) (F0 m 31 ls []) := by
    intro M L H locs ls hD hw hl
    unfold fX8_toldName_b31 at hD
    refine lv_aload_n C.1.1 C.1.2.1 dX8_toldName_31 rfl (lv_at hl 0 rfl) ?_
    refine lv_iconst (v := 4) C.1.1 C.1.2.1 dX8_toldName_32 (by decide) ?_
    refine lv_aload_n C.1.1 C.1.2.1 dX8_toldName_33 rfl (lv_at hl 0 rfl) ?_
    refine mr_getI C hw kc_8 8 (by decide) tf_1 wd_603 dX8_toldName_34 (by decide) rfl ?_
    obtain ⟨M1, L2, h1, hD⟩ := g_b2 hD
    refine md_cvV (As := [.int 4, .int (M 1 8)]) (rest := []) C hw (tX8_fail l G ad fu 4 (M 1 8) M L h1) kc_8 (by decide) tf_1 wd_918 cwX8_fail ⟨Nat.le_of_ble_eq_true rfl, Nat.le_of_ble_eq_true rfl⟩ rfl hl.1 (Nat.le_of_ble_eq_true rfl) dX8_toldName_37 rfl rfl ⟨Nat.zero_le _, Nat.zero_le _⟩ rfl (fun H locs hw => ?_)
    refine lv_iconst (v := 0) C.1.1 C.1.2.1 dX8_toldName_40 (by decide) ?_
    exact mr_iret C hr hlocks hw rfl (Option.some.inj hD) dX8_toldName_41
  unfold DX8_toldName at hD
  refine lv_aload_n C.1.1 C.1.2.1 dX8_toldName_0 rfl (lv_at hl 0 rfl) ?_
  obtain ⟨r5, M3, L4, h1, hD⟩ := g_b3 hD
  refine md_cvI (As := []) (rest := []) C hw (tX8_fetchWord l G ad fu M L h1) kc_8 (by decide) tf_1 wd_946 cwX8_fetchWord ⟨Nat.le_of_ble_eq_true rfl, Nat.le_of_ble_eq_true rfl⟩ rfl hl.1 (Nat.le_of_ble_eq_true rfl) dX8_toldName_1 rfl rfl ⟨Nat.zero_le _, Nat.zero_le _⟩ rfl (fun H locs hw => ?_)
  refine lv_if_ne (tgt := 9) C.1.1 C.1.2.1 dX8_toldName_4 (by decide) (fun c6 => ?_) (fun c6 => ?_)
  · replace hD := g_neg c6 hD
    refine lv_aload_n C.1.1 C.1.2.1 dX8_toldName_9 rfl (lv_at hl 0 rfl) ?_
    refine lv_iload_n C.1.1 C.1.2.1 dX8_toldName_10 rfl (lv_at hl 1 rfl) ?_
    obtain ⟨r9, M7, L8, h1, hD⟩ := g_b3 hD
    refine md_cvI (As := [.int a1]) (rest := []) C hw (tX8_findName l G ad fu a1 M3 L4 h1) kc_8 (by decide) tf_1 wd_922 cwX8_findName ⟨Nat.le_of_ble_eq_true rfl, Nat.le_of_ble_eq_true rfl⟩ rfl hl.1 (Nat.le_of_ble_eq_true rfl) dX8_toldName_11 rfl rfl ⟨Nat.zero_le _, Nat.zero_le _⟩ rfl (fun H locs hw => ?_)
    refine lv_istore_n (lv' := [(3, .int r9), (0, .ref (ad 1)), (1, .int a1), (2, .int a2)]) C.1.1 C.1.2.1 dX8_toldName_14 rfl hl (by decide) rfl (fun ls hl => ?_)
    refine lv_iload_n C.1.1 C.1.2.1 dX8_toldName_15 rfl (lv_at hl 0 rfl) ?_
    refine lv_if_lt (tgt := 31) C.1.1 C.1.2.1 dX8_toldName_16 (by decide) (fun c10 => ?_) (fun c10 => ?_)
    · replace hD := g_pos c10 hD
      exact hb31 M7 L8 _ _ ls hD hw (lv_sub hl [1] rfl)
    · replace hD := g_neg c10 hD
      refine lv_aload_n C.1.1 C.1.2.1 dX8_toldName_19 rfl (lv_at hl 1 rfl) ?_
      refine mr_getR C hw kc_8 2 (by decide) tf_1 ff_1_2 wd_596 dX8_toldName_20 (by decide) rfl ?_
      refine lv_iconst (v := 3) C.1.1 C.1.2.1 dX8_toldName_23 (by decide) ?_
      refine mr_aald C hw (by decide) tf_725 (by decide) (by decide) rfl rfl (show vp_in 3 5 from by unfold vp_in; decide) ff_725_3 dX8_toldName_24 ?_
      refine lv_iload_n C.1.1 C.1.2.1 dX8_toldName_25 rfl (lv_at hl 0 rfl) ?_
      obtain ⟨q12, hD⟩ := g_ck hD
      refine mr_iald C hw (by decide) tf_729 q12 dX8_toldName_26 ?_
      refine lv_iload_n C.1.1 C.1.2.1 dX8_toldName_27 rfl (lv_at hl 3 rfl) ?_
      refine lv_icmp_eq (tgt := 42) C.1.1 C.1.2.1 dX8_toldName_28 (by decide) (fun c13 => ?_) (fun c13 => ?_)
      · replace hD := g_pos c13 hD
        refine lv_aload_n C.1.1 C.1.2.1 dX8_toldName_42 rfl (lv_at hl 1 rfl) ?_
        refine mr_getR C hw kc_8 2 (by decide) tf_1 ff_1_2 wd_596 dX8_toldName_43 (by decide) rfl ?_
        refine lv_iconst (v := 4) C.1.1 C.1.2.1 dX8_toldName_46 (by decide) ?_
        refine mr_aald C hw (by decide) tf_725 (by decide) (by decide) rfl rfl (show vp_in 4 5 from by unfold vp_in; decide) ff_725_4 dX8_toldName_47 ?_
        refine lv_iload_n C.1.1 C.1.2.1 dX8_toldName_48 rfl (lv_at hl 0 rfl) ?_
        obtain ⟨q15, hD⟩ := g_ck hD
        refine mr_iald C hw (by decide) tf_730 q15 dX8_toldName_49 ?_
        exact mr_iret C hr hlocks hw rfl (Option.some.inj hD) dX8_toldName_50
      · replace hD := g_neg c13 hD
        exact hb31 M7 L8 _ _ ls hD hw (lv_sub hl [1] rfl)
  · replace hD := g_pos c6 hD
    refine lv_iconst (v := 0) C.1.1 C.1.2.1 dX8_toldName_7 (by decide) ?_
    exact mr_iret C hr hlocks hw rfl (Option.some.inj hD) dX8_toldName_8

theorem dX8_isNumber_0 : decode cX8_isNumber 0 = .ok (.aload_n 0, 1) := by decide +kernel
theorem dX8_isNumber_1 : decode cX8_isNumber 1 = .ok (.getfield 56, 3) := by decide +kernel
theorem dX8_isNumber_4 : decode cX8_isNumber 4 = .ok (.ifCond .le 21, 3) := by decide +kernel
theorem dX8_isNumber_7 : decode cX8_isNumber 7 = .ok (.aload_n 0, 1) := by decide +kernel
theorem dX8_isNumber_8 : decode cX8_isNumber 8 = .ok (.getfield 9, 3) := by decide +kernel
theorem dX8_isNumber_11 : decode cX8_isNumber 11 = .ok (.aload_n 0, 1) := by decide +kernel
theorem dX8_isNumber_12 : decode cX8_isNumber 12 = .ok (.getfield 50, 3) := by decide +kernel
theorem dX8_isNumber_15 : decode cX8_isNumber 15 = .ok (.caload, 1) := by decide +kernel
theorem dX8_isNumber_16 : decode cX8_isNumber 16 = .ok (.bipush 45, 2) := by decide +kernel
theorem dX8_isNumber_18 : decode cX8_isNumber 18 = .ok (.if_icmp .ne 7, 3) := by decide +kernel
theorem dX8_isNumber_21 : decode cX8_isNumber 21 = .ok (.iconst 1, 1) := by decide +kernel
theorem dX8_isNumber_22 : decode cX8_isNumber 22 = .ok (.goto 4, 3) := by decide +kernel
theorem dX8_isNumber_25 : decode cX8_isNumber 25 = .ok (.iconst 0, 1) := by decide +kernel
theorem dX8_isNumber_26 : decode cX8_isNumber 26 = .ok (.istore_n 1, 1) := by decide +kernel
theorem dX8_isNumber_27 : decode cX8_isNumber 27 = .ok (.aload_n 0, 1) := by decide +kernel
theorem dX8_isNumber_28 : decode cX8_isNumber 28 = .ok (.getfield 56, 3) := by decide +kernel
theorem dX8_isNumber_31 : decode cX8_isNumber 31 = .ok (.iload_n 1, 1) := by decide +kernel
theorem dX8_isNumber_32 : decode cX8_isNumber 32 = .ok (.isub, 1) := by decide +kernel
theorem dX8_isNumber_33 : decode cX8_isNumber 33 = .ok (.iconst 1, 1) := by decide +kernel
theorem dX8_isNumber_34 : decode cX8_isNumber 34 = .ok (.if_icmp .lt 14, 3) := by decide +kernel
theorem dX8_isNumber_37 : decode cX8_isNumber 37 = .ok (.aload_n 0, 1) := by decide +kernel
theorem dX8_isNumber_38 : decode cX8_isNumber 38 = .ok (.getfield 56, 3) := by decide +kernel
theorem dX8_isNumber_41 : decode cX8_isNumber 41 = .ok (.iload_n 1, 1) := by decide +kernel
theorem dX8_isNumber_42 : decode cX8_isNumber 42 = .ok (.isub, 1) := by decide +kernel
theorem dX8_isNumber_43 : decode cX8_isNumber 43 = .ok (.bipush 9, 2) := by decide +kernel
theorem dX8_isNumber_45 : decode cX8_isNumber 45 = .ok (.if_icmp .le 5, 3) := by decide +kernel
theorem dX8_isNumber_48 : decode cX8_isNumber 48 = .ok (.iconst 0, 1) := by decide +kernel
theorem dX8_isNumber_49 : decode cX8_isNumber 49 = .ok (.ireturn, 1) := by decide +kernel
theorem dX8_isNumber_50 : decode cX8_isNumber 50 = .ok (.iload_n 1, 1) := by decide +kernel
theorem dX8_isNumber_51 : decode cX8_isNumber 51 = .ok (.istore_n 2, 1) := by decide +kernel
theorem dX8_isNumber_52 : decode cX8_isNumber 52 = .ok (.iload_n 2, 1) := by decide +kernel
theorem dX8_isNumber_53 : decode cX8_isNumber 53 = .ok (.aload_n 0, 1) := by decide +kernel
theorem dX8_isNumber_54 : decode cX8_isNumber 54 = .ok (.getfield 56, 3) := by decide +kernel
theorem dX8_isNumber_57 : decode cX8_isNumber 57 = .ok (.if_icmp .ge 28, 3) := by decide +kernel
theorem dX8_isNumber_60 : decode cX8_isNumber 60 = .ok (.aload_n 0, 1) := by decide +kernel
theorem dX8_isNumber_61 : decode cX8_isNumber 61 = .ok (.getfield 9, 3) := by decide +kernel
theorem dX8_isNumber_64 : decode cX8_isNumber 64 = .ok (.aload_n 0, 1) := by decide +kernel
theorem dX8_isNumber_65 : decode cX8_isNumber 65 = .ok (.getfield 50, 3) := by decide +kernel
theorem dX8_isNumber_68 : decode cX8_isNumber 68 = .ok (.iload_n 2, 1) := by decide +kernel
theorem dX8_isNumber_69 : decode cX8_isNumber 69 = .ok (.iadd, 1) := by decide +kernel
theorem dX8_isNumber_70 : decode cX8_isNumber 70 = .ok (.caload, 1) := by decide +kernel
theorem dX8_isNumber_71 : decode cX8_isNumber 71 = .ok (.invokestatic 317, 3) := by decide +kernel
theorem dX8_isNumber_74 : decode cX8_isNumber 74 = .ok (.ifCond .ne 5, 3) := by decide +kernel
theorem dX8_isNumber_77 : decode cX8_isNumber 77 = .ok (.iconst 0, 1) := by decide +kernel
theorem dX8_isNumber_78 : decode cX8_isNumber 78 = .ok (.ireturn, 1) := by decide +kernel
theorem dX8_isNumber_79 : decode cX8_isNumber 79 = .ok (.iinc 2 1, 3) := by decide +kernel
theorem dX8_isNumber_82 : decode cX8_isNumber 82 = .ok (.goto (-30), 3) := by decide +kernel
theorem dX8_isNumber_85 : decode cX8_isNumber 85 = .ok (.iconst 1, 1) := by decide +kernel
theorem dX8_isNumber_86 : decode cX8_isNumber 86 = .ok (.ireturn, 1) := by decide +kernel
theorem cwX8_isNumber : mw_cwV yX8_isNumber cX8_isNumber 3 ((some .boolean)) 0 := ⟨⟨wd_2, wd_961, by decide +kernel⟩, wd_960, sl_21⟩
set_option maxHeartbeats 4000000 in
set_option maxRecDepth 100000 in
theorem tX8_isNumber (l : Launch) (G : mwG) (ad : Nat → Nat) (fu : Nat) (M : mwM) (L : mwL) {r0 : Int32} {M0 : mwM} {L0 : mwL} (hD : DX8_isNumber fu M L = some (r0, M0, L0)) : Met l yX8_isNumber (Cond.code yX8_isNumber cX8_isNumber 3 ((some .boolean)) :: GT) ({ frames := 1, cells := 0, slots := 0, locals := 20 }) (mw_Pre G ad NF TF FF M L [.ref (ad 1)]) (mw_Qi G ad NF TF FF (mw_eqI r0 M0 L0)) 0 0 (mw_fr G) := by
  refine mw_enter (by decide) (Nat.le_of_ble_eq_true rfl) ?_
  intro p e s m below meth c ls C hr hlocks hnm hw hl
  have hl : lv_has ls 3 [(0, .ref (ad 1))] := hl
  have hb48 : ∀ (M : mwM) (L : mwL) (H : Heap) (locs : List Loc) (ls : Array Slot), fX8_isNumber_b48 fu M L = some (r0, M0, L0) → mw_W G ad NF TF FF M L H locs → lv_has ls 3 [] → W p l e ({ frames := 1, cells := 0, slots := 0, locals := 20 }) s m [.ref (ad 1)].toArray below meth c H locs 0 0 (MQ below (mw_Qi G ad NF TF FF (mw_eqI r0 M0 L0)) [.ref (ad 1)].toArray s 0 0 (mw_fr G)) (F0 m 48 ls []) := by
    intro M L H locs ls hD hw hl
    unfold fX8_isNumber_b48 at hD
    refine lv_iconst (v := 0) C.1.1 C.1.2.1 dX8_isNumber_48 (by decide) ?_
    exact mr_iret C hr hlocks hw (by decide +kernel) (Option.some.inj hD) dX8_isNumber_49
  have hh52 : ∀ (f : Nat) (v2 : Int32) (M : mwM) (L : mwL) (H : Heap) (locs : List Loc) (ls : Array Slot), fX8_isNumber_h52 fu f (v2, M, L) = some (r0, M0, L0) → mw_W G ad NF TF FF M L H locs → lv_has ls 3 [(0, .ref (ad 1)), (2, .int v2)] → W p l e ({ frames := 1, cells := 0, slots := 0, locals := 20 }) s m [.ref (ad 1)].toArray below meth c H locs 0 0 (MQ below (mw_Qi G ad NF TF FF (mw_eqI r0 M0 L0)) [.ref (ad 1)].toArray s 0 0 (mw_fr G)) (F0 m 52 ls []) := by
    intro f
    induction f with
    | zero => intro v2 M L H locs ls hD; cases hD
    | succ f52 ih52 =>
      intro v2 M L H locs ls hD hw hl
      replace hD : fX8_isNumber_i52 fu (fX8_isNumber_h52 fu f52) v2 M L = some (r0, M0, L0) := hD
      unfold fX8_isNumber_i52 at hD
      refine lv_iload_n C.1.1 C.1.2.1 dX8_isNumber_52 rfl (lv_at hl 1 rfl) ?_
      refine lv_aload_n C.1.1 C.1.2.1 dX8_isNumber_53 rfl (lv_at hl 0 rfl) ?_
      refine mr_getI C hw kc_8 9 (by decide) tf_1 wd_604 dX8_isNumber_54 (by decide) rfl ?_
      refine lv_icmp_ge (tgt := 85) C.1.1 C.1.2.1 dX8_isNumber_57 (by decide) (fun c3 => ?_) (fun c3 => ?_)
      · replace hD := g_pos c3 hD
        refine lv_iconst (v := 1) C.1.1 C.1.2.1 dX8_isNumber_85 (by decide) ?_
        exact mr_iret C hr hlocks hw (by decide +kernel) (Option.some.inj hD) dX8_isNumber_86
      · replace hD := g_neg c3 hD
        refine lv_aload_n C.1.1 C.1.2.1 dX8_isNumber_60 rfl (lv_at hl 0 rfl) ?_
        refine mr_getR C hw kc_8 0 (by decide) tf_1 ff_1_0 wd_593 dX8_isNumber_61 (by decide) rfl ?_
        refine lv_aload_n C.1.1 C.1.2.1 dX8_isNumber_64 rfl (lv_at hl 0 rfl) ?_
        refine mr_getI C hw kc_8 8 (by decide) tf_1 wd_603 dX8_isNumber_65 (by decide) rfl ?_
        refine lv_iload_n C.1.1 C.1.2.1 dX8_isNumber_68 rfl (lv_at hl 1 rfl) ?_
        refine lv_iadd C.1.1 C.1.2.1 dX8_isNumber_69 ?_
        obtain ⟨q4, hD⟩ := g_ck hD
        refine mr_cald C hw (by decide) tf_2 q4 dX8_isNumber_70 ?_
        obtain ⟨r7, M5, L6, h1, hD⟩ := g_b3 hD
        refine md_csI (As := [.int (M 2 ((M 1 8) + v2).toNatClampNeg)]) (rest := []) C hw (tX8_isDigit l G ad fu (M 2 ((M 1 8) + v2).toNatClampNeg) M L h1) wd_910 cwX8_isDigit ⟨Nat.le_of_ble_eq_true rfl, Nat.le_of_ble_eq_true rfl⟩ rfl hl.1 (Nat.le_of_ble_eq_true rfl) dX8_isNumber_71 rfl rfl ⟨Nat.zero_le _, Nat.zero_le _⟩ rfl (fun H locs hw => ?_)
        refine lv_if_ne (tgt := 79) C.1.1 C.1.2.1 dX8_isNumber_74 (by decide) (fun c8 => ?_) (fun c8 => ?_)
        · replace hD := g_neg c8 hD
          obtain ⟨x9, ex9, hD⟩ := g_let hD
          refine lv_iinc (v := x9) (lv' := [(2, .int x9), (0, .ref (ad 1))]) C.1.1 C.1.2.1 dX8_isNumber_79 hl (k := 1) rfl (by rw [ex9]; rfl) (by decide) rfl (fun ls hl => ?_)
          refine lv_goto (tgt := 52) C.1.1 C.1.2.1 dX8_isNumber_82 (by decide) ?_
          exact ih52 x9 M5 L6 _ _ ls hD hw (lv_sub hl [1, 0] rfl)
        · replace hD := g_pos c8 hD
          refine lv_iconst (v := 0) C.1.1 C.1.2.1 dX8_isNumber_77 (by decide) ?_
          exact mr_iret C hr hlocks hw (by decide +kernel) (Option.some.inj hD) dX8_isNumber_78
  have hb26 : ∀ (s0 : Int32) (M : mwM) (L : mwL) (H : Heap) (locs : List Loc) (ls : Array Slot), fX8_isNumber_b26 fu s0 M L = some (r0, M0, L0) → mw_W G ad NF TF FF M L H locs → lv_has ls 3 [(0, .ref (ad 1))] → W p l e ({ frames := 1, cells := 0, slots := 0, locals := 20 }) s m [.ref (ad 1)].toArray below meth c H locs 0 0 (MQ below (mw_Qi G ad NF TF FF (mw_eqI r0 M0 L0)) [.ref (ad 1)].toArray s 0 0 (mw_fr G)) (F0 m 26 ls [.int s0]) := by
    intro s0 M L H locs ls hD hw hl
    unfold fX8_isNumber_b26 at hD
    refine lv_istore_n (lv' := [(1, .int s0), (0, .ref (ad 1))]) C.1.1 C.1.2.1 dX8_isNumber_26 rfl hl (by decide) rfl (fun ls hl => ?_)
    refine lv_aload_n C.1.1 C.1.2.1 dX8_isNumber_27 rfl (lv_at hl 1 rfl) ?_
    refine mr_getI C hw kc_8 9 (by decide) tf_1 wd_604 dX8_isNumber_28 (by decide) rfl ?_
    refine lv_iload_n C.1.1 C.1.2.1 dX8_isNumber_31 rfl (lv_at hl 0 rfl) ?_
    refine lv_isub C.1.1 C.1.2.1 dX8_isNumber_32 ?_
    refine lv_iconst (v := 1) C.1.1 C.1.2.1 dX8_isNumber_33 (by decide) ?_
    refine lv_icmp_lt (tgt := 48) C.1.1 C.1.2.1 dX8_isNumber_34 (by decide) (fun c1 => ?_) (fun c1 => ?_)
    · replace hD := g_pos c1 hD
      exact hb48 M L _ _ ls hD hw (lv_sub hl [] rfl)
    · replace hD := g_neg c1 hD
      refine lv_aload_n C.1.1 C.1.2.1 dX8_isNumber_37 rfl (lv_at hl 1 rfl) ?_
      refine mr_getI C hw kc_8 9 (by decide) tf_1 wd_604 dX8_isNumber_38 (by decide) rfl ?_
      refine lv_iload_n C.1.1 C.1.2.1 dX8_isNumber_41 rfl (lv_at hl 0 rfl) ?_
      refine lv_isub C.1.1 C.1.2.1 dX8_isNumber_42 ?_
      refine lv_bipush (v := 9) C.1.1 C.1.2.1 dX8_isNumber_43 (by decide) ?_
      refine lv_icmp_le (tgt := 50) C.1.1 C.1.2.1 dX8_isNumber_45 (by decide) (fun c2 => ?_) (fun c2 => ?_)
      · replace hD := g_pos c2 hD
        refine lv_iload_n C.1.1 C.1.2.1 dX8_isNumber_50 rfl (lv_at hl 0 rfl) ?_
        refine lv_istore_n (lv' := [(2, .int s0), (1, .int s0), (0, .ref (ad 1))]) C.1.1 C.1.2.1 dX8_isNumber_51 rfl hl (by decide) rfl (fun ls hl => ?_)
        exact hh52 fu s0 M L _ _ ls hD hw (lv_sub hl [2, 0] rfl)
      · replace hD := g_neg c2 hD
        exact hb48 M L _ _ ls hD hw (lv_sub hl [] rfl)
  have hb25 : ∀ (M : mwM) (L : mwL) (H : Heap) (locs : List Loc) (ls : Array Slot), fX8_isNumber_b25 fu M L = some (r0, M0, L0) → mw_W G ad NF TF FF M L H locs → lv_has ls 3 [(0, .ref (ad 1))] → W p l e ({ frames := 1, cells := 0, slots := 0, locals := 20 }) s m [.ref (ad 1)].toArray below meth c H locs 0 0 (MQ below (mw_Qi G ad NF TF FF (mw_eqI r0 M0 L0)) [.ref (ad 1)].toArray s 0 0 (mw_fr G)) (F0 m 25 ls []) := by
    intro M L H locs ls hD hw hl
    unfold fX8_isNumber_b25 at hD
    refine lv_iconst (v := 0) C.1.1 C.1.2.1 dX8_isNumber_25 (by decide) ?_
    exact hb26 0 M L _ _ ls hD hw (lv_sub hl [0] rfl)
  unfold DX8_isNumber at hD
  refine lv_aload_n C.1.1 C.1.2.1 dX8_isNumber_0 rfl (lv_at hl 0 rfl) ?_
  refine mr_getI C hw kc_8 9 (by decide) tf_1 wd_604 dX8_isNumber_1 (by decide) rfl ?_
  refine lv_if_le (tgt := 25) C.1.1 C.1.2.1 dX8_isNumber_4 (by decide) (fun c10 => ?_) (fun c10 => ?_)
  · replace hD := g_pos c10 hD
    exact hb25 M L _ _ ls hD hw (lv_sub hl [0] rfl)
  · replace hD := g_neg c10 hD
    refine lv_aload_n C.1.1 C.1.2.1 dX8_isNumber_7 rfl (lv_at hl 0 rfl) ?_
    refine mr_getR C hw kc_8 0 (by decide) tf_1 ff_1_0 wd_593 dX8_isNumber_8 (by decide) rfl ?_
    refine lv_aload_n C.1.1 C.1.2.1 dX8_isNumber_11 rfl (lv_at hl 0 rfl) ?_
    refine mr_getI C hw kc_8 8 (by decide) tf_1 wd_603 dX8_isNumber_12 (by decide) rfl ?_
    obtain ⟨q11, hD⟩ := g_ck hD
    refine mr_cald C hw (by decide) tf_2 q11 dX8_isNumber_15 ?_
    refine lv_bipush (v := 45) C.1.1 C.1.2.1 dX8_isNumber_16 (by decide) ?_
    refine lv_icmp_ne (tgt := 25) C.1.1 C.1.2.1 dX8_isNumber_18 (by decide) (fun c12 => ?_) (fun c12 => ?_)
    · replace hD := g_neg c12 hD
      exact hb25 M L _ _ ls hD hw (lv_sub hl [0] rfl)
    · replace hD := g_pos c12 hD
      refine lv_iconst (v := 1) C.1.1 C.1.2.1 dX8_isNumber_21 (by decide) ?_
      refine lv_goto (tgt := 26) C.1.1 C.1.2.1 dX8_isNumber_22 (by decide) ?_
      exact hb26 1 M L _ _ ls hD hw (lv_sub hl [0] rfl)

theorem dX8_numberAtHand_0 : decode cX8_numberAtHand 0 = .ok (.aload_n 0, 1) := by decide +kernel
theorem dX8_numberAtHand_1 : decode cX8_numberAtHand 1 = .ok (.getfield 9, 3) := by decide +kernel
theorem dX8_numberAtHand_4 : decode cX8_numberAtHand 4 = .ok (.aload_n 0, 1) := by decide +kernel
theorem dX8_numberAtHand_5 : decode cX8_numberAtHand 5 = .ok (.getfield 50, 3) := by decide +kernel
theorem dX8_numberAtHand_8 : decode cX8_numberAtHand 8 = .ok (.caload, 1) := by decide +kernel
theorem dX8_numberAtHand_9 : decode cX8_numberAtHand 9 = .ok (.bipush 45, 2) := by decide +kernel
theorem dX8_numberAtHand_11 : decode cX8_numberAtHand 11 = .ok (.if_icmp .ne 7, 3) := by decide +kernel
theorem dX8_numberAtHand_14 : decode cX8_numberAtHand 14 = .ok (.iconst 1, 1) := by decide +kernel
theorem dX8_numberAtHand_15 : decode cX8_numberAtHand 15 = .ok (.goto 4, 3) := by decide +kernel
theorem dX8_numberAtHand_18 : decode cX8_numberAtHand 18 = .ok (.iconst 0, 1) := by decide +kernel
theorem dX8_numberAtHand_19 : decode cX8_numberAtHand 19 = .ok (.istore_n 1, 1) := by decide +kernel
theorem dX8_numberAtHand_20 : decode cX8_numberAtHand 20 = .ok (.iconst 0, 1) := by decide +kernel
theorem dX8_numberAtHand_21 : decode cX8_numberAtHand 21 = .ok (.istore_n 2, 1) := by decide +kernel
theorem dX8_numberAtHand_22 : decode cX8_numberAtHand 22 = .ok (.iload_n 1, 1) := by decide +kernel
theorem dX8_numberAtHand_23 : decode cX8_numberAtHand 23 = .ok (.istore_n 3, 1) := by decide +kernel
theorem dX8_numberAtHand_24 : decode cX8_numberAtHand 24 = .ok (.iload_n 3, 1) := by decide +kernel
theorem dX8_numberAtHand_25 : decode cX8_numberAtHand 25 = .ok (.aload_n 0, 1) := by decide +kernel
theorem dX8_numberAtHand_26 : decode cX8_numberAtHand 26 = .ok (.getfield 56, 3) := by decide +kernel
theorem dX8_numberAtHand_29 : decode cX8_numberAtHand 29 = .ok (.if_icmp .ge 29, 3) := by decide +kernel
theorem dX8_numberAtHand_32 : decode cX8_numberAtHand 32 = .ok (.bipush 10, 2) := by decide +kernel
theorem dX8_numberAtHand_34 : decode cX8_numberAtHand 34 = .ok (.iload_n 2, 1) := by decide +kernel
theorem dX8_numberAtHand_35 : decode cX8_numberAtHand 35 = .ok (.imul, 1) := by decide +kernel
theorem dX8_numberAtHand_36 : decode cX8_numberAtHand 36 = .ok (.aload_n 0, 1) := by decide +kernel
theorem dX8_numberAtHand_37 : decode cX8_numberAtHand 37 = .ok (.getfield 9, 3) := by decide +kernel
theorem dX8_numberAtHand_40 : decode cX8_numberAtHand 40 = .ok (.aload_n 0, 1) := by decide +kernel
theorem dX8_numberAtHand_41 : decode cX8_numberAtHand 41 = .ok (.getfield 50, 3) := by decide +kernel
theorem dX8_numberAtHand_44 : decode cX8_numberAtHand 44 = .ok (.iload_n 3, 1) := by decide +kernel
theorem dX8_numberAtHand_45 : decode cX8_numberAtHand 45 = .ok (.iadd, 1) := by decide +kernel
theorem dX8_numberAtHand_46 : decode cX8_numberAtHand 46 = .ok (.caload, 1) := by decide +kernel
theorem dX8_numberAtHand_47 : decode cX8_numberAtHand 47 = .ok (.bipush 48, 2) := by decide +kernel
theorem dX8_numberAtHand_49 : decode cX8_numberAtHand 49 = .ok (.isub, 1) := by decide +kernel
theorem dX8_numberAtHand_50 : decode cX8_numberAtHand 50 = .ok (.iadd, 1) := by decide +kernel
theorem dX8_numberAtHand_51 : decode cX8_numberAtHand 51 = .ok (.istore_n 2, 1) := by decide +kernel
theorem dX8_numberAtHand_52 : decode cX8_numberAtHand 52 = .ok (.iinc 3 1, 3) := by decide +kernel
theorem dX8_numberAtHand_55 : decode cX8_numberAtHand 55 = .ok (.goto (-31), 3) := by decide +kernel
theorem dX8_numberAtHand_58 : decode cX8_numberAtHand 58 = .ok (.iload_n 1, 1) := by decide +kernel
theorem dX8_numberAtHand_59 : decode cX8_numberAtHand 59 = .ok (.iconst 1, 1) := by decide +kernel
theorem dX8_numberAtHand_60 : decode cX8_numberAtHand 60 = .ok (.if_icmp .ne 8, 3) := by decide +kernel
theorem dX8_numberAtHand_63 : decode cX8_numberAtHand 63 = .ok (.iload_n 2, 1) := by decide +kernel
theorem dX8_numberAtHand_64 : decode cX8_numberAtHand 64 = .ok (.ineg, 1) := by decide +kernel
theorem dX8_numberAtHand_65 : decode cX8_numberAtHand 65 = .ok (.goto 4, 3) := by decide +kernel
theorem dX8_numberAtHand_68 : decode cX8_numberAtHand 68 = .ok (.iload_n 2, 1) := by decide +kernel
theorem dX8_numberAtHand_69 : decode cX8_numberAtHand 69 = .ok (.ireturn, 1) := by decide +kernel
theorem cwX8_numberAtHand : mw_cwV yX8_numberAtHand cX8_numberAtHand 4 ((some .int)) 0 := ⟨⟨wd_2, wd_965, by decide +kernel⟩, wd_964, sl_22⟩
set_option maxHeartbeats 4000000 in
set_option maxRecDepth 100000 in
theorem tX8_numberAtHand (l : Launch) (G : mwG) (ad : Nat → Nat) (fu : Nat) (M : mwM) (L : mwL) {r0 : Int32} {M0 : mwM} {L0 : mwL} (hD : DX8_numberAtHand fu M L = some (r0, M0, L0)) : Met l yX8_numberAtHand (Cond.code yX8_numberAtHand cX8_numberAtHand 4 ((some .int)) :: GT) ({ frames := 0, cells := 0, slots := 0, locals := 0 }) (mw_Pre G ad NF TF FF M L [.ref (ad 1)]) (mw_Qi G ad NF TF FF (mw_eqI r0 M0 L0)) 0 0 (mw_fr G) := by
  refine mw_enter (by decide) (Nat.le_of_ble_eq_true rfl) ?_
  intro p e s m below meth c ls C hr hlocks hnm hw hl
  have hl : lv_has ls 4 [(0, .ref (ad 1))] := hl
  have hb69 : ∀ (s0 : Int32) (M : mwM) (L : mwL) (H : Heap) (locs : List Loc) (ls : Array Slot), fX8_numberAtHand_b69 fu s0 M L = some (r0, M0, L0) → mw_W G ad NF TF FF M L H locs → lv_has ls 4 [] → W p l e ({ frames := 0, cells := 0, slots := 0, locals := 0 }) s m [.ref (ad 1)].toArray below meth c H locs 0 0 (MQ below (mw_Qi G ad NF TF FF (mw_eqI r0 M0 L0)) [.ref (ad 1)].toArray s 0 0 (mw_fr G)) (F0 m 69 ls [.int s0]) := by
    intro s0 M L H locs ls hD hw hl
    unfold fX8_numberAtHand_b69 at hD
    exact mr_iret C hr hlocks hw rfl (Option.some.inj hD) dX8_numberAtHand_69
  have hh24 : ∀ (f : Nat) (v1 : Int32) (v2 : Int32) (v3 : Int32) (M : mwM) (L : mwL) (H : Heap) (locs : List Loc) (ls : Array Slot), fX8_numberAtHand_h24 fu f (v1, v2, v3, M, L) = some (r0, M0, L0) → mw_W G ad NF TF FF M L H locs → lv_has ls 4 [(0, .ref (ad 1)), (1, .int v1), (2, .int v2), (3, .int v3)] → W p l e ({ frames := 0, cells := 0, slots := 0, locals := 0 }) s m [.ref (ad 1)].toArray below meth c H locs 0 0 (MQ below (mw_Qi G ad NF TF FF (mw_eqI r0 M0 L0)) [.ref (ad 1)].toArray s 0 0 (mw_fr G)) (F0 m 24 ls []) := by
    intro f
    induction f with
    | zero => intro v1 v2 v3 M L H locs ls hD; cases hD
    | succ f24 ih24 =>
      intro v1 v2 v3 M L H locs ls hD hw hl
      replace hD : fX8_numberAtHand_i24 fu (fX8_numberAtHand_h24 fu f24) v1 v2 v3 M L = some (r0, M0, L0) := hD
      unfold fX8_numberAtHand_i24 at hD
      refine lv_iload_n C.1.1 C.1.2.1 dX8_numberAtHand_24 rfl (lv_at hl 3 rfl) ?_
      refine lv_aload_n C.1.1 C.1.2.1 dX8_numberAtHand_25 rfl (lv_at hl 0 rfl) ?_
      refine mr_getI C hw kc_8 9 (by decide) tf_1 wd_604 dX8_numberAtHand_26 (by decide) rfl ?_
      refine lv_icmp_ge (tgt := 58) C.1.1 C.1.2.1 dX8_numberAtHand_29 (by decide) (fun c1 => ?_) (fun c1 => ?_)
      · replace hD := g_pos c1 hD
        refine lv_iload_n C.1.1 C.1.2.1 dX8_numberAtHand_58 rfl (lv_at hl 1 rfl) ?_
        refine lv_iconst (v := 1) C.1.1 C.1.2.1 dX8_numberAtHand_59 (by decide) ?_
        refine lv_icmp_ne (tgt := 68) C.1.1 C.1.2.1 dX8_numberAtHand_60 (by decide) (fun c2 => ?_) (fun c2 => ?_)
        · replace hD := g_neg c2 hD
          refine lv_iload_n C.1.1 C.1.2.1 dX8_numberAtHand_68 rfl (lv_at hl 2 rfl) ?_
          exact hb69 v2 M L _ _ ls hD hw (lv_sub hl [] rfl)
        · replace hD := g_pos c2 hD
          refine lv_iload_n C.1.1 C.1.2.1 dX8_numberAtHand_63 rfl (lv_at hl 2 rfl) ?_
          refine lv_ineg C.1.1 C.1.2.1 dX8_numberAtHand_64 ?_
          refine lv_goto (tgt := 69) C.1.1 C.1.2.1 dX8_numberAtHand_65 (by decide) ?_
          exact hb69 (-v2) M L _ _ ls hD hw (lv_sub hl [] rfl)
      · replace hD := g_neg c1 hD
        refine lv_bipush (v := 10) C.1.1 C.1.2.1 dX8_numberAtHand_32 (by decide) ?_
        refine lv_iload_n C.1.1 C.1.2.1 dX8_numberAtHand_34 rfl (lv_at hl 2 rfl) ?_
        refine lv_imul C.1.1 C.1.2.1 dX8_numberAtHand_35 ?_
        refine lv_aload_n C.1.1 C.1.2.1 dX8_numberAtHand_36 rfl (lv_at hl 0 rfl) ?_
        refine mr_getR C hw kc_8 0 (by decide) tf_1 ff_1_0 wd_593 dX8_numberAtHand_37 (by decide) rfl ?_
        refine lv_aload_n C.1.1 C.1.2.1 dX8_numberAtHand_40 rfl (lv_at hl 0 rfl) ?_
        refine mr_getI C hw kc_8 8 (by decide) tf_1 wd_603 dX8_numberAtHand_41 (by decide) rfl ?_
        refine lv_iload_n C.1.1 C.1.2.1 dX8_numberAtHand_44 rfl (lv_at hl 3 rfl) ?_
        refine lv_iadd C.1.1 C.1.2.1 dX8_numberAtHand_45 ?_
        obtain ⟨q3, hD⟩ := g_ck hD
        refine mr_cald C hw (by decide) tf_2 q3 dX8_numberAtHand_46 ?_
        refine lv_bipush (v := 48) C.1.1 C.1.2.1 dX8_numberAtHand_47 (by decide) ?_
        refine lv_isub C.1.1 C.1.2.1 dX8_numberAtHand_49 ?_
        refine lv_iadd C.1.1 C.1.2.1 dX8_numberAtHand_50 ?_
        obtain ⟨x4, ex4, hD⟩ := g_let hD
        refine W.eq (g2 := F0 m 51 ls (.int x4 :: [])) (by rw [ex4]) ?_
        refine lv_istore_n (lv' := [(2, .int x4), (0, .ref (ad 1)), (1, .int v1), (3, .int v3)]) C.1.1 C.1.2.1 dX8_numberAtHand_51 rfl hl (by decide) rfl (fun ls hl => ?_)
        obtain ⟨x5, ex5, hD⟩ := g_let hD
        refine lv_iinc (v := x5) (lv' := [(3, .int x5), (2, .int x4), (0, .ref (ad 1)), (1, .int v1)]) C.1.1 C.1.2.1 dX8_numberAtHand_52 hl (k := 3) rfl (by rw [ex5]; rfl) (by decide) rfl (fun ls hl => ?_)
        refine lv_goto (tgt := 24) C.1.1 C.1.2.1 dX8_numberAtHand_55 (by decide) ?_
        exact ih24 v1 x4 x5 M L _ _ ls hD hw (lv_sub hl [2, 3, 1, 0] rfl)
  have hb19 : ∀ (s0 : Int32) (M : mwM) (L : mwL) (H : Heap) (locs : List Loc) (ls : Array Slot), fX8_numberAtHand_b19 fu s0 M L = some (r0, M0, L0) → mw_W G ad NF TF FF M L H locs → lv_has ls 4 [(0, .ref (ad 1))] → W p l e ({ frames := 0, cells := 0, slots := 0, locals := 0 }) s m [.ref (ad 1)].toArray below meth c H locs 0 0 (MQ below (mw_Qi G ad NF TF FF (mw_eqI r0 M0 L0)) [.ref (ad 1)].toArray s 0 0 (mw_fr G)) (F0 m 19 ls [.int s0]) := by
    intro s0 M L H locs ls hD hw hl
    unfold fX8_numberAtHand_b19 at hD
    refine lv_istore_n (lv' := [(1, .int s0), (0, .ref (ad 1))]) C.1.1 C.1.2.1 dX8_numberAtHand_19 rfl hl (by decide) rfl (fun ls hl => ?_)
    refine lv_iconst (v := 0) C.1.1 C.1.2.1 dX8_numberAtHand_20 (by decide) ?_
    refine lv_istore_n (lv' := [(2, .int 0), (1, .int s0), (0, .ref (ad 1))]) C.1.1 C.1.2.1 dX8_numberAtHand_21 rfl hl (by decide) rfl (fun ls hl => ?_)
    refine lv_iload_n C.1.1 C.1.2.1 dX8_numberAtHand_22 rfl (lv_at hl 1 rfl) ?_
    refine lv_istore_n (lv' := [(3, .int s0), (2, .int 0), (1, .int s0), (0, .ref (ad 1))]) C.1.1 C.1.2.1 dX8_numberAtHand_23 rfl hl (by decide) rfl (fun ls hl => ?_)
    exact hh24 fu s0 0 s0 M L _ _ ls hD hw (lv_sub hl [3, 2, 1, 0] rfl)
  unfold DX8_numberAtHand at hD
  refine lv_aload_n C.1.1 C.1.2.1 dX8_numberAtHand_0 rfl (lv_at hl 0 rfl) ?_
  refine mr_getR C hw kc_8 0 (by decide) tf_1 ff_1_0 wd_593 dX8_numberAtHand_1 (by decide) rfl ?_
  refine lv_aload_n C.1.1 C.1.2.1 dX8_numberAtHand_4 rfl (lv_at hl 0 rfl) ?_
  refine mr_getI C hw kc_8 8 (by decide) tf_1 wd_603 dX8_numberAtHand_5 (by decide) rfl ?_
  obtain ⟨q6, hD⟩ := g_ck hD
  refine mr_cald C hw (by decide) tf_2 q6 dX8_numberAtHand_8 ?_
  refine lv_bipush (v := 45) C.1.1 C.1.2.1 dX8_numberAtHand_9 (by decide) ?_
  refine lv_icmp_ne (tgt := 18) C.1.1 C.1.2.1 dX8_numberAtHand_11 (by decide) (fun c7 => ?_) (fun c7 => ?_)
  · replace hD := g_neg c7 hD
    refine lv_iconst (v := 0) C.1.1 C.1.2.1 dX8_numberAtHand_18 (by decide) ?_
    exact hb19 0 M L _ _ ls hD hw (lv_sub hl [0] rfl)
  · replace hD := g_pos c7 hD
    refine lv_iconst (v := 1) C.1.1 C.1.2.1 dX8_numberAtHand_14 (by decide) ?_
    refine lv_goto (tgt := 19) C.1.1 C.1.2.1 dX8_numberAtHand_15 (by decide) ?_
    exact hb19 1 M L _ _ ls hD hw (lv_sub hl [0] rfl)

theorem dX8_boundedNumber_0 : decode cX8_boundedNumber 0 = .ok (.aload_n 0, 1) := by decide +kernel
theorem dX8_boundedNumber_1 : decode cX8_boundedNumber 1 = .ok (.invokevirtual 290, 3) := by decide +kernel
theorem dX8_boundedNumber_4 : decode cX8_boundedNumber 4 = .ok (.ifCond .eq 10, 3) := by decide +kernel
theorem dX8_boundedNumber_7 : decode cX8_boundedNumber 7 = .ok (.aload_n 0, 1) := by decide +kernel
theorem dX8_boundedNumber_8 : decode cX8_boundedNumber 8 = .ok (.invokevirtual 293, 3) := by decide +kernel
theorem dX8_boundedNumber_11 : decode cX8_boundedNumber 11 = .ok (.goto 4, 3) := by decide +kernel
theorem dX8_boundedNumber_14 : decode cX8_boundedNumber 14 = .ok (.iconst 0, 1) := by decide +kernel
theorem dX8_boundedNumber_15 : decode cX8_boundedNumber 15 = .ok (.istore_n 3, 1) := by decide +kernel
theorem dX8_boundedNumber_16 : decode cX8_boundedNumber 16 = .ok (.aload_n 0, 1) := by decide +kernel
theorem dX8_boundedNumber_17 : decode cX8_boundedNumber 17 = .ok (.invokevirtual 290, 3) := by decide +kernel
theorem dX8_boundedNumber_20 : decode cX8_boundedNumber 20 = .ok (.ifCond .eq 13, 3) := by decide +kernel
theorem dX8_boundedNumber_23 : decode cX8_boundedNumber 23 = .ok (.iload_n 3, 1) := by decide +kernel
theorem dX8_boundedNumber_24 : decode cX8_boundedNumber 24 = .ok (.iload_n 1, 1) := by decide +kernel
theorem dX8_boundedNumber_25 : decode cX8_boundedNumber 25 = .ok (.if_icmp .lt 8, 3) := by decide +kernel
theorem dX8_boundedNumber_28 : decode cX8_boundedNumber 28 = .ok (.iload_n 3, 1) := by decide +kernel
theorem dX8_boundedNumber_29 : decode cX8_boundedNumber 29 = .ok (.iload_n 2, 1) := by decide +kernel
theorem dX8_boundedNumber_30 : decode cX8_boundedNumber 30 = .ok (.if_icmp .le 14, 3) := by decide +kernel
theorem dX8_boundedNumber_33 : decode cX8_boundedNumber 33 = .ok (.aload_n 0, 1) := by decide +kernel
theorem dX8_boundedNumber_34 : decode cX8_boundedNumber 34 = .ok (.iconst 5, 1) := by decide +kernel
theorem dX8_boundedNumber_35 : decode cX8_boundedNumber 35 = .ok (.aload_n 0, 1) := by decide +kernel
theorem dX8_boundedNumber_36 : decode cX8_boundedNumber 36 = .ok (.getfield 50, 3) := by decide +kernel
theorem dX8_boundedNumber_39 : decode cX8_boundedNumber 39 = .ok (.invokevirtual 71, 3) := by decide +kernel
theorem dX8_boundedNumber_42 : decode cX8_boundedNumber 42 = .ok (.iconst 0, 1) := by decide +kernel
theorem dX8_boundedNumber_43 : decode cX8_boundedNumber 43 = .ok (.ireturn, 1) := by decide +kernel
theorem dX8_boundedNumber_44 : decode cX8_boundedNumber 44 = .ok (.iload_n 3, 1) := by decide +kernel
theorem dX8_boundedNumber_45 : decode cX8_boundedNumber 45 = .ok (.ireturn, 1) := by decide +kernel
theorem cwX8_boundedNumber : mw_cwV yX8_boundedNumber cX8_boundedNumber 4 ((some .int)) 2 := ⟨⟨wd_2, wd_957, by decide +kernel⟩, wd_956, sl_20⟩
set_option maxHeartbeats 4000000 in
set_option maxRecDepth 100000 in
theorem tX8_boundedNumber (l : Launch) (G : mwG) (ad : Nat → Nat) (fu : Nat) (a1 : Int32) (a2 : Int32) (M : mwM) (L : mwL) {r0 : Int32} {M0 : mwM} {L0 : mwL} (hD : DX8_boundedNumber fu a1 a2 M L = some (r0, M0, L0)) : Met l yX8_boundedNumber (Cond.code yX8_boundedNumber cX8_boundedNumber 4 ((some .int)) :: GT) ({ frames := 2, cells := 0, slots := 0, locals := 42 }) (mw_Pre G ad NF TF FF M L [.ref (ad 1), .int a1, .int a2]) (mw_Qi G ad NF TF FF (mw_eqI r0 M0 L0)) 0 0 (mw_fr G) := by
  refine mw_enter (by decide) (Nat.le_of_ble_eq_true rfl) ?_
  intro p e s m below meth c ls C hr hlocks hnm hw hl
  have hl : lv_has ls 4 [(0, .ref (ad 1)), (1, .int a1), (2, .int a2)] := hl
  have hb33 : ∀ (M : mwM) (L : mwL) (H : Heap) (locs : List Loc) (ls : Array Slot), fX8_boundedNumber_b33 fu a1 a2 M L = some (r0, M0, L0) → mw_W G ad NF TF FF M L H locs → lv_has ls 4 [(0, .ref (ad 1))] → W p l e ({ frames := 2, cells := 0, slots := 0, locals := 42 }) s m [.ref (ad 1), .int a1, .int a2].toArray below meth c H locs 0 0 (MQ below (mw_Qi G ad NF TF FF (mw_eqI r0 M0 L0)) [.ref (ad 1), .int a1, .int a2].toArray s 0 0 (mw_fr G)) (F0 m 33 ls []) := by
    intro M L H locs ls hD hw hl
    unfold fX8_boundedNumber_b33 at hD
    refine lv_aload_n C.1.1 C.1.2.1 dX8_boundedNumber_33 rfl (lv_at hl 0 rfl) ?_
    refine lv_iconst (v := 5) C.1.1 C.1.2.1 dX8_boundedNumber_34 (by decide) ?_
    refine lv_aload_n C.1.1 C.1.2.1 dX8_boundedNumber_35 rfl (lv_at hl 0 rfl) ?_
    refine mr_getI C hw kc_8 8 (by decide) tf_1 wd_603 dX8_boundedNumber_36 (by decide) rfl ?_
    obtain ⟨M7, L8, h1, hD⟩ := g_b2 hD
    refine md_cvV (As := [.int 5, .int (M 1 8)]) (rest := []) C hw (tX8_fail l G ad fu 5 (M 1 8) M L h1) kc_8 (by decide) tf_1 wd_918 cwX8_fail ⟨Nat.le_of_ble_eq_true rfl, Nat.le_of_ble_eq_true rfl⟩ rfl hl.1 (Nat.le_of_ble_eq_true rfl) dX8_boundedNumber_39 rfl rfl ⟨Nat.zero_le _, Nat.zero_le _⟩ rfl (fun H locs hw => ?_)
    refine lv_iconst (v := 0) C.1.1 C.1.2.1 dX8_boundedNumber_42 (by decide) ?_
    exact mr_iret C hr hlocks hw rfl (Option.some.inj hD) dX8_boundedNumber_43
  have hb15 : ∀ (s0 : Int32) (M : mwM) (L : mwL) (H : Heap) (locs : List Loc) (ls : Array Slot), fX8_boundedNumber_b15 fu a1 a2 s0 M L = some (r0, M0, L0) → mw_W G ad NF TF FF M L H locs → lv_has ls 4 [(0, .ref (ad 1)), (1, .int a1), (2, .int a2)] → W p l e ({ frames := 2, cells := 0, slots := 0, locals := 42 }) s m [.ref (ad 1), .int a1, .int a2].toArray below meth c H locs 0 0 (MQ below (mw_Qi G ad NF TF FF (mw_eqI r0 M0 L0)) [.ref (ad 1), .int a1, .int a2].toArray s 0 0 (mw_fr G)) (F0 m 15 ls [.int s0]) := by
    intro s0 M L H locs ls hD hw hl
    unfold fX8_boundedNumber_b15 at hD
    refine lv_istore_n (lv' := [(3, .int s0), (0, .ref (ad 1)), (1, .int a1), (2, .int a2)]) C.1.1 C.1.2.1 dX8_boundedNumber_15 rfl hl (by decide) rfl (fun ls hl => ?_)
    refine lv_aload_n C.1.1 C.1.2.1 dX8_boundedNumber_16 rfl (lv_at hl 1 rfl) ?_
    obtain ⟨r3, M1, L2, h1, hD⟩ := g_b3 hD
    refine md_cvI (As := []) (rest := []) C hw (tX8_isNumber l G ad fu M L h1) kc_8 (by decide) tf_1 wd_958 cwX8_isNumber ⟨Nat.le_of_ble_eq_true rfl, Nat.le_of_ble_eq_true rfl⟩ rfl hl.1 (Nat.le_of_ble_eq_true rfl) dX8_boundedNumber_17 rfl rfl ⟨Nat.zero_le _, Nat.zero_le _⟩ rfl (fun H locs hw => ?_)
    refine lv_if_eq (tgt := 33) C.1.1 C.1.2.1 dX8_boundedNumber_20 (by decide) (fun c4 => ?_) (fun c4 => ?_)
    · replace hD := g_pos c4 hD
      exact hb33 M1 L2 _ _ ls hD hw (lv_sub hl [1] rfl)
    · replace hD := g_neg c4 hD
      refine lv_iload_n C.1.1 C.1.2.1 dX8_boundedNumber_23 rfl (lv_at hl 0 rfl) ?_
      refine lv_iload_n C.1.1 C.1.2.1 dX8_boundedNumber_24 rfl (lv_at hl 2 rfl) ?_
      refine lv_icmp_lt (tgt := 33) C.1.1 C.1.2.1 dX8_boundedNumber_25 (by decide) (fun c5 => ?_) (fun c5 => ?_)
      · replace hD := g_pos c5 hD
        exact hb33 M1 L2 _ _ ls hD hw (lv_sub hl [1] rfl)
      · replace hD := g_neg c5 hD
        refine lv_iload_n C.1.1 C.1.2.1 dX8_boundedNumber_28 rfl (lv_at hl 0 rfl) ?_
        refine lv_iload_n C.1.1 C.1.2.1 dX8_boundedNumber_29 rfl (lv_at hl 3 rfl) ?_
        refine lv_icmp_le (tgt := 44) C.1.1 C.1.2.1 dX8_boundedNumber_30 (by decide) (fun c6 => ?_) (fun c6 => ?_)
        · replace hD := g_pos c6 hD
          refine lv_iload_n C.1.1 C.1.2.1 dX8_boundedNumber_44 rfl (lv_at hl 0 rfl) ?_
          exact mr_iret C hr hlocks hw rfl (Option.some.inj hD) dX8_boundedNumber_45
        · replace hD := g_neg c6 hD
          exact hb33 M1 L2 _ _ ls hD hw (lv_sub hl [1] rfl)
  unfold DX8_boundedNumber at hD
  refine lv_aload_n C.1.1 C.1.2.1 dX8_boundedNumber_0 rfl (lv_at hl 0 rfl) ?_
  obtain ⟨r11, M9, L10, h1, hD⟩ := g_b3 hD
  refine md_cvI (As := []) (rest := []) C hw (tX8_isNumber l G ad fu M L h1) kc_8 (by decide) tf_1 wd_958 cwX8_isNumber ⟨Nat.le_of_ble_eq_true rfl, Nat.le_of_ble_eq_true rfl⟩ rfl hl.1 (Nat.le_of_ble_eq_true rfl) dX8_boundedNumber_1 rfl rfl ⟨Nat.zero_le _, Nat.zero_le _⟩ rfl (fun H locs hw => ?_)
  refine lv_if_eq (tgt := 14) C.1.1 C.1.2.1 dX8_boundedNumber_4 (by decide) (fun c12 => ?_) (fun c12 => ?_)
  · replace hD := g_pos c12 hD
    refine lv_iconst (v := 0) C.1.1 C.1.2.1 dX8_boundedNumber_14 (by decide) ?_
    exact hb15 0 M9 L10 _ _ ls hD hw (lv_sub hl [0, 1, 2] rfl)
  · replace hD := g_neg c12 hD
    refine lv_aload_n C.1.1 C.1.2.1 dX8_boundedNumber_7 rfl (lv_at hl 0 rfl) ?_
    obtain ⟨r15, M13, L14, h1, hD⟩ := g_b3 hD
    refine md_cvI (As := []) (rest := []) C hw (tX8_numberAtHand l G ad fu M9 L10 h1) kc_8 (by decide) tf_1 wd_962 cwX8_numberAtHand ⟨Nat.le_of_ble_eq_true rfl, Nat.le_of_ble_eq_true rfl⟩ rfl hl.1 (Nat.le_of_ble_eq_true rfl) dX8_boundedNumber_8 rfl rfl ⟨Nat.zero_le _, Nat.zero_le _⟩ rfl (fun H locs hw => ?_)
    refine lv_goto (tgt := 15) C.1.1 C.1.2.1 dX8_boundedNumber_11 (by decide) ?_
    exact hb15 r15 M13 L14 _ _ ls hD hw (lv_sub hl [0, 1, 2] rfl)

theorem dX8_number_0 : decode cX8_number 0 = .ok (.aload_n 0, 1) := by decide +kernel
theorem dX8_number_1 : decode cX8_number 1 = .ok (.invokevirtual 282, 3) := by decide +kernel
theorem dX8_number_4 : decode cX8_number 4 = .ok (.ifCond .eq 12, 3) := by decide +kernel
theorem dX8_number_7 : decode cX8_number 7 = .ok (.aload_n 0, 1) := by decide +kernel
theorem dX8_number_8 : decode cX8_number 8 = .ok (.iload_n 1, 1) := by decide +kernel
theorem dX8_number_9 : decode cX8_number 9 = .ok (.iload_n 2, 1) := by decide +kernel
theorem dX8_number_10 : decode cX8_number 10 = .ok (.invokevirtual 287, 3) := by decide +kernel
theorem dX8_number_13 : decode cX8_number 13 = .ok (.goto 4, 3) := by decide +kernel
theorem dX8_number_16 : decode cX8_number 16 = .ok (.iconst 0, 1) := by decide +kernel
theorem dX8_number_17 : decode cX8_number 17 = .ok (.ireturn, 1) := by decide +kernel
theorem cwX8_number : mw_cwV yX8_number cX8_number 3 ((some .int)) 2 := ⟨⟨wd_2, wd_953, by decide +kernel⟩, wd_952, sl_19⟩
set_option maxHeartbeats 4000000 in
set_option maxRecDepth 100000 in
theorem tX8_number (l : Launch) (G : mwG) (ad : Nat → Nat) (fu : Nat) (a1 : Int32) (a2 : Int32) (M : mwM) (L : mwL) {r0 : Int32} {M0 : mwM} {L0 : mwL} (hD : DX8_number fu a1 a2 M L = some (r0, M0, L0)) : Met l yX8_number (Cond.code yX8_number cX8_number 3 ((some .int)) :: GT) ({ frames := 3, cells := 0, slots := 0, locals := 65 }) (mw_Pre G ad NF TF FF M L [.ref (ad 1), .int a1, .int a2]) (mw_Qi G ad NF TF FF (mw_eqI r0 M0 L0)) 0 0 (mw_fr G) := by
  refine mw_enter (by decide) (Nat.le_of_ble_eq_true rfl) ?_
  intro p e s m below meth c ls C hr hlocks hnm hw hl
  have hl : lv_has ls 3 [(0, .ref (ad 1)), (1, .int a1), (2, .int a2)] := hl
  have hb17 : ∀ (s0 : Int32) (M : mwM) (L : mwL) (H : Heap) (locs : List Loc) (ls : Array Slot), fX8_number_b17 fu a1 a2 s0 M L = some (r0, M0, L0) → mw_W G ad NF TF FF M L H locs → lv_has ls 3 [] → W p l e ({ frames := 3, cells := 0, slots := 0, locals := 65 }) s m [.ref (ad 1), .int a1, .int a2].toArray below meth c H locs 0 0 (MQ below (mw_Qi G ad NF TF FF (mw_eqI r0 M0 L0)) [.ref (ad 1), .int a1, .int a2].toArray s 0 0 (mw_fr G)) (F0 m 17 ls [.int s0]) := by
    intro s0 M L H locs ls hD hw hl
    unfold fX8_number_b17 at hD
    exact mr_iret C hr hlocks hw rfl (Option.some.inj hD) dX8_number_17
  unfold DX8_number at hD
  refine lv_aload_n C.1.1 C.1.2.1 dX8_number_0 rfl (lv_at hl 0 rfl) ?_
  obtain ⟨r3, M1, L2, h1, hD⟩ := g_b3 hD
  refine md_cvI (As := []) (rest := []) C hw (tX8_fetchWord l G ad fu M L h1) kc_8 (by decide) tf_1 wd_946 cwX8_fetchWord ⟨Nat.le_of_ble_eq_true rfl, Nat.le_of_ble_eq_true rfl⟩ rfl hl.1 (Nat.le_of_ble_eq_true rfl) dX8_number_1 rfl rfl ⟨Nat.zero_le _, Nat.zero_le _⟩ rfl (fun H locs hw => ?_)
  refine lv_if_eq (tgt := 16) C.1.1 C.1.2.1 dX8_number_4 (by decide) (fun c4 => ?_) (fun c4 => ?_)
  · replace hD := g_pos c4 hD
    refine lv_iconst (v := 0) C.1.1 C.1.2.1 dX8_number_16 (by decide) ?_
    exact hb17 0 M1 L2 _ _ ls hD hw (lv_sub hl [] rfl)
  · replace hD := g_neg c4 hD
    refine lv_aload_n C.1.1 C.1.2.1 dX8_number_7 rfl (lv_at hl 0 rfl) ?_
    refine lv_iload_n C.1.1 C.1.2.1 dX8_number_8 rfl (lv_at hl 1 rfl) ?_
    refine lv_iload_n C.1.1 C.1.2.1 dX8_number_9 rfl (lv_at hl 2 rfl) ?_
    obtain ⟨r7, M5, L6, h1, hD⟩ := g_b3 hD
    refine md_cvI (As := [.int a1, .int a2]) (rest := []) C hw (tX8_boundedNumber l G ad fu a1 a2 M1 L2 h1) kc_8 (by decide) tf_1 wd_954 cwX8_boundedNumber ⟨Nat.le_of_ble_eq_true rfl, Nat.le_of_ble_eq_true rfl⟩ rfl hl.1 (Nat.le_of_ble_eq_true rfl) dX8_number_10 rfl rfl ⟨Nat.zero_le _, Nat.zero_le _⟩ rfl (fun H locs hw => ?_)
    refine lv_goto (tgt := 17) C.1.1 C.1.2.1 dX8_number_13 (by decide) ?_
    exact hb17 r7 M5 L6 _ _ ls hD hw (lv_sub hl [] rfl)
