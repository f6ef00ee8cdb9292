theorem dX8_append_0 : decode cX8_append 0 = .ok (.bipush 24, 2) := by decide +kernel
theorem dX8_append_2 : decode cX8_append 2 = .ok (.istore_n 2, 1) := by decide +kernel
theorem dX8_append_3 : decode cX8_append 3 = .ok (.iload_n 2, 1) := by decide +kernel
theorem dX8_append_4 : decode cX8_append 4 = .ok (.ifCond .lt 52, 3) := by decide +kernel
theorem dX8_append_7 : decode cX8_append 7 = .ok (.iload_n 1, 1) := by decide +kernel
theorem dX8_append_8 : decode cX8_append 8 = .ok (.iload_n 2, 1) := by decide +kernel
theorem dX8_append_9 : decode cX8_append 9 = .ok (.iushr, 1) := by decide +kernel
theorem dX8_append_10 : decode cX8_append 10 = .ok (.sipush 255, 3) := by decide +kernel
theorem dX8_append_13 : decode cX8_append 13 = .ok (.iand, 1) := by decide +kernel
theorem dX8_append_14 : decode cX8_append 14 = .ok (.istore_n 3, 1) := by decide +kernel
theorem dX8_append_15 : decode cX8_append 15 = .ok (.iload_n 3, 1) := by decide +kernel
theorem dX8_append_16 : decode cX8_append 16 = .ok (.ifCond .eq 34, 3) := by decide +kernel
theorem dX8_append_19 : decode cX8_append 19 = .ok (.aload_n 0, 1) := by decide +kernel
theorem dX8_append_20 : decode cX8_append 20 = .ok (.getfield 27, 3) := by decide +kernel
theorem dX8_append_23 : decode cX8_append 23 = .ok (.sipush 6000, 3) := by decide +kernel
theorem dX8_append_26 : decode cX8_append 26 = .ok (.if_icmp .ge 24, 3) := by decide +kernel
theorem dX8_append_29 : decode cX8_append 29 = .ok (.aload_n 0, 1) := by decide +kernel
theorem dX8_append_30 : decode cX8_append 30 = .ok (.getfield 9, 3) := by decide +kernel
theorem dX8_append_33 : decode cX8_append 33 = .ok (.aload_n 0, 1) := by decide +kernel
theorem dX8_append_34 : decode cX8_append 34 = .ok (.getfield 27, 3) := by decide +kernel
theorem dX8_append_37 : decode cX8_append 37 = .ok (.iload_n 3, 1) := by decide +kernel
theorem dX8_append_38 : decode cX8_append 38 = .ok (.i2c, 1) := by decide +kernel
theorem dX8_append_39 : decode cX8_append 39 = .ok (.castore, 1) := by decide +kernel
theorem dX8_append_40 : decode cX8_append 40 = .ok (.aload_n 0, 1) := by decide +kernel
theorem dX8_append_41 : decode cX8_append 41 = .ok (.dup, 1) := by decide +kernel
theorem dX8_append_42 : decode cX8_append 42 = .ok (.getfield 27, 3) := by decide +kernel
theorem dX8_append_45 : decode cX8_append 45 = .ok (.iconst 1, 1) := by decide +kernel
theorem dX8_append_46 : decode cX8_append 46 = .ok (.iadd, 1) := by decide +kernel
theorem dX8_append_47 : decode cX8_append 47 = .ok (.putfield 27, 3) := by decide +kernel
theorem dX8_append_50 : decode cX8_append 50 = .ok (.iinc 2 (-8), 3) := by decide +kernel
theorem dX8_append_53 : decode cX8_append 53 = .ok (.goto (-50), 3) := by decide +kernel
theorem dX8_append_56 : decode cX8_append 56 = .ok (.return_, 1) := by decide +kernel
theorem cwX8_append : mw_cwV yX8_append cX8_append 4 (none) 1 := ⟨⟨wd_2, wd_764, by decide +kernel⟩, wd_762, wd_763⟩
noncomputable def fX8_append_b50 (fu : Nat) (a1 : Int32) (r3 : (Int32 × mwM × mwL) → Option (mwM × mwL)) (v2 : Int32) (M : mwM) (L : mwL) : Option (mwM × mwL) :=
  mlet (v2 + (-8)) (fun x8 => r3 (x8, M, L))
noncomputable def fX8_append_i3 (fu : Nat) (a1 : Int32) (r3 : (Int32 × mwM × mwL) → Option (mwM × mwL)) (v2 : Int32) (M : mwM) (L : mwL) : Option (mwM × mwL) :=
  (if v2 < 0 then some (M, L) else mlet (((a1.toUInt32 >>> (v2.toUInt32 &&& Int32.toUInt32 31)).toInt32) &&& 255) (fun x2 => (if x2 = 0 then fX8_append_b50 fu a1 r3 v2 M L else (if 6000 ≤ (M 1 4) then fX8_append_b50 fu a1 r3 v2 M L else mck (M 1 4) 6000 (mlet (mset M 2 ((M 1 4).toNatClampNeg) (vp_nar .char ((x2.toUInt32 % 65536).toInt32))) (fun M6 => mlet (mset M6 1 4 ((M6 1 4) + 1)) (fun M7 => fX8_append_b50 fu a1 r3 v2 M7 L)))))))
noncomputable def fX8_append_h3 (fu : Nat) (a1 : Int32) : Nat → (Int32 × mwM × mwL) → Option (mwM × mwL) := mloop (fun r3 s => fX8_append_i3 fu a1 r3 s.1 s.2.1 s.2.2)
noncomputable def DX8_append (fu : Nat) (a1 : Int32) (M : mwM) (L : mwL) : Option (mwM × mwL) :=
  fX8_append_h3 fu a1 fu (24, M, L)
set_option maxHeartbeats 4000000 in
set_option maxRecDepth 100000 in
theorem tX8_append (l : Launch) (G : mwG) (ad : Nat → Nat) (fu : Nat) (a1 : Int32) (M : mwM) (L : mwL) {M0 : mwM} {L0 : mwL} (hD : DX8_append fu a1 M L = some (M0, L0)) : Met l yX8_append (Cond.code yX8_append cX8_append 4 (none) :: GT) ({ frames := 0, cells := 0, slots := 0, locals := 0 }) (mw_Pre G ad NF TF FF M L [.ref (ad 1), .int a1]) (mw_Qv G ad NF TF FF (mw_eqV M0 L0)) 0 0 (mw_fr G) := by
  refine mw_enter (by decide) (Nat.le_of_ble_eq_true rfl) ?_
  intro p e s m below meth c ls C hr hlocks hnm hw hl
  have hl : lv_has ls 4 [(0, .ref (ad 1)), (1, .int a1)] := hl
  have hh3 : ∀ (f : Nat) (v2 : Int32) (M : mwM) (L : mwL) (H : Heap) (locs : List Loc) (ls : Array Slot), fX8_append_h3 fu a1 f (v2, M, L) = some (M0, L0) → mw_W G ad NF TF FF M L H locs → lv_has ls 4 [(0, .ref (ad 1)), (1, .int a1), (2, .int v2)] → W p l e ({ frames := 0, cells := 0, slots := 0, locals := 0 }) s m [.ref (ad 1), .int a1].toArray below meth c H locs 0 0 (MQ below (mw_Qv G ad NF TF FF (mw_eqV M0 L0)) [.ref (ad 1), .int a1].toArray s 0 0 (mw_fr G)) (F0 m 3 ls []) := by
    intro f
    induction f with
    | zero => intro v2 M L H locs ls hD; cases hD
    | succ f3 ih3 =>
      intro v2 M L H locs ls hD hw hl
      replace hD : fX8_append_i3 fu a1 (fX8_append_h3 fu a1 f3) v2 M L = some (M0, L0) := hD
      have hb50 : ∀ (v2 : Int32) (M : mwM) (L : mwL) (H : Heap) (locs : List Loc) (ls : Array Slot), fX8_append_b50 fu a1 (fX8_append_h3 fu a1 f3) v2 M L = some (M0, L0) → mw_W G ad NF TF FF M L H locs → lv_has ls 4 [(0, .ref (ad 1)), (1, .int a1), (2, .int v2)] → W p l e ({ frames := 0, cells := 0, slots := 0, locals := 0 }) s m [.ref (ad 1), .int a1].toArray below meth c H locs 0 0 (MQ below (mw_Qv G ad NF TF FF (mw_eqV M0 L0)) [.ref (ad 1), .int a1].toArray s 0 0 (mw_fr G)) (F0 m 50 ls []) := by
        intro v2 M L H locs ls hD hw hl
        unfold fX8_append_b50 at hD
        obtain ⟨x8, ex8, hD⟩ := g_let hD
        refine lv_iinc (v := x8) (lv' := [(2, .int x8), (0, .ref (ad 1)), (1, .int a1)]) C.1.1 C.1.2.1 dX8_append_50 hl (k := 2) rfl (by rw [ex8]; rfl) (by decide) rfl (fun ls hl => ?_)
        refine lv_goto (tgt := 3) C.1.1 C.1.2.1 dX8_append_53 (by decide) ?_
        exact ih3 x8 M L _ _ ls hD hw (lv_sub hl [1, 2, 0] rfl)
      unfold fX8_append_i3 at hD
      refine lv_iload_n C.1.1 C.1.2.1 dX8_append_3 rfl (lv_at hl 2 rfl) ?_
      refine lv_if_lt (tgt := 56) C.1.1 C.1.2.1 dX8_append_4 (by decide) (fun c1 => ?_) (fun c1 => ?_)
      · replace hD := g_pos c1 hD
        exact mr_vret C hr hlocks hw (Option.some.inj hD) dX8_append_56
      · replace hD := g_neg c1 hD
        refine lv_iload_n C.1.1 C.1.2.1 dX8_append_7 rfl (lv_at hl 1 rfl) ?_
        refine lv_iload_n C.1.1 C.1.2.1 dX8_append_8 rfl (lv_at hl 2 rfl) ?_
        refine lv_iushr C.1.1 C.1.2.1 dX8_append_9 rfl ?_
        refine lv_sipush (v := 255) C.1.1 C.1.2.1 dX8_append_10 (by decide) ?_
        refine lv_iand C.1.1 C.1.2.1 dX8_append_13 ?_
        obtain ⟨x2, ex2, hD⟩ := g_let hD
        refine W.eq (g2 := F0 m 14 ls (.int x2 :: [])) (by rw [ex2]) ?_
        refine lv_istore_n (lv' := [(3, .int x2), (0, .ref (ad 1)), (1, .int a1), (2, .int v2)]) C.1.1 C.1.2.1 dX8_append_14 rfl hl (by decide) rfl (fun ls hl => ?_)
        refine lv_iload_n C.1.1 C.1.2.1 dX8_append_15 rfl (lv_at hl 0 rfl) ?_
        refine lv_if_eq (tgt := 50) C.1.1 C.1.2.1 dX8_append_16 (by decide) (fun c3 => ?_) (fun c3 => ?_)
        · replace hD := g_pos c3 hD
          exact hb50 v2 M L _ _ ls hD hw (lv_sub hl [1, 2, 3] rfl)
        · replace hD := g_neg c3 hD
          refine lv_aload_n C.1.1 C.1.2.1 dX8_append_19 rfl (lv_at hl 1 rfl) ?_
          refine mr_getI C hw kc_8 4 (by decide) tf_1 wd_599 dX8_append_20 (by decide) rfl ?_
          refine lv_sipush (v := 6000) C.1.1 C.1.2.1 dX8_append_23 (by decide) ?_
          refine lv_icmp_ge (tgt := 50) C.1.1 C.1.2.1 dX8_append_26 (by decide) (fun c4 => ?_) (fun c4 => ?_)
          · replace hD := g_pos c4 hD
            exact hb50 v2 M L _ _ ls hD hw (lv_sub hl [1, 2, 3] rfl)
          · replace hD := g_neg c4 hD
            refine lv_aload_n C.1.1 C.1.2.1 dX8_append_29 rfl (lv_at hl 1 rfl) ?_
            refine mr_getR C hw kc_8 0 (by decide) tf_1 ff_1_0 wd_593 dX8_append_30 (by decide) rfl ?_
            refine lv_aload_n C.1.1 C.1.2.1 dX8_append_33 rfl (lv_at hl 1 rfl) ?_
            refine mr_getI C hw kc_8 4 (by decide) tf_1 wd_599 dX8_append_34 (by decide) rfl ?_
            refine lv_iload_n C.1.1 C.1.2.1 dX8_append_37 rfl (lv_at hl 0 rfl) ?_
            refine lv_i2c C.1.1 C.1.2.1 dX8_append_38 rfl ?_
            obtain ⟨q5, hD⟩ := g_ck hD
            obtain ⟨M6, eM6, hD⟩ := g_let hD
            refine mr_cast C hw (by decide) tf_2 q5 dX8_append_39 (fun H locs hw => ?_)
            replace hw : mw_W G ad NF TF FF M6 L H locs := by rw [eM6]; exact hw
            refine lv_aload_n C.1.1 C.1.2.1 dX8_append_40 rfl (lv_at hl 1 rfl) ?_
            refine lv_dup C.1.1 C.1.2.1 dX8_append_41 rfl ?_
            refine mr_getI C hw kc_8 4 (by decide) tf_1 wd_599 dX8_append_42 (by decide) rfl ?_
            refine lv_iconst (v := 1) C.1.1 C.1.2.1 dX8_append_45 (by decide) ?_
            refine lv_iadd C.1.1 C.1.2.1 dX8_append_46 ?_
            obtain ⟨M7, eM7, hD⟩ := g_let hD
            refine mr_putI C hw kc_8 4 (by decide) tf_1 wd_599 dX8_append_47 (by decide) rfl rfl rfl rfl (fun H locs hw => ?_)
            replace hw : mw_W G ad NF TF FF M7 L H locs := by rw [eM7]; exact hw
            exact hb50 v2 M7 L _ _ ls hD hw (lv_sub hl [1, 2, 3] rfl)
  unfold DX8_append at hD
  refine lv_bipush (v := 24) C.1.1 C.1.2.1 dX8_append_0 (by decide) ?_
  refine lv_istore_n (lv' := [(2, .int 24), (0, .ref (ad 1)), (1, .int a1)]) C.1.1 C.1.2.1 dX8_append_2 rfl hl (by decide) rfl (fun ls hl => ?_)
  exact hh3 fu 24 M L _ _ ls hD hw (lv_sub hl [1, 2, 0] rfl)

theorem dX8_fail_0 : decode cX8_fail 0 = .ok (.aload_n 0, 1) := by decide +kernel
theorem dX8_fail_1 : decode cX8_fail 1 = .ok (.getfield 34, 3) := by decide +kernel
theorem dX8_fail_4 : decode cX8_fail 4 = .ok (.ifCond .ne 13, 3) := by decide +kernel
theorem dX8_fail_7 : decode cX8_fail 7 = .ok (.aload_n 0, 1) := by decide +kernel
theorem dX8_fail_8 : decode cX8_fail 8 = .ok (.iload_n 1, 1) := by decide +kernel
theorem dX8_fail_9 : decode cX8_fail 9 = .ok (.putfield 34, 3) := by decide +kernel
theorem dX8_fail_12 : decode cX8_fail 12 = .ok (.aload_n 0, 1) := by decide +kernel
theorem dX8_fail_13 : decode cX8_fail 13 = .ok (.iload_n 2, 1) := by decide +kernel
theorem dX8_fail_14 : decode cX8_fail 14 = .ok (.putfield 37, 3) := by decide +kernel
theorem dX8_fail_17 : decode cX8_fail 17 = .ok (.return_, 1) := by decide +kernel
theorem cwX8_fail : mw_cwV yX8_fail cX8_fail 3 (none) 2 := ⟨⟨wd_2, wd_921, by decide +kernel⟩, wd_920, sl_11⟩
noncomputable def fX8_fail_b17 (fu : Nat) (a1 : Int32) (a2 : Int32) (M : mwM) (L : mwL) : Option (mwM × mwL) :=
  some (M, L)
noncomputable def DX8_fail (fu : Nat) (a1 : Int32) (a2 : Int32) (M : mwM) (L : mwL) : Option (mwM × mwL) :=
  (if (M 1 12) = 0 then mlet (mset M 1 12 a1) (fun M2 => mlet (mset M2 1 13 a2) (fun M3 => fX8_fail_b17 fu a1 a2 M3 L)) else fX8_fail_b17 fu a1 a2 M L)
set_option maxHeartbeats 4000000 in
set_option maxRecDepth 100000 in
theorem tX8_fail (l : Launch) (G : mwG) (ad : Nat → Nat) (fu : Nat) (a1 : Int32) (a2 : Int32) (M : mwM) (L : mwL) {M0 : mwM} {L0 : mwL} (hD : DX8_fail fu a1 a2 M L = some (M0, L0)) : Met l yX8_fail (Cond.code yX8_fail cX8_fail 3 (none) :: GT) ({ frames := 0, cells := 0, slots := 0, locals := 0 }) (mw_Pre G ad NF TF FF M L [.ref (ad 1), .int a1, .int a2]) (mw_Qv G ad NF TF FF (mw_eqV M0 L0)) 0 0 (mw_fr G) := by
  refine mw_enter (by decide) (Nat.le_of_ble_eq_true rfl) ?_
  intro p e s m below meth c ls C hr hlocks hnm hw hl
  have hl : lv_has ls 3 [(0, .ref (ad 1)), (1, .int a1), (2, .int a2)] := hl
  have hb17 : ∀ (M : mwM) (L : mwL) (H : Heap) (locs : List Loc) (ls : Array Slot), fX8_fail_b17 fu a1 a2 M L = some (M0, L0) → mw_W G ad NF TF FF M L H locs → lv_has ls 3 [] → W p l e ({ frames := 0, cells := 0, slots := 0, locals := 0 }) s m [.ref (ad 1), .int a1, .int a2].toArray below meth c H locs 0 0 (MQ below (mw_Qv G ad NF TF FF (mw_eqV M0 L0)) [.ref (ad 1), .int a1, .int a2].toArray s 0 0 (mw_fr G)) (F0 m 17 ls []) := by
    intro M L H locs ls hD hw hl
    unfold fX8_fail_b17 at hD
    exact mr_vret C hr hlocks hw (Option.some.inj hD) dX8_fail_17
  unfold DX8_fail at hD
  refine lv_aload_n C.1.1 C.1.2.1 dX8_fail_0 rfl (lv_at hl 0 rfl) ?_
  refine mr_getI C hw kc_8 12 (by decide) tf_1 wd_607 dX8_fail_1 (by decide) rfl ?_
  refine lv_if_ne (tgt := 17) C.1.1 C.1.2.1 dX8_fail_4 (by decide) (fun c1 => ?_) (fun c1 => ?_)
  · replace hD := g_neg c1 hD
    exact hb17 M L _ _ ls hD hw (lv_sub hl [] rfl)
  · replace hD := g_pos c1 hD
    refine lv_aload_n C.1.1 C.1.2.1 dX8_fail_7 rfl (lv_at hl 0 rfl) ?_
    refine lv_iload_n C.1.1 C.1.2.1 dX8_fail_8 rfl (lv_at hl 1 rfl) ?_
    obtain ⟨M2, eM2, hD⟩ := g_let hD
    refine mr_putI C hw kc_8 12 (by decide) tf_1 wd_607 dX8_fail_9 (by decide) rfl rfl rfl rfl (fun H locs hw => ?_)
    replace hw : mw_W G ad NF TF FF M2 L H locs := by rw [eM2]; exact hw
    refine lv_aload_n C.1.1 C.1.2.1 dX8_fail_12 rfl (lv_at hl 0 rfl) ?_
    refine lv_iload_n C.1.1 C.1.2.1 dX8_fail_13 rfl (lv_at hl 2 rfl) ?_
    obtain ⟨M3, eM3, hD⟩ := g_let hD
    refine mr_putI C hw kc_8 13 (by decide) tf_1 wd_609 dX8_fail_14 (by decide) rfl rfl rfl rfl (fun H locs hw => ?_)
    replace hw : mw_W G ad NF TF FF M3 L H locs := by rw [eM3]; exact hw
    exact hb17 M3 L _ _ ls hD hw (lv_sub hl [] rfl)

theorem dX8_judgeWhole_0 : decode cX8_judgeWhole 0 = .ok (.aload_n 0, 1) := by decide +kernel
theorem dX8_judgeWhole_1 : decode cX8_judgeWhole 1 = .ok (.getfield 18, 3) := by decide +kernel
theorem dX8_judgeWhole_4 : decode cX8_judgeWhole 4 = .ok (.getfield 68, 3) := by decide +kernel
theorem dX8_judgeWhole_7 : decode cX8_judgeWhole 7 = .ok (.ifCond .ne 13, 3) := by decide +kernel
theorem dX8_judgeWhole_10 : decode cX8_judgeWhole 10 = .ok (.aload_n 0, 1) := by decide +kernel
theorem dX8_judgeWhole_11 : decode cX8_judgeWhole 11 = .ok (.iconst 4, 1) := by decide +kernel
theorem dX8_judgeWhole_12 : decode cX8_judgeWhole 12 = .ok (.aload_n 0, 1) := by decide +kernel
theorem dX8_judgeWhole_13 : decode cX8_judgeWhole 13 = .ok (.getfield 27, 3) := by decide +kernel
theorem dX8_judgeWhole_16 : decode cX8_judgeWhole 16 = .ok (.invokevirtual 71, 3) := by decide +kernel
theorem dX8_judgeWhole_19 : decode cX8_judgeWhole 19 = .ok (.return_, 1) := by decide +kernel
theorem dX8_judgeWhole_20 : decode cX8_judgeWhole 20 = .ok (.aload_n 0, 1) := by decide +kernel
theorem dX8_judgeWhole_21 : decode cX8_judgeWhole 21 = .ok (.getfield 18, 3) := by decide +kernel
theorem dX8_judgeWhole_24 : decode cX8_judgeWhole 24 = .ok (.getfield 75, 3) := by decide +kernel
theorem dX8_judgeWhole_27 : decode cX8_judgeWhole 27 = .ok (.aload_n 0, 1) := by decide +kernel
theorem dX8_judgeWhole_28 : decode cX8_judgeWhole 28 = .ok (.getfield 18, 3) := by decide +kernel
theorem dX8_judgeWhole_31 : decode cX8_judgeWhole 31 = .ok (.getfield 68, 3) := by decide +kernel
theorem dX8_judgeWhole_34 : decode cX8_judgeWhole 34 = .ok (.invokevirtual 79, 3) := by decide +kernel
theorem dX8_judgeWhole_37 : decode cX8_judgeWhole 37 = .ok (.istore_n 1, 1) := by decide +kernel
theorem dX8_judgeWhole_38 : decode cX8_judgeWhole 38 = .ok (.iload_n 1, 1) := by decide +kernel
theorem dX8_judgeWhole_39 : decode cX8_judgeWhole 39 = .ok (.ifCond .lt 24, 3) := by decide +kernel
theorem dX8_judgeWhole_42 : decode cX8_judgeWhole 42 = .ok (.aload_n 0, 1) := by decide +kernel
theorem dX8_judgeWhole_43 : decode cX8_judgeWhole 43 = .ok (.bipush 8, 2) := by decide +kernel
theorem dX8_judgeWhole_45 : decode cX8_judgeWhole 45 = .ok (.aload_n 0, 1) := by decide +kernel
theorem dX8_judgeWhole_46 : decode cX8_judgeWhole 46 = .ok (.getfield 18, 3) := by decide +kernel
theorem dX8_judgeWhole_49 : decode cX8_judgeWhole 49 = .ok (.getfield 75, 3) := by decide +kernel
theorem dX8_judgeWhole_52 : decode cX8_judgeWhole 52 = .ok (.getfield 85, 3) := by decide +kernel
theorem dX8_judgeWhole_55 : decode cX8_judgeWhole 55 = .ok (.bipush 6, 2) := by decide +kernel
theorem dX8_judgeWhole_57 : decode cX8_judgeWhole 57 = .ok (.aaload, 1) := by decide +kernel
theorem dX8_judgeWhole_58 : decode cX8_judgeWhole 58 = .ok (.iload_n 1, 1) := by decide +kernel
theorem dX8_judgeWhole_59 : decode cX8_judgeWhole 59 = .ok (.iaload, 1) := by decide +kernel
theorem dX8_judgeWhole_60 : decode cX8_judgeWhole 60 = .ok (.invokevirtual 71, 3) := by decide +kernel
theorem dX8_judgeWhole_63 : decode cX8_judgeWhole 63 = .ok (.return_, 1) := by decide +kernel
theorem cwX8_judgeWhole : mw_cwV yX8_judgeWhole cX8_judgeWhole 2 (none) 0 := ⟨⟨wd_2, wd_1119, by decide +kernel⟩, wd_1118, sl_44⟩
noncomputable def fX8_judgeWhole_b63 (fu : Nat) (M : mwM) (L : mwL) : Option (mwM × mwL) :=
  some (M, L)
noncomputable def DX8_judgeWhole (fu : Nat) (M : mwM) (L : mwL) : Option (mwM × mwL) :=
  (if (M 3 13) = 0 then mb2 (DX8_fail fu 4 (M 1 4) M L) (fun M10 L11 => some (M10, L11)) else mb3 (DX6_findTooLarge fu (M 3 13) M L) (fun r4 M2 L3 => (if r4 < 0 then fX8_judgeWhole_b63 fu M2 L3 else mck r4 40 (mb2 (DX8_fail fu 8 (M2 69 r4.toNatClampNeg) M2 L3) (fun M8 L9 => fX8_judgeWhole_b63 fu M8 L9)))))
set_option maxHeartbeats 4000000 in
set_option maxRecDepth 100000 in
theorem tX8_judgeWhole (l : Launch) (G : mwG) (ad : Nat → Nat) (fu : Nat) (M : mwM) (L : mwL) {M0 : mwM} {L0 : mwL} (hD : DX8_judgeWhole fu M L = some (M0, L0)) : Met l yX8_judgeWhole (Cond.code yX8_judgeWhole cX8_judgeWhole 2 (none) :: GT) ({ frames := 2, cells := 0, slots := 0, locals := 47 }) (mw_Pre G ad NF TF FF M L [.ref (ad 1)]) (mw_Qv G ad NF TF FF (mw_eqV M0 L0)) 0 0 (mw_fr G) := by
  refine mw_enter (by decide) (Nat.le_of_ble_eq_true rfl) ?_
  intro p e s m below meth c ls C hr hlocks hnm hw hl
  have hl : lv_has ls 2 [(0, .ref (ad 1))] := hl
  have hb63 : ∀ (M : mwM) (L : mwL) (H : Heap) (locs : List Loc) (ls : Array Slot), fX8_judgeWhole_b63 fu M L = some (M0, L0) → mw_W G ad NF TF FF M L H locs → lv_has ls 2 [] → W p l e ({ frames := 2, cells := 0, slots := 0, locals := 47 }) s m [.ref (ad 1)].toArray below meth c H locs 0 0 (MQ below (mw_Qv G ad NF TF FF (mw_eqV M0 L0)) [.ref (ad 1)].toArray s 0 0 (mw_fr G)) (F0 m 63 ls []) := by
    intro M L H locs ls hD hw hl
    unfold fX8_judgeWhole_b63 at hD
    exact mr_vret C hr hlocks hw (Option.some.inj hD) dX8_judgeWhole_63
  unfold DX8_judgeWhole at hD
  refine lv_aload_n C.1.1 C.1.2.1 dX8_judgeWhole_0 rfl (lv_at hl 0 rfl) ?_
  refine mr_getR C hw kc_8 1 (by decide) tf_1 ff_1_1 wd_595 dX8_judgeWhole_1 (by decide) rfl ?_
  refine mr_getNI C hw kc_1 13 (by decide) tf_3 nd_540 dX8_judgeWhole_4 (by decide) rfl ?_
  refine lv_if_ne (tgt := 20) C.1.1 C.1.2.1 dX8_judgeWhole_7 (by decide) (fun c1 => ?_) (fun c1 => ?_)
  · replace hD := g_neg c1 hD
    refine lv_aload_n C.1.1 C.1.2.1 dX8_judgeWhole_20 rfl (lv_at hl 0 rfl) ?_
    refine mr_getR C hw kc_8 1 (by decide) tf_1 ff_1_1 wd_595 dX8_judgeWhole_21 (by decide) rfl ?_
    refine mr_getNR C hw kc_1 3 (by decide) tf_3 ff_3_3 nd_520 dX8_judgeWhole_24 (by decide) rfl ?_
    refine lv_aload_n C.1.1 C.1.2.1 dX8_judgeWhole_27 rfl (lv_at hl 0 rfl) ?_
    refine mr_getR C hw kc_8 1 (by decide) tf_1 ff_1_1 wd_595 dX8_judgeWhole_28 (by decide) rfl ?_
    refine mr_getNI C hw kc_1 13 (by decide) tf_3 nd_540 dX8_judgeWhole_31 (by decide) rfl ?_
    obtain ⟨r4, M2, L3, h1, hD⟩ := g_b3 hD
    refine md_cvI (As := [.int (M 3 13)]) (rest := []) C hw (tX6_findTooLarge l G ad fu (M 3 13) M L h1) kc_6 (by decide) tf_61 wd_1120 cwX6_findTooLarge ⟨Nat.le_of_ble_eq_true rfl, Nat.le_of_ble_eq_true rfl⟩ rfl hl.1 (Nat.le_of_ble_eq_true rfl) dX8_judgeWhole_34 rfl rfl ⟨Nat.zero_le _, Nat.zero_le _⟩ rfl (fun H locs hw => ?_)
    refine lv_istore_n (lv' := [(1, .int r4), (0, .ref (ad 1))]) C.1.1 C.1.2.1 dX8_judgeWhole_37 rfl hl (by decide) rfl (fun ls hl => ?_)
    refine lv_iload_n C.1.1 C.1.2.1 dX8_judgeWhole_38 rfl (lv_at hl 0 rfl) ?_
    refine lv_if_lt (tgt := 63) C.1.1 C.1.2.1 dX8_judgeWhole_39 (by decide) (fun c5 => ?_) (fun c5 => ?_)
    · replace hD := g_pos c5 hD
      exact hb63 M2 L3 _ _ ls hD hw (lv_sub hl [] rfl)
    · replace hD := g_neg c5 hD
      refine lv_aload_n C.1.1 C.1.2.1 dX8_judgeWhole_42 rfl (lv_at hl 1 rfl) ?_
      refine lv_bipush (v := 8) C.1.1 C.1.2.1 dX8_judgeWhole_43 (by decide) ?_
      refine lv_aload_n C.1.1 C.1.2.1 dX8_judgeWhole_45 rfl (lv_at hl 1 rfl) ?_
      refine mr_getR C hw kc_8 1 (by decide) tf_1 ff_1_1 wd_595 dX8_judgeWhole_46 (by decide) rfl ?_
      refine mr_getNR C hw kc_1 3 (by decide) tf_3 ff_3_3 nd_520 dX8_judgeWhole_49 (by decide) rfl ?_
      refine mr_getNR C hw kc_6 0 (by decide) tf_61 ff_61_0 nd_229 dX8_judgeWhole_52 (by decide) rfl ?_
      refine lv_bipush (v := 6) C.1.1 C.1.2.1 dX8_judgeWhole_55 (by decide) ?_
      refine mr_aald C hw (by decide) tf_62 (by decide) (by decide) rfl rfl (show vp_in 6 10 from by unfold vp_in; decide) ff_62_6 dX8_judgeWhole_57 ?_
      refine lv_iload_n C.1.1 C.1.2.1 dX8_judgeWhole_58 rfl (lv_at hl 0 rfl) ?_
      obtain ⟨q7, hD⟩ := g_ck hD
      refine mr_iald C hw (by decide) tf_69 q7 dX8_judgeWhole_59 ?_
      obtain ⟨M8, L9, h1, hD⟩ := g_b2 hD
      refine md_cvV (As := [.int 8, .int (M2 69 r4.toNatClampNeg)]) (rest := []) C hw (tX8_fail l G ad fu 8 (M2 69 r4.toNatClampNeg) M2 L3 h1) kc_8 (by decide) tf_1 wd_918 cwX8_fail ⟨Nat.le_of_ble_eq_true rfl, Nat.le_of_ble_eq_true rfl⟩ rfl hl.1 (Nat.le_of_ble_eq_true rfl) dX8_judgeWhole_60 rfl rfl ⟨Nat.zero_le _, Nat.zero_le _⟩ rfl (fun H locs hw => ?_)
      exact hb63 M8 L9 _ _ ls hD hw (lv_sub hl [] rfl)
  · replace hD := g_pos c1 hD
    refine lv_aload_n C.1.1 C.1.2.1 dX8_judgeWhole_10 rfl (lv_at hl 0 rfl) ?_
    refine lv_iconst (v := 4) C.1.1 C.1.2.1 dX8_judgeWhole_11 (by decide) ?_
    refine lv_aload_n C.1.1 C.1.2.1 dX8_judgeWhole_12 rfl (lv_at hl 0 rfl) ?_
    refine mr_getI C hw kc_8 4 (by decide) tf_1 wd_599 dX8_judgeWhole_13 (by decide) rfl ?_
    obtain ⟨M10, L11, h1, hD⟩ := g_b2 hD
    refine md_cvV (As := [.int 4, .int (M 1 4)]) (rest := []) C hw (tX8_fail l G ad fu 4 (M 1 4) M L h1) kc_8 (by decide) tf_1 wd_918 cwX8_fail ⟨Nat.le_of_ble_eq_true rfl, Nat.le_of_ble_eq_true rfl⟩ rfl hl.1 (Nat.le_of_ble_eq_true rfl) dX8_judgeWhole_16 rfl rfl ⟨Nat.zero_le _, Nat.zero_le _⟩ rfl (fun H locs hw => ?_)
    exact mr_vret C hr hlocks hw (Option.some.inj hD) dX8_judgeWhole_19

theorem dX8_findLineEnd_0 : decode cX8_findLineEnd 0 = .ok (.aload_n 0, 1) := by decide +kernel
theorem dX8_findLineEnd_1 : decode cX8_findLineEnd 1 = .ok (.iload_n 1, 1) := by decide +kernel
theorem dX8_findLineEnd_2 : decode cX8_findLineEnd 2 = .ok (.putfield 62, 3) := by decide +kernel
theorem dX8_findLineEnd_5 : decode cX8_findLineEnd 5 = .ok (.aload_n 0, 1) := by decide +kernel
theorem dX8_findLineEnd_6 : decode cX8_findLineEnd 6 = .ok (.getfield 62, 3) := by decide +kernel
theorem dX8_findLineEnd_9 : decode cX8_findLineEnd 9 = .ok (.aload_n 0, 1) := by decide +kernel
theorem dX8_findLineEnd_10 : decode cX8_findLineEnd 10 = .ok (.getfield 27, 3) := by decide +kernel
theorem dX8_findLineEnd_13 : decode cX8_findLineEnd 13 = .ok (.if_icmp .ge 30, 3) := by decide +kernel
theorem dX8_findLineEnd_16 : decode cX8_findLineEnd 16 = .ok (.aload_n 0, 1) := by decide +kernel
theorem dX8_findLineEnd_17 : decode cX8_findLineEnd 17 = .ok (.getfield 9, 3) := by decide +kernel
theorem dX8_findLineEnd_20 : decode cX8_findLineEnd 20 = .ok (.aload_n 0, 1) := by decide +kernel
theorem dX8_findLineEnd_21 : decode cX8_findLineEnd 21 = .ok (.getfield 62, 3) := by decide +kernel
theorem dX8_findLineEnd_24 : decode cX8_findLineEnd 24 = .ok (.caload, 1) := by decide +kernel
theorem dX8_findLineEnd_25 : decode cX8_findLineEnd 25 = .ok (.bipush 10, 2) := by decide +kernel
theorem dX8_findLineEnd_27 : decode cX8_findLineEnd 27 = .ok (.if_icmp .eq 16, 3) := by decide +kernel
theorem dX8_findLineEnd_30 : decode cX8_findLineEnd 30 = .ok (.aload_n 0, 1) := by decide +kernel
theorem dX8_findLineEnd_31 : decode cX8_findLineEnd 31 = .ok (.dup, 1) := by decide +kernel
theorem dX8_findLineEnd_32 : decode cX8_findLineEnd 32 = .ok (.getfield 62, 3) := by decide +kernel
theorem dX8_findLineEnd_35 : decode cX8_findLineEnd 35 = .ok (.iconst 1, 1) := by decide +kernel
theorem dX8_findLineEnd_36 : decode cX8_findLineEnd 36 = .ok (.iadd, 1) := by decide +kernel
theorem dX8_findLineEnd_37 : decode cX8_findLineEnd 37 = .ok (.putfield 62, 3) := by decide +kernel
theorem dX8_findLineEnd_40 : decode cX8_findLineEnd 40 = .ok (.goto (-35), 3) := by decide +kernel
theorem dX8_findLineEnd_43 : decode cX8_findLineEnd 43 = .ok (.return_, 1) := by decide +kernel
theorem cwX8_findLineEnd : mw_cwV yX8_findLineEnd cX8_findLineEnd 2 (none) 1 := ⟨⟨wd_2, wd_829, by decide +kernel⟩, wd_828, sl_2⟩
noncomputable def fX8_findLineEnd_b43 (fu : Nat) (a1 : Int32) (M : mwM) (L : mwL) : Option (mwM × mwL) :=
  some (M, L)
noncomputable def fX8_findLineEnd_i5 (fu : Nat) (a1 : Int32) (r5 : (mwM × mwL) → Option (mwM × mwL)) (M : mwM) (L : mwL) : Option (mwM × mwL) :=
  (if (M 1 4) ≤ (M 1 6) then fX8_findLineEnd_b43 fu a1 M L else mck (M 1 6) 6000 ((if (M 2 (M 1 6).toNatClampNeg) = 10 then fX8_findLineEnd_b43 fu a1 M L else mlet (mset M 1 6 ((M 1 6) + 1)) (fun M4 => r5 (M4, L)))))
noncomputable def fX8_findLineEnd_h5 (fu : Nat) (a1 : Int32) : Nat → (mwM × mwL) → Option (mwM × mwL) := mloop (fun r5 s => fX8_findLineEnd_i5 fu a1 r5 s.1 s.2)
noncomputable def DX8_findLineEnd (fu : Nat) (a1 : Int32) (M : mwM) (L : mwL) : Option (mwM × mwL) :=
  mlet (mset M 1 6 a1) (fun M5 => fX8_findLineEnd_h5 fu a1 fu (M5, L))
set_option maxHeartbeats 4000000 in
set_option maxRecDepth 100000 in
theorem tX8_findLineEnd (l : Launch) (G : mwG) (ad : Nat → Nat) (fu : Nat) (a1 : Int32) (M : mwM) (L : mwL) {M0 : mwM} {L0 : mwL} (hD : DX8_findLineEnd fu a1 M L = some (M0, L0)) : Met l yX8_findLineEnd (Cond.code yX8_findLineEnd cX8_findLineEnd 2 (none) :: GT) ({ frames := 0, cells := 0, slots := 0, locals := 0 }) (mw_Pre G ad NF TF FF M L [.ref (ad 1), .int a1]) (mw_Qv G ad NF TF FF (mw_eqV M0 L0)) 0 0 (mw_fr G) := by
  refine mw_enter (by decide) (Nat.le_of_ble_eq_true rfl) ?_
  intro p e s m below meth c ls C hr hlocks hnm hw hl
  have hl : lv_has ls 2 [(0, .ref (ad 1)), (1, .int a1)] := hl
  have hb43 : ∀ (M : mwM) (L : mwL) (H : Heap) (locs : List Loc) (ls : Array Slot), fX8_findLineEnd_b43 fu a1 M L = some (M0, L0) → mw_W G ad NF TF FF M L H locs → lv_has ls 2 [] → W p l e ({ frames := 0, cells := 0, slots := 0, locals := 0 }) s m [.ref (ad 1), .int a1].toArray below meth c H locs 0 0 (MQ below (mw_Qv G ad NF TF FF (mw_eqV M0 L0)) [.ref (ad 1), .int a1].toArray s 0 0 (mw_fr G)) (F0 m 43 ls []) := by
    intro M L H locs ls hD hw hl
    unfold fX8_findLineEnd_b43 at hD
    exact mr_vret C hr hlocks hw (Option.some.inj hD) dX8_findLineEnd_43
  have hh5 : ∀ (f : Nat) (M : mwM) (L : mwL) (H : Heap) (locs : List Loc) (ls : Array Slot), fX8_findLineEnd_h5 fu a1 f (M, L) = some (M0, L0) → mw_W G ad NF TF FF M L H locs → lv_has ls 2 [(0, .ref (ad 1))] → W p l e ({ frames := 0, cells := 0, slots := 0, locals := 0 }) s m [.ref (ad 1), .int a1].toArray below meth c H locs 0 0 (MQ below (mw_Qv G ad NF TF FF (mw_eqV M0 L0)) [.ref (ad 1), .int a1].toArray s 0 0 (mw_fr G)) (F0 m 5 ls []) := by
    intro f
    induction f with
    | zero => intro M L H locs ls hD; cases hD
    | succ f5 ih5 =>
      intro M L H locs ls hD hw hl
      replace hD : fX8_findLineEnd_i5 fu a1 (fX8_findLineEnd_h5 fu a1 f5) M L = some (M0, L0) := hD
      unfold fX8_findLineEnd_i5 at hD
      refine lv_aload_n C.1.1 C.1.2.1 dX8_findLineEnd_5 rfl (lv_at hl 0 rfl) ?_
      refine mr_getI C hw kc_8 6 (by decide) tf_1 wd_601 dX8_findLineEnd_6 (by decide) rfl ?_
      refine lv_aload_n C.1.1 C.1.2.1 dX8_findLineEnd_9 rfl (lv_at hl 0 rfl) ?_
      refine mr_getI C hw kc_8 4 (by decide) tf_1 wd_599 dX8_findLineEnd_10 (by decide) rfl ?_
      refine lv_icmp_ge (tgt := 43) C.1.1 C.1.2.1 dX8_findLineEnd_13 (by decide) (fun c1 => ?_) (fun c1 => ?_)
      · replace hD := g_pos c1 hD
        exact hb43 M L _ _ ls hD hw (lv_sub hl [] rfl)
      · replace hD := g_neg c1 hD
        refine lv_aload_n C.1.1 C.1.2.1 dX8_findLineEnd_16 rfl (lv_at hl 0 rfl) ?_
        refine mr_getR C hw kc_8 0 (by decide) tf_1 ff_1_0 wd_593 dX8_findLineEnd_17 (by decide) rfl ?_
        refine lv_aload_n C.1.1 C.1.2.1 dX8_findLineEnd_20 rfl (lv_at hl 0 rfl) ?_
        refine mr_getI C hw kc_8 6 (by decide) tf_1 wd_601 dX8_findLineEnd_21 (by decide) rfl ?_
        obtain ⟨q2, hD⟩ := g_ck hD
        refine mr_cald C hw (by decide) tf_2 q2 dX8_findLineEnd_24 ?_
        refine lv_bipush (v := 10) C.1.1 C.1.2.1 dX8_findLineEnd_25 (by decide) ?_
        refine lv_icmp_eq (tgt := 43) C.1.1 C.1.2.1 dX8_findLineEnd_27 (by decide) (fun c3 => ?_) (fun c3 => ?_)
        · replace hD := g_pos c3 hD
          exact hb43 M L _ _ ls hD hw (lv_sub hl [] rfl)
        · replace hD := g_neg c3 hD
          refine lv_aload_n C.1.1 C.1.2.1 dX8_findLineEnd_30 rfl (lv_at hl 0 rfl) ?_
          refine lv_dup C.1.1 C.1.2.1 dX8_findLineEnd_31 rfl ?_
          refine mr_getI C hw kc_8 6 (by decide) tf_1 wd_601 dX8_findLineEnd_32 (by decide) rfl ?_
          refine lv_iconst (v := 1) C.1.1 C.1.2.1 dX8_findLineEnd_35 (by decide) ?_
          refine lv_iadd C.1.1 C.1.2.1 dX8_findLineEnd_36 ?_
          obtain ⟨M4, eM4, hD⟩ := g_let hD
          refine mr_putI C hw kc_8 6 (by decide) tf_1 wd_601 dX8_findLineEnd_37 (by decide) rfl rfl rfl rfl (fun H locs hw => ?_)
          replace hw : mw_W G ad NF TF FF M4 L H locs := by rw [eM4]; exact hw
          refine lv_goto (tgt := 5) C.1.1 C.1.2.1 dX8_findLineEnd_40 (by decide) ?_
          exact ih5 M4 L _ _ ls hD hw (lv_sub hl [0] rfl)
  unfold DX8_findLineEnd at hD
  refine lv_aload_n C.1.1 C.1.2.1 dX8_findLineEnd_0 rfl (lv_at hl 0 rfl) ?_
  refine lv_iload_n C.1.1 C.1.2.1 dX8_findLineEnd_1 rfl (lv_at hl 1 rfl) ?_
  obtain ⟨M5, eM5, hD⟩ := g_let hD
  refine mr_putI C hw kc_8 6 (by decide) tf_1 wd_601 dX8_findLineEnd_2 (by decide) rfl rfl rfl rfl (fun H locs hw => ?_)
  replace hw : mw_W G ad NF TF FF M5 L H locs := by rw [eM5]; exact hw
  exact hh5 fu M5 L _ _ ls hD hw (lv_sub hl [0] rfl)

theorem dX8_nextWord_0 : decode cX8_nextWord 0 = .ok (.aload_n 0, 1) := by decide +kernel
theorem dX8_nextWord_1 : decode cX8_nextWord 1 = .ok (.getfield 44, 3) := by decide +kernel
theorem dX8_nextWord_4 : decode cX8_nextWord 4 = .ok (.aload_n 0, 1) := by decide +kernel
theorem dX8_nextWord_5 : decode cX8_nextWord 5 = .ok (.getfield 62, 3) := by decide +kernel
theorem dX8_nextWord_8 : decode cX8_nextWord 8 = .ok (.if_icmp .ge 30, 3) := by decide +kernel
theorem dX8_nextWord_11 : decode cX8_nextWord 11 = .ok (.aload_n 0, 1) := by decide +kernel
theorem dX8_nextWord_12 : decode cX8_nextWord 12 = .ok (.getfield 9, 3) := by decide +kernel
theorem dX8_nextWord_15 : decode cX8_nextWord 15 = .ok (.aload_n 0, 1) := by decide +kernel
theorem dX8_nextWord_16 : decode cX8_nextWord 16 = .ok (.getfield 44, 3) := by decide +kernel
theorem dX8_nextWord_19 : decode cX8_nextWord 19 = .ok (.caload, 1) := by decide +kernel
theorem dX8_nextWord_20 : decode cX8_nextWord 20 = .ok (.bipush 32, 2) := by decide +kernel
theorem dX8_nextWord_22 : decode cX8_nextWord 22 = .ok (.if_icmp .ne 16, 3) := by decide +kernel
theorem dX8_nextWord_25 : decode cX8_nextWord 25 = .ok (.aload_n 0, 1) := by decide +kernel
theorem dX8_nextWord_26 : decode cX8_nextWord 26 = .ok (.dup, 1) := by decide +kernel
theorem dX8_nextWord_27 : decode cX8_nextWord 27 = .ok (.getfield 44, 3) := by decide +kernel
theorem dX8_nextWord_30 : decode cX8_nextWord 30 = .ok (.iconst 1, 1) := by decide +kernel
theorem dX8_nextWord_31 : decode cX8_nextWord 31 = .ok (.iadd, 1) := by decide +kernel
theorem dX8_nextWord_32 : decode cX8_nextWord 32 = .ok (.putfield 44, 3) := by decide +kernel
theorem dX8_nextWord_35 : decode cX8_nextWord 35 = .ok (.goto (-35), 3) := by decide +kernel
theorem dX8_nextWord_38 : decode cX8_nextWord 38 = .ok (.aload_n 0, 1) := by decide +kernel
theorem dX8_nextWord_39 : decode cX8_nextWord 39 = .ok (.getfield 44, 3) := by decide +kernel
theorem dX8_nextWord_42 : decode cX8_nextWord 42 = .ok (.aload_n 0, 1) := by decide +kernel
theorem dX8_nextWord_43 : decode cX8_nextWord 43 = .ok (.getfield 62, 3) := by decide +kernel
theorem dX8_nextWord_46 : decode cX8_nextWord 46 = .ok (.if_icmp .ge 17, 3) := by decide +kernel
theorem dX8_nextWord_49 : decode cX8_nextWord 49 = .ok (.aload_n 0, 1) := by decide +kernel
theorem dX8_nextWord_50 : decode cX8_nextWord 50 = .ok (.getfield 9, 3) := by decide +kernel
theorem dX8_nextWord_53 : decode cX8_nextWord 53 = .ok (.aload_n 0, 1) := by decide +kernel
theorem dX8_nextWord_54 : decode cX8_nextWord 54 = .ok (.getfield 44, 3) := by decide +kernel
theorem dX8_nextWord_57 : decode cX8_nextWord 57 = .ok (.caload, 1) := by decide +kernel
theorem dX8_nextWord_58 : decode cX8_nextWord 58 = .ok (.bipush 35, 2) := by decide +kernel
theorem dX8_nextWord_60 : decode cX8_nextWord 60 = .ok (.if_icmp .ne 17, 3) := by decide +kernel
theorem dX8_nextWord_63 : decode cX8_nextWord 63 = .ok (.aload_n 0, 1) := by decide +kernel
theorem dX8_nextWord_64 : decode cX8_nextWord 64 = .ok (.aload_n 0, 1) := by decide +kernel
theorem dX8_nextWord_65 : decode cX8_nextWord 65 = .ok (.getfield 62, 3) := by decide +kernel
theorem dX8_nextWord_68 : decode cX8_nextWord 68 = .ok (.putfield 50, 3) := by decide +kernel
theorem dX8_nextWord_71 : decode cX8_nextWord 71 = .ok (.aload_n 0, 1) := by decide +kernel
theorem dX8_nextWord_72 : decode cX8_nextWord 72 = .ok (.iconst 0, 1) := by decide +kernel
theorem dX8_nextWord_73 : decode cX8_nextWord 73 = .ok (.putfield 56, 3) := by decide +kernel
theorem dX8_nextWord_76 : decode cX8_nextWord 76 = .ok (.return_, 1) := by decide +kernel
theorem dX8_nextWord_77 : decode cX8_nextWord 77 = .ok (.aload_n 0, 1) := by decide +kernel
theorem dX8_nextWord_78 : decode cX8_nextWord 78 = .ok (.aload_n 0, 1) := by decide +kernel
theorem dX8_nextWord_79 : decode cX8_nextWord 79 = .ok (.getfield 44, 3) := by decide +kernel
theorem dX8_nextWord_82 : decode cX8_nextWord 82 = .ok (.putfield 50, 3) := by decide +kernel
theorem dX8_nextWord_85 : decode cX8_nextWord 85 = .ok (.aload_n 0, 1) := by decide +kernel
theorem dX8_nextWord_86 : decode cX8_nextWord 86 = .ok (.getfield 44, 3) := by decide +kernel
theorem dX8_nextWord_89 : decode cX8_nextWord 89 = .ok (.aload_n 0, 1) := by decide +kernel
theorem dX8_nextWord_90 : decode cX8_nextWord 90 = .ok (.getfield 62, 3) := by decide +kernel
theorem dX8_nextWord_93 : decode cX8_nextWord 93 = .ok (.if_icmp .ge 30, 3) := by decide +kernel
theorem dX8_nextWord_96 : decode cX8_nextWord 96 = .ok (.aload_n 0, 1) := by decide +kernel
theorem dX8_nextWord_97 : decode cX8_nextWord 97 = .ok (.getfield 9, 3) := by decide +kernel
theorem dX8_nextWord_100 : decode cX8_nextWord 100 = .ok (.aload_n 0, 1) := by decide +kernel
theorem dX8_nextWord_101 : decode cX8_nextWord 101 = .ok (.getfield 44, 3) := by decide +kernel
theorem dX8_nextWord_104 : decode cX8_nextWord 104 = .ok (.caload, 1) := by decide +kernel
theorem dX8_nextWord_105 : decode cX8_nextWord 105 = .ok (.bipush 32, 2) := by decide +kernel
theorem dX8_nextWord_107 : decode cX8_nextWord 107 = .ok (.if_icmp .eq 16, 3) := by decide +kernel
theorem dX8_nextWord_110 : decode cX8_nextWord 110 = .ok (.aload_n 0, 1) := by decide +kernel
theorem dX8_nextWord_111 : decode cX8_nextWord 111 = .ok (.dup, 1) := by decide +kernel
theorem dX8_nextWord_112 : decode cX8_nextWord 112 = .ok (.getfield 44, 3) := by decide +kernel
theorem dX8_nextWord_115 : decode cX8_nextWord 115 = .ok (.iconst 1, 1) := by decide +kernel
theorem dX8_nextWord_116 : decode cX8_nextWord 116 = .ok (.iadd, 1) := by decide +kernel
theorem dX8_nextWord_117 : decode cX8_nextWord 117 = .ok (.putfield 44, 3) := by decide +kernel
theorem dX8_nextWord_120 : decode cX8_nextWord 120 = .ok (.goto (-35), 3) := by decide +kernel
theorem dX8_nextWord_123 : decode cX8_nextWord 123 = .ok (.aload_n 0, 1) := by decide +kernel
theorem dX8_nextWord_124 : decode cX8_nextWord 124 = .ok (.aload_n 0, 1) := by decide +kernel
theorem dX8_nextWord_125 : decode cX8_nextWord 125 = .ok (.getfield 44, 3) := by decide +kernel
theorem dX8_nextWord_128 : decode cX8_nextWord 128 = .ok (.aload_n 0, 1) := by decide +kernel
theorem dX8_nextWord_129 : decode cX8_nextWord 129 = .ok (.getfield 50, 3) := by decide +kernel
theorem dX8_nextWord_132 : decode cX8_nextWord 132 = .ok (.isub, 1) := by decide +kernel
theorem dX8_nextWord_133 : decode cX8_nextWord 133 = .ok (.putfield 56, 3) := by decide +kernel
theorem dX8_nextWord_136 : decode cX8_nextWord 136 = .ok (.return_, 1) := by decide +kernel
theorem cwX8_nextWord : mw_cwV yX8_nextWord cX8_nextWord 1 (none) 0 := ⟨⟨wd_2, wd_833, by decide +kernel⟩, wd_832, sl_3⟩
noncomputable def fX8_nextWord_b63 (fu : Nat) (M : mwM) (L : mwL) : Option (mwM × mwL) :=
  mlet (mset M 1 8 (M 1 6)) (fun M9 => mlet (mset M9 1 9 0) (fun M10 => some (M10, L)))
noncomputable def fX8_nextWord_b123 (fu : Nat) (M : mwM) (L : mwL) : Option (mwM × mwL) :=
  mlet (mset M 1 9 ((M 1 5) - (M 1 8))) (fun M15 => some (M15, L))
noncomputable def fX8_nextWord_i85 (fu : Nat) (r85 : (mwM × mwL) → Option (mwM × mwL)) (M : mwM) (L : mwL) : Option (mwM × mwL) :=
  (if (M 1 6) ≤ (M 1 5) then fX8_nextWord_b123 fu M L else mck (M 1 5) 6000 ((if (M 2 (M 1 5).toNatClampNeg) = 32 then fX8_nextWord_b123 fu M L else mlet (mset M 1 5 ((M 1 5) + 1)) (fun M14 => r85 (M14, L)))))
noncomputable def fX8_nextWord_h85 (fu : Nat) : Nat → (mwM × mwL) → Option (mwM × mwL) := mloop (fun r85 s => fX8_nextWord_i85 fu r85 s.1 s.2)
noncomputable def fX8_nextWord_b38 (fu : Nat) (M : mwM) (L : mwL) : Option (mwM × mwL) :=
  (if (M 1 6) ≤ (M 1 5) then fX8_nextWord_b63 fu M L else mck (M 1 5) 6000 ((if (M 2 (M 1 5).toNatClampNeg) = 35 then fX8_nextWord_b63 fu M L else mlet (mset M 1 8 (M 1 5)) (fun M8 => fX8_nextWord_h85 fu fu (M8, L)))))
noncomputable def fX8_nextWord_i0 (fu : Nat) (r0 : (mwM × mwL) → Option (mwM × mwL)) (M : mwM) (L : mwL) : Option (mwM × mwL) :=
  (if (M 1 6) ≤ (M 1 5) then fX8_nextWord_b38 fu M L else mck (M 1 5) 6000 ((if (M 2 (M 1 5).toNatClampNeg) = 32 then mlet (mset M 1 5 ((M 1 5) + 1)) (fun M4 => r0 (M4, L)) else fX8_nextWord_b38 fu M L)))
noncomputable def fX8_nextWord_h0 (fu : Nat) : Nat → (mwM × mwL) → Option (mwM × mwL) := mloop (fun r0 s => fX8_nextWord_i0 fu r0 s.1 s.2)
noncomputable def DX8_nextWord (fu : Nat) (M : mwM) (L : mwL) : Option (mwM × mwL) :=
  fX8_nextWord_h0 fu fu (M, L)
set_option maxHeartbeats 4000000 in
set_option maxRecDepth 100000 in
theorem tX8_nextWord (l : Launch) (G : mwG) (ad : Nat → Nat) (fu : Nat) (M : mwM) (L : mwL) {M0 : mwM} {L0 : mwL} (hD : DX8_nextWord fu M L = some (M0, L0)) : Met l yX8_nextWord (Cond.code yX8_nextWord cX8_nextWord 1 (none) :: GT) ({ frames := 0, cells := 0, slots := 0, locals := 0 }) (mw_Pre G ad NF TF FF M L [.ref (ad 1)]) (mw_Qv G ad NF TF FF (mw_eqV M0 L0)) 0 0 (mw_fr G) := by
  refine mw_enter (by decide) (Nat.le_of_ble_eq_true rfl) ?_
  intro p e s m below meth c ls C hr hlocks hnm hw hl
  have hl : lv_has ls 1 [(0, .ref (ad 1))] := hl
  have hb63 : ∀ (M : mwM) (L : mwL) (H : Heap) (locs : List Loc) (ls : Array Slot), fX8_nextWord_b63 fu M L = some (M0, L0) → mw_W G ad NF TF FF M L H locs → lv_has ls 1 [(0, .ref (ad 1))] → W p l e ({ frames := 0, cells := 0, slots := 0, locals := 0 }) s m [.ref (ad 1)].toArray below meth c H locs 0 0 (MQ below (mw_Qv G ad NF TF FF (mw_eqV M0 L0)) [.ref (ad 1)].toArray s 0 0 (mw_fr G)) (F0 m 63 ls []) := by
    intro M L H locs ls hD hw hl
    unfold fX8_nextWord_b63 at hD
    refine lv_aload_n C.1.1 C.1.2.1 dX8_nextWord_63 rfl (lv_at hl 0 rfl) ?_
    refine lv_aload_n C.1.1 C.1.2.1 dX8_nextWord_64 rfl (lv_at hl 0 rfl) ?_
    refine mr_getI C hw kc_8 6 (by decide) tf_1 wd_601 dX8_nextWord_65 (by decide) rfl ?_
    obtain ⟨M9, eM9, hD⟩ := g_let hD
    refine mr_putI C hw kc_8 8 (by decide) tf_1 wd_603 dX8_nextWord_68 (by decide) rfl rfl rfl rfl (fun H locs hw => ?_)
    replace hw : mw_W G ad NF TF FF M9 L H locs := by rw [eM9]; exact hw
    refine lv_aload_n C.1.1 C.1.2.1 dX8_nextWord_71 rfl (lv_at hl 0 rfl) ?_
    refine lv_iconst (v := 0) C.1.1 C.1.2.1 dX8_nextWord_72 (by decide) ?_
    obtain ⟨M10, eM10, hD⟩ := g_let hD
    refine mr_putI C hw kc_8 9 (by decide) tf_1 wd_604 dX8_nextWord_73 (by decide) rfl rfl rfl rfl (fun H locs hw => ?_)
    replace hw : mw_W G ad NF TF FF M10 L H locs := by rw [eM10]; exact hw
    exact mr_vret C hr hlocks hw (Option.some.inj hD) dX8_nextWord_76
  have hb123 : ∀ (M : mwM) (L : mwL) (H : Heap) (locs : List Loc) (ls : Array Slot), fX8_nextWord_b123 fu M L = some (M0, L0) → mw_W G ad NF TF FF M L H locs → lv_has ls 1 [(0, .ref (ad 1))] → W p l e ({ frames := 0, cells := 0, slots := 0, locals := 0 }) s m [.ref (ad 1)].toArray below meth c H locs 0 0 (MQ below (mw_Qv G ad NF TF FF (mw_eqV M0 L0)) [.ref (ad 1)].toArray s 0 0 (mw_fr G)) (F0 m 123 ls []) := by
    intro M L H locs ls hD hw hl
    unfold fX8_nextWord_b123 at hD
    refine lv_aload_n C.1.1 C.1.2.1 dX8_nextWord_123 rfl (lv_at hl 0 rfl) ?_
    refine lv_aload_n C.1.1 C.1.2.1 dX8_nextWord_124 rfl (lv_at hl 0 rfl) ?_
    refine mr_getI C hw kc_8 5 (by decide) tf_1 wd_600 dX8_nextWord_125 (by decide) rfl ?_
    refine lv_aload_n C.1.1 C.1.2.1 dX8_nextWord_128 rfl (lv_at hl 0 rfl) ?_
    refine mr_getI C hw kc_8 8 (by decide) tf_1 wd_603 dX8_nextWord_129 (by decide) rfl ?_
    refine lv_isub C.1.1 C.1.2.1 dX8_nextWord_132 ?_
    obtain ⟨M15, eM15, hD⟩ := g_let hD
    refine mr_putI C hw kc_8 9 (by decide) tf_1 wd_604 dX8_nextWord_133 (by decide) rfl rfl rfl rfl (fun H locs hw => ?_)
    replace hw : mw_W G ad NF TF FF M15 L H locs := by rw [eM15]; exact hw
    exact mr_vret C hr hlocks hw (Option.some.inj hD) dX8_nextWord_136
  have hh85 : ∀ (f : Nat) (M : mwM) (L : mwL) (H : Heap) (locs : List Loc) (ls : Array Slot), fX8_nextWord_h85 fu f (M, L) = some (M0, L0) → mw_W G ad NF TF FF M L H locs → lv_has ls 1 [(0, .ref (ad 1))] → W p l e ({ frames := 0, cells := 0, slots := 0, locals := 0 }) s m [.ref (ad 1)].toArray below meth c H locs 0 0 (MQ below (mw_Qv G ad NF TF FF (mw_eqV M0 L0)) [.ref (ad 1)].toArray s 0 0 (mw_fr G)) (F0 m 85 ls []) := by
    intro f
    induction f with
    | zero => intro M L H locs ls hD; cases hD
    | succ f85 ih85 =>
      intro M L H locs ls hD hw hl
      replace hD : fX8_nextWord_i85 fu (fX8_nextWord_h85 fu f85) M L = some (M0, L0) := hD
      unfold fX8_nextWord_i85 at hD
      refine lv_aload_n C.1.1 C.1.2.1 dX8_nextWord_85 rfl (lv_at hl 0 rfl) ?_
      refine mr_getI C hw kc_8 5 (by decide) tf_1 wd_600 dX8_nextWord_86 (by decide) rfl ?_
      refine lv_aload_n C.1.1 C.1.2.1 dX8_nextWord_89 rfl (lv_at hl 0 rfl) ?_
      refine mr_getI C hw kc_8 6 (by decide) tf_1 wd_601 dX8_nextWord_90 (by decide) rfl ?_
      refine lv_icmp_ge (tgt := 123) C.1.1 C.1.2.1 dX8_nextWord_93 (by decide) (fun c11 => ?_) (fun c11 => ?_)
      · replace hD := g_pos c11 hD
        exact hb123 M L _ _ ls hD hw (lv_sub hl [0] rfl)
      · replace hD := g_neg c11 hD
        refine lv_aload_n C.1.1 C.1.2.1 dX8_nextWord_96 rfl (lv_at hl 0 rfl) ?_
        refine mr_getR C hw kc_8 0 (by decide) tf_1 ff_1_0 wd_593 dX8_nextWord_97 (by decide) rfl ?_
        refine lv_aload_n C.1.1 C.1.2.1 dX8_nextWord_100 rfl (lv_at hl 0 rfl) ?_
        refine mr_getI C hw kc_8 5 (by decide) tf_1 wd_600 dX8_nextWord_101 (by decide) rfl ?_
        obtain ⟨q12, hD⟩ := g_ck hD
        refine mr_cald C hw (by decide) tf_2 q12 dX8_nextWord_104 ?_
        refine lv_bipush (v := 32) C.1.1 C.1.2.1 dX8_nextWord_105 (by decide) ?_
        refine lv_icmp_eq (tgt := 123) C.1.1 C.1.2.1 dX8_nextWord_107 (by decide) (fun c13 => ?_) (fun c13 => ?_)
        · replace hD := g_pos c13 hD
          exact hb123 M L _ _ ls hD hw (lv_sub hl [0] rfl)
        · replace hD := g_neg c13 hD
          refine lv_aload_n C.1.1 C.1.2.1 dX8_nextWord_110 rfl (lv_at hl 0 rfl) ?_
          refine lv_dup C.1.1 C.1.2.1 dX8_nextWord_111 rfl ?_
          refine mr_getI C hw kc_8 5 (by decide) tf_1 wd_600 dX8_nextWord_112 (by decide) rfl ?_
          refine lv_iconst (v := 1) C.1.1 C.1.2.1 dX8_nextWord_115 (by decide) ?_
          refine lv_iadd C.1.1 C.1.2.1 dX8_nextWord_116 ?_
          obtain ⟨M14, eM14, hD⟩ := g_let hD
          refine mr_putI C hw kc_8 5 (by decide) tf_1 wd_600 dX8_nextWord_117 (by decide) rfl rfl rfl rfl (fun H locs hw => ?_)
          replace hw : mw_W G ad NF TF FF M14 L H locs := by rw [eM14]; exact hw
          refine lv_goto (tgt := 85) C.1.1 C.1.2.1 dX8_nextWord_120 (by decide) ?_
          exact ih85 M14 L _ _ ls hD hw (lv_sub hl [0] rfl)
  have hb38 : ∀ (M : mwM) (L : mwL) (H : Heap) (locs : List Loc) (ls : Array Slot), fX8_nextWord_b38 fu M L = some (M0, L0) → mw_W G ad NF TF FF M L H locs → lv_has ls 1 [(0, .ref (ad 1))] → W p l e ({ frames := 0, cells := 0, slots := 0, locals := 0 }) s m [.ref (ad 1)].toArray below meth c H locs 0 0 (MQ below (mw_Qv G ad NF TF FF (mw_eqV M0 L0)) [.ref (ad 1)].toArray s 0 0 (mw_fr G)) (F0 m 38 ls []) := by
    intro M L H locs ls hD hw hl
    unfold fX8_nextWord_b38 at hD
    refine lv_aload_n C.1.1 C.1.2.1 dX8_nextWord_38 rfl (lv_at hl 0 rfl) ?_
    refine mr_getI C hw kc_8 5 (by decide) tf_1 wd_600 dX8_nextWord_39 (by decide) rfl ?_
    refine lv_aload_n C.1.1 C.1.2.1 dX8_nextWord_42 rfl (lv_at hl 0 rfl) ?_
    refine mr_getI C hw kc_8 6 (by decide) tf_1 wd_601 dX8_nextWord_43 (by decide) rfl ?_
    refine lv_icmp_ge (tgt := 63) C.1.1 C.1.2.1 dX8_nextWord_46 (by decide) (fun c5 => ?_) (fun c5 => ?_)
    · replace hD := g_pos c5 hD
      exact hb63 M L _ _ ls hD hw (lv_sub hl [0] rfl)
    · replace hD := g_neg c5 hD
      refine lv_aload_n C.1.1 C.1.2.1 dX8_nextWord_49 rfl (lv_at hl 0 rfl) ?_
      refine mr_getR C hw kc_8 0 (by decide) tf_1 ff_1_0 wd_593 dX8_nextWord_50 (by decide) rfl ?_
      refine lv_aload_n C.1.1 C.1.2.1 dX8_nextWord_53 rfl (lv_at hl 0 rfl) ?_
      refine mr_getI C hw kc_8 5 (by decide) tf_1 wd_600 dX8_nextWord_54 (by decide) rfl ?_
      obtain ⟨q6, hD⟩ := g_ck hD
      refine mr_cald C hw (by decide) tf_2 q6 dX8_nextWord_57 ?_
      refine lv_bipush (v := 35) C.1.1 C.1.2.1 dX8_nextWord_58 (by decide) ?_
      refine lv_icmp_ne (tgt := 77) C.1.1 C.1.2.1 dX8_nextWord_60 (by decide) (fun c7 => ?_) (fun c7 => ?_)
      · replace hD := g_neg c7 hD
        refine lv_aload_n C.1.1 C.1.2.1 dX8_nextWord_77 rfl (lv_at hl 0 rfl) ?_
        refine lv_aload_n C.1.1 C.1.2.1 dX8_nextWord_78 rfl (lv_at hl 0 rfl) ?_
        refine mr_getI C hw kc_8 5 (by decide) tf_1 wd_600 dX8_nextWord_79 (by decide) rfl ?_
        obtain ⟨M8, eM8, hD⟩ := g_let hD
        refine mr_putI C hw kc_8 8 (by decide) tf_1 wd_603 dX8_nextWord_82 (by decide) rfl rfl rfl rfl (fun H locs hw => ?_)
        replace hw : mw_W G ad NF TF FF M8 L H locs := by rw [eM8]; exact hw
        exact hh85 fu M8 L _ _ ls hD hw (lv_sub hl [0] rfl)
      · replace hD := g_pos c7 hD
        exact hb63 M L _ _ ls hD hw (lv_sub hl [0] rfl)
  have hh0 : ∀ (f : Nat) (M : mwM) (L : mwL) (H : Heap) (locs : List Loc) (ls : Array Slot), fX8_nextWord_h0 fu f (M, L) = some (M0, L0) → mw_W G ad NF TF FF M L H locs → lv_has ls 1 [(0, .ref (ad 1))] → W p l e ({ frames := 0, cells := 0, slots := 0, locals := 0 }) s m [.ref (ad 1)].toArray below meth c H locs 0 0 (MQ below (mw_Qv G ad NF TF FF (mw_eqV M0 L0)) [.ref (ad 1)].toArray s 0 0 (mw_fr G)) (F0 m 0 ls []) := by
    intro f
    induction f with
    | zero => intro M L H locs ls hD; cases hD
    | succ f0 ih0 =>
      intro M L H locs ls hD hw hl
      replace hD : fX8_nextWord_i0 fu (fX8_nextWord_h0 fu f0) M L = some (M0, L0) := hD
      unfold fX8_nextWord_i0 at hD
      refine lv_aload_n C.1.1 C.1.2.1 dX8_nextWord_0 rfl (lv_at hl 0 rfl) ?_
      refine mr_getI C hw kc_8 5 (by decide) tf_1 wd_600 dX8_nextWord_1 (by decide) rfl ?_
      refine lv_aload_n C.1.1 C.1.2.1 dX8_nextWord_4 rfl (lv_at hl 0 rfl) ?_
      refine mr_getI C hw kc_8 6 (by decide) tf_1 wd_601 dX8_nextWord_5 (by decide) rfl ?_
      refine lv_icmp_ge (tgt := 38) C.1.1 C.1.2.1 dX8_nextWord_8 (by decide) (fun c1 => ?_) (fun c1 => ?_)
      · replace hD := g_pos c1 hD
        exact hb38 M L _ _ ls hD hw (lv_sub hl [0] rfl)
      · replace hD := g_neg c1 hD
        refine lv_aload_n C.1.1 C.1.2.1 dX8_nextWord_11 rfl (lv_at hl 0 rfl) ?_
        refine mr_getR C hw kc_8 0 (by decide) tf_1 ff_1_0 wd_593 dX8_nextWord_12 (by decide) rfl ?_
        refine lv_aload_n C.1.1 C.1.2.1 dX8_nextWord_15 rfl (lv_at hl 0 rfl) ?_
        refine mr_getI C hw kc_8 5 (by decide) tf_1 wd_600 dX8_nextWord_16 (by decide) rfl ?_
        obtain ⟨q2, hD⟩ := g_ck hD
        refine mr_cald C hw (by decide) tf_2 q2 dX8_nextWord_19 ?_
        refine lv_bipush (v := 32) C.1.1 C.1.2.1 dX8_nextWord_20 (by decide) ?_
        refine lv_icmp_ne (tgt := 38) C.1.1 C.1.2.1 dX8_nextWord_22 (by decide) (fun c3 => ?_) (fun c3 => ?_)
        · replace hD := g_neg c3 hD
          exact hb38 M L _ _ ls hD hw (lv_sub hl [0] rfl)
        · replace hD := g_pos c3 hD
          refine lv_aload_n C.1.1 C.1.2.1 dX8_nextWord_25 rfl (lv_at hl 0 rfl) ?_
          refine lv_dup C.1.1 C.1.2.1 dX8_nextWord_26 rfl ?_
          refine mr_getI C hw kc_8 5 (by decide) tf_1 wd_600 dX8_nextWord_27 (by decide) rfl ?_
          refine lv_iconst (v := 1) C.1.1 C.1.2.1 dX8_nextWord_30 (by decide) ?_
          refine lv_iadd C.1.1 C.1.2.1 dX8_nextWord_31 ?_
          obtain ⟨M4, eM4, hD⟩ := g_let hD
          refine mr_putI C hw kc_8 5 (by decide) tf_1 wd_600 dX8_nextWord_32 (by decide) rfl rfl rfl rfl (fun H locs hw => ?_)
          replace hw : mw_W G ad NF TF FF M4 L H locs := by rw [eM4]; exact hw
          refine lv_goto (tgt := 0) C.1.1 C.1.2.1 dX8_nextWord_35 (by decide) ?_
          exact ih0 M4 L _ _ ls hD hw (lv_sub hl [0] rfl)
  unfold DX8_nextWord at hD
  exact hh0 fu M L _ _ ls hD hw (lv_sub hl [0] rfl)

theorem dX8_fetchWord_0 : decode cX8_fetchWord 0 = .ok (.aload_n 0, 1) := by decide +kernel
theorem dX8_fetchWord_1 : decode cX8_fetchWord 1 = .ok (.getfield 34, 3) := by decide +kernel
theorem dX8_fetchWord_4 : decode cX8_fetchWord 4 = .ok (.ifCond .eq 5, 3) := by decide +kernel
theorem dX8_fetchWord_7 : decode cX8_fetchWord 7 = .ok (.iconst 0, 1) := by decide +kernel
theorem dX8_fetchWord_8 : decode cX8_fetchWord 8 = .ok (.ireturn, 1) := by decide +kernel
theorem dX8_fetchWord_9 : decode cX8_fetchWord 9 = .ok (.aload_n 0, 1) := by decide +kernel
theorem dX8_fetchWord_10 : decode cX8_fetchWord 10 = .ok (.invokevirtual 47, 3) := by decide +kernel
theorem dX8_fetchWord_13 : decode cX8_fetchWord 13 = .ok (.aload_n 0, 1) := by decide +kernel
theorem dX8_fetchWord_14 : decode cX8_fetchWord 14 = .ok (.getfield 56, 3) := by decide +kernel
theorem dX8_fetchWord_17 : decode cX8_fetchWord 17 = .ok (.ifCond .ne 12, 3) := by decide +kernel
theorem dX8_fetchWord_20 : decode cX8_fetchWord 20 = .ok (.aload_n 0, 1) := by decide +kernel
theorem dX8_fetchWord_21 : decode cX8_fetchWord 21 = .ok (.iconst 2, 1) := by decide +kernel
theorem dX8_fetchWord_22 : decode cX8_fetchWord 22 = .ok (.aload_n 0, 1) := by decide +kernel
theorem dX8_fetchWord_23 : decode cX8_fetchWord 23 = .ok (.getfield 50, 3) := by decide +kernel
theorem dX8_fetchWord_26 : decode cX8_fetchWord 26 = .ok (.invokevirtual 71, 3) := by decide +kernel
theorem dX8_fetchWord_29 : decode cX8_fetchWord 29 = .ok (.aload_n 0, 1) := by decide +kernel
theorem dX8_fetchWord_30 : decode cX8_fetchWord 30 = .ok (.getfield 56, 3) := by decide +kernel
theorem dX8_fetchWord_33 : decode cX8_fetchWord 33 = .ok (.ifCond .le 7, 3) := by decide +kernel
theorem dX8_fetchWord_36 : decode cX8_fetchWord 36 = .ok (.iconst 1, 1) := by decide +kernel
theorem dX8_fetchWord_37 : decode cX8_fetchWord 37 = .ok (.goto 4, 3) := by decide +kernel
theorem dX8_fetchWord_40 : decode cX8_fetchWord 40 = .ok (.iconst 0, 1) := by decide +kernel
theorem dX8_fetchWord_41 : decode cX8_fetchWord 41 = .ok (.ireturn, 1) := by decide +kernel
theorem cwX8_fetchWord : mw_cwV yX8_fetchWord cX8_fetchWord 1 ((some .boolean)) 0 := ⟨⟨wd_2, wd_949, by decide +kernel⟩, wd_948, sl_18⟩
noncomputable def fX8_fetchWord_b41 (fu : Nat) (s0 : Int32) (M : mwM) (L : mwL) : Option (Int32 × mwM × mwL) :=
  mzz s0 (some (s0, M, L))
noncomputable def fX8_fetchWord_b29 (fu : Nat) (M : mwM) (L : mwL) : Option (Int32 × mwM × mwL) :=
  (if (M 1 9) ≤ 0 then fX8_fetchWord_b41 fu 0 M L else fX8_fetchWord_b41 fu 1 M L)
noncomputable def DX8_fetchWord (fu : Nat) (M : mwM) (L : mwL) : Option (Int32 × mwM × mwL) :=
  (if (M 1 12) = 0 then mb2 (DX8_nextWord fu M L) (fun M4 L5 => (if (M4 1 9) = 0 then mb2 (DX8_fail fu 2 (M4 1 8) M4 L5) (fun M7 L8 => fX8_fetchWord_b29 fu M7 L8) else fX8_fetchWord_b29 fu M4 L5)) else some (0, M, L))
set_option maxHeartbeats 4000000 in
set_option maxRecDepth 100000 in
theorem tX8_fetchWord (l : Launch) (G : mwG) (ad : Nat → Nat) (fu : Nat) (M : mwM) (L : mwL) {r0 : Int32} {M0 : mwM} {L0 : mwL} (hD : DX8_fetchWord fu M L = some (r0, M0, L0)) : Met l yX8_fetchWord (Cond.code yX8_fetchWord cX8_fetchWord 1 ((some .boolean)) :: GT) ({ frames := 1, cells := 0, slots := 0, locals := 22 }) (mw_Pre G ad NF TF FF M L [.ref (ad 1)]) (mw_Qi G ad NF TF FF (mw_eqI r0 M0 L0)) 0 0 (mw_fr G) := by
  refine mw_enter (by decide) (Nat.le_of_ble_eq_true rfl) ?_
  intro p e s m below meth c ls C hr hlocks hnm hw hl
  have hl : lv_has ls 1 [(0, .ref (ad 1))] := hl
  have hb41 : ∀ (s0 : Int32) (M : mwM) (L : mwL) (H : Heap) (locs : List Loc) (ls : Array Slot), fX8_fetchWord_b41 fu s0 M L = some (r0, M0, L0) → mw_W G ad NF TF FF M L H locs → lv_has ls 1 [] → W p l e ({ frames := 1, cells := 0, slots := 0, locals := 22 }) s m [.ref (ad 1)].toArray below meth c H locs 0 0 (MQ below (mw_Qi G ad NF TF FF (mw_eqI r0 M0 L0)) [.ref (ad 1)].toArray s 0 0 (mw_fr G)) (F0 m 41 ls [.int s0]) := by
    intro s0 M L H locs ls hD hw hl
    unfold fX8_fetchWord_b41 at hD
    obtain ⟨z2, hD⟩ := g_zz hD
    exact mr_iret C hr hlocks hw (nz_zz z2) (Option.some.inj hD) dX8_fetchWord_41
  have hb29 : ∀ (M : mwM) (L : mwL) (H : Heap) (locs : List Loc) (ls : Array Slot), fX8_fetchWord_b29 fu M L = some (r0, M0, L0) → mw_W G ad NF TF FF M L H locs → lv_has ls 1 [(0, .ref (ad 1))] → W p l e ({ frames := 1, cells := 0, slots := 0, locals := 22 }) s m [.ref (ad 1)].toArray below meth c H locs 0 0 (MQ below (mw_Qi G ad NF TF FF (mw_eqI r0 M0 L0)) [.ref (ad 1)].toArray s 0 0 (mw_fr G)) (F0 m 29 ls []) := by
    intro M L H locs ls hD hw hl
    unfold fX8_fetchWord_b29 at hD
    refine lv_aload_n C.1.1 C.1.2.1 dX8_fetchWord_29 rfl (lv_at hl 0 rfl) ?_
    refine mr_getI C hw kc_8 9 (by decide) tf_1 wd_604 dX8_fetchWord_30 (by decide) rfl ?_
    refine lv_if_le (tgt := 40) C.1.1 C.1.2.1 dX8_fetchWord_33 (by decide) (fun c1 => ?_) (fun c1 => ?_)
    · replace hD := g_pos c1 hD
      refine lv_iconst (v := 0) C.1.1 C.1.2.1 dX8_fetchWord_40 (by decide) ?_
      exact hb41 0 M L _ _ ls hD hw (lv_sub hl [] rfl)
    · replace hD := g_neg c1 hD
      refine lv_iconst (v := 1) C.1.1 C.1.2.1 dX8_fetchWord_36 (by decide) ?_
      refine lv_goto (tgt := 41) C.1.1 C.1.2.1 dX8_fetchWord_37 (by decide) ?_
      exact hb41 1 M L _ _ ls hD hw (lv_sub hl [] rfl)
  unfold DX8_fetchWord at hD
  refine lv_aload_n C.1.1 C.1.2.1 dX8_fetchWord_0 rfl (lv_at hl 0 rfl) ?_
  refine mr_getI C hw kc_8 12 (by decide) tf_1 wd_607 dX8_fetchWord_1 (by decide) rfl ?_
  refine lv_if_eq (tgt := 9) C.1.1 C.1.2.1 dX8_fetchWord_4 (by decide) (fun c3 => ?_) (fun c3 => ?_)
  · replace hD := g_pos c3 hD
    refine lv_aload_n C.1.1 C.1.2.1 dX8_fetchWord_9 rfl (lv_at hl 0 rfl) ?_
    obtain ⟨M4, L5, h1, hD⟩ := g_b2 hD
    refine md_cvV (As := []) (rest := []) C hw (tX8_nextWord l G ad fu M L h1) kc_8 (by decide) tf_1 wd_830 cwX8_nextWord ⟨Nat.le_of_ble_eq_true rfl, Nat.le_of_ble_eq_true rfl⟩ rfl hl.1 (Nat.le_of_ble_eq_true rfl) dX8_fetchWord_10 rfl rfl ⟨Nat.zero_le _, Nat.zero_le _⟩ rfl (fun H locs hw => ?_)
    refine lv_aload_n C.1.1 C.1.2.1 dX8_fetchWord_13 rfl (lv_at hl 0 rfl) ?_
    refine mr_getI C hw kc_8 9 (by decide) tf_1 wd_604 dX8_fetchWord_14 (by decide) rfl ?_
    refine lv_if_ne (tgt := 29) C.1.1 C.1.2.1 dX8_fetchWord_17 (by decide) (fun c6 => ?_) (fun c6 => ?_)
    · replace hD := g_neg c6 hD
      exact hb29 M4 L5 _ _ ls hD hw (lv_sub hl [0] rfl)
    · replace hD := g_pos c6 hD
      refine lv_aload_n C.1.1 C.1.2.1 dX8_fetchWord_20 rfl (lv_at hl 0 rfl) ?_
      refine lv_iconst (v := 2) C.1.1 C.1.2.1 dX8_fetchWord_21 (by decide) ?_
      refine lv_aload_n C.1.1 C.1.2.1 dX8_fetchWord_22 rfl (lv_at hl 0 rfl) ?_
      refine mr_getI C hw kc_8 8 (by decide) tf_1 wd_603 dX8_fetchWord_23 (by decide) rfl ?_
      obtain ⟨M7, L8, h1, hD⟩ := g_b2 hD
      refine md_cvV (As := [.int 2, .int (M4 1 8)]) (rest := []) C hw (tX8_fail l G ad fu 2 (M4 1 8) M4 L5 h1) kc_8 (by decide) tf_1 wd_918 cwX8_fail ⟨Nat.le_of_ble_eq_true rfl, Nat.le_of_ble_eq_true rfl⟩ rfl hl.1 (Nat.le_of_ble_eq_true rfl) dX8_fetchWord_26 rfl rfl ⟨Nat.zero_le _, Nat.zero_le _⟩ rfl (fun H locs hw => ?_)
      exact hb29 M7 L8 _ _ ls hD hw (lv_sub hl [0] rfl)
  · replace hD := g_neg c3 hD
    refine lv_iconst (v := 0) C.1.1 C.1.2.1 dX8_fetchWord_7 (by decide) ?_
    exact mr_iret C hr hlocks hw (by decide +kernel) (Option.some.inj hD) dX8_fetchWord_8

theorem dX8_isSame_0 : decode cX8_isSame 0 = .ok (.iconst 0, 1) := by decide +kernel
theorem dX8_isSame_1 : decode cX8_isSame 1 = .ok (.istore_n 2, 1) := by decide +kernel
theorem dX8_isSame_2 : decode cX8_isSame 2 = .ok (.iload_n 2, 1) := by decide +kernel
theorem dX8_isSame_3 : decode cX8_isSame 3 = .ok (.aload_n 0, 1) := by decide +kernel
theorem dX8_isSame_4 : decode cX8_isSame 4 = .ok (.getfield 56, 3) := by decide +kernel
theorem dX8_isSame_7 : decode cX8_isSame 7 = .ok (.if_icmp .ge 33, 3) := by decide +kernel
theorem dX8_isSame_10 : decode cX8_isSame 10 = .ok (.aload_n 0, 1) := by decide +kernel
theorem dX8_isSame_11 : decode cX8_isSame 11 = .ok (.getfield 9, 3) := by decide +kernel
theorem dX8_isSame_14 : decode cX8_isSame 14 = .ok (.iload_n 1, 1) := by decide +kernel
theorem dX8_isSame_15 : decode cX8_isSame 15 = .ok (.iload_n 2, 1) := by decide +kernel
theorem dX8_isSame_16 : decode cX8_isSame 16 = .ok (.iadd, 1) := by decide +kernel
theorem dX8_isSame_17 : decode cX8_isSame 17 = .ok (.caload, 1) := by decide +kernel
theorem dX8_isSame_18 : decode cX8_isSame 18 = .ok (.aload_n 0, 1) := by decide +kernel
theorem dX8_isSame_19 : decode cX8_isSame 19 = .ok (.getfield 9, 3) := by decide +kernel
theorem dX8_isSame_22 : decode cX8_isSame 22 = .ok (.aload_n 0, 1) := by decide +kernel
theorem dX8_isSame_23 : decode cX8_isSame 23 = .ok (.getfield 50, 3) := by decide +kernel
theorem dX8_isSame_26 : decode cX8_isSame 26 = .ok (.iload_n 2, 1) := by decide +kernel
theorem dX8_isSame_27 : decode cX8_isSame 27 = .ok (.iadd, 1) := by decide +kernel
theorem dX8_isSame_28 : decode cX8_isSame 28 = .ok (.caload, 1) := by decide +kernel
theorem dX8_isSame_29 : decode cX8_isSame 29 = .ok (.if_icmp .eq 5, 3) := by decide +kernel
theorem dX8_isSame_32 : decode cX8_isSame 32 = .ok (.iconst 0, 1) := by decide +kernel
theorem dX8_isSame_33 : decode cX8_isSame 33 = .ok (.ireturn, 1) := by decide +kernel
theorem dX8_isSame_34 : decode cX8_isSame 34 = .ok (.iinc 2 1, 3) := by decide +kernel
theorem dX8_isSame_37 : decode cX8_isSame 37 = .ok (.goto (-35), 3) := by decide +kernel
theorem dX8_isSame_40 : decode cX8_isSame 40 = .ok (.iconst 1, 1) := by decide +kernel
theorem dX8_isSame_41 : decode cX8_isSame 41 = .ok (.ireturn, 1) := by decide +kernel
theorem cwX8_isSame : mw_cwV yX8_isSame cX8_isSame 3 ((some .boolean)) 1 := ⟨⟨wd_2, wd_929, by decide +kernel⟩, wd_928, sl_13⟩
noncomputable def fX8_isSame_i2 (fu : Nat) (a1 : Int32) (r2 : (Int32 × mwM × mwL) → Option (Int32 × mwM × mwL)) (v2 : Int32) (M : mwM) (L : mwL) : Option (Int32 × mwM × mwL) :=
  (if (M 1 9) ≤ v2 then some (1, M, L) else mck (a1 + v2) 6000 (mck ((M 1 8) + v2) 6000 ((if (M 2 (a1 + v2).toNatClampNeg) = (M 2 ((M 1 8) + v2).toNatClampNeg) then mlet (v2 + 1) (fun x5 => r2 (x5, M, L)) else some (0, M, L)))))
noncomputable def fX8_isSame_h2 (fu : Nat) (a1 : Int32) : Nat → (Int32 × mwM × mwL) → Option (Int32 × mwM × mwL) := mloop (fun r2 s => fX8_isSame_i2 fu a1 r2 s.1 s.2.1 s.2.2)
noncomputable def DX8_isSame (fu : Nat) (a1 : Int32) (M : mwM) (L : mwL) : Option (Int32 × mwM × mwL) :=
  fX8_isSame_h2 fu a1 fu (0, M, L)
set_option maxHeartbeats 4000000 in
set_option maxRecDepth 100000 in
theorem tX8_isSame (l : Launch) (G : mwG) (ad : Nat → Nat) (fu : Nat) (a1 : Int32) (M : mwM) (L : mwL) {r0 : Int32} {M0 : mwM} {L0 : mwL} (hD : DX8_isSame fu a1 M L = some (r0, M0, L0)) : Met l yX8_isSame (Cond.code yX8_isSame cX8_isSame 3 ((some .boolean)) :: GT) ({ frames := 0, cells := 0, slots := 0, locals := 0 }) (mw_Pre G ad NF TF FF M L [.ref (ad 1), .int a1]) (mw_Qi G ad NF TF FF (mw_eqI r0 M0 L0)) 0 0 (mw_fr G) := by
  refine mw_enter (by decide) (Nat.le_of_ble_eq_true rfl) ?_
  intro p e s m below meth c ls C hr hlocks hnm hw hl
  have hl : lv_has ls 3 [(0, .ref (ad 1)), (1, .int a1)] := hl
  have hh2 : ∀ (f : Nat) (v2 : Int32) (M : mwM) (L : mwL) (H : Heap) (locs : List Loc) (ls : Array Slot), fX8_isSame_h2 fu a1 f (v2, M, L) = some (r0, M0, L0) → mw_W G ad NF TF FF M L H locs → lv_has ls 3 [(0, .ref (ad 1)), (1, .int a1), (2, .int v2)] → W p l e ({ frames := 0, cells := 0, slots := 0, locals := 0 }) s m [.ref (ad 1), .int a1].toArray below meth c H locs 0 0 (MQ below (mw_Qi G ad NF TF FF (mw_eqI r0 M0 L0)) [.ref (ad 1), .int a1].toArray s 0 0 (mw_fr G)) (F0 m 2 ls []) := by
    intro f
    induction f with
    | zero => intro v2 M L H locs ls hD; cases hD
    | succ f2 ih2 =>
      intro v2 M L H locs ls hD hw hl
      replace hD : fX8_isSame_i2 fu a1 (fX8_isSame_h2 fu a1 f2) v2 M L = some (r0, M0, L0) := hD
      unfold fX8_isSame_i2 at hD
      refine lv_iload_n C.1.1 C.1.2.1 dX8_isSame_2 rfl (lv_at hl 2 rfl) ?_
      refine lv_aload_n C.1.1 C.1.2.1 dX8_isSame_3 rfl (lv_at hl 0 rfl) ?_
      refine mr_getI C hw kc_8 9 (by decide) tf_1 wd_604 dX8_isSame_4 (by decide) rfl ?_
      refine lv_icmp_ge (tgt := 40) C.1.1 C.1.2.1 dX8_isSame_7 (by decide) (fun c1 => ?_) (fun c1 => ?_)
      · replace hD := g_pos c1 hD
        refine lv_iconst (v := 1) C.1.1 C.1.2.1 dX8_isSame_40 (by decide) ?_
        exact mr_iret C hr hlocks hw (by decide +kernel) (Option.some.inj hD) dX8_isSame_41
      · replace hD := g_neg c1 hD
        refine lv_aload_n C.1.1 C.1.2.1 dX8_isSame_10 rfl (lv_at hl 0 rfl) ?_
        refine mr_getR C hw kc_8 0 (by decide) tf_1 ff_1_0 wd_593 dX8_isSame_11 (by decide) rfl ?_
        refine lv_iload_n C.1.1 C.1.2.1 dX8_isSame_14 rfl (lv_at hl 1 rfl) ?_
        refine lv_iload_n C.1.1 C.1.2.1 dX8_isSame_15 rfl (lv_at hl 2 rfl) ?_
        refine lv_iadd C.1.1 C.1.2.1 dX8_isSame_16 ?_
        obtain ⟨q2, hD⟩ := g_ck hD
        refine mr_cald C hw (by decide) tf_2 q2 dX8_isSame_17 ?_
        refine lv_aload_n C.1.1 C.1.2.1 dX8_isSame_18 rfl (lv_at hl 0 rfl) ?_
        refine mr_getR C hw kc_8 0 (by decide) tf_1 ff_1_0 wd_593 dX8_isSame_19 (by decide) rfl ?_
        refine lv_aload_n C.1.1 C.1.2.1 dX8_isSame_22 rfl (lv_at hl 0 rfl) ?_
        refine mr_getI C hw kc_8 8 (by decide) tf_1 wd_603 dX8_isSame_23 (by decide) rfl ?_
        refine lv_iload_n C.1.1 C.1.2.1 dX8_isSame_26 rfl (lv_at hl 2 rfl) ?_
        refine lv_iadd C.1.1 C.1.2.1 dX8_isSame_27 ?_
        obtain ⟨q3, hD⟩ := g_ck hD
        refine mr_cald C hw (by decide) tf_2 q3 dX8_isSame_28 ?_
        refine lv_icmp_eq (tgt := 34) C.1.1 C.1.2.1 dX8_isSame_29 (by decide) (fun c4 => ?_) (fun c4 => ?_)
        · replace hD := g_pos c4 hD
          obtain ⟨x5, ex5, hD⟩ := g_let hD
          refine lv_iinc (v := x5) (lv' := [(2, .int x5), (0, .ref (ad 1)), (1, .int a1)]) C.1.1 C.1.2.1 dX8_isSame_34 hl (k := 2) rfl (by rw [ex5]; rfl) (by decide) rfl (fun ls hl => ?_)
          refine lv_goto (tgt := 2) C.1.1 C.1.2.1 dX8_isSame_37 (by decide) ?_
          exact ih2 x5 M L _ _ ls hD hw (lv_sub hl [1, 2, 0] rfl)
        · replace hD := g_neg c4 hD
          refine lv_iconst (v := 0) C.1.1 C.1.2.1 dX8_isSame_32 (by decide) ?_
          exact mr_iret C hr hlocks hw (by decide +kernel) (Option.some.inj hD) dX8_isSame_33
  unfold DX8_isSame at hD
  refine lv_iconst (v := 0) C.1.1 C.1.2.1 dX8_isSame_0 (by decide) ?_
  refine lv_istore_n (lv' := [(2, .int 0), (0, .ref (ad 1)), (1, .int a1)]) C.1.1 C.1.2.1 dX8_isSame_1 rfl hl (by decide) rfl (fun ls hl => ?_)
  exact hh2 fu 0 M L _ _ ls hD hw (lv_sub hl [1, 2, 0] rfl)

theorem dX8_findName_0 : decode cX8_findName 0 = .ok (.iconst 0, 1) := by decide +kernel
theorem dX8_findName_1 : decode cX8_findName 1 = .ok (.istore_n 2, 1) := by decide +kernel
theorem dX8_findName_2 : decode cX8_findName 2 = .ok (.iload_n 2, 1) := by decide +kernel
theorem dX8_findName_3 : decode cX8_findName 3 = .ok (.aload_n 0, 1) := by decide +kernel
theorem dX8_findName_4 : decode cX8_findName 4 = .ok (.getfield 31, 3) := by decide +kernel
theorem dX8_findName_7 : decode cX8_findName 7 = .ok (.if_icmp .ge 53, 3) := by decide +kernel
theorem dX8_findName_10 : decode cX8_findName 10 = .ok (.aload_n 0, 1) := by decide +kernel
theorem dX8_findName_11 : decode cX8_findName 11 = .ok (.getfield 24, 3) := by decide +kernel
theorem dX8_findName_14 : decode cX8_findName 14 = .ok (.iconst 0, 1) := by decide +kernel
theorem dX8_findName_15 : decode cX8_findName 15 = .ok (.aaload, 1) := by decide +kernel
theorem dX8_findName_16 : decode cX8_findName 16 = .ok (.iload_n 2, 1) := by decide +kernel
theorem dX8_findName_17 : decode cX8_findName 17 = .ok (.iaload, 1) := by decide +kernel
theorem dX8_findName_18 : decode cX8_findName 18 = .ok (.iload_n 1, 1) := by decide +kernel
theorem dX8_findName_19 : decode cX8_findName 19 = .ok (.if_icmp .ne 35, 3) := by decide +kernel
theorem dX8_findName_22 : decode cX8_findName 22 = .ok (.aload_n 0, 1) := by decide +kernel
theorem dX8_findName_23 : decode cX8_findName 23 = .ok (.getfield 24, 3) := by decide +kernel
theorem dX8_findName_26 : decode cX8_findName 26 = .ok (.iconst 2, 1) := by decide +kernel
theorem dX8_findName_27 : decode cX8_findName 27 = .ok (.aaload, 1) := by decide +kernel
theorem dX8_findName_28 : decode cX8_findName 28 = .ok (.iload_n 2, 1) := by decide +kernel
theorem dX8_findName_29 : decode cX8_findName 29 = .ok (.iaload, 1) := by decide +kernel
theorem dX8_findName_30 : decode cX8_findName 30 = .ok (.aload_n 0, 1) := by decide +kernel
theorem dX8_findName_31 : decode cX8_findName 31 = .ok (.getfield 56, 3) := by decide +kernel
theorem dX8_findName_34 : decode cX8_findName 34 = .ok (.if_icmp .ne 20, 3) := by decide +kernel
theorem dX8_findName_37 : decode cX8_findName 37 = .ok (.aload_n 0, 1) := by decide +kernel
theorem dX8_findName_38 : decode cX8_findName 38 = .ok (.aload_n 0, 1) := by decide +kernel
theorem dX8_findName_39 : decode cX8_findName 39 = .ok (.getfield 24, 3) := by decide +kernel
theorem dX8_findName_42 : decode cX8_findName 42 = .ok (.iconst 1, 1) := by decide +kernel
theorem dX8_findName_43 : decode cX8_findName 43 = .ok (.aaload, 1) := by decide +kernel
theorem dX8_findName_44 : decode cX8_findName 44 = .ok (.iload_n 2, 1) := by decide +kernel
theorem dX8_findName_45 : decode cX8_findName 45 = .ok (.iaload, 1) := by decide +kernel
theorem dX8_findName_46 : decode cX8_findName 46 = .ok (.invokevirtual 297, 3) := by decide +kernel
theorem dX8_findName_49 : decode cX8_findName 49 = .ok (.ifCond .eq 5, 3) := by decide +kernel
theorem dX8_findName_52 : decode cX8_findName 52 = .ok (.iload_n 2, 1) := by decide +kernel
theorem dX8_findName_53 : decode cX8_findName 53 = .ok (.ireturn, 1) := by decide +kernel
theorem dX8_findName_54 : decode cX8_findName 54 = .ok (.iinc 2 1, 3) := by decide +kernel
theorem dX8_findName_57 : decode cX8_findName 57 = .ok (.goto (-55), 3) := by decide +kernel
theorem dX8_findName_60 : decode cX8_findName 60 = .ok (.iconst (-1), 1) := by decide +kernel
theorem dX8_findName_61 : decode cX8_findName 61 = .ok (.ireturn, 1) := by decide +kernel
theorem cwX8_findName : mw_cwV yX8_findName cX8_findName 3 ((some .int)) 1 := ⟨⟨wd_2, wd_925, by decide +kernel⟩, wd_924, sl_12⟩
noncomputable def fX8_findName_b54 (fu : Nat) (a1 : Int32) (r2 : (Int32 × mwM × mwL) → Option (Int32 × mwM × mwL)) (v2 : Int32) (M : mwM) (L : mwL) : Option (Int32 × mwM × mwL) :=
  mlet (v2 + 1) (fun x14 => r2 (x14, M, L))
noncomputable def fX8_findName_i2 (fu : Nat) (a1 : Int32) (r2 : (Int32 × mwM × mwL) → Option (Int32 × mwM × mwL)) (v2 : Int32) (M : mwM) (L : mwL) : Option (Int32 × mwM × mwL) :=
  (if (M 1 3) ≤ v2 then some ((-1), M, L) else mck v2 600 ((if (M 726 v2.toNatClampNeg) = a1 then mck v2 600 ((if (M 728 v2.toNatClampNeg) = (M 1 9) then mck v2 600 (mb3 (DX8_isSame fu (M 727 v2.toNatClampNeg) M L) (fun r12 M10 L11 => (if r12 = 0 then fX8_findName_b54 fu a1 r2 v2 M10 L11 else some (v2, M10, L11)))) else fX8_findName_b54 fu a1 r2 v2 M L)) else fX8_findName_b54 fu a1 r2 v2 M L)))
noncomputable def fX8_findName_h2 (fu : Nat) (a1 : Int32) : Nat → (Int32 × mwM × mwL) → Option (Int32 × mwM × mwL) := mloop (fun r2 s => fX8_findName_i2 fu a1 r2 s.1 s.2.1 s.2.2)
noncomputable def DX8_findName (fu : Nat) (a1 : Int32) (M : mwM) (L : mwL) : Option (Int32 × mwM × mwL) :=
  fX8_findName_h2 fu a1 fu (0, M, L)
set_option maxHeartbeats 4000000 in
set_option maxRecDepth 100000 in
theorem tX8_findName (l : Launch) (G : mwG) (ad : Nat → Nat) (fu : Nat) (a1 : Int32) (M : mwM) (L : mwL) {r0 : Int32} {M0 : mwM} {L0 : mwL} (hD : DX8_findName fu a1 M L = some (r0, M0, L0)) : Met l yX8_findName (Cond.code yX8_findName cX8_findName 3 ((some .int)) :: GT) ({ frames := 1, cells := 0, slots := 0, locals := 22 }) (mw_Pre G ad NF TF FF M L [.ref (ad 1), .int a1]) (mw_Qi G ad NF TF FF (mw_eqI r0 M0 L0)) 0 0 (mw_fr G) := by
  refine mw_enter (by decide) (Nat.le_of_ble_eq_true rfl) ?_
  intro p e s m below meth c ls C hr hlocks hnm hw hl
  have hl : lv_has ls 3 [(0, .ref (ad 1)), (1, .int a1)] := hl
  have hh2 : ∀ (f : Nat) (v2 : Int32) (M : mwM) (L : mwL) (H : Heap) (locs : List Loc) (ls : Array Slot), fX8_findName_h2 fu a1 f (v2, M, L) = some (r0, M0, L0) → mw_W G ad NF TF FF M L H locs → lv_has ls 3 [(0, .ref (ad 1)), (1, .int a1), (2, .int v2)] → W p l e ({ frames := 1, cells := 0, slots := 0, locals := 22 }) s m [.ref (ad 1), .int a1].toArray below meth c H locs 0 0 (MQ below (mw_Qi G ad NF TF FF (mw_eqI r0 M0 L0)) [.ref (ad 1), .int a1].toArray s 0 0 (mw_fr G)) (F0 m 2 ls []) := by
    intro f
    induction f with
    | zero => intro v2 M L H locs ls hD; cases hD
    | succ f2 ih2 =>
      intro v2 M L H locs ls hD hw hl
      replace hD : fX8_findName_i2 fu a1 (fX8_findName_h2 fu a1 f2) v2 M L = some (r0, M0, L0) := hD
      have hb54 : ∀ (v2 : Int32) (M : mwM) (L : mwL) (H : Heap) (locs : List Loc) (ls : Array Slot), fX8_findName_b54 fu a1 (fX8_findName_h2 fu a1 f2) v2 M L = some (r0, M0, L0) → mw_W G ad NF TF FF M L H locs → lv_has ls 3 [(0, .ref (ad 1)), (1, .int a1), (2, .int v2)] → W p l e ({ frames := 1, cells := 0, slots := 0, locals := 22 }) s m [.ref (ad 1), .int a1].toArray below meth c H locs 0 0 (MQ below (mw_Qi G ad NF TF FF (mw_eqI r0 M0 L0)) [.ref (ad 1), .int a1].toArray s 0 0 (mw_fr G)) (F0 m 54 ls []) := by
        intro v2 M L H locs ls hD hw hl
        unfold fX8_findName_b54 at hD
        obtain ⟨x14, ex14, hD⟩ := g_let hD
        refine lv_iinc (v := x14) (lv' := [(2, .int x14), (0, .ref (ad 1)), (1, .int a1)]) C.1.1 C.1.2.1 dX8_findName_54 hl (k := 2) rfl (by rw [ex14]; rfl) (by decide) rfl (fun ls hl => ?_)
        refine lv_goto (tgt := 2) C.1.1 C.1.2.1 dX8_findName_57 (by decide) ?_
        exact ih2 x14 M L _ _ ls hD hw (lv_sub hl [1, 2, 0] rfl)
      unfold fX8_findName_i2 at hD
      refine lv_iload_n C.1.1 C.1.2.1 dX8_findName_2 rfl (lv_at hl 2 rfl) ?_
      refine lv_aload_n C.1.1 C.1.2.1 dX8_findName_3 rfl (lv_at hl 0 rfl) ?_
      refine mr_getI C hw kc_8 3 (by decide) tf_1 wd_597 dX8_findName_4 (by decide) rfl ?_
      refine lv_icmp_ge (tgt := 60) C.1.1 C.1.2.1 dX8_findName_7 (by decide) (fun c1 => ?_) (fun c1 => ?_)
      · replace hD := g_pos c1 hD
        refine lv_iconst (v := (-1)) C.1.1 C.1.2.1 dX8_findName_60 (by decide) ?_
        exact mr_iret C hr hlocks hw rfl (Option.some.inj hD) dX8_findName_61
      · replace hD := g_neg c1 hD
        refine lv_aload_n C.1.1 C.1.2.1 dX8_findName_10 rfl (lv_at hl 0 rfl) ?_
        refine mr_getR C hw kc_8 2 (by decide) tf_1 ff_1_2 wd_596 dX8_findName_11 (by decide) rfl ?_
        refine lv_iconst (v := 0) C.1.1 C.1.2.1 dX8_findName_14 (by decide) ?_
        refine mr_aald C hw (by decide) tf_725 (by decide) (by decide) rfl rfl (show vp_in 0 5 from by unfold vp_in; decide) ff_725_0 dX8_findName_15 ?_
        refine lv_iload_n C.1.1 C.1.2.1 dX8_findName_16 rfl (lv_at hl 2 rfl) ?_
        obtain ⟨q3, hD⟩ := g_ck hD
        refine mr_iald C hw (by decide) tf_726 q3 dX8_findName_17 ?_
        refine lv_iload_n C.1.1 C.1.2.1 dX8_findName_18 rfl (lv_at hl 1 rfl) ?_
        refine lv_icmp_ne (tgt := 54) C.1.1 C.1.2.1 dX8_findName_19 (by decide) (fun c4 => ?_) (fun c4 => ?_)
        · replace hD := g_neg c4 hD
          exact hb54 v2 M L _ _ ls hD hw (lv_sub hl [0, 1, 2] rfl)
        · replace hD := g_pos c4 hD
          refine lv_aload_n C.1.1 C.1.2.1 dX8_findName_22 rfl (lv_at hl 0 rfl) ?_
          refine mr_getR C hw kc_8 2 (by decide) tf_1 ff_1_2 wd_596 dX8_findName_23 (by decide) rfl ?_
          refine lv_iconst (v := 2) C.1.1 C.1.2.1 dX8_findName_26 (by decide) ?_
          refine mr_aald C hw (by decide) tf_725 (by decide) (by decide) rfl rfl (show vp_in 2 5 from by unfold vp_in; decide) ff_725_2 dX8_findName_27 ?_
          refine lv_iload_n C.1.1 C.1.2.1 dX8_findName_28 rfl (lv_at hl 2 rfl) ?_
          obtain ⟨q6, hD⟩ := g_ck hD
          refine mr_iald C hw (by decide) tf_728 q6 dX8_findName_29 ?_
          refine lv_aload_n C.1.1 C.1.2.1 dX8_findName_30 rfl (lv_at hl 0 rfl) ?_
          refine mr_getI C hw kc_8 9 (by decide) tf_1 wd_604 dX8_findName_31 (by decide) rfl ?_
          refine lv_icmp_ne (tgt := 54) C.1.1 C.1.2.1 dX8_findName_34 (by decide) (fun c7 => ?_) (fun c7 => ?_)
          · replace hD := g_neg c7 hD
            exact hb54 v2 M L _ _ ls hD hw (lv_sub hl [0, 1, 2] rfl)
          · replace hD := g_pos c7 hD
            refine lv_aload_n C.1.1 C.1.2.1 dX8_findName_37 rfl (lv_at hl 0 rfl) ?_
            refine lv_aload_n C.1.1 C.1.2.1 dX8_findName_38 rfl (lv_at hl 0 rfl) ?_
            refine mr_getR C hw kc_8 2 (by decide) tf_1 ff_1_2 wd_596 dX8_findName_39 (by decide) rfl ?_
            refine lv_iconst (v := 1) C.1.1 C.1.2.1 dX8_findName_42 (by decide) ?_
            refine mr_aald C hw (by decide) tf_725 (by decide) (by decide) rfl rfl (show vp_in 1 5 from by unfold vp_in; decide) ff_725_1 dX8_findName_43 ?_
            refine lv_iload_n C.1.1 C.1.2.1 dX8_findName_44 rfl (lv_at hl 2 rfl) ?_
            obtain ⟨q9, hD⟩ := g_ck hD
            refine mr_iald C hw (by decide) tf_727 q9 dX8_findName_45 ?_
            obtain ⟨r12, M10, L11, h1, hD⟩ := g_b3 hD
            refine md_cvI (As := [.int (M 727 v2.toNatClampNeg)]) (rest := []) C hw (tX8_isSame l G ad fu (M 727 v2.toNatClampNeg) M L h1) kc_8 (by decide) tf_1 wd_926 cwX8_isSame ⟨Nat.le_of_ble_eq_true rfl, Nat.le_of_ble_eq_true rfl⟩ rfl hl.1 (Nat.le_of_ble_eq_true rfl) dX8_findName_46 rfl rfl ⟨Nat.zero_le _, Nat.zero_le _⟩ rfl (fun H locs hw => ?_)
            refine lv_if_eq (tgt := 54) C.1.1 C.1.2.1 dX8_findName_49 (by decide) (fun c13 => ?_) (fun c13 => ?_)
            · replace hD := g_pos c13 hD
              exact hb54 v2 M10 L11 _ _ ls hD hw (lv_sub hl [0, 1, 2] rfl)
            · replace hD := g_neg c13 hD
              refine lv_iload_n C.1.1 C.1.2.1 dX8_findName_52 rfl (lv_at hl 2 rfl) ?_
              exact mr_iret C hr hlocks hw rfl (Option.some.inj hD) dX8_findName_53
  unfold DX8_findName at hD
  refine lv_iconst (v := 0) C.1.1 C.1.2.1 dX8_findName_0 (by decide) ?_
  refine lv_istore_n (lv' := [(2, .int 0), (0, .ref (ad 1)), (1, .int a1)]) C.1.1 C.1.2.1 dX8_findName_1 rfl hl (by decide) rfl (fun ls hl => ?_)
  exact hh2 fu 0 M L _ _ ls hD hw (lv_sub hl [1, 2, 0] rfl)

theorem dX8_toldName_0 : decode cX8_toldName 0 = .ok (.aload_n 0, 1) := by decide +kernel
theorem dX8_toldName_1 : decode cX8_toldName 1 = .ok (.invokevirtual 282, 3) := by decide +kernel
theorem dX8_toldName_4 : decode cX8_toldName 4 = .ok (.ifCond .ne 5, 3) := by decide +kernel
theorem dX8_toldName_7 : decode cX8_toldName 7 = .ok (.iconst 0, 1) := by decide +kernel
theorem dX8_toldName_8 : decode cX8_toldName 8 = .ok (.ireturn, 1) := by decide +kernel
theorem dX8_toldName_9 : decode cX8_toldName 9 = .ok (.aload_n 0, 1) := by decide +kernel
theorem dX8_toldName_10 : decode cX8_toldName 10 = .ok (.iload_n 1, 1) := by decide +kernel
theorem dX8_toldName_11 : decode cX8_toldName 11 = .ok (.invokevirtual 279, 3) := by decide +kernel
theorem dX8_toldName_14 : decode cX8_toldName 14 = .ok (.istore_n 3, 1) := by decide +kernel
theorem dX8_toldName_15 : decode cX8_toldName 15 = .ok (.iload_n 3, 1) := by decide +kernel
theorem dX8_toldName_16 : decode cX8_toldName 16 = .ok (.ifCond .lt 15, 3) := by decide +kernel
theorem dX8_toldName_19 : decode cX8_toldName 19 = .ok (.aload_n 0, 1) := by decide +kernel
theorem dX8_toldName_20 : decode cX8_toldName 20 = .ok (.getfield 24, 3) := by decide +kernel
theorem dX8_toldName_23 : decode cX8_toldName 23 = .ok (.iconst 3, 1) := by decide +kernel
theorem dX8_toldName_24 : decode cX8_toldName 24 = .ok (.aaload, 1) := by decide +kernel
theorem dX8_toldName_25 : decode cX8_toldName 25 = .ok (.iload_n 3, 1) := by decide +kernel
theorem dX8_toldName_26 : decode cX8_toldName 26 = .ok (.iaload, 1) := by decide +kernel
theorem dX8_toldName_27 : decode cX8_toldName 27 = .ok (.iload_n 2, 1) := by decide +kernel
theorem dX8_toldName_28 : decode cX8_toldName 28 = .ok (.if_icmp .eq 14, 3) := by decide +kernel
theorem dX8_toldName_31 : decode cX8_toldName 31 = .ok (.aload_n 0, 1) := by decide +kernel
theorem dX8_toldName_32 : decode cX8_toldName 32 = .ok (.iconst 4, 1) := by decide +kernel
theorem dX8_toldName_33 : decode cX8_toldName 33 = .ok (.aload_n 0, 1) := by decide +kernel
theorem dX8_toldName_34 : decode cX8_toldName 34 = .ok (.getfield 50, 3) := by decide +kernel
theorem dX8_toldName_37 : decode cX8_toldName 37 = .ok (.invokevirtual 71, 3) := by decide +kernel
theorem dX8_toldName_40 : decode cX8_toldName 40 = .ok (.iconst 0, 1) := by decide +kernel
theorem dX8_toldName_41 : decode cX8_toldName 41 = .ok (.ireturn, 1) := by decide +kernel
theorem dX8_toldName_42 : decode cX8_toldName 42 = .ok (.aload_n 0, 1) := by decide +kernel
theorem dX8_toldName_43 : decode cX8_toldName 43 = .ok (.getfield 24, 3) := by decide +kernel
theorem dX8_toldName_46 : decode cX8_toldName 46 = .ok (.iconst 4, 1) := by decide +kernel
theorem dX8_toldName_47 : decode cX8_toldName 47 = .ok (.aaload, 1) := by decide +kernel
theorem dX8_toldName_48 : decode cX8_toldName 48 = .ok (.iload_n 3, 1) := by decide +kernel
theorem dX8_toldName_49 : decode cX8_toldName 49 = .ok (.iaload, 1) := by decide +kernel
theorem dX8_toldName_50 : decode cX8_toldName 50 = .ok (.ireturn, 1) := by decide +kernel
theorem cwX8_toldName : mw_cwV yX8_toldName cX8_toldName 4 ((some .int)) 2 := ⟨⟨wd_2, wd_945, by decide +kernel⟩, wd_944, sl_17⟩
noncomputable def fX8_toldName_b31 (fu : Nat) (a1 : Int32) (a2 : Int32) (M : mwM) (L : mwL) : Option (Int32 × mwM × mwL) :=
  mb2 (DX8_fail fu 4 (M 1 8) M L) (fun M1 L2 => some (0, M1, L2))
noncomputable def DX8_toldName (fu : Nat) (a1 : Int32) (a2 : Int32) (M : mwM) (L : mwL) : Option (Int32 × mwM × mwL) :=
  mb3 (DX8_fetchWord fu M L) (fun r5 M3 L4 => (if r5 = 0 then some (0, M3, L4) else mb3 (DX8_findName fu a1 M3 L4) (fun r9 M7 L8 => (if r9 < 0 then fX8_toldName_b31 fu a1 a2 M7 L8 else mck r9 600 ((if (M7 729 r9.toNatClampNeg) = a2 then mck r9 600 (some (M7 730 r9.toNatClampNeg, M7, L8)) else fX8_toldName_b31 fu a1 a2 M7 L8))))))
set_option maxHeartbeats 4000000 in
set_option maxRecDepth 100000 in
theorem tX8_toldName (l : Launch) (G : mwG) (ad : Nat → Nat) (fu : Nat) (a1 : Int32) (a2 : Int32) (M : mwM) (L : mwL) {r0 : Int32} {M0 : mwM} {L0 : mwL} (hD : DX8_toldName fu a1 a2 M L = some (r0, M0, L0)) : Met l yX8_toldName (Cond.code yX8_toldName cX8_toldName 4 ((some .int)) :: GT) ({ frames := 2, cells := 0, slots := 0, locals := 44 }) (mw_Pre G ad NF TF FF M L [.ref (ad 1), .int a1, .int a2]) (mw_Qi G ad NF TF FF (mw_eqI r0 M0 L0)) 0 0 (mw_fr G) := by
  refine mw_enter (by decide) (Nat.le_of_ble_eq_true rfl) ?_
  intro p e s m below meth c ls C hr hlocks hnm hw hl
  have hl : lv_has ls 4 [(0, .ref (ad 1)), (1, .int a1), (2, .int a2)] := hl
  have hb31 : ∀ (M : mwM) (L : mwL) (H : Heap) (locs : List Loc) (ls : Array Slot), fX8_toldName_b31 fu a1 a2 M L = some (r0, M0, L0) → mw_W G ad NF TF FF M L H locs → lv_has ls 4 [(0, .ref (ad 1))] → W p l e ({ frames := 2, cells := 0, slots := 0, locals := 44 }) s m [.ref (ad 1), .int a1, .int a2].toArray below meth c H locs 0 0 (MQ below (mw_Qi G ad NF TF FF (mw_eqI r0 M0 L0)) [.ref (ad 1), .int a1, .int a2].toArray s 0 0 (mw_fr G)) (F0 m 31 ls []) := by
    intro M L H locs ls hD hw hl
    unfold fX8_toldName_b31 at hD
    refine lv_aload_n C.1.1 C.1.2.1 dX8_toldName_31 rfl (lv_at hl 0 rfl) ?_
    refine lv_iconst (v := 4) C.1.1 C.1.2.1 dX8_toldName_32 (by decide) ?_
    refine lv_aload_n C.1.1 C.1.2.1 dX8_toldName_33 rfl (lv_at hl 0 rfl) ?_
    refine mr_getI C hw kc_8 8 (by decide) tf_1 wd_603 dX8_toldName_34 (by decide) rfl ?_
    obtain ⟨M1, L2, h1, hD⟩ := g_b2 hD
    refine md_cvV (As := [.int 4, .int (M 1 8)]) (rest := []) C hw (tX8_fail l G ad fu 4 (M 1 8) M L h1) kc_8 (by decide) tf_1 wd_918 cwX8_fail ⟨Nat.le_of_ble_eq_true rfl, Nat.le_of_ble_eq_true rfl⟩ rfl hl.1 (Nat.le_of_ble_eq_true rfl) dX8_toldName_37 rfl rfl ⟨Nat.zero_le _, Nat.zero_le _⟩ rfl (fun H locs hw => ?_)
    refine lv_iconst (v := 0) C.1.1 C.1.2.1 dX8_toldName_40 (by decide) ?_
    exact mr_iret C hr hlocks hw rfl (Option.some.inj hD) dX8_toldName_41
  unfold DX8_toldName at hD
  refine lv_aload_n C.1.1 C.1.2.1 dX8_toldName_0 rfl (lv_at hl 0 rfl) ?_
  obtain ⟨r5, M3, L4, h1, hD⟩ := g_b3 hD
  refine md_cvI (As := []) (rest := []) C hw (tX8_fetchWord l G ad fu M L h1) kc_8 (by decide) tf_1 wd_946 cwX8_fetchWord ⟨Nat.le_of_ble_eq_true rfl, Nat.le_of_ble_eq_true rfl⟩ rfl hl.1 (Nat.le_of_ble_eq_true rfl) dX8_toldName_1 rfl rfl ⟨Nat.zero_le _, Nat.zero_le _⟩ rfl (fun H locs hw => ?_)
  refine lv_if_ne (tgt := 9) C.1.1 C.1.2.1 dX8_toldName_4 (by decide) (fun c6 => ?_) (fun c6 => ?_)
  · replace hD := g_neg c6 hD
    refine lv_aload_n C.1.1 C.1.2.1 dX8_toldName_9 rfl (lv_at hl 0 rfl) ?_
    refine lv_iload_n C.1.1 C.1.2.1 dX8_toldName_10 rfl (lv_at hl 1 rfl) ?_
    obtain ⟨r9, M7, L8, h1, hD⟩ := g_b3 hD
    refine md_cvI (As := [.int a1]) (rest := []) C hw (tX8_findName l G ad fu a1 M3 L4 h1) kc_8 (by decide) tf_1 wd_922 cwX8_findName ⟨Nat.le_of_ble_eq_true rfl, Nat.le_of_ble_eq_true rfl⟩ rfl hl.1 (Nat.le_of_ble_eq_true rfl) dX8_toldName_11 rfl rfl ⟨Nat.zero_le _, Nat.zero_le _⟩ rfl (fun H locs hw => ?_)
    refine lv_istore_n (lv' := [(3, .int r9), (0, .ref (ad 1)), (1, .int a1), (2, .int a2)]) C.1.1 C.1.2.1 dX8_toldName_14 rfl hl (by decide) rfl (fun ls hl => ?_)
    refine lv_iload_n C.1.1 C.1.2.1 dX8_toldName_15 rfl (lv_at hl 0 rfl) ?_
    refine lv_if_lt (tgt := 31) C.1.1 C.1.2.1 dX8_toldName_16 (by decide) (fun c10 => ?_) (fun c10 => ?_)
    · replace hD := g_pos c10 hD
      exact hb31 M7 L8 _ _ ls hD hw (lv_sub hl [1] rfl)
    · replace hD := g_neg c10 hD
      refine lv_aload_n C.1.1 C.1.2.1 dX8_toldName_19 rfl (lv_at hl 1 rfl) ?_
      refine mr_getR C hw kc_8 2 (by decide) tf_1 ff_1_2 wd_596 dX8_toldName_20 (by decide) rfl ?_
      refine lv_iconst (v := 3) C.1.1 C.1.2.1 dX8_toldName_23 (by decide) ?_
      refine mr_aald C hw (by decide) tf_725 (by decide) (by decide) rfl rfl (show vp_in 3 5 from by unfold vp_in; decide) ff_725_3 dX8_toldName_24 ?_
      refine lv_iload_n C.1.1 C.1.2.1 dX8_toldName_25 rfl (lv_at hl 0 rfl) ?_
      obtain ⟨q12, hD⟩ := g_ck hD
      refine mr_iald C hw (by decide) tf_729 q12 dX8_toldName_26 ?_
      refine lv_iload_n C.1.1 C.1.2.1 dX8_toldName_27 rfl (lv_at hl 3 rfl) ?_
      refine lv_icmp_eq (tgt := 42) C.1.1 C.1.2.1 dX8_toldName_28 (by decide) (fun c13 => ?_) (fun c13 => ?_)
      · replace hD := g_pos c13 hD
        refine lv_aload_n C.1.1 C.1.2.1 dX8_toldName_42 rfl (lv_at hl 1 rfl) ?_
        refine mr_getR C hw kc_8 2 (by decide) tf_1 ff_1_2 wd_596 dX8_toldName_43 (by decide) rfl ?_
        refine lv_iconst (v := 4) C.1.1 C.1.2.1 dX8_toldName_46 (by decide) ?_
        refine mr_aald C hw (by decide) tf_725 (by decide) (by decide) rfl rfl (show vp_in 4 5 from by unfold vp_in; decide) ff_725_4 dX8_toldName_47 ?_
        refine lv_iload_n C.1.1 C.1.2.1 dX8_toldName_48 rfl (lv_at hl 0 rfl) ?_
        obtain ⟨q15, hD⟩ := g_ck hD
        refine mr_iald C hw (by decide) tf_730 q15 dX8_toldName_49 ?_
        exact mr_iret C hr hlocks hw rfl (Option.some.inj hD) dX8_toldName_50
      · replace hD := g_neg c13 hD
        exact hb31 M7 L8 _ _ ls hD hw (lv_sub hl [1] rfl)
  · replace hD := g_pos c6 hD
    refine lv_iconst (v := 0) C.1.1 C.1.2.1 dX8_toldName_7 (by decide) ?_
    exact mr_iret C hr hlocks hw rfl (Option.some.inj hD) dX8_toldName_8

theorem dX8_statesOf_0 : decode cX8_statesOf 0 = .ok (.iconst 1, 1) := by decide +kernel
theorem dX8_statesOf_1 : decode cX8_statesOf 1 = .ok (.iconst 2, 1) := by decide +kernel
theorem dX8_statesOf_2 : decode cX8_statesOf 2 = .ok (.iload_n 0, 1) := by decide +kernel
theorem dX8_statesOf_3 : decode cX8_statesOf 3 = .ok (.imul, 1) := by decide +kernel
theorem dX8_statesOf_4 : decode cX8_statesOf 4 = .ok (.iadd, 1) := by decide +kernel
theorem dX8_statesOf_5 : decode cX8_statesOf 5 = .ok (.ireturn, 1) := by decide +kernel
theorem cwX8_statesOf : mw_cwS yX8_statesOf cX8_statesOf 1 ((some .int)) 1 := ⟨⟨wd_2, wd_992, by decide +kernel⟩, wd_991⟩
noncomputable def DX8_statesOf (fu : Nat) (a1 : Int32) (M : mwM) (L : mwL) : Option (Int32 × mwM × mwL) :=
  some (1 + (2 * a1), M, L)
set_option maxHeartbeats 4000000 in
set_option maxRecDepth 100000 in
theorem tX8_statesOf (l : Launch) (G : mwG) (ad : Nat → Nat) (fu : Nat) (a1 : Int32) (M : mwM) (L : mwL) {r0 : Int32} {M0 : mwM} {L0 : mwL} (hD : DX8_statesOf fu a1 M L = some (r0, M0, L0)) : Met l yX8_statesOf (Cond.code yX8_statesOf cX8_statesOf 1 ((some .int)) :: GT) ({ frames := 0, cells := 0, slots := 0, locals := 0 }) (mw_Pre G ad NF TF FF M L [.int a1]) (mw_Qi G ad NF TF FF (mw_eqI r0 M0 L0)) 0 0 (mw_fr G) := by
  refine mw_enter (by decide) (Nat.le_of_ble_eq_true rfl) ?_
  intro p e s m below meth c ls C hr hlocks hnm hw hl
  have hl : lv_has ls 1 [(0, .int a1)] := hl
  unfold DX8_statesOf at hD
  refine lv_iconst (v := 1) C.1.1 C.1.2.1 dX8_statesOf_0 (by decide) ?_
  refine lv_iconst (v := 2) C.1.1 C.1.2.1 dX8_statesOf_1 (by decide) ?_
  refine lv_iload_n C.1.1 C.1.2.1 dX8_statesOf_2 rfl (lv_at hl 0 rfl) ?_
  refine lv_imul C.1.1 C.1.2.1 dX8_statesOf_3 ?_
  refine lv_iadd C.1.1 C.1.2.1 dX8_statesOf_4 ?_
  exact mr_iret C hr hlocks hw rfl (Option.some.inj hD) dX8_statesOf_5

theorem dX8_isDigit_0 : decode cX8_isDigit 0 = .ok (.iload_n 0, 1) := by decide +kernel
theorem dX8_isDigit_1 : decode cX8_isDigit 1 = .ok (.bipush 48, 2) := by decide +kernel
theorem dX8_isDigit_3 : decode cX8_isDigit 3 = .ok (.if_icmp .lt 13, 3) := by decide +kernel
theorem dX8_isDigit_6 : decode cX8_isDigit 6 = .ok (.iload_n 0, 1) := by decide +kernel
theorem dX8_isDigit_7 : decode cX8_isDigit 7 = .ok (.bipush 57, 2) := by decide +kernel
theorem dX8_isDigit_9 : decode cX8_isDigit 9 = .ok (.if_icmp .gt 7, 3) := by decide +kernel
theorem dX8_isDigit_12 : decode cX8_isDigit 12 = .ok (.iconst 1, 1) := by decide +kernel
theorem dX8_isDigit_13 : decode cX8_isDigit 13 = .ok (.goto 4, 3) := by decide +kernel
theorem dX8_isDigit_16 : decode cX8_isDigit 16 = .ok (.iconst 0, 1) := by decide +kernel
theorem dX8_isDigit_17 : decode cX8_isDigit 17 = .ok (.ireturn, 1) := by decide +kernel
theorem cwX8_isDigit : mw_cwS yX8_isDigit cX8_isDigit 1 ((some .boolean)) 1 := ⟨⟨wd_2, wd_912, by decide +kernel⟩, wd_911⟩
noncomputable def fX8_isDigit_b17 (fu : Nat) (a1 : Int32) (s0 : Int32) (M : mwM) (L : mwL) : Option (Int32 × mwM × mwL) :=
  mzz s0 (some (s0, M, L))
noncomputable def fX8_isDigit_b16 (fu : Nat) (a1 : Int32) (M : mwM) (L : mwL) : Option (Int32 × mwM × mwL) :=
  fX8_isDigit_b17 fu a1 0 M L
noncomputable def DX8_isDigit (fu : Nat) (a1 : Int32) (M : mwM) (L : mwL) : Option (Int32 × mwM × mwL) :=
  (if a1 < 48 then fX8_isDigit_b16 fu a1 M L else (if 57 < a1 then fX8_isDigit_b16 fu a1 M L else fX8_isDigit_b17 fu a1 1 M L))
set_option maxHeartbeats 4000000 in
set_option maxRecDepth 100000 in
theorem tX8_isDigit (l : Launch) (G : mwG) (ad : Nat → Nat) (fu : Nat) (a1 : Int32) (M : mwM) (L : mwL) {r0 : Int32} {M0 : mwM} {L0 : mwL} (hD : DX8_isDigit fu a1 M L = some (r0, M0, L0)) : Met l yX8_isDigit (Cond.code yX8_isDigit cX8_isDigit 1 ((some .boolean)) :: GT) ({ frames := 0, cells := 0, slots := 0, locals := 0 }) (mw_Pre G ad NF TF FF M L [.int a1]) (mw_Qi G ad NF TF FF (mw_eqI r0 M0 L0)) 0 0 (mw_fr G) := by
  refine mw_enter (by decide) (Nat.le_of_ble_eq_true rfl) ?_
  intro p e s m below meth c ls C hr hlocks hnm hw hl
  have hl : lv_has ls 1 [(0, .int a1)] := hl
  have hb17 : ∀ (s0 : Int32) (M : mwM) (L : mwL) (H : Heap) (locs : List Loc) (ls : Array Slot), fX8_isDigit_b17 fu a1 s0 M L = some (r0, M0, L0) → mw_W G ad NF TF FF M L H locs → lv_has ls 1 [] → W p l e ({ frames := 0, cells := 0, slots := 0, locals := 0 }) s m [.int a1].toArray below meth c H locs 0 0 (MQ below (mw_Qi G ad NF TF FF (mw_eqI r0 M0 L0)) [.int a1].toArray s 0 0 (mw_fr G)) (F0 m 17 ls [.int s0]) := by
    intro s0 M L H locs ls hD hw hl
    unfold fX8_isDigit_b17 at hD
    obtain ⟨z1, hD⟩ := g_zz hD
    exact mr_iret C hr hlocks hw (nz_zz z1) (Option.some.inj hD) dX8_isDigit_17
  have hb16 : ∀ (M : mwM) (L : mwL) (H : Heap) (locs : List Loc) (ls : Array Slot), fX8_isDigit_b16 fu a1 M L = some (r0, M0, L0) → mw_W G ad NF TF FF M L H locs → lv_has ls 1 [] → W p l e ({ frames := 0, cells := 0, slots := 0, locals := 0 }) s m [.int a1].toArray below meth c H locs 0 0 (MQ below (mw_Qi G ad NF TF FF (mw_eqI r0 M0 L0)) [.int a1].toArray s 0 0 (mw_fr G)) (F0 m 16 ls []) := by
    intro M L H locs ls hD hw hl
    unfold fX8_isDigit_b16 at hD
    refine lv_iconst (v := 0) C.1.1 C.1.2.1 dX8_isDigit_16 (by decide) ?_
    exact hb17 0 M L _ _ ls hD hw (lv_sub hl [] rfl)
  unfold DX8_isDigit at hD
  refine lv_iload_n C.1.1 C.1.2.1 dX8_isDigit_0 rfl (lv_at hl 0 rfl) ?_
  refine lv_bipush (v := 48) C.1.1 C.1.2.1 dX8_isDigit_1 (by decide) ?_
  refine lv_icmp_lt (tgt := 16) C.1.1 C.1.2.1 dX8_isDigit_3 (by decide) (fun c2 => ?_) (fun c2 => ?_)
  · replace hD := g_pos c2 hD
    exact hb16 M L _ _ ls hD hw (lv_sub hl [] rfl)
  · replace hD := g_neg c2 hD
    refine lv_iload_n C.1.1 C.1.2.1 dX8_isDigit_6 rfl (lv_at hl 0 rfl) ?_
    refine lv_bipush (v := 57) C.1.1 C.1.2.1 dX8_isDigit_7 (by decide) ?_
    refine lv_icmp_gt (tgt := 16) C.1.1 C.1.2.1 dX8_isDigit_9 (by decide) (fun c3 => ?_) (fun c3 => ?_)
    · replace hD := g_pos c3 hD
      exact hb16 M L _ _ ls hD hw (lv_sub hl [] rfl)
    · replace hD := g_neg c3 hD
      refine lv_iconst (v := 1) C.1.1 C.1.2.1 dX8_isDigit_12 (by decide) ?_
      refine lv_goto (tgt := 17) C.1.1 C.1.2.1 dX8_isDigit_13 (by decide) ?_
      exact hb17 1 M L _ _ ls hD hw (lv_sub hl [] rfl)

theorem dX8_isNumber_0 : decode cX8_isNumber 0 = .ok (.aload_n 0, 1) := by decide +kernel
theorem dX8_isNumber_1 : decode cX8_isNumber 1 = .ok (.getfield 56, 3) := by decide +kernel
theorem dX8_isNumber_4 : decode cX8_isNumber 4 = .ok (.ifCond .le 21, 3) := by decide +kernel
theorem dX8_isNumber_7 : decode cX8_isNumber 7 = .ok (.aload_n 0, 1) := by decide +kernel
theorem dX8_isNumber_8 : decode cX8_isNumber 8 = .ok (.getfield 9, 3) := by decide +kernel
theorem dX8_isNumber_11 : decode cX8_isNumber 11 = .ok (.aload_n 0, 1) := by decide +kernel
theorem dX8_isNumber_12 : decode cX8_isNumber 12 = .ok (.getfield 50, 3) := by decide +kernel
theorem dX8_isNumber_15 : decode cX8_isNumber 15 = .ok (.caload, 1) := by decide +kernel
theorem dX8_isNumber_16 : decode cX8_isNumber 16 = .ok (.bipush 45, 2) := by decide +kernel
theorem dX8_isNumber_18 : decode cX8_isNumber 18 = .ok (.if_icmp .ne 7, 3) := by decide +kernel
theorem dX8_isNumber_21 : decode cX8_isNumber 21 = .ok (.iconst 1, 1) := by decide +kernel
theorem dX8_isNumber_22 : decode cX8_isNumber 22 = .ok (.goto 4, 3) := by decide +kernel
theorem dX8_isNumber_25 : decode cX8_isNumber 25 = .ok (.iconst 0, 1) := by decide +kernel
theorem dX8_isNumber_26 : decode cX8_isNumber 26 = .ok (.istore_n 1, 1) := by decide +kernel
theorem dX8_isNumber_27 : decode cX8_isNumber 27 = .ok (.aload_n 0, 1) := by decide +kernel
theorem dX8_isNumber_28 : decode cX8_isNumber 28 = .ok (.getfield 56, 3) := by decide +kernel
theorem dX8_isNumber_31 : decode cX8_isNumber 31 = .ok (.iload_n 1, 1) := by decide +kernel
theorem dX8_isNumber_32 : decode cX8_isNumber 32 = .ok (.isub, 1) := by decide +kernel
theorem dX8_isNumber_33 : decode cX8_isNumber 33 = .ok (.iconst 1, 1) := by decide +kernel
theorem dX8_isNumber_34 : decode cX8_isNumber 34 = .ok (.if_icmp .lt 14, 3) := by decide +kernel
theorem dX8_isNumber_37 : decode cX8_isNumber 37 = .ok (.aload_n 0, 1) := by decide +kernel
theorem dX8_isNumber_38 : decode cX8_isNumber 38 = .ok (.getfield 56, 3) := by decide +kernel
theorem dX8_isNumber_41 : decode cX8_isNumber 41 = .ok (.iload_n 1, 1) := by decide +kernel
theorem dX8_isNumber_42 : decode cX8_isNumber 42 = .ok (.isub, 1) := by decide +kernel
theorem dX8_isNumber_43 : decode cX8_isNumber 43 = .ok (.bipush 9, 2) := by decide +kernel
theorem dX8_isNumber_45 : decode cX8_isNumber 45 = .ok (.if_icmp .le 5, 3) := by decide +kernel
theorem dX8_isNumber_48 : decode cX8_isNumber 48 = .ok (.iconst 0, 1) := by decide +kernel
theorem dX8_isNumber_49 : decode cX8_isNumber 49 = .ok (.ireturn, 1) := by decide +kernel
theorem dX8_isNumber_50 : decode cX8_isNumber 50 = .ok (.iload_n 1, 1) := by decide +kernel
theorem dX8_isNumber_51 : decode cX8_isNumber 51 = .ok (.istore_n 2, 1) := by decide +kernel
theorem dX8_isNumber_52 : decode cX8_isNumber 52 = .ok (.iload_n 2, 1) := by decide +kernel
theorem dX8_isNumber_53 : decode cX8_isNumber 53 = .ok (.aload_n 0, 1) := by decide +kernel
theorem dX8_isNumber_54 : decode cX8_isNumber 54 = .ok (.getfield 56, 3) := by decide +kernel
theorem dX8_isNumber_57 : decode cX8_isNumber 57 = .ok (.if_icmp .ge 28, 3) := by decide +kernel
theorem dX8_isNumber_60 : decode cX8_isNumber 60 = .ok (.aload_n 0, 1) := by decide +kernel
theorem dX8_isNumber_61 : decode cX8_isNumber 61 = .ok (.getfield 9, 3) := by decide +kernel
theorem dX8_isNumber_64 : decode cX8_isNumber 64 = .ok (.aload_n 0, 1) := by decide +kernel
theorem dX8_isNumber_65 : decode cX8_isNumber 65 = .ok (.getfield 50, 3) := by decide +kernel
theorem dX8_isNumber_68 : decode cX8_isNumber 68 = .ok (.iload_n 2, 1) := by decide +kernel
theorem dX8_isNumber_69 : decode cX8_isNumber 69 = .ok (.iadd, 1) := by decide +kernel
theorem dX8_isNumber_70 : decode cX8_isNumber 70 = .ok (.caload, 1) := by decide +kernel
theorem dX8_isNumber_71 : decode cX8_isNumber 71 = .ok (.invokestatic 317, 3) := by decide +kernel
theorem dX8_isNumber_74 : decode cX8_isNumber 74 = .ok (.ifCond .ne 5, 3) := by decide +kernel
theorem dX8_isNumber_77 : decode cX8_isNumber 77 = .ok (.iconst 0, 1) := by decide +kernel
theorem dX8_isNumber_78 : decode cX8_isNumber 78 = .ok (.ireturn, 1) := by decide +kernel
theorem dX8_isNumber_79 : decode cX8_isNumber 79 = .ok (.iinc 2 1, 3) := by decide +kernel
theorem dX8_isNumber_82 : decode cX8_isNumber 82 = .ok (.goto (-30), 3) := by decide +kernel
theorem dX8_isNumber_85 : decode cX8_isNumber 85 = .ok (.iconst 1, 1) := by decide +kernel
theorem dX8_isNumber_86 : decode cX8_isNumber 86 = .ok (.ireturn, 1) := by decide +kernel
theorem cwX8_isNumber : mw_cwV yX8_isNumber cX8_isNumber 3 ((some .boolean)) 0 := ⟨⟨wd_2, wd_961, by decide +kernel⟩, wd_960, sl_21⟩
noncomputable def fX8_isNumber_b48 (fu : Nat) (M : mwM) (L : mwL) : Option (Int32 × mwM × mwL) :=
  some (0, M, L)
noncomputable def fX8_isNumber_i52 (fu : Nat) (r52 : (Int32 × mwM × mwL) → Option (Int32 × mwM × mwL)) (v2 : Int32) (M : mwM) (L : mwL) : Option (Int32 × mwM × mwL) :=
  (if (M 1 9) ≤ v2 then some (1, M, L) else mck ((M 1 8) + v2) 6000 (mb3 (DX8_isDigit fu (M 2 ((M 1 8) + v2).toNatClampNeg) M L) (fun r7 M5 L6 => (if r7 = 0 then some (0, M5, L6) else mlet (v2 + 1) (fun x9 => r52 (x9, M5, L6))))))
noncomputable def fX8_isNumber_h52 (fu : Nat) : Nat → (Int32 × mwM × mwL) → Option (Int32 × mwM × mwL) := mloop (fun r52 s => fX8_isNumber_i52 fu r52 s.1 s.2.1 s.2.2)
noncomputable def fX8_isNumber_b26 (fu : Nat) (s0 : Int32) (M : mwM) (L : mwL) : Option (Int32 × mwM × mwL) :=
  (if ((M 1 9) - s0) < 1 then fX8_isNumber_b48 fu M L else (if ((M 1 9) - s0) ≤ 9 then fX8_isNumber_h52 fu fu (s0, M, L) else fX8_isNumber_b48 fu M L))
noncomputable def fX8_isNumber_b25 (fu : Nat) (M : mwM) (L : mwL) : Option (Int32 × mwM × mwL) :=
  fX8_isNumber_b26 fu 0 M L
noncomputable def DX8_isNumber (fu : Nat) (M : mwM) (L : mwL) : Option (Int32 × mwM × mwL) :=
  (if (M 1 9) ≤ 0 then fX8_isNumber_b25 fu M L else mck (M 1 8) 6000 ((if (M 2 (M 1 8).toNatClampNeg) = 45 then fX8_isNumber_b26 fu 1 M L else fX8_isNumber_b25 fu M L)))
set_option maxHeartbeats 4000000 in
set_option maxRecDepth 100000 in
theorem tX8_isNumber (l : Launch) (G : mwG) (ad : Nat → Nat) (fu : Nat) (M : mwM) (L : mwL) {r0 : Int32} {M0 : mwM} {L0 : mwL} (hD : DX8_isNumber fu M L = some (r0, M0, L0)) : Met l yX8_isNumber (Cond.code yX8_isNumber cX8_isNumber 3 ((some .boolean)) :: GT) ({ frames := 1, cells := 0, slots := 0, locals := 20 }) (mw_Pre G ad NF TF FF M L [.ref (ad 1)]) (mw_Qi G ad NF TF FF (mw_eqI r0 M0 L0)) 0 0 (mw_fr G) := by
  refine mw_enter (by decide) (Nat.le_of_ble_eq_true rfl) ?_
  intro p e s m below meth c ls C hr hlocks hnm hw hl
  have hl : lv_has ls 3 [(0, .ref (ad 1))] := hl
  have hb48 : ∀ (M : mwM) (L : mwL) (H : Heap) (locs : List Loc) (ls : Array Slot), fX8_isNumber_b48 fu M L = some (r0, M0, L0) → mw_W G ad NF TF FF M L H locs → lv_has ls 3 [] → W p l e ({ frames := 1, cells := 0, slots := 0, locals := 20 }) s m [.ref (ad 1)].toArray below meth c H locs 0 0 (MQ below (mw_Qi G ad NF TF FF (mw_eqI r0 M0 L0)) [.ref (ad 1)].toArray s 0 0 (mw_fr G)) (F0 m 48 ls []) := by
    intro M L H locs ls hD hw hl
    unfold fX8_isNumber_b48 at hD
    refine lv_iconst (v := 0) C.1.1 C.1.2.1 dX8_isNumber_48 (by decide) ?_
    exact mr_iret C hr hlocks hw (by decide +kernel) (Option.some.inj hD) dX8_isNumber_49
  have hh52 : ∀ (f : Nat) (v2 : Int32) (M : mwM) (L : mwL) (H : Heap) (locs : List Loc) (ls : Array Slot), fX8_isNumber_h52 fu f (v2, M, L) = some (r0, M0, L0) → mw_W G ad NF TF FF M L H locs → lv_has ls 3 [(0, .ref (ad 1)), (2, .int v2)] → W p l e ({ frames := 1, cells := 0, slots := 0, locals := 20 }) s m [.ref (ad 1)].toArray below meth c H locs 0 0 (MQ below (mw_Qi G ad NF TF FF (mw_eqI r0 M0 L0)) [.ref (ad 1)].toArray s 0 0 (mw_fr G)) (F0 m 52 ls []) := by
    intro f
    induction f with
    | zero => intro v2 M L H locs ls hD; cases hD
    | succ f52 ih52 =>
      intro v2 M L H locs ls hD hw hl
      replace hD : fX8_isNumber_i52 fu (fX8_isNumber_h52 fu f52) v2 M L = some (r0, M0, L0) := hD
      unfold fX8_isNumber_i52 at hD
      refine lv_iload_n C.1.1 C.1.2.1 dX8_isNumber_52 rfl (lv_at hl 1 rfl) ?_
      refine lv_aload_n C.1.1 C.1.2.1 dX8_isNumber_53 rfl (lv_at hl 0 rfl) ?_
      refine mr_getI C hw kc_8 9 (by decide) tf_1 wd_604 dX8_isNumber_54 (by decide) rfl ?_
      refine lv_icmp_ge (tgt := 85) C.1.1 C.1.2.1 dX8_isNumber_57 (by decide) (fun c3 => ?_) (fun c3 => ?_)
      · replace hD := g_pos c3 hD
        refine lv_iconst (v := 1) C.1.1 C.1.2.1 dX8_isNumber_85 (by decide) ?_
        exact mr_iret C hr hlocks hw (by decide +kernel) (Option.some.inj hD) dX8_isNumber_86
      · replace hD := g_neg c3 hD
        refine lv_aload_n C.1.1 C.1.2.1 dX8_isNumber_60 rfl (lv_at hl 0 rfl) ?_
        refine mr_getR C hw kc_8 0 (by decide) tf_1 ff_1_0 wd_593 dX8_isNumber_61 (by decide) rfl ?_
        refine lv_aload_n C.1.1 C.1.2.1 dX8_isNumber_64 rfl (lv_at hl 0 rfl) ?_
        refine mr_getI C hw kc_8 8 (by decide) tf_1 wd_603 dX8_isNumber_65 (by decide) rfl ?_
        refine lv_iload_n C.1.1 C.1.2.1 dX8_isNumber_68 rfl (lv_at hl 1 rfl) ?_
        refine lv_iadd C.1.1 C.1.2.1 dX8_isNumber_69 ?_
        obtain ⟨q4, hD⟩ := g_ck hD
        refine mr_cald C hw (by decide) tf_2 q4 dX8_isNumber_70 ?_
        obtain ⟨r7, M5, L6, h1, hD⟩ := g_b3 hD
        refine md_csI (As := [.int (M 2 ((M 1 8) + v2).toNatClampNeg)]) (rest := []) C hw (tX8_isDigit l G ad fu (M 2 ((M 1 8) + v2).toNatClampNeg) M L h1) wd_910 cwX8_isDigit ⟨Nat.le_of_ble_eq_true rfl, Nat.le_of_ble_eq_true rfl⟩ rfl hl.1 (Nat.le_of_ble_eq_true rfl) dX8_isNumber_71 rfl rfl ⟨Nat.zero_le _, Nat.zero_le _⟩ rfl (fun H locs hw => ?_)
        refine lv_if_ne (tgt := 79) C.1.1 C.1.2.1 dX8_isNumber_74 (by decide) (fun c8 => ?_) (fun c8 => ?_)
        · replace hD := g_neg c8 hD
          obtain ⟨x9, ex9, hD⟩ := g_let hD
          refine lv_iinc (v := x9) (lv' := [(2, .int x9), (0, .ref (ad 1))]) C.1.1 C.1.2.1 dX8_isNumber_79 hl (k := 1) rfl (by rw [ex9]; rfl) (by decide) rfl (fun ls hl => ?_)
          refine lv_goto (tgt := 52) C.1.1 C.1.2.1 dX8_isNumber_82 (by decide) ?_
          exact ih52 x9 M5 L6 _ _ ls hD hw (lv_sub hl [1, 0] rfl)
        · replace hD := g_pos c8 hD
          refine lv_iconst (v := 0) C.1.1 C.1.2.1 dX8_isNumber_77 (by decide) ?_
          exact mr_iret C hr hlocks hw (by decide +kernel) (Option.some.inj hD) dX8_isNumber_78
  have hb26 : ∀ (s0 : Int32) (M : mwM) (L : mwL) (H : Heap) (locs : List Loc) (ls : Array Slot), fX8_isNumber_b26 fu s0 M L = some (r0, M0, L0) → mw_W G ad NF TF FF M L H locs → lv_has ls 3 [(0, .ref (ad 1))] → W p l e ({ frames := 1, cells := 0, slots := 0, locals := 20 }) s m [.ref (ad 1)].toArray below meth c H locs 0 0 (MQ below (mw_Qi G ad NF TF FF (mw_eqI r0 M0 L0)) [.ref (ad 1)].toArray s 0 0 (mw_fr G)) (F0 m 26 ls [.int s0]) := by
    intro s0 M L H locs ls hD hw hl
    unfold fX8_isNumber_b26 at hD
    refine lv_istore_n (lv' := [(1, .int s0), (0, .ref (ad 1))]) C.1.1 C.1.2.1 dX8_isNumber_26 rfl hl (by decide) rfl (fun ls hl => ?_)
    refine lv_aload_n C.1.1 C.1.2.1 dX8_isNumber_27 rfl (lv_at hl 1 rfl) ?_
    refine mr_getI C hw kc_8 9 (by decide) tf_1 wd_604 dX8_isNumber_28 (by decide) rfl ?_
    refine lv_iload_n C.1.1 C.1.2.1 dX8_isNumber_31 rfl (lv_at hl 0 rfl) ?_
    refine lv_isub C.1.1 C.1.2.1 dX8_isNumber_32 ?_
    refine lv_iconst (v := 1) C.1.1 C.1.2.1 dX8_isNumber_33 (by decide) ?_
    refine lv_icmp_lt (tgt := 48) C.1.1 C.1.2.1 dX8_isNumber_34 (by decide) (fun c1 => ?_) (fun c1 => ?_)
    · replace hD := g_pos c1 hD
      exact hb48 M L _ _ ls hD hw (lv_sub hl [] rfl)
    · replace hD := g_neg c1 hD
      refine lv_aload_n C.1.1 C.1.2.1 dX8_isNumber_37 rfl (lv_at hl 1 rfl) ?_
      refine mr_getI C hw kc_8 9 (by decide) tf_1 wd_604 dX8_isNumber_38 (by decide) rfl ?_
      refine lv_iload_n C.1.1 C.1.2.1 dX8_isNumber_41 rfl (lv_at hl 0 rfl) ?_
      refine lv_isub C.1.1 C.1.2.1 dX8_isNumber_42 ?_
      refine lv_bipush (v := 9) C.1.1 C.1.2.1 dX8_isNumber_43 (by decide) ?_
      refine lv_icmp_le (tgt := 50) C.1.1 C.1.2.1 dX8_isNumber_45 (by decide) (fun c2 => ?_) (fun c2 => ?_)
      · replace hD := g_pos c2 hD
        refine lv_iload_n C.1.1 C.1.2.1 dX8_isNumber_50 rfl (lv_at hl 0 rfl) ?_
        refine lv_istore_n (lv' := [(2, .int s0), (1, .int s0), (0, .ref (ad 1))]) C.1.1 C.1.2.1 dX8_isNumber_51 rfl hl (by decide) rfl (fun ls hl => ?_)
        exact hh52 fu s0 M L _ _ ls hD hw (lv_sub hl [2, 0] rfl)
      · replace hD := g_neg c2 hD
        exact hb48 M L _ _ ls hD hw (lv_sub hl [] rfl)
  have hb25 : ∀ (M : mwM) (L : mwL) (H : Heap) (locs : List Loc) (ls : Array Slot), fX8_isNumber_b25 fu M L = some (r0, M0, L0) → mw_W G ad NF TF FF M L H locs → lv_has ls 3 [(0, .ref (ad 1))] → W p l e ({ frames := 1, cells := 0, slots := 0, locals := 20 }) s m [.ref (ad 1)].toArray below meth c H locs 0 0 (MQ below (mw_Qi G ad NF TF FF (mw_eqI r0 M0 L0)) [.ref (ad 1)].toArray s 0 0 (mw_fr G)) (F0 m 25 ls []) := by
    intro M L H locs ls hD hw hl
    unfold fX8_isNumber_b25 at hD
    refine lv_iconst (v := 0) C.1.1 C.1.2.1 dX8_isNumber_25 (by decide) ?_
    exact hb26 0 M L _ _ ls hD hw (lv_sub hl [0] rfl)
  unfold DX8_isNumber at hD
  refine lv_aload_n C.1.1 C.1.2.1 dX8_isNumber_0 rfl (lv_at hl 0 rfl) ?_
  refine mr_getI C hw kc_8 9 (by decide) tf_1 wd_604 dX8_isNumber_1 (by decide) rfl ?_
  refine lv_if_le (tgt := 25) C.1.1 C.1.2.1 dX8_isNumber_4 (by decide) (fun c10 => ?_) (fun c10 => ?_)
  · replace hD := g_pos c10 hD
    exact hb25 M L _ _ ls hD hw (lv_sub hl [0] rfl)
  · replace hD := g_neg c10 hD
    refine lv_aload_n C.1.1 C.1.2.1 dX8_isNumber_7 rfl (lv_at hl 0 rfl) ?_
    refine mr_getR C hw kc_8 0 (by decide) tf_1 ff_1_0 wd_593 dX8_isNumber_8 (by decide) rfl ?_
    refine lv_aload_n C.1.1 C.1.2.1 dX8_isNumber_11 rfl (lv_at hl 0 rfl) ?_
    refine mr_getI C hw kc_8 8 (by decide) tf_1 wd_603 dX8_isNumber_12 (by decide) rfl ?_
    obtain ⟨q11, hD⟩ := g_ck hD
    refine mr_cald C hw (by decide) tf_2 q11 dX8_isNumber_15 ?_
    refine lv_bipush (v := 45) C.1.1 C.1.2.1 dX8_isNumber_16 (by decide) ?_
    refine lv_icmp_ne (tgt := 25) C.1.1 C.1.2.1 dX8_isNumber_18 (by decide) (fun c12 => ?_) (fun c12 => ?_)
    · replace hD := g_neg c12 hD
      exact hb25 M L _ _ ls hD hw (lv_sub hl [0] rfl)
    · replace hD := g_pos c12 hD
      refine lv_iconst (v := 1) C.1.1 C.1.2.1 dX8_isNumber_21 (by decide) ?_
      refine lv_goto (tgt := 26) C.1.1 C.1.2.1 dX8_isNumber_22 (by decide) ?_
      exact hb26 1 M L _ _ ls hD hw (lv_sub hl [0] rfl)

theorem dX8_numberAtHand_0 : decode cX8_numberAtHand 0 = .ok (.aload_n 0, 1) := by decide +kernel
theorem dX8_numberAtHand_1 : decode cX8_numberAtHand 1 = .ok (.getfield 9, 3) := by decide +kernel
theorem dX8_numberAtHand_4 : decode cX8_numberAtHand 4 = .ok (.aload_n 0, 1) := by decide +kernel
theorem dX8_numberAtHand_5 : decode cX8_numberAtHand 5 = .ok (.getfield 50, 3) := by decide +kernel
theorem dX8_numberAtHand_8 : decode cX8_numberAtHand 8 = .ok (.caload, 1) := by decide +kernel
theorem dX8_numberAtHand_9 : decode cX8_numberAtHand 9 = .ok (.bipush 45, 2) := by decide +kernel
theorem dX8_numberAtHand_11 : decode cX8_numberAtHand 11 = .ok (.if_icmp .ne 7, 3) := by decide +kernel
theorem dX8_numberAtHand_14 : decode cX8_numberAtHand 14 = .ok (.iconst 1, 1) := by decide +kernel
theorem dX8_numberAtHand_15 : decode cX8_numberAtHand 15 = .ok (.goto 4, 3) := by decide +kernel
theorem dX8_numberAtHand_18 : decode cX8_numberAtHand 18 = .ok (.iconst 0, 1) := by decide +kernel
theorem dX8_numberAtHand_19 : decode cX8_numberAtHand 19 = .ok (.istore_n 1, 1) := by decide +kernel
theorem dX8_numberAtHand_20 : decode cX8_numberAtHand 20 = .ok (.iconst 0, 1) := by decide +kernel
theorem dX8_numberAtHand_21 : decode cX8_numberAtHand 21 = .ok (.istore_n 2, 1) := by decide +kernel
theorem dX8_numberAtHand_22 : decode cX8_numberAtHand 22 = .ok (.iload_n 1, 1) := by decide +kernel
theorem dX8_numberAtHand_23 : decode cX8_numberAtHand 23 = .ok (.istore_n 3, 1) := by decide +kernel
theorem dX8_numberAtHand_24 : decode cX8_numberAtHand 24 = .ok (.iload_n 3, 1) := by decide +kernel
theorem dX8_numberAtHand_25 : decode cX8_numberAtHand 25 = .ok (.aload_n 0, 1) := by decide +kernel
theorem dX8_numberAtHand_26 : decode cX8_numberAtHand 26 = .ok (.getfield 56, 3) := by decide +kernel
theorem dX8_numberAtHand_29 : decode cX8_numberAtHand 29 = .ok (.if_icmp .ge 29, 3) := by decide +kernel
theorem dX8_numberAtHand_32 : decode cX8_numberAtHand 32 = .ok (.bipush 10, 2) := by decide +kernel
theorem dX8_numberAtHand_34 : decode cX8_numberAtHand 34 = .ok (.iload_n 2, 1) := by decide +kernel
theorem dX8_numberAtHand_35 : decode cX8_numberAtHand 35 = .ok (.imul, 1) := by decide +kernel
theorem dX8_numberAtHand_36 : decode cX8_numberAtHand 36 = .ok (.aload_n 0, 1) := by decide +kernel
theorem dX8_numberAtHand_37 : decode cX8_numberAtHand 37 = .ok (.getfield 9, 3) := by decide +kernel
theorem dX8_numberAtHand_40 : decode cX8_numberAtHand 40 = .ok (.aload_n 0, 1) := by decide +kernel
theorem dX8_numberAtHand_41 : decode cX8_numberAtHand 41 = .ok (.getfield 50, 3) := by decide +kernel
theorem dX8_numberAtHand_44 : decode cX8_numberAtHand 44 = .ok (.iload_n 3, 1) := by decide +kernel
theorem dX8_numberAtHand_45 : decode cX8_numberAtHand 45 = .ok (.iadd, 1) := by decide +kernel
theorem dX8_numberAtHand_46 : decode cX8_numberAtHand 46 = .ok (.caload, 1) := by decide +kernel
theorem dX8_numberAtHand_47 : decode cX8_numberAtHand 47 = .ok (.bipush 48, 2) := by decide +kernel
theorem dX8_numberAtHand_49 : decode cX8_numberAtHand 49 = .ok (.isub, 1) := by decide +kernel
theorem dX8_numberAtHand_50 : decode cX8_numberAtHand 50 = .ok (.iadd, 1) := by decide +kernel
theorem dX8_numberAtHand_51 : decode cX8_numberAtHand 51 = .ok (.istore_n 2, 1) := by decide +kernel
theorem dX8_numberAtHand_52 : decode cX8_numberAtHand 52 = .ok (.iinc 3 1, 3) := by decide +kernel
theorem dX8_numberAtHand_55 : decode cX8_numberAtHand 55 = .ok (.goto (-31), 3) := by decide +kernel
theorem dX8_numberAtHand_58 : decode cX8_numberAtHand 58 = .ok (.iload_n 1, 1) := by decide +kernel
theorem dX8_numberAtHand_59 : decode cX8_numberAtHand 59 = .ok (.iconst 1, 1) := by decide +kernel
theorem dX8_numberAtHand_60 : decode cX8_numberAtHand 60 = .ok (.if_icmp .ne 8, 3) := by decide +kernel
theorem dX8_numberAtHand_63 : decode cX8_numberAtHand 63 = .ok (.iload_n 2, 1) := by decide +kernel
theorem dX8_numberAtHand_64 : decode cX8_numberAtHand 64 = .ok (.ineg, 1) := by decide +kernel
theorem dX8_numberAtHand_65 : decode cX8_numberAtHand 65 = .ok (.goto 4, 3) := by decide +kernel
theorem dX8_numberAtHand_68 : decode cX8_numberAtHand 68 = .ok (.iload_n 2, 1) := by decide +kernel
theorem dX8_numberAtHand_69 : decode cX8_numberAtHand 69 = .ok (.ireturn, 1) := by decide +kernel
theorem cwX8_numberAtHand : mw_cwV yX8_numberAtHand cX8_numberAtHand 4 ((some .int)) 0 := ⟨⟨wd_2, wd_965, by decide +kernel⟩, wd_964, sl_22⟩
noncomputable def fX8_numberAtHand_b69 (fu : Nat) (s0 : Int32) (M : mwM) (L : mwL) : Option (Int32 × mwM × mwL) :=
  some (s0, M, L)
noncomputable def fX8_numberAtHand_i24 (fu : Nat) (r24 : (Int32 × Int32 × Int32 × mwM × mwL) → Option (Int32 × mwM × mwL)) (v1 : Int32) (v2 : Int32) (v3 : Int32) (M : mwM) (L : mwL) : Option (Int32 × mwM × mwL) :=
  (if (M 1 9) ≤ v3 then (if v1 = 1 then fX8_numberAtHand_b69 fu (-v2) M L else fX8_numberAtHand_b69 fu v2 M L) else mck ((M 1 8) + v3) 6000 (mlet ((10 * v2) + ((M 2 ((M 1 8) + v3).toNatClampNeg) - 48)) (fun x4 => mlet (v3 + 1) (fun x5 => r24 (v1, x4, x5, M, L)))))
noncomputable def fX8_numberAtHand_h24 (fu : Nat) : Nat → (Int32 × Int32 × Int32 × mwM × mwL) → Option (Int32 × mwM × mwL) := mloop (fun r24 s => fX8_numberAtHand_i24 fu r24 s.1 s.2.1 s.2.2.1 s.2.2.2.1 s.2.2.2.2)
noncomputable def fX8_numberAtHand_b19 (fu : Nat) (s0 : Int32) (M : mwM) (L : mwL) : Option (Int32 × mwM × mwL) :=
  fX8_numberAtHand_h24 fu fu (s0, 0, s0, M, L)
noncomputable def DX8_numberAtHand (fu : Nat) (M : mwM) (L : mwL) : Option (Int32 × mwM × mwL) :=
  mck (M 1 8) 6000 ((if (M 2 (M 1 8).toNatClampNeg) = 45 then fX8_numberAtHand_b19 fu 1 M L else fX8_numberAtHand_b19 fu 0 M L))
set_option maxHeartbeats 4000000 in
set_option maxRecDepth 100000 in
theorem tX8_numberAtHand (l : Launch) (G : mwG) (ad : Nat → Nat) (fu : Nat) (M : mwM) (L : mwL) {r0 : Int32} {M0 : mwM} {L0 : mwL} (hD : DX8_numberAtHand fu M L = some (r0, M0, L0)) : Met l yX8_numberAtHand (Cond.code yX8_numberAtHand cX8_numberAtHand 4 ((some .int)) :: GT) ({ frames := 0, cells := 0, slots := 0, locals := 0 }) (mw_Pre G ad NF TF FF M L [.ref (ad 1)]) (mw_Qi G ad NF TF FF (mw_eqI r0 M0 L0)) 0 0 (mw_fr G) := by
  refine mw_enter (by decide) (Nat.le_of_ble_eq_true rfl) ?_
  intro p e s m below meth c ls C hr hlocks hnm hw hl
  have hl : lv_has ls 4 [(0, .ref (ad 1))] := hl
  have hb69 : ∀ (s0 : Int32) (M : mwM) (L : mwL) (H : Heap) (locs : List Loc) (ls : Array Slot), fX8_numberAtHand_b69 fu s0 M L = some (r0, M0, L0) → mw_W G ad NF TF FF M L H locs → lv_has ls 4 [] → W p l e ({ frames := 0, cells := 0, slots := 0, locals := 0 }) s m [.ref (ad 1)].toArray below meth c H locs 0 0 (MQ below (mw_Qi G ad NF TF FF (mw_eqI r0 M0 L0)) [.ref (ad 1)].toArray s 0 0 (mw_fr G)) (F0 m 69 ls [.int s0]) := by
    intro s0 M L H locs ls hD hw hl
    unfold fX8_numberAtHand_b69 at hD
    exact mr_iret C hr hlocks hw rfl (Option.some.inj hD) dX8_numberAtHand_69
  have hh24 : ∀ (f : Nat) (v1 : Int32) (v2 : Int32) (v3 : Int32) (M : mwM) (L : mwL) (H : Heap) (locs : List Loc) (ls : Array Slot), fX8_numberAtHand_h24 fu f (v1, v2, v3, M, L) = some (r0, M0, L0) → mw_W G ad NF TF FF M L H locs → lv_has ls 4 [(0, .ref (ad 1)), (1, .int v1), (2, .int v2), (3, .int v3)] → W p l e ({ frames := 0, cells := 0, slots := 0, locals := 0 }) s m [.ref (ad 1)].toArray below meth c H locs 0 0 (MQ below (mw_Qi G ad NF TF FF (mw_eqI r0 M0 L0)) [.ref (ad 1)].toArray s 0 0 (mw_fr G)) (F0 m 24 ls []) := by
    intro f
    induction f with
    | zero => intro v1 v2 v3 M L H locs ls hD; cases hD
    | succ f24 ih24 =>
      intro v1 v2 v3 M L H locs ls hD hw hl
      replace hD : fX8_numberAtHand_i24 fu (fX8_numberAtHand_h24 fu f24) v1 v2 v3 M L = some (r0, M0, L0) := hD
      unfold fX8_numberAtHand_i24 at hD
      refine lv_iload_n C.1.1 C.1.2.1 dX8_numberAtHand_24 rfl (lv_at hl 3 rfl) ?_
      refine lv_aload_n C.1.1 C.1.2.1 dX8_numberAtHand_25 rfl (lv_at hl 0 rfl) ?_
      refine mr_getI C hw kc_8 9 (by decide) tf_1 wd_604 dX8_numberAtHand_26 (by decide) rfl ?_
      refine lv_icmp_ge (tgt := 58) C.1.1 C.1.2.1 dX8_numberAtHand_29 (by decide) (fun c1 => ?_) (fun c1 => ?_)
      · replace hD := g_pos c1 hD
        refine lv_iload_n C.1.1 C.1.2.1 dX8_numberAtHand_58 rfl (lv_at hl 1 rfl) ?_
        refine lv_iconst (v := 1) C.1.1 C.1.2.1 dX8_numberAtHand_59 (by decide) ?_
        refine lv_icmp_ne (tgt := 68) C.1.1 C.1.2.1 dX8_numberAtHand_60 (by decide) (fun c2 => ?_) (fun c2 => ?_)
        · replace hD := g_neg c2 hD
          refine lv_iload_n C.1.1 C.1.2.1 dX8_numberAtHand_68 rfl (lv_at hl 2 rfl) ?_
          exact hb69 v2 M L _ _ ls hD hw (lv_sub hl [] rfl)
        · replace hD := g_pos c2 hD
          refine lv_iload_n C.1.1 C.1.2.1 dX8_numberAtHand_63 rfl (lv_at hl 2 rfl) ?_
          refine lv_ineg C.1.1 C.1.2.1 dX8_numberAtHand_64 ?_
          refine lv_goto (tgt := 69) C.1.1 C.1.2.1 dX8_numberAtHand_65 (by decide) ?_
          exact hb69 (-v2) M L _ _ ls hD hw (lv_sub hl [] rfl)
      · replace hD := g_neg c1 hD
        refine lv_bipush (v := 10) C.1.1 C.1.2.1 dX8_numberAtHand_32 (by decide) ?_
        refine lv_iload_n C.1.1 C.1.2.1 dX8_numberAtHand_34 rfl (lv_at hl 2 rfl) ?_
        refine lv_imul C.1.1 C.1.2.1 dX8_numberAtHand_35 ?_
        refine lv_aload_n C.1.1 C.1.2.1 dX8_numberAtHand_36 rfl (lv_at hl 0 rfl) ?_
        refine mr_getR C hw kc_8 0 (by decide) tf_1 ff_1_0 wd_593 dX8_numberAtHand_37 (by decide) rfl ?_
        refine lv_aload_n C.1.1 C.1.2.1 dX8_numberAtHand_40 rfl (lv_at hl 0 rfl) ?_
        refine mr_getI C hw kc_8 8 (by decide) tf_1 wd_603 dX8_numberAtHand_41 (by decide) rfl ?_
        refine lv_iload_n C.1.1 C.1.2.1 dX8_numberAtHand_44 rfl (lv_at hl 3 rfl) ?_
        refine lv_iadd C.1.1 C.1.2.1 dX8_numberAtHand_45 ?_
        obtain ⟨q3, hD⟩ := g_ck hD
        refine mr_cald C hw (by decide) tf_2 q3 dX8_numberAtHand_46 ?_
        refine lv_bipush (v := 48) C.1.1 C.1.2.1 dX8_numberAtHand_47 (by decide) ?_
        refine lv_isub C.1.1 C.1.2.1 dX8_numberAtHand_49 ?_
        refine lv_iadd C.1.1 C.1.2.1 dX8_numberAtHand_50 ?_
        obtain ⟨x4, ex4, hD⟩ := g_let hD
        refine W.eq (g2 := F0 m 51 ls (.int x4 :: [])) (by rw [ex4]) ?_
        refine lv_istore_n (lv' := [(2, .int x4), (0, .ref (ad 1)), (1, .int v1), (3, .int v3)]) C.1.1 C.1.2.1 dX8_numberAtHand_51 rfl hl (by decide) rfl (fun ls hl => ?_)
        obtain ⟨x5, ex5, hD⟩ := g_let hD
        refine lv_iinc (v := x5) (lv' := [(3, .int x5), (2, .int x4), (0, .ref (ad 1)), (1, .int v1)]) C.1.1 C.1.2.1 dX8_numberAtHand_52 hl (k := 3) rfl (by rw [ex5]; rfl) (by decide) rfl (fun ls hl => ?_)
        refine lv_goto (tgt := 24) C.1.1 C.1.2.1 dX8_numberAtHand_55 (by decide) ?_
        exact ih24 v1 x4 x5 M L _ _ ls hD hw (lv_sub hl [2, 3, 1, 0] rfl)
  have hb19 : ∀ (s0 : Int32) (M : mwM) (L : mwL) (H : Heap) (locs : List Loc) (ls : Array Slot), fX8_numberAtHand_b19 fu s0 M L = some (r0, M0, L0) → mw_W G ad NF TF FF M L H locs → lv_has ls 4 [(0, .ref (ad 1))] → W p l e ({ frames := 0, cells := 0, slots := 0, locals := 0 }) s m [.ref (ad 1)].toArray below meth c H locs 0 0 (MQ below (mw_Qi G ad NF TF FF (mw_eqI r0 M0 L0)) [.ref (ad 1)].toArray s 0 0 (mw_fr G)) (F0 m 19 ls [.int s0]) := by
    intro s0 M L H locs ls hD hw hl
    unfold fX8_numberAtHand_b19 at hD
    refine lv_istore_n (lv' := [(1, .int s0), (0, .ref (ad 1))]) C.1.1 C.1.2.1 dX8_numberAtHand_19 rfl hl (by decide) rfl (fun ls hl => ?_)
    refine lv_iconst (v := 0) C.1.1 C.1.2.1 dX8_numberAtHand_20 (by decide) ?_
    refine lv_istore_n (lv' := [(2, .int 0), (1, .int s0), (0, .ref (ad 1))]) C.1.1 C.1.2.1 dX8_numberAtHand_21 rfl hl (by decide) rfl (fun ls hl => ?_)
    refine lv_iload_n C.1.1 C.1.2.1 dX8_numberAtHand_22 rfl (lv_at hl 1 rfl) ?_
    refine lv_istore_n (lv' := [(3, .int s0), (2, .int 0), (1, .int s0), (0, .ref (ad 1))]) C.1.1 C.1.2.1 dX8_numberAtHand_23 rfl hl (by decide) rfl (fun ls hl => ?_)
    exact hh24 fu s0 0 s0 M L _ _ ls hD hw (lv_sub hl [3, 2, 1, 0] rfl)
  unfold DX8_numberAtHand at hD
  refine lv_aload_n C.1.1 C.1.2.1 dX8_numberAtHand_0 rfl (lv_at hl 0 rfl) ?_
  refine mr_getR C hw kc_8 0 (by decide) tf_1 ff_1_0 wd_593 dX8_numberAtHand_1 (by decide) rfl ?_
  refine lv_aload_n C.1.1 C.1.2.1 dX8_numberAtHand_4 rfl (lv_at hl 0 rfl) ?_
  refine mr_getI C hw kc_8 8 (by decide) tf_1 wd_603 dX8_numberAtHand_5 (by decide) rfl ?_
  obtain ⟨q6, hD⟩ := g_ck hD
  refine mr_cald C hw (by decide) tf_2 q6 dX8_numberAtHand_8 ?_
  refine lv_bipush (v := 45) C.1.1 C.1.2.1 dX8_numberAtHand_9 (by decide) ?_
  refine lv_icmp_ne (tgt := 18) C.1.1 C.1.2.1 dX8_numberAtHand_11 (by decide) (fun c7 => ?_) (fun c7 => ?_)
  · replace hD := g_neg c7 hD
    refine lv_iconst (v := 0) C.1.1 C.1.2.1 dX8_numberAtHand_18 (by decide) ?_
    exact hb19 0 M L _ _ ls hD hw (lv_sub hl [0] rfl)
  · replace hD := g_pos c7 hD
    refine lv_iconst (v := 1) C.1.1 C.1.2.1 dX8_numberAtHand_14 (by decide) ?_
    refine lv_goto (tgt := 19) C.1.1 C.1.2.1 dX8_numberAtHand_15 (by decide) ?_
    exact hb19 1 M L _ _ ls hD hw (lv_sub hl [0] rfl)

theorem dX8_boundedNumber_0 : decode cX8_boundedNumber 0 = .ok (.aload_n 0, 1) := by decide +kernel
theorem dX8_boundedNumber_1 : decode cX8_boundedNumber 1 = .ok (.invokevirtual 290, 3) := by decide +kernel
theorem dX8_boundedNumber_4 : decode cX8_boundedNumber 4 = .ok (.ifCond .eq 10, 3) := by decide +kernel
theorem dX8_boundedNumber_7 : decode cX8_boundedNumber 7 = .ok (.aload_n 0, 1) := by decide +kernel
theorem dX8_boundedNumber_8 : decode cX8_boundedNumber 8 = .ok (.invokevirtual 293, 3) := by decide +kernel
theorem dX8_boundedNumber_11 : decode cX8_boundedNumber 11 = .ok (.goto 4, 3) := by decide +kernel
theorem dX8_boundedNumber_14 : decode cX8_boundedNumber 14 = .ok (.iconst 0, 1) := by decide +kernel
theorem dX8_boundedNumber_15 : decode cX8_boundedNumber 15 = .ok (.istore_n 3, 1) := by decide +kernel
theorem dX8_boundedNumber_16 : decode cX8_boundedNumber 16 = .ok (.aload_n 0, 1) := by decide +kernel
theorem dX8_boundedNumber_17 : decode cX8_boundedNumber 17 = .ok (.invokevirtual 290, 3) := by decide +kernel
theorem dX8_boundedNumber_20 : decode cX8_boundedNumber 20 = .ok (.ifCond .eq 13, 3) := by decide +kernel
theorem dX8_boundedNumber_23 : decode cX8_boundedNumber 23 = .ok (.iload_n 3, 1) := by decide +kernel
theorem dX8_boundedNumber_24 : decode cX8_boundedNumber 24 = .ok (.iload_n 1, 1) := by decide +kernel
theorem dX8_boundedNumber_25 : decode cX8_boundedNumber 25 = .ok (.if_icmp .lt 8, 3) := by decide +kernel
theorem dX8_boundedNumber_28 : decode cX8_boundedNumber 28 = .ok (.iload_n 3, 1) := by decide +kernel
theorem dX8_boundedNumber_29 : decode cX8_boundedNumber 29 = .ok (.iload_n 2, 1) := by decide +kernel
theorem dX8_boundedNumber_30 : decode cX8_boundedNumber 30 = .ok (.if_icmp .le 14, 3) := by decide +kernel
theorem dX8_boundedNumber_33 : decode cX8_boundedNumber 33 = .ok (.aload_n 0, 1) := by decide +kernel
theorem dX8_boundedNumber_34 : decode cX8_boundedNumber 34 = .ok (.iconst 5, 1) := by decide +kernel
theorem dX8_boundedNumber_35 : decode cX8_boundedNumber 35 = .ok (.aload_n 0, 1) := by decide +kernel
theorem dX8_boundedNumber_36 : decode cX8_boundedNumber 36 = .ok (.getfield 50, 3) := by decide +kernel
theorem dX8_boundedNumber_39 : decode cX8_boundedNumber 39 = .ok (.invokevirtual 71, 3) := by decide +kernel
theorem dX8_boundedNumber_42 : decode cX8_boundedNumber 42 = .ok (.iconst 0, 1) := by decide +kernel
theorem dX8_boundedNumber_43 : decode cX8_boundedNumber 43 = .ok (.ireturn, 1) := by decide +kernel
theorem dX8_boundedNumber_44 : decode cX8_boundedNumber 44 = .ok (.iload_n 3, 1) := by decide +kernel
theorem dX8_boundedNumber_45 : decode cX8_boundedNumber 45 = .ok (.ireturn, 1) := by decide +kernel
theorem cwX8_boundedNumber : mw_cwV yX8_boundedNumber cX8_boundedNumber 4 ((some .int)) 2 := ⟨⟨wd_2, wd_957, by decide +kernel⟩, wd_956, sl_20⟩
noncomputable def fX8_boundedNumber_b33 (fu : Nat) (a1 : Int32) (a2 : Int32) (M : mwM) (L : mwL) : Option (Int32 × mwM × mwL) :=
  mb2 (DX8_fail fu 5 (M 1 8) M L) (fun M7 L8 => some (0, M7, L8))
noncomputable def fX8_boundedNumber_b15 (fu : Nat) (a1 : Int32) (a2 : Int32) (s0 : Int32) (M : mwM) (L : mwL) : Option (Int32 × mwM × mwL) :=
  mb3 (DX8_isNumber fu M L) (fun r3 M1 L2 => (if r3 = 0 then fX8_boundedNumber_b33 fu a1 a2 M1 L2 else (if s0 < a1 then fX8_boundedNumber_b33 fu a1 a2 M1 L2 else (if s0 ≤ a2 then some (s0, M1, L2) else fX8_boundedNumber_b33 fu a1 a2 M1 L2))))
noncomputable def DX8_boundedNumber (fu : Nat) (a1 : Int32) (a2 : Int32) (M : mwM) (L : mwL) : Option (Int32 × mwM × mwL) :=
  mb3 (DX8_isNumber fu M L) (fun r11 M9 L10 => (if r11 = 0 then fX8_boundedNumber_b15 fu a1 a2 0 M9 L10 else mb3 (DX8_numberAtHand fu M9 L10) (fun r15 M13 L14 => fX8_boundedNumber_b15 fu a1 a2 r15 M13 L14)))
set_option maxHeartbeats 4000000 in
set_option maxRecDepth 100000 in
theorem tX8_boundedNumber (l : Launch) (G : mwG) (ad : Nat → Nat) (fu : Nat) (a1 : Int32) (a2 : Int32) (M : mwM) (L : mwL) {r0 : Int32} {M0 : mwM} {L0 : mwL} (hD : DX8_boundedNumber fu a1 a2 M L = some (r0, M0, L0)) : Met l yX8_boundedNumber (Cond.code yX8_boundedNumber cX8_boundedNumber 4 ((some .int)) :: GT) ({ frames := 2, cells := 0, slots := 0, locals := 42 }) (mw_Pre G ad NF TF FF M L [.ref (ad 1), .int a1, .int a2]) (mw_Qi G ad NF TF FF (mw_eqI r0 M0 L0)) 0 0 (mw_fr G) := by
  refine mw_enter (by decide) (Nat.le_of_ble_eq_true rfl) ?_
  intro p e s m below meth c ls C hr hlocks hnm hw hl
  have hl : lv_has ls 4 [(0, .ref (ad 1)), (1, .int a1), (2, .int a2)] := hl
  have hb33 : ∀ (M : mwM) (L : mwL) (H : Heap) (locs : List Loc) (ls : Array Slot), fX8_boundedNumber_b33 fu a1 a2 M L = some (r0, M0, L0) → mw_W G ad NF TF FF M L H locs → lv_has ls 4 [(0, .ref (ad 1))] → W p l e ({ frames := 2, cells := 0, slots := 0, locals := 42 }) s m [.ref (ad 1), .int a1, .int a2].toArray below meth c H locs 0 0 (MQ below (mw_Qi G ad NF TF FF (mw_eqI r0 M0 L0)) [.ref (ad 1), .int a1, .int a2].toArray s 0 0 (mw_fr G)) (F0 m 33 ls []) := by
    intro M L H locs ls hD hw hl
    unfold fX8_boundedNumber_b33 at hD
    refine lv_aload_n C.1.1 C.1.2.1 dX8_boundedNumber_33 rfl (lv_at hl 0 rfl) ?_
    refine lv_iconst (v := 5) C.1.1 C.1.2.1 dX8_boundedNumber_34 (by decide) ?_
    refine lv_aload_n C.1.1 C.1.2.1 dX8_boundedNumber_35 rfl (lv_at hl 0 rfl) ?_
    refine mr_getI C hw kc_8 8 (by decide) tf_1 wd_603 dX8_boundedNumber_36 (by decide) rfl ?_
    obtain ⟨M7, L8, h1, hD⟩ := g_b2 hD
    refine md_cvV (As := [.int 5, .int (M 1 8)]) (rest := []) C hw (tX8_fail l G ad fu 5 (M 1 8) M L h1) kc_8 (by decide) tf_1 wd_918 cwX8_fail ⟨Nat.le_of_ble_eq_true rfl, Nat.le_of_ble_eq_true rfl⟩ rfl hl.1 (Nat.le_of_ble_eq_true rfl) dX8_boundedNumber_39 rfl rfl ⟨Nat.zero_le _, Nat.zero_le _⟩ rfl (fun H locs hw => ?_)
    refine lv_iconst (v := 0) C.1.1 C.1.2.1 dX8_boundedNumber_42 (by decide) ?_
    exact mr_iret C hr hlocks hw rfl (Option.some.inj hD) dX8_boundedNumber_43
  have hb15 : ∀ (s0 : Int32) (M : mwM) (L : mwL) (H : Heap) (locs : List Loc) (ls : Array Slot), fX8_boundedNumber_b15 fu a1 a2 s0 M L = some (r0, M0, L0) → mw_W G ad NF TF FF M L H locs → lv_has ls 4 [(0, .ref (ad 1)), (1, .int a1), (2, .int a2)] → W p l e ({ frames := 2, cells := 0, slots := 0, locals := 42 }) s m [.ref (ad 1), .int a1, .int a2].toArray below meth c H locs 0 0 (MQ below (mw_Qi G ad NF TF FF (mw_eqI r0 M0 L0)) [.ref (ad 1), .int a1, .int a2].toArray s 0 0 (mw_fr G)) (F0 m 15 ls [.int s0]) := by
    intro s0 M L H locs ls hD hw hl
    unfold fX8_boundedNumber_b15 at hD
    refine lv_istore_n (lv' := [(3, .int s0), (0, .ref (ad 1)), (1, .int a1), (2, .int a2)]) C.1.1 C.1.2.1 dX8_boundedNumber_15 rfl hl (by decide) rfl (fun ls hl => ?_)
    refine lv_aload_n C.1.1 C.1.2.1 dX8_boundedNumber_16 rfl (lv_at hl 1 rfl) ?_
    obtain ⟨r3, M1, L2, h1, hD⟩ := g_b3 hD
    refine md_cvI (As := []) (rest := []) C hw (tX8_isNumber l G ad fu M L h1) kc_8 (by decide) tf_1 wd_958 cwX8_isNumber ⟨Nat.le_of_ble_eq_true rfl, Nat.le_of_ble_eq_true rfl⟩ rfl hl.1 (Nat.le_of_ble_eq_true rfl) dX8_boundedNumber_17 rfl rfl ⟨Nat.zero_le _, Nat.zero_le _⟩ rfl (fun H locs hw => ?_)
    refine lv_if_eq (tgt := 33) C.1.1 C.1.2.1 dX8_boundedNumber_20 (by decide) (fun c4 => ?_) (fun c4 => ?_)
    · replace hD := g_pos c4 hD
      exact hb33 M1 L2 _ _ ls hD hw (lv_sub hl [1] rfl)
    · replace hD := g_neg c4 hD
      refine lv_iload_n C.1.1 C.1.2.1 dX8_boundedNumber_23 rfl (lv_at hl 0 rfl) ?_
      refine lv_iload_n C.1.1 C.1.2.1 dX8_boundedNumber_24 rfl (lv_at hl 2 rfl) ?_
      refine lv_icmp_lt (tgt := 33) C.1.1 C.1.2.1 dX8_boundedNumber_25 (by decide) (fun c5 => ?_) (fun c5 => ?_)
      · replace hD := g_pos c5 hD
        exact hb33 M1 L2 _ _ ls hD hw (lv_sub hl [1] rfl)
      · replace hD := g_neg c5 hD
        refine lv_iload_n C.1.1 C.1.2.1 dX8_boundedNumber_28 rfl (lv_at hl 0 rfl) ?_
        refine lv_iload_n C.1.1 C.1.2.1 dX8_boundedNumber_29 rfl (lv_at hl 3 rfl) ?_
        refine lv_icmp_le (tgt := 44) C.1.1 C.1.2.1 dX8_boundedNumber_30 (by decide) (fun c6 => ?_) (fun c6 => ?_)
        · replace hD := g_pos c6 hD
          refine lv_iload_n C.1.1 C.1.2.1 dX8_boundedNumber_44 rfl (lv_at hl 0 rfl) ?_
          exact mr_iret C hr hlocks hw rfl (Option.some.inj hD) dX8_boundedNumber_45
        · replace hD := g_neg c6 hD
          exact hb33 M1 L2 _ _ ls hD hw (lv_sub hl [1] rfl)
  unfold DX8_boundedNumber at hD
  refine lv_aload_n C.1.1 C.1.2.1 dX8_boundedNumber_0 rfl (lv_at hl 0 rfl) ?_
  obtain ⟨r11, M9, L10, h1, hD⟩ := g_b3 hD
  refine md_cvI (As := []) (rest := []) C hw (tX8_isNumber l G ad fu M L h1) kc_8 (by decide) tf_1 wd_958 cwX8_isNumber ⟨Nat.le_of_ble_eq_true rfl, Nat.le_of_ble_eq_true rfl⟩ rfl hl.1 (Nat.le_of_ble_eq_true rfl) dX8_boundedNumber_1 rfl rfl ⟨Nat.zero_le _, Nat.zero_le _⟩ rfl (fun H locs hw => ?_)
  refine lv_if_eq (tgt := 14) C.1.1 C.1.2.1 dX8_boundedNumber_4 (by decide) (fun c12 => ?_) (fun c12 => ?_)
  · replace hD := g_pos c12 hD
    refine lv_iconst (v := 0) C.1.1 C.1.2.1 dX8_boundedNumber_14 (by decide) ?_
    exact hb15 0 M9 L10 _ _ ls hD hw (lv_sub hl [0, 1, 2] rfl)
  · replace hD := g_neg c12 hD
    refine lv_aload_n C.1.1 C.1.2.1 dX8_boundedNumber_7 rfl (lv_at hl 0 rfl) ?_
    obtain ⟨r15, M13, L14, h1, hD⟩ := g_b3 hD
    refine md_cvI (As := []) (rest := []) C hw (tX8_numberAtHand l G ad fu M9 L10 h1) kc_8 (by decide) tf_1 wd_962 cwX8_numberAtHand ⟨Nat.le_of_ble_eq_true rfl, Nat.le_of_ble_eq_true rfl⟩ rfl hl.1 (Nat.le_of_ble_eq_true rfl) dX8_boundedNumber_8 rfl rfl ⟨Nat.zero_le _, Nat.zero_le _⟩ rfl (fun H locs hw => ?_)
    refine lv_goto (tgt := 15) C.1.1 C.1.2.1 dX8_boundedNumber_11 (by decide) ?_
    exact hb15 r15 M13 L14 _ _ ls hD hw (lv_sub hl [0, 1, 2] rfl)

theorem dX8_number_0 : decode cX8_number 0 = .ok (.aload_n 0, 1) := by decide +kernel
theorem dX8_number_1 : decode cX8_number 1 = .ok (.invokevirtual 282, 3) := by decide +kernel
theorem dX8_number_4 : decode cX8_number 4 = .ok (.ifCond .eq 12, 3) := by decide +kernel
theorem dX8_number_7 : decode cX8_number 7 = .ok (.aload_n 0, 1) := by decide +kernel
theorem dX8_number_8 : decode cX8_number 8 = .ok (.iload_n 1, 1) := by decide +kernel
theorem dX8_number_9 : decode cX8_number 9 = .ok (.iload_n 2, 1) := by decide +kernel
theorem dX8_number_10 : decode cX8_number 10 = .ok (.invokevirtual 287, 3) := by decide +kernel
theorem dX8_number_13 : decode cX8_number 13 = .ok (.goto 4, 3) := by decide +kernel
theorem dX8_number_16 : decode cX8_number 16 = .ok (.iconst 0, 1) := by decide +kernel
theorem dX8_number_17 : decode cX8_number 17 = .ok (.ireturn, 1) := by decide +kernel
theorem cwX8_number : mw_cwV yX8_number cX8_number 3 ((some .int)) 2 := ⟨⟨wd_2, wd_953, by decide +kernel⟩, wd_952, sl_19⟩
noncomputable def fX8_number_b17 (fu : Nat) (a1 : Int32) (a2 : Int32) (s0 : Int32) (M : mwM) (L : mwL) : Option (Int32 × mwM × mwL) :=
  some (s0, M, L)
noncomputable def DX8_number (fu : Nat) (a1 : Int32) (a2 : Int32) (M : mwM) (L : mwL) : Option (Int32 × mwM × mwL) :=
  mb3 (DX8_fetchWord fu M L) (fun r3 M1 L2 => (if r3 = 0 then fX8_number_b17 fu a1 a2 0 M1 L2 else mb3 (DX8_boundedNumber fu a1 a2 M1 L2) (fun r7 M5 L6 => fX8_number_b17 fu a1 a2 r7 M5 L6)))
set_option maxHeartbeats 4000000 in
set_option maxRecDepth 100000 in
theorem tX8_number (l : Launch) (G : mwG) (ad : Nat → Nat) (fu : Nat) (a1 : Int32) (a2 : Int32) (M : mwM) (L : mwL) {r0 : Int32} {M0 : mwM} {L0 : mwL} (hD : DX8_number fu a1 a2 M L = some (r0, M0, L0)) : Met l yX8_number (Cond.code yX8_number cX8_number 3 ((some .int)) :: GT) ({ frames := 3, cells := 0, slots := 0, locals := 65 }) (mw_Pre G ad NF TF FF M L [.ref (ad 1), .int a1, .int a2]) (mw_Qi G ad NF TF FF (mw_eqI r0 M0 L0)) 0 0 (mw_fr G) := by
  refine mw_enter (by decide) (Nat.le_of_ble_eq_true rfl) ?_
  intro p e s m below meth c ls C hr hlocks hnm hw hl
  have hl : lv_has ls 3 [(0, .ref (ad 1)), (1, .int a1), (2, .int a2)] := hl
  have hb17 : ∀ (s0 : Int32) (M : mwM) (L : mwL) (H : Heap) (locs : List Loc) (ls : Array Slot), fX8_number_b17 fu a1 a2 s0 M L = some (r0, M0, L0) → mw_W G ad NF TF FF M L H locs → lv_has ls 3 [] → W p l e ({ frames := 3, cells := 0, slots := 0, locals := 65 }) s m [.ref (ad 1), .int a1, .int a2].toArray below meth c H locs 0 0 (MQ below (mw_Qi G ad NF TF FF (mw_eqI r0 M0 L0)) [.ref (ad 1), .int a1, .int a2].toArray s 0 0 (mw_fr G)) (F0 m 17 ls [.int s0]) := by
    intro s0 M L H locs ls hD hw hl
    unfold fX8_number_b17 at hD
    exact mr_iret C hr hlocks hw rfl (Option.some.inj hD) dX8_number_17
  unfold DX8_number at hD
  refine lv_aload_n C.1.1 C.1.2.1 dX8_number_0 rfl (lv_at hl 0 rfl) ?_
  obtain ⟨r3, M1, L2, h1, hD⟩ := g_b3 hD
  refine md_cvI (As := []) (rest := []) C hw (tX8_fetchWord l G ad fu M L h1) kc_8 (by decide) tf_1 wd_946 cwX8_fetchWord ⟨Nat.le_of_ble_eq_true rfl, Nat.le_of_ble_eq_true rfl⟩ rfl hl.1 (Nat.le_of_ble_eq_true rfl) dX8_number_1 rfl rfl ⟨Nat.zero_le _, Nat.zero_le _⟩ rfl (fun H locs hw => ?_)
  refine lv_if_eq (tgt := 16) C.1.1 C.1.2.1 dX8_number_4 (by decide) (fun c4 => ?_) (fun c4 => ?_)
  · replace hD := g_pos c4 hD
    refine lv_iconst (v := 0) C.1.1 C.1.2.1 dX8_number_16 (by decide) ?_
    exact hb17 0 M1 L2 _ _ ls hD hw (lv_sub hl [] rfl)
  · replace hD := g_neg c4 hD
    refine lv_aload_n C.1.1 C.1.2.1 dX8_number_7 rfl (lv_at hl 0 rfl) ?_
    refine lv_iload_n C.1.1 C.1.2.1 dX8_number_8 rfl (lv_at hl 1 rfl) ?_
    refine lv_iload_n C.1.1 C.1.2.1 dX8_number_9 rfl (lv_at hl 2 rfl) ?_
    obtain ⟨r7, M5, L6, h1, hD⟩ := g_b3 hD
    refine md_cvI (As := [.int a1, .int a2]) (rest := []) C hw (tX8_boundedNumber l G ad fu a1 a2 M1 L2 h1) kc_8 (by decide) tf_1 wd_954 cwX8_boundedNumber ⟨Nat.le_of_ble_eq_true rfl, Nat.le_of_ble_eq_true rfl⟩ rfl hl.1 (Nat.le_of_ble_eq_true rfl) dX8_number_10 rfl rfl ⟨Nat.zero_le _, Nat.zero_le _⟩ rfl (fun H locs hw => ?_)
    refine lv_goto (tgt := 17) C.1.1 C.1.2.1 dX8_number_13 (by decide) ?_
    exact hb17 r7 M5 L6 _ _ ls hD hw (lv_sub hl [] rfl)

theorem dX8_endLine_0 : decode cX8_endLine 0 = .ok (.aload_n 0, 1) := by decide +kernel
theorem dX8_endLine_1 : decode cX8_endLine 1 = .ok (.getfield 34, 3) := by decide +kernel
theorem dX8_endLine_4 : decode cX8_endLine 4 = .ok (.ifCond .eq 4, 3) := by decide +kernel
theorem dX8_endLine_7 : decode cX8_endLine 7 = .ok (.return_, 1) := by decide +kernel
theorem dX8_endLine_8 : decode cX8_endLine 8 = .ok (.aload_n 0, 1) := by decide +kernel
theorem dX8_endLine_9 : decode cX8_endLine 9 = .ok (.invokevirtual 47, 3) := by decide +kernel
theorem dX8_endLine_12 : decode cX8_endLine 12 = .ok (.aload_n 0, 1) := by decide +kernel
theorem dX8_endLine_13 : decode cX8_endLine 13 = .ok (.getfield 56, 3) := by decide +kernel
theorem dX8_endLine_16 : decode cX8_endLine 16 = .ok (.ifCond .le 12, 3) := by decide +kernel
theorem dX8_endLine_19 : decode cX8_endLine 19 = .ok (.aload_n 0, 1) := by decide +kernel
theorem dX8_endLine_20 : decode cX8_endLine 20 = .ok (.iconst 2, 1) := by decide +kernel
theorem dX8_endLine_21 : decode cX8_endLine 21 = .ok (.aload_n 0, 1) := by decide +kernel
theorem dX8_endLine_22 : decode cX8_endLine 22 = .ok (.getfield 50, 3) := by decide +kernel
theorem dX8_endLine_25 : decode cX8_endLine 25 = .ok (.invokevirtual 71, 3) := by decide +kernel
theorem dX8_endLine_28 : decode cX8_endLine 28 = .ok (.return_, 1) := by decide +kernel
theorem cwX8_endLine : mw_cwV yX8_endLine cX8_endLine 1 (none) 0 := ⟨⟨wd_2, wd_933, by decide +kernel⟩, wd_932, sl_14⟩
noncomputable def fX8_endLine_b28 (fu : Nat) (M : mwM) (L : mwL) : Option (mwM × mwL) :=
  some (M, L)
noncomputable def DX8_endLine (fu : Nat) (M : mwM) (L : mwL) : Option (mwM × mwL) :=
  (if (M 1 12) = 0 then mb2 (DX8_nextWord fu M L) (fun M2 L3 => (if (M2 1 9) ≤ 0 then fX8_endLine_b28 fu M2 L3 else mb2 (DX8_fail fu 2 (M2 1 8) M2 L3) (fun M5 L6 => fX8_endLine_b28 fu M5 L6))) else some (M, L))
set_option maxHeartbeats 4000000 in
set_option maxRecDepth 100000 in
theorem tX8_endLine (l : Launch) (G : mwG) (ad : Nat → Nat) (fu : Nat) (M : mwM) (L : mwL) {M0 : mwM} {L0 : mwL} (hD : DX8_endLine fu M L = some (M0, L0)) : Met l yX8_endLine (Cond.code yX8_endLine cX8_endLine 1 (none) :: GT) ({ frames := 1, cells := 0, slots := 0, locals := 22 }) (mw_Pre G ad NF TF FF M L [.ref (ad 1)]) (mw_Qv G ad NF TF FF (mw_eqV M0 L0)) 0 0 (mw_fr G) := by
  refine mw_enter (by decide) (Nat.le_of_ble_eq_true rfl) ?_
  intro p e s m below meth c ls C hr hlocks hnm hw hl
  have hl : lv_has ls 1 [(0, .ref (ad 1))] := hl
  have hb28 : ∀ (M : mwM) (L : mwL) (H : Heap) (locs : List Loc) (ls : Array Slot), fX8_endLine_b28 fu M L = some (M0, L0) → mw_W G ad NF TF FF M L H locs → lv_has ls 1 [] → W p l e ({ frames := 1, cells := 0, slots := 0, locals := 22 }) s m [.ref (ad 1)].toArray below meth c H locs 0 0 (MQ below (mw_Qv G ad NF TF FF (mw_eqV M0 L0)) [.ref (ad 1)].toArray s 0 0 (mw_fr G)) (F0 m 28 ls []) := by
    intro M L H locs ls hD hw hl
    unfold fX8_endLine_b28 at hD
    exact mr_vret C hr hlocks hw (Option.some.inj hD) dX8_endLine_28
  unfold DX8_endLine at hD
  refine lv_aload_n C.1.1 C.1.2.1 dX8_endLine_0 rfl (lv_at hl 0 rfl) ?_
  refine mr_getI C hw kc_8 12 (by decide) tf_1 wd_607 dX8_endLine_1 (by decide) rfl ?_
  refine lv_if_eq (tgt := 8) C.1.1 C.1.2.1 dX8_endLine_4 (by decide) (fun c1 => ?_) (fun c1 => ?_)
  · replace hD := g_pos c1 hD
    refine lv_aload_n C.1.1 C.1.2.1 dX8_endLine_8 rfl (lv_at hl 0 rfl) ?_
    obtain ⟨M2, L3, h1, hD⟩ := g_b2 hD
    refine md_cvV (As := []) (rest := []) C hw (tX8_nextWord l G ad fu M L h1) kc_8 (by decide) tf_1 wd_830 cwX8_nextWord ⟨Nat.le_of_ble_eq_true rfl, Nat.le_of_ble_eq_true rfl⟩ rfl hl.1 (Nat.le_of_ble_eq_true rfl) dX8_endLine_9 rfl rfl ⟨Nat.zero_le _, Nat.zero_le _⟩ rfl (fun H locs hw => ?_)
    refine lv_aload_n C.1.1 C.1.2.1 dX8_endLine_12 rfl (lv_at hl 0 rfl) ?_
    refine mr_getI C hw kc_8 9 (by decide) tf_1 wd_604 dX8_endLine_13 (by decide) rfl ?_
    refine lv_if_le (tgt := 28) C.1.1 C.1.2.1 dX8_endLine_16 (by decide) (fun c4 => ?_) (fun c4 => ?_)
    · replace hD := g_pos c4 hD
      exact hb28 M2 L3 _ _ ls hD hw (lv_sub hl [] rfl)
    · replace hD := g_neg c4 hD
      refine lv_aload_n C.1.1 C.1.2.1 dX8_endLine_19 rfl (lv_at hl 0 rfl) ?_
      refine lv_iconst (v := 2) C.1.1 C.1.2.1 dX8_endLine_20 (by decide) ?_
      refine lv_aload_n C.1.1 C.1.2.1 dX8_endLine_21 rfl (lv_at hl 0 rfl) ?_
      refine mr_getI C hw kc_8 8 (by decide) tf_1 wd_603 dX8_endLine_22 (by decide) rfl ?_
      obtain ⟨M5, L6, h1, hD⟩ := g_b2 hD
      refine md_cvV (As := [.int 2, .int (M2 1 8)]) (rest := []) C hw (tX8_fail l G ad fu 2 (M2 1 8) M2 L3 h1) kc_8 (by decide) tf_1 wd_918 cwX8_fail ⟨Nat.le_of_ble_eq_true rfl, Nat.le_of_ble_eq_true rfl⟩ rfl hl.1 (Nat.le_of_ble_eq_true rfl) dX8_endLine_25 rfl rfl ⟨Nat.zero_le _, Nat.zero_le _⟩ rfl (fun H locs hw => ?_)
      exact hb28 M5 L6 _ _ ls hD hw (lv_sub hl [] rfl)
  · replace hD := g_neg c1 hD
    exact mr_vret C hr hlocks hw (Option.some.inj hD) dX8_endLine_7

theorem dX8_heed_0 : decode cX8_heed 0 = .ok (.iload_n 1, 1) := by decide +kernel
theorem dX8_heed_1 : decode cX8_heed 1 = .ok (.ifCond .ge 24, 3) := by decide +kernel
theorem dX8_heed_4 : decode cX8_heed 4 = .ok (.aload_n 0, 1) := by decide +kernel
theorem dX8_heed_5 : decode cX8_heed 5 = .ok (.iload_n 1, 1) := by decide +kernel
theorem dX8_heed_6 : decode cX8_heed 6 = .ok (.bipush (-4), 2) := by decide +kernel
theorem dX8_heed_8 : decode cX8_heed 8 = .ok (.if_icmp .ne 8, 3) := by decide +kernel
theorem dX8_heed_11 : decode cX8_heed 11 = .ok (.bipush 6, 2) := by decide +kernel
theorem dX8_heed_13 : decode cX8_heed 13 = .ok (.goto 5, 3) := by decide +kernel
theorem dX8_heed_16 : decode cX8_heed 16 = .ok (.bipush 7, 2) := by decide +kernel
theorem dX8_heed_18 : decode cX8_heed 18 = .ok (.aload_n 0, 1) := by decide +kernel
theorem dX8_heed_19 : decode cX8_heed 19 = .ok (.getfield 53, 3) := by decide +kernel
theorem dX8_heed_22 : decode cX8_heed 22 = .ok (.invokevirtual 71, 3) := by decide +kernel
theorem dX8_heed_25 : decode cX8_heed 25 = .ok (.return_, 1) := by decide +kernel
theorem cwX8_heed : mw_cwV yX8_heed cX8_heed 2 (none) 1 := ⟨⟨wd_2, wd_1017, by decide +kernel⟩, wd_1016, sl_30⟩
noncomputable def fX8_heed_b25 (fu : Nat) (a1 : Int32) (M : mwM) (L : mwL) : Option (mwM × mwL) :=
  some (M, L)
noncomputable def fX8_heed_b18 (fu : Nat) (a1 : Int32) (s1 : Int32) (M : mwM) (L : mwL) : Option (mwM × mwL) :=
  mb2 (DX8_fail fu s1 (M 1 7) M L) (fun M1 L2 => fX8_heed_b25 fu a1 M1 L2)
noncomputable def DX8_heed (fu : Nat) (a1 : Int32) (M : mwM) (L : mwL) : Option (mwM × mwL) :=
  (if 0 ≤ a1 then fX8_heed_b25 fu a1 M L else (if a1 = ((-4)) then fX8_heed_b18 fu a1 6 M L else fX8_heed_b18 fu a1 7 M L))
set_option maxHeartbeats 4000000 in
set_option maxRecDepth 100000 in
theorem tX8_heed (l : Launch) (G : mwG) (ad : Nat → Nat) (fu : Nat) (a1 : Int32) (M : mwM) (L : mwL) {M0 : mwM} {L0 : mwL} (hD : DX8_heed fu a1 M L = some (M0, L0)) : Met l yX8_heed (Cond.code yX8_heed cX8_heed 2 (none) :: GT) ({ frames := 1, cells := 0, slots := 0, locals := 22 }) (mw_Pre G ad NF TF FF M L [.ref (ad 1), .int a1]) (mw_Qv G ad NF TF FF (mw_eqV M0 L0)) 0 0 (mw_fr G) := by
  refine mw_enter (by decide) (Nat.le_of_ble_eq_true rfl) ?_
  intro p e s m below meth c ls C hr hlocks hnm hw hl
  have hl : lv_has ls 2 [(0, .ref (ad 1)), (1, .int a1)] := hl
  have hb25 : ∀ (M : mwM) (L : mwL) (H : Heap) (locs : List Loc) (ls : Array Slot), fX8_heed_b25 fu a1 M L = some (M0, L0) → mw_W G ad NF TF FF M L H locs → lv_has ls 2 [] → W p l e ({ frames := 1, cells := 0, slots := 0, locals := 22 }) s m [.ref (ad 1), .int a1].toArray below meth c H locs 0 0 (MQ below (mw_Qv G ad NF TF FF (mw_eqV M0 L0)) [.ref (ad 1), .int a1].toArray s 0 0 (mw_fr G)) (F0 m 25 ls []) := by
    intro M L H locs ls hD hw hl
    unfold fX8_heed_b25 at hD
    exact mr_vret C hr hlocks hw (Option.some.inj hD) dX8_heed_25
  have hb18 : ∀ (s1 : Int32) (M : mwM) (L : mwL) (H : Heap) (locs : List Loc) (ls : Array Slot), fX8_heed_b18 fu a1 s1 M L = some (M0, L0) → mw_W G ad NF TF FF M L H locs → lv_has ls 2 [(0, .ref (ad 1))] → W p l e ({ frames := 1, cells := 0, slots := 0, locals := 22 }) s m [.ref (ad 1), .int a1].toArray below meth c H locs 0 0 (MQ below (mw_Qv G ad NF TF FF (mw_eqV M0 L0)) [.ref (ad 1), .int a1].toArray s 0 0 (mw_fr G)) (F0 m 18 ls [.int s1, .ref (ad 1)]) := by
    intro s1 M L H locs ls hD hw hl
    unfold fX8_heed_b18 at hD
    refine lv_aload_n C.1.1 C.1.2.1 dX8_heed_18 rfl (lv_at hl 0 rfl) ?_
    refine mr_getI C hw kc_8 7 (by decide) tf_1 wd_602 dX8_heed_19 (by decide) rfl ?_
    obtain ⟨M1, L2, h1, hD⟩ := g_b2 hD
    refine md_cvV (As := [.int s1, .int (M 1 7)]) (rest := []) C hw (tX8_fail l G ad fu s1 (M 1 7) M L h1) kc_8 (by decide) tf_1 wd_918 cwX8_fail ⟨Nat.le_of_ble_eq_true rfl, Nat.le_of_ble_eq_true rfl⟩ rfl hl.1 (Nat.le_of_ble_eq_true rfl) dX8_heed_22 rfl rfl ⟨Nat.zero_le _, Nat.zero_le _⟩ rfl (fun H locs hw => ?_)
    exact hb25 M1 L2 _ _ ls hD hw (lv_sub hl [] rfl)
  unfold DX8_heed at hD
  refine lv_iload_n C.1.1 C.1.2.1 dX8_heed_0 rfl (lv_at hl 1 rfl) ?_
  refine lv_if_ge (tgt := 25) C.1.1 C.1.2.1 dX8_heed_1 (by decide) (fun c3 => ?_) (fun c3 => ?_)
  · replace hD := g_pos c3 hD
    exact hb25 M L _ _ ls hD hw (lv_sub hl [] rfl)
  · replace hD := g_neg c3 hD
    refine lv_aload_n C.1.1 C.1.2.1 dX8_heed_4 rfl (lv_at hl 0 rfl) ?_
    refine lv_iload_n C.1.1 C.1.2.1 dX8_heed_5 rfl (lv_at hl 1 rfl) ?_
    refine lv_bipush (v := (-4)) C.1.1 C.1.2.1 dX8_heed_6 (by decide) ?_
    refine lv_icmp_ne (tgt := 16) C.1.1 C.1.2.1 dX8_heed_8 (by decide) (fun c4 => ?_) (fun c4 => ?_)
    · replace hD := g_neg c4 hD
      refine lv_bipush (v := 7) C.1.1 C.1.2.1 dX8_heed_16 (by decide) ?_
      exact hb18 7 M L _ _ ls hD hw (lv_sub hl [0] rfl)
    · replace hD := g_pos c4 hD
      refine lv_bipush (v := 6) C.1.1 C.1.2.1 dX8_heed_11 (by decide) ?_
      refine lv_goto (tgt := 18) C.1.1 C.1.2.1 dX8_heed_13 (by decide) ?_
      exact hb18 6 M L _ _ ls hD hw (lv_sub hl [0] rfl)

theorem dX8_readAfter_0 : decode cX8_readAfter 0 = .ok (.aload_n 0, 1) := by decide +kernel
theorem dX8_readAfter_1 : decode cX8_readAfter 1 = .ok (.iconst 0, 1) := by decide +kernel
theorem dX8_readAfter_2 : decode cX8_readAfter 2 = .ok (.iconst 2, 1) := by decide +kernel
theorem dX8_readAfter_3 : decode cX8_readAfter 3 = .ok (.invokevirtual 151, 3) := by decide +kernel
theorem dX8_readAfter_6 : decode cX8_readAfter 6 = .ok (.istore_n 1, 1) := by decide +kernel
theorem dX8_readAfter_7 : decode cX8_readAfter 7 = .ok (.aload_n 0, 1) := by decide +kernel
theorem dX8_readAfter_8 : decode cX8_readAfter 8 = .ok (.iload_n 1, 1) := by decide +kernel
theorem dX8_readAfter_9 : decode cX8_readAfter 9 = .ok (.invokestatic 172, 3) := by decide +kernel
theorem dX8_readAfter_12 : decode cX8_readAfter 12 = .ok (.iconst 4, 1) := by decide +kernel
theorem dX8_readAfter_13 : decode cX8_readAfter 13 = .ok (.invokevirtual 151, 3) := by decide +kernel
theorem dX8_readAfter_16 : decode cX8_readAfter 16 = .ok (.istore_n 2, 1) := by decide +kernel
theorem dX8_readAfter_17 : decode cX8_readAfter 17 = .ok (.aload_n 0, 1) := by decide +kernel
theorem dX8_readAfter_18 : decode cX8_readAfter 18 = .ok (.iconst 1, 1) := by decide +kernel
theorem dX8_readAfter_19 : decode cX8_readAfter 19 = .ok (.sipush 20000, 3) := by decide +kernel
theorem dX8_readAfter_22 : decode cX8_readAfter 22 = .ok (.invokevirtual 155, 3) := by decide +kernel
theorem dX8_readAfter_25 : decode cX8_readAfter 25 = .ok (.istore_n 3, 1) := by decide +kernel
theorem dX8_readAfter_26 : decode cX8_readAfter 26 = .ok (.aload_n 0, 1) := by decide +kernel
theorem dX8_readAfter_27 : decode cX8_readAfter 27 = .ok (.invokevirtual 136, 3) := by decide +kernel
theorem dX8_readAfter_30 : decode cX8_readAfter 30 = .ok (.aload_n 0, 1) := by decide +kernel
theorem dX8_readAfter_31 : decode cX8_readAfter 31 = .ok (.getfield 34, 3) := by decide +kernel
theorem dX8_readAfter_34 : decode cX8_readAfter 34 = .ok (.ifCond .ne 21, 3) := by decide +kernel
theorem dX8_readAfter_37 : decode cX8_readAfter 37 = .ok (.aload_n 0, 1) := by decide +kernel
theorem dX8_readAfter_38 : decode cX8_readAfter 38 = .ok (.aload_n 0, 1) := by decide +kernel
theorem dX8_readAfter_39 : decode cX8_readAfter 39 = .ok (.getfield 18, 3) := by decide +kernel
theorem dX8_readAfter_42 : decode cX8_readAfter 42 = .ok (.getfield 183, 3) := by decide +kernel
theorem dX8_readAfter_45 : decode cX8_readAfter 45 = .ok (.iload_n 1, 1) := by decide +kernel
theorem dX8_readAfter_46 : decode cX8_readAfter 46 = .ok (.aaload, 1) := by decide +kernel
theorem dX8_readAfter_47 : decode cX8_readAfter 47 = .ok (.iload_n 2, 1) := by decide +kernel
theorem dX8_readAfter_48 : decode cX8_readAfter 48 = .ok (.iload_n 3, 1) := by decide +kernel
theorem dX8_readAfter_49 : decode cX8_readAfter 49 = .ok (.invokevirtual 214, 3) := by decide +kernel
theorem dX8_readAfter_52 : decode cX8_readAfter 52 = .ok (.invokevirtual 190, 3) := by decide +kernel
theorem dX8_readAfter_55 : decode cX8_readAfter 55 = .ok (.return_, 1) := by decide +kernel
theorem cwX8_readAfter : mw_cwV yX8_readAfter cX8_readAfter 4 (none) 0 := ⟨⟨wd_2, wd_1047, by decide +kernel⟩, wd_1046, sl_35⟩
noncomputable def fX8_readAfter_b55 (fu : Nat) (M : mwM) (L : mwL) : Option (mwM × mwL) :=
  some (M, L)
noncomputable def DX8_readAfter (fu : Nat) (M : mwM) (L : mwL) : Option (mwM × mwL) :=
  mb3 (DX8_toldName fu 0 2 M L) (fun r3 M1 L2 => mb3 (DX8_statesOf fu r3 M1 L2) (fun r6 M4 L5 => mb3 (DX8_toldName fu r6 4 M4 L5) (fun r9 M7 L8 => mb3 (DX8_number fu 1 20000 M7 L8) (fun r12 M10 L11 => mb2 (DX8_endLine fu M10 L11) (fun M13 L14 => (if (M13 1 12) = 0 then mck r3 12 (mb3 (DX2_setTicks fu ((293 + 36 * r3.toNatClampNeg)) r9 r12 M13 L14) (fun r19 M17 L18 => mb2 (DX8_heed fu r19 M17 L18) (fun M20 L21 => fX8_readAfter_b55 fu M20 L21))) else fX8_readAfter_b55 fu M13 L14))))))
set_option maxHeartbeats 4000000 in
set_option maxRecDepth 100000 in
theorem tX8_readAfter (l : Launch) (G : mwG) (ad : Nat → Nat) (fu : Nat) (M : mwM) (L : mwL) {M0 : mwM} {L0 : mwL} (hD : DX8_readAfter fu M L = some (M0, L0)) : Met l yX8_readAfter (Cond.code yX8_readAfter cX8_readAfter 4 (none) :: GT) ({ frames := 4, cells := 0, slots := 0, locals := 87 }) (mw_Pre G ad NF TF FF M L [.ref (ad 1)]) (mw_Qv G ad NF TF FF (mw_eqV M0 L0)) 0 0 (mw_fr G) := by
  refine mw_enter (by decide) (Nat.le_of_ble_eq_true rfl) ?_
  intro p e s m below meth c ls C hr hlocks hnm hw hl
  have hl : lv_has ls 4 [(0, .ref (ad 1))] := hl
  have hb55 : ∀ (M : mwM) (L : mwL) (H : Heap) (locs : List Loc) (ls : Array Slot), fX8_readAfter_b55 fu M L = some (M0, L0) → mw_W G ad NF TF FF M L H locs → lv_has ls 4 [] → W p l e ({ frames := 4, cells := 0, slots := 0, locals := 87 }) s m [.ref (ad 1)].toArray below meth c H locs 0 0 (MQ below (mw_Qv G ad NF TF FF (mw_eqV M0 L0)) [.ref (ad 1)].toArray s 0 0 (mw_fr G)) (F0 m 55 ls []) := by
    intro M L H locs ls hD hw hl
    unfold fX8_readAfter_b55 at hD
    exact mr_vret C hr hlocks hw (Option.some.inj hD) dX8_readAfter_55
  unfold DX8_readAfter at hD
  refine lv_aload_n C.1.1 C.1.2.1 dX8_readAfter_0 rfl (lv_at hl 0 rfl) ?_
  refine lv_iconst (v := 0) C.1.1 C.1.2.1 dX8_readAfter_1 (by decide) ?_
  refine lv_iconst (v := 2) C.1.1 C.1.2.1 dX8_readAfter_2 (by decide) ?_
  obtain ⟨r3, M1, L2, h1, hD⟩ := g_b3 hD
  refine md_cvI (As := [.int 0, .int 2]) (rest := []) C hw (tX8_toldName l G ad fu 0 2 M L h1) kc_8 (by decide) tf_1 wd_942 cwX8_toldName ⟨Nat.le_of_ble_eq_true rfl, Nat.le_of_ble_eq_true rfl⟩ rfl hl.1 (Nat.le_of_ble_eq_true rfl) dX8_readAfter_3 rfl rfl ⟨Nat.zero_le _, Nat.zero_le _⟩ rfl (fun H locs hw => ?_)
  refine lv_istore_n (lv' := [(1, .int r3), (0, .ref (ad 1))]) C.1.1 C.1.2.1 dX8_readAfter_6 rfl hl (by decide) rfl (fun ls hl => ?_)
  refine lv_aload_n C.1.1 C.1.2.1 dX8_readAfter_7 rfl (lv_at hl 1 rfl) ?_
  refine lv_iload_n C.1.1 C.1.2.1 dX8_readAfter_8 rfl (lv_at hl 0 rfl) ?_
  obtain ⟨r6, M4, L5, h1, hD⟩ := g_b3 hD
  refine md_csI (As := [.int r3]) (rest := [.ref (ad 1)]) C hw (tX8_statesOf l G ad fu r3 M1 L2 h1) wd_990 cwX8_statesOf ⟨Nat.le_of_ble_eq_true rfl, Nat.le_of_ble_eq_true rfl⟩ rfl hl.1 (Nat.le_of_ble_eq_true rfl) dX8_readAfter_9 rfl rfl ⟨Nat.zero_le _, Nat.zero_le _⟩ rfl (fun H locs hw => ?_)
  refine lv_iconst (v := 4) C.1.1 C.1.2.1 dX8_readAfter_12 (by decide) ?_
  obtain ⟨r9, M7, L8, h1, hD⟩ := g_b3 hD
  refine md_cvI (As := [.int r6, .int 4]) (rest := []) C hw (tX8_toldName l G ad fu r6 4 M4 L5 h1) kc_8 (by decide) tf_1 wd_942 cwX8_toldName ⟨Nat.le_of_ble_eq_true rfl, Nat.le_of_ble_eq_true rfl⟩ rfl hl.1 (Nat.le_of_ble_eq_true rfl) dX8_readAfter_13 rfl rfl ⟨Nat.zero_le _, Nat.zero_le _⟩ rfl (fun H locs hw => ?_)
  refine lv_istore_n (lv' := [(2, .int r9), (1, .int r3), (0, .ref (ad 1))]) C.1.1 C.1.2.1 dX8_readAfter_16 rfl hl (by decide) rfl (fun ls hl => ?_)
  refine lv_aload_n C.1.1 C.1.2.1 dX8_readAfter_17 rfl (lv_at hl 2 rfl) ?_
  refine lv_iconst (v := 1) C.1.1 C.1.2.1 dX8_readAfter_18 (by decide) ?_
  refine lv_sipush (v := 20000) C.1.1 C.1.2.1 dX8_readAfter_19 (by decide) ?_
  obtain ⟨r12, M10, L11, h1, hD⟩ := g_b3 hD
  refine md_cvI (As := [.int 1, .int 20000]) (rest := []) C hw (tX8_number l G ad fu 1 20000 M7 L8 h1) kc_8 (by decide) tf_1 wd_950 cwX8_number ⟨Nat.le_of_ble_eq_true rfl, Nat.le_of_ble_eq_true rfl⟩ rfl hl.1 (Nat.le_of_ble_eq_true rfl) dX8_readAfter_22 rfl rfl ⟨Nat.zero_le _, Nat.zero_le _⟩ rfl (fun H locs hw => ?_)
  refine lv_istore_n (lv' := [(3, .int r12), (2, .int r9), (1, .int r3), (0, .ref (ad 1))]) C.1.1 C.1.2.1 dX8_readAfter_25 rfl hl (by decide) rfl (fun ls hl => ?_)
  refine lv_aload_n C.1.1 C.1.2.1 dX8_readAfter_26 rfl (lv_at hl 3 rfl) ?_
  obtain ⟨M13, L14, h1, hD⟩ := g_b2 hD
  refine md_cvV (As := []) (rest := []) C hw (tX8_endLine l G ad fu M10 L11 h1) kc_8 (by decide) tf_1 wd_930 cwX8_endLine ⟨Nat.le_of_ble_eq_true rfl, Nat.le_of_ble_eq_true rfl⟩ rfl hl.1 (Nat.le_of_ble_eq_true rfl) dX8_readAfter_27 rfl rfl ⟨Nat.zero_le _, Nat.zero_le _⟩ rfl (fun H locs hw => ?_)
  refine lv_aload_n C.1.1 C.1.2.1 dX8_readAfter_30 rfl (lv_at hl 3 rfl) ?_
  refine mr_getI C hw kc_8 12 (by decide) tf_1 wd_607 dX8_readAfter_31 (by decide) rfl ?_
  refine lv_if_ne (tgt := 55) C.1.1 C.1.2.1 dX8_readAfter_34 (by decide) (fun c15 => ?_) (fun c15 => ?_)
  · replace hD := g_neg c15 hD
    exact hb55 M13 L14 _ _ ls hD hw (lv_sub hl [] rfl)
  · replace hD := g_pos c15 hD
    refine lv_aload_n C.1.1 C.1.2.1 dX8_readAfter_37 rfl (lv_at hl 3 rfl) ?_
    refine lv_aload_n C.1.1 C.1.2.1 dX8_readAfter_38 rfl (lv_at hl 3 rfl) ?_
    refine mr_getR C hw kc_8 1 (by decide) tf_1 ff_1_1 wd_595 dX8_readAfter_39 (by decide) rfl ?_
    refine mr_getNR C hw kc_1 0 (by decide) tf_3 ff_3_0 nd_512 dX8_readAfter_42 (by decide) rfl ?_
    refine lv_iload_n C.1.1 C.1.2.1 dX8_readAfter_45 rfl (lv_at hl 2 rfl) ?_
    obtain ⟨q16, hD⟩ := g_ck hD
    refine mr_aald C hw (by decide) tf_4 (by decide) (by decide) rfl rfl q16 (fr_4 _ (g_lt q16)) dX8_readAfter_46 ?_
    refine lv_iload_n C.1.1 C.1.2.1 dX8_readAfter_47 rfl (lv_at hl 1 rfl) ?_
    refine lv_iload_n C.1.1 C.1.2.1 dX8_readAfter_48 rfl (lv_at hl 0 rfl) ?_
    obtain ⟨r19, M17, L18, h1, hD⟩ := g_b3 hD
    refine md_cvI (As := [.int r9, .int r12]) (rest := [.ref (ad 1)]) C hw (tX2_setTicks l G ad fu ((293 + 36 * r3.toNatClampNeg)) r9 r12 M13 L14 h1 (isCh_of (g_lt q16))) kc_2 (Ch_N0 (isCh_of (g_lt q16))) (Ch_T0 (isCh_of (g_lt q16))) wd_1048 cwX2_setTicks ⟨Nat.le_of_ble_eq_true rfl, Nat.le_of_ble_eq_true rfl⟩ rfl hl.1 (Nat.le_of_ble_eq_true rfl) dX8_readAfter_49 rfl rfl ⟨Nat.zero_le _, Nat.zero_le _⟩ rfl (fun H locs hw => ?_)
    obtain ⟨M20, L21, h1, hD⟩ := g_b2 hD
    refine md_cvV (As := [.int r19]) (rest := []) C hw (tX8_heed l G ad fu r19 M17 L18 h1) kc_8 (by decide) tf_1 wd_1014 cwX8_heed ⟨Nat.le_of_ble_eq_true rfl, Nat.le_of_ble_eq_true rfl⟩ rfl hl.1 (Nat.le_of_ble_eq_true rfl) dX8_readAfter_52 rfl rfl ⟨Nat.zero_le _, Nat.zero_le _⟩ rfl (fun H locs hw => ?_)
    exact hb55 M20 L21 _ _ ls hD hw (lv_sub hl [] rfl)

theorem dX8_readProtect_0 : decode cX8_readProtect 0 = .ok (.aload_n 0, 1) := by decide +kernel
theorem dX8_readProtect_1 : decode cX8_readProtect 1 = .ok (.iconst 0, 1) := by decide +kernel
theorem dX8_readProtect_2 : decode cX8_readProtect 2 = .ok (.iconst 0, 1) := by decide +kernel
theorem dX8_readProtect_3 : decode cX8_readProtect 3 = .ok (.invokevirtual 151, 3) := by decide +kernel
theorem dX8_readProtect_6 : decode cX8_readProtect 6 = .ok (.istore_n 1, 1) := by decide +kernel
theorem dX8_readProtect_7 : decode cX8_readProtect 7 = .ok (.aload_n 0, 1) := by decide +kernel
theorem dX8_readProtect_8 : decode cX8_readProtect 8 = .ok (.sipush 500, 3) := by decide +kernel
theorem dX8_readProtect_11 : decode cX8_readProtect 11 = .ok (.sipush 20000, 3) := by decide +kernel
theorem dX8_readProtect_14 : decode cX8_readProtect 14 = .ok (.invokevirtual 155, 3) := by decide +kernel
theorem dX8_readProtect_17 : decode cX8_readProtect 17 = .ok (.istore_n 2, 1) := by decide +kernel
theorem dX8_readProtect_18 : decode cX8_readProtect 18 = .ok (.aload_n 0, 1) := by decide +kernel
theorem dX8_readProtect_19 : decode cX8_readProtect 19 = .ok (.getfield 50, 3) := by decide +kernel
theorem dX8_readProtect_22 : decode cX8_readProtect 22 = .ok (.istore_n 3, 1) := by decide +kernel
theorem dX8_readProtect_23 : decode cX8_readProtect 23 = .ok (.aload_n 0, 1) := by decide +kernel
theorem dX8_readProtect_24 : decode cX8_readProtect 24 = .ok (.iconst 1, 1) := by decide +kernel
theorem dX8_readProtect_25 : decode cX8_readProtect 25 = .ok (.bipush 16, 2) := by decide +kernel
theorem dX8_readProtect_27 : decode cX8_readProtect 27 = .ok (.invokevirtual 155, 3) := by decide +kernel
theorem dX8_readProtect_30 : decode cX8_readProtect 30 = .ok (.istore 4, 2) := by decide +kernel
theorem dX8_readProtect_32 : decode cX8_readProtect 32 = .ok (.aload_n 0, 1) := by decide +kernel
theorem dX8_readProtect_33 : decode cX8_readProtect 33 = .ok (.invokevirtual 136, 3) := by decide +kernel
theorem dX8_readProtect_36 : decode cX8_readProtect 36 = .ok (.aload_n 0, 1) := by decide +kernel
theorem dX8_readProtect_37 : decode cX8_readProtect 37 = .ok (.getfield 34, 3) := by decide +kernel
theorem dX8_readProtect_40 : decode cX8_readProtect 40 = .ok (.ifCond .ne 24, 3) := by decide +kernel
theorem dX8_readProtect_43 : decode cX8_readProtect 43 = .ok (.aload_n 0, 1) := by decide +kernel
theorem dX8_readProtect_44 : decode cX8_readProtect 44 = .ok (.getfield 18, 3) := by decide +kernel
theorem dX8_readProtect_47 : decode cX8_readProtect 47 = .ok (.getfield 75, 3) := by decide +kernel
theorem dX8_readProtect_50 : decode cX8_readProtect 50 = .ok (.iload_n 1, 1) := by decide +kernel
theorem dX8_readProtect_51 : decode cX8_readProtect 51 = .ok (.iload_n 2, 1) := by decide +kernel
theorem dX8_readProtect_52 : decode cX8_readProtect 52 = .ok (.invokevirtual 246, 3) := by decide +kernel
theorem dX8_readProtect_55 : decode cX8_readProtect 55 = .ok (.ifCond .eq 9, 3) := by decide +kernel
theorem dX8_readProtect_58 : decode cX8_readProtect 58 = .ok (.aload_n 0, 1) := by decide +kernel
theorem dX8_readProtect_59 : decode cX8_readProtect 59 = .ok (.iconst 3, 1) := by decide +kernel
theorem dX8_readProtect_60 : decode cX8_readProtect 60 = .ok (.iload_n 3, 1) := by decide +kernel
theorem dX8_readProtect_61 : decode cX8_readProtect 61 = .ok (.invokevirtual 71, 3) := by decide +kernel
theorem dX8_readProtect_64 : decode cX8_readProtect 64 = .ok (.aload_n 0, 1) := by decide +kernel
theorem dX8_readProtect_65 : decode cX8_readProtect 65 = .ok (.getfield 34, 3) := by decide +kernel
theorem dX8_readProtect_68 : decode cX8_readProtect 68 = .ok (.ifCond .ne 17, 3) := by decide +kernel
theorem dX8_readProtect_71 : decode cX8_readProtect 71 = .ok (.aload_n 0, 1) := by decide +kernel
theorem dX8_readProtect_72 : decode cX8_readProtect 72 = .ok (.getfield 18, 3) := by decide +kernel
theorem dX8_readProtect_75 : decode cX8_readProtect 75 = .ok (.getfield 75, 3) := by decide +kernel
theorem dX8_readProtect_78 : decode cX8_readProtect 78 = .ok (.iload_n 1, 1) := by decide +kernel
theorem dX8_readProtect_79 : decode cX8_readProtect 79 = .ok (.iload_n 2, 1) := by decide +kernel
theorem dX8_readProtect_80 : decode cX8_readProtect 80 = .ok (.iload 4, 2) := by decide +kernel
theorem dX8_readProtect_82 : decode cX8_readProtect 82 = .ok (.invokevirtual 249, 3) := by decide +kernel
theorem dX8_readProtect_85 : decode cX8_readProtect 85 = .ok (.return_, 1) := by decide +kernel
theorem cwX8_readProtect : mw_cwV yX8_readProtect cX8_readProtect 5 (none) 0 := ⟨⟨wd_2, wd_1083, by decide +kernel⟩, wd_1082, sl_39⟩
noncomputable def fX8_readProtect_b85 (fu : Nat) (M : mwM) (L : mwL) : Option (mwM × mwL) :=
  some (M, L)
noncomputable def fX8_readProtect_b64 (fu : Nat) (v1 : Int32) (v2 : Int32) (v4 : Int32) (M : mwM) (L : mwL) : Option (mwM × mwL) :=
  (if (M 1 12) = 0 then mb2 (DX6_addKey fu v1 v2 v4 M L) (fun M2 L3 => fX8_readProtect_b85 fu M2 L3) else fX8_readProtect_b85 fu M L)
noncomputable def DX8_readProtect (fu : Nat) (M : mwM) (L : mwL) : Option (mwM × mwL) :=
  mb3 (DX8_toldName fu 0 0 M L) (fun r6 M4 L5 => mb3 (DX8_number fu 500 20000 M4 L5) (fun r9 M7 L8 => mlet (M7 1 8) (fun x10 => mb3 (DX8_number fu 1 16 M7 L8) (fun r13 M11 L12 => mb2 (DX8_endLine fu M11 L12) (fun M14 L15 => (if (M14 1 12) = 0 then mb3 (DX6_keyOf fu r6 r9 M14 L15) (fun r19 M17 L18 => (if r19 = 0 then fX8_readProtect_b64 fu r6 r9 r13 M17 L18 else mb2 (DX8_fail fu 3 x10 M17 L18) (fun M21 L22 => fX8_readProtect_b64 fu r6 r9 r13 M21 L22))) else fX8_readProtect_b64 fu r6 r9 r13 M14 L15))))))
set_option maxHeartbeats 4000000 in
set_option maxRecDepth 100000 in
theorem tX8_readProtect (l : Launch) (G : mwG) (ad : Nat → Nat) (fu : Nat) (M : mwM) (L : mwL) {M0 : mwM} {L0 : mwL} (hD : DX8_readProtect fu M L = some (M0, L0)) : Met l yX8_readProtect (Cond.code yX8_readProtect cX8_readProtect 5 (none) :: GT) ({ frames := 4, cells := 0, slots := 0, locals := 87 }) (mw_Pre G ad NF TF FF M L [.ref (ad 1)]) (mw_Qv G ad NF TF FF (mw_eqV M0 L0)) 0 0 (mw_fr G) := by
  refine mw_enter (by decide) (Nat.le_of_ble_eq_true rfl) ?_
  intro p e s m below meth c ls C hr hlocks hnm hw hl
  have hl : lv_has ls 5 [(0, .ref (ad 1))] := hl
  have hb85 : ∀ (M : mwM) (L : mwL) (H : Heap) (locs : List Loc) (ls : Array Slot), fX8_readProtect_b85 fu M L = some (M0, L0) → mw_W G ad NF TF FF M L H locs → lv_has ls 5 [] → W p l e ({ frames := 4, cells := 0, slots := 0, locals := 87 }) s m [.ref (ad 1)].toArray below meth c H locs 0 0 (MQ below (mw_Qv G ad NF TF FF (mw_eqV M0 L0)) [.ref (ad 1)].toArray s 0 0 (mw_fr G)) (F0 m 85 ls []) := by
    intro M L H locs ls hD hw hl
    unfold fX8_readProtect_b85 at hD
    exact mr_vret C hr hlocks hw (Option.some.inj hD) dX8_readProtect_85
  have hb64 : ∀ (v1 : Int32) (v2 : Int32) (v4 : Int32) (M : mwM) (L : mwL) (H : Heap) (locs : List Loc) (ls : Array Slot), fX8_readProtect_b64 fu v1 v2 v4 M L = some (M0, L0) → mw_W G ad NF TF FF M L H locs → lv_has ls 5 [(0, .ref (ad 1)), (1, .int v1), (2, .int v2), (4, .int v4)] → W p l e ({ frames := 4, cells := 0, slots := 0, locals := 87 }) s m [.ref (ad 1)].toArray below meth c H locs 0 0 (MQ below (mw_Qv G ad NF TF FF (mw_eqV M0 L0)) [.ref (ad 1)].toArray s 0 0 (mw_fr G)) (F0 m 64 ls []) := by
    intro v1 v2 v4 M L H locs ls hD hw hl
    unfold fX8_readProtect_b64 at hD
    refine lv_aload_n C.1.1 C.1.2.1 dX8_readProtect_64 rfl (lv_at hl 0 rfl) ?_
    refine mr_getI C hw kc_8 12 (by decide) tf_1 wd_607 dX8_readProtect_65 (by decide) rfl ?_
    refine lv_if_ne (tgt := 85) C.1.1 C.1.2.1 dX8_readProtect_68 (by decide) (fun c1 => ?_) (fun c1 => ?_)
    · replace hD := g_neg c1 hD
      exact hb85 M L _ _ ls hD hw (lv_sub hl [] rfl)
    · replace hD := g_pos c1 hD
      refine lv_aload_n C.1.1 C.1.2.1 dX8_readProtect_71 rfl (lv_at hl 0 rfl) ?_
      refine mr_getR C hw kc_8 1 (by decide) tf_1 ff_1_1 wd_595 dX8_readProtect_72 (by decide) rfl ?_
      refine mr_getNR C hw kc_1 3 (by decide) tf_3 ff_3_3 nd_520 dX8_readProtect_75 (by decide) rfl ?_
      refine lv_iload_n C.1.1 C.1.2.1 dX8_readProtect_78 rfl (lv_at hl 1 rfl) ?_
      refine lv_iload_n C.1.1 C.1.2.1 dX8_readProtect_79 rfl (lv_at hl 2 rfl) ?_
      refine lv_iload C.1.1 C.1.2.1 dX8_readProtect_80 (lv_at hl 3 rfl) ?_
      obtain ⟨M2, L3, h1, hD⟩ := g_b2 hD
      refine md_cvV (As := [.int v1, .int v2, .int v4]) (rest := []) C hw (tX6_addKey l G ad fu v1 v2 v4 M L h1) kc_6 (by decide) tf_61 wd_1088 cwX6_addKey ⟨Nat.le_of_ble_eq_true rfl, Nat.le_of_ble_eq_true rfl⟩ rfl hl.1 (Nat.le_of_ble_eq_true rfl) dX8_readProtect_82 rfl rfl ⟨Nat.zero_le _, Nat.zero_le _⟩ rfl (fun H locs hw => ?_)
      exact hb85 M2 L3 _ _ ls hD hw (lv_sub hl [] rfl)
  unfold DX8_readProtect at hD
  refine lv_aload_n C.1.1 C.1.2.1 dX8_readProtect_0 rfl (lv_at hl 0 rfl) ?_
  refine lv_iconst (v := 0) C.1.1 C.1.2.1 dX8_readProtect_1 (by decide) ?_
  refine lv_iconst (v := 0) C.1.1 C.1.2.1 dX8_readProtect_2 (by decide) ?_
  obtain ⟨r6, M4, L5, h1, hD⟩ := g_b3 hD
  refine md_cvI (As := [.int 0, .int 0]) (rest := []) C hw (tX8_toldName l G ad fu 0 0 M L h1) kc_8 (by decide) tf_1 wd_942 cwX8_toldName ⟨Nat.le_of_ble_eq_true rfl, Nat.le_of_ble_eq_true rfl⟩ rfl hl.1 (Nat.le_of_ble_eq_true rfl) dX8_readProtect_3 rfl rfl ⟨Nat.zero_le _, Nat.zero_le _⟩ rfl (fun H locs hw => ?_)
  refine lv_istore_n (lv' := [(1, .int r6), (0, .ref (ad 1))]) C.1.1 C.1.2.1 dX8_readProtect_6 rfl hl (by decide) rfl (fun ls hl => ?_)
  refine lv_aload_n C.1.1 C.1.2.1 dX8_readProtect_7 rfl (lv_at hl 1 rfl) ?_
  refine lv_sipush (v := 500) C.1.1 C.1.2.1 dX8_readProtect_8 (by decide) ?_
  refine lv_sipush (v := 20000) C.1.1 C.1.2.1 dX8_readProtect_11 (by decide) ?_
  obtain ⟨r9, M7, L8, h1, hD⟩ := g_b3 hD
  refine md_cvI (As := [.int 500, .int 20000]) (rest := []) C hw (tX8_number l G ad fu 500 20000 M4 L5 h1) kc_8 (by decide) tf_1 wd_950 cwX8_number ⟨Nat.le_of_ble_eq_true rfl, Nat.le_of_ble_eq_true rfl⟩ rfl hl.1 (Nat.le_of_ble_eq_true rfl) dX8_readProtect_14 rfl rfl ⟨Nat.zero_le _, Nat.zero_le _⟩ rfl (fun H locs hw => ?_)
  refine lv_istore_n (lv' := [(2, .int r9), (1, .int r6), (0, .ref (ad 1))]) C.1.1 C.1.2.1 dX8_readProtect_17 rfl hl (by decide) rfl (fun ls hl => ?_)
  refine lv_aload_n C.1.1 C.1.2.1 dX8_readProtect_18 rfl (lv_at hl 2 rfl) ?_
  refine mr_getI C hw kc_8 8 (by decide) tf_1 wd_603 dX8_readProtect_19 (by decide) rfl ?_
  obtain ⟨x10, ex10, hD⟩ := g_let hD
  refine W.eq (g2 := F0 m 22 ls (.int x10 :: [])) (by rw [ex10]) ?_
  refine lv_istore_n (lv' := [(3, .int x10), (2, .int r9), (1, .int r6), (0, .ref (ad 1))]) C.1.1 C.1.2.1 dX8_readProtect_22 rfl hl (by decide) rfl (fun ls hl => ?_)
  refine lv_aload_n C.1.1 C.1.2.1 dX8_readProtect_23 rfl (lv_at hl 3 rfl) ?_
  refine lv_iconst (v := 1) C.1.1 C.1.2.1 dX8_readProtect_24 (by decide) ?_
  refine lv_bipush (v := 16) C.1.1 C.1.2.1 dX8_readProtect_25 (by decide) ?_
  obtain ⟨r13, M11, L12, h1, hD⟩ := g_b3 hD
  refine md_cvI (As := [.int 1, .int 16]) (rest := []) C hw (tX8_number l G ad fu 1 16 M7 L8 h1) kc_8 (by decide) tf_1 wd_950 cwX8_number ⟨Nat.le_of_ble_eq_true rfl, Nat.le_of_ble_eq_true rfl⟩ rfl hl.1 (Nat.le_of_ble_eq_true rfl) dX8_readProtect_27 rfl rfl ⟨Nat.zero_le _, Nat.zero_le _⟩ rfl (fun H locs hw => ?_)
  refine lv_istore (lv' := [(4, .int r13), (3, .int x10), (2, .int r9), (1, .int r6), (0, .ref (ad 1))]) C.1.1 C.1.2.1 dX8_readProtect_30 hl (by decide) rfl (fun ls hl => ?_)
  refine lv_aload_n C.1.1 C.1.2.1 dX8_readProtect_32 rfl (lv_at hl 4 rfl) ?_
  obtain ⟨M14, L15, h1, hD⟩ := g_b2 hD
  refine md_cvV (As := []) (rest := []) C hw (tX8_endLine l G ad fu M11 L12 h1) kc_8 (by decide) tf_1 wd_930 cwX8_endLine ⟨Nat.le_of_ble_eq_true rfl, Nat.le_of_ble_eq_true rfl⟩ rfl hl.1 (Nat.le_of_ble_eq_true rfl) dX8_readProtect_33 rfl rfl ⟨Nat.zero_le _, Nat.zero_le _⟩ rfl (fun H locs hw => ?_)
  refine lv_aload_n C.1.1 C.1.2.1 dX8_readProtect_36 rfl (lv_at hl 4 rfl) ?_
  refine mr_getI C hw kc_8 12 (by decide) tf_1 wd_607 dX8_readProtect_37 (by decide) rfl ?_
  refine lv_if_ne (tgt := 64) C.1.1 C.1.2.1 dX8_readProtect_40 (by decide) (fun c16 => ?_) (fun c16 => ?_)
  · replace hD := g_neg c16 hD
    exact hb64 r6 r9 r13 M14 L15 _ _ ls hD hw (lv_sub hl [4, 3, 2, 0] rfl)
  · replace hD := g_pos c16 hD
    refine lv_aload_n C.1.1 C.1.2.1 dX8_readProtect_43 rfl (lv_at hl 4 rfl) ?_
    refine mr_getR C hw kc_8 1 (by decide) tf_1 ff_1_1 wd_595 dX8_readProtect_44 (by decide) rfl ?_
    refine mr_getNR C hw kc_1 3 (by decide) tf_3 ff_3_3 nd_520 dX8_readProtect_47 (by decide) rfl ?_
    refine lv_iload_n C.1.1 C.1.2.1 dX8_readProtect_50 rfl (lv_at hl 3 rfl) ?_
    refine lv_iload_n C.1.1 C.1.2.1 dX8_readProtect_51 rfl (lv_at hl 2 rfl) ?_
    obtain ⟨r19, M17, L18, h1, hD⟩ := g_b3 hD
    refine md_cvI (As := [.int r6, .int r9]) (rest := []) C hw (tX6_keyOf l G ad fu r6 r9 M14 L15 h1) kc_6 (by decide) tf_61 wd_1084 cwX6_keyOf ⟨Nat.le_of_ble_eq_true rfl, Nat.le_of_ble_eq_true rfl⟩ rfl hl.1 (Nat.le_of_ble_eq_true rfl) dX8_readProtect_52 rfl rfl ⟨Nat.zero_le _, Nat.zero_le _⟩ rfl (fun H locs hw => ?_)
    refine lv_if_eq (tgt := 64) C.1.1 C.1.2.1 dX8_readProtect_55 (by decide) (fun c20 => ?_) (fun c20 => ?_)
    · replace hD := g_pos c20 hD
      exact hb64 r6 r9 r13 M17 L18 _ _ ls hD hw (lv_sub hl [4, 3, 2, 0] rfl)
    · replace hD := g_neg c20 hD
      refine lv_aload_n C.1.1 C.1.2.1 dX8_readProtect_58 rfl (lv_at hl 4 rfl) ?_
      refine lv_iconst (v := 3) C.1.1 C.1.2.1 dX8_readProtect_59 (by decide) ?_
      refine lv_iload_n C.1.1 C.1.2.1 dX8_readProtect_60 rfl (lv_at hl 1 rfl) ?_
      obtain ⟨M21, L22, h1, hD⟩ := g_b2 hD
      refine md_cvV (As := [.int 3, .int x10]) (rest := []) C hw (tX8_fail l G ad fu 3 x10 M17 L18 h1) kc_8 (by decide) tf_1 wd_918 cwX8_fail ⟨Nat.le_of_ble_eq_true rfl, Nat.le_of_ble_eq_true rfl⟩ rfl hl.1 (Nat.le_of_ble_eq_true rfl) dX8_readProtect_61 rfl rfl ⟨Nat.zero_le _, Nat.zero_le _⟩ rfl (fun H locs hw => ?_)
      exact hb64 r6 r9 r13 M21 L22 _ _ ls hD hw (lv_sub hl [4, 3, 2, 0] rfl)

theorem dX8_dataOf_0 : decode cX8_dataOf 0 = .ok (.iconst 2, 1) := by decide +kernel
theorem dX8_dataOf_1 : decode cX8_dataOf 1 = .ok (.iconst 2, 1) := by decide +kernel
theorem dX8_dataOf_2 : decode cX8_dataOf 2 = .ok (.iload_n 0, 1) := by decide +kernel
theorem dX8_dataOf_3 : decode cX8_dataOf 3 = .ok (.imul, 1) := by decide +kernel
theorem dX8_dataOf_4 : decode cX8_dataOf 4 = .ok (.iadd, 1) := by decide +kernel
theorem dX8_dataOf_5 : decode cX8_dataOf 5 = .ok (.ireturn, 1) := by decide +kernel
theorem cwX8_dataOf : mw_cwS yX8_dataOf cX8_dataOf 1 ((some .int)) 1 := ⟨⟨wd_2, wd_1034, by decide +kernel⟩, wd_1033⟩
noncomputable def DX8_dataOf (fu : Nat) (a1 : Int32) (M : mwM) (L : mwL) : Option (Int32 × mwM × mwL) :=
  some (2 + (2 * a1), M, L)
set_option maxHeartbeats 4000000 in
set_option maxRecDepth 100000 in
theorem tX8_dataOf (l : Launch) (G : mwG) (ad : Nat → Nat) (fu : Nat) (a1 : Int32) (M : mwM) (L : mwL) {r0 : Int32} {M0 : mwM} {L0 : mwL} (hD : DX8_dataOf fu a1 M L = some (r0, M0, L0)) : Met l yX8_dataOf (Cond.code yX8_dataOf cX8_dataOf 1 ((some .int)) :: GT) ({ frames := 0, cells := 0, slots := 0, locals := 0 }) (mw_Pre G ad NF TF FF M L [.int a1]) (mw_Qi G ad NF TF FF (mw_eqI r0 M0 L0)) 0 0 (mw_fr G) := by
  refine mw_enter (by decide) (Nat.le_of_ble_eq_true rfl) ?_
  intro p e s m below meth c ls C hr hlocks hnm hw hl
  have hl : lv_has ls 1 [(0, .int a1)] := hl
  unfold DX8_dataOf at hD
  refine lv_iconst (v := 2) C.1.1 C.1.2.1 dX8_dataOf_0 (by decide) ?_
  refine lv_iconst (v := 2) C.1.1 C.1.2.1 dX8_dataOf_1 (by decide) ?_
  refine lv_iload_n C.1.1 C.1.2.1 dX8_dataOf_2 rfl (lv_at hl 0 rfl) ?_
  refine lv_imul C.1.1 C.1.2.1 dX8_dataOf_3 ?_
  refine lv_iadd C.1.1 C.1.2.1 dX8_dataOf_4 ?_
  exact mr_iret C hr hlocks hw rfl (Option.some.inj hD) dX8_dataOf_5

theorem dX8_refuseOwn_0 : decode cX8_refuseOwn 0 = .ok (.aload_n 0, 1) := by decide +kernel
theorem dX8_refuseOwn_1 : decode cX8_refuseOwn 1 = .ok (.getfield 34, 3) := by decide +kernel
theorem dX8_refuseOwn_4 : decode cX8_refuseOwn 4 = .ok (.ifCond .ne 31, 3) := by decide +kernel
theorem dX8_refuseOwn_7 : decode cX8_refuseOwn 7 = .ok (.aload_n 0, 1) := by decide +kernel
theorem dX8_refuseOwn_8 : decode cX8_refuseOwn 8 = .ok (.getfield 18, 3) := by decide +kernel
theorem dX8_refuseOwn_11 : decode cX8_refuseOwn 11 = .ok (.getfield 75, 3) := by decide +kernel
theorem dX8_refuseOwn_14 : decode cX8_refuseOwn 14 = .ok (.getfield 85, 3) := by decide +kernel
theorem dX8_refuseOwn_17 : decode cX8_refuseOwn 17 = .ok (.iconst 5, 1) := by decide +kernel
theorem dX8_refuseOwn_18 : decode cX8_refuseOwn 18 = .ok (.aaload, 1) := by decide +kernel
theorem dX8_refuseOwn_19 : decode cX8_refuseOwn 19 = .ok (.iload_n 1, 1) := by decide +kernel
theorem dX8_refuseOwn_20 : decode cX8_refuseOwn 20 = .ok (.iaload, 1) := by decide +kernel
theorem dX8_refuseOwn_21 : decode cX8_refuseOwn 21 = .ok (.iload_n 2, 1) := by decide +kernel
theorem dX8_refuseOwn_22 : decode cX8_refuseOwn 22 = .ok (.if_icmp .ne 13, 3) := by decide +kernel
theorem dX8_refuseOwn_25 : decode cX8_refuseOwn 25 = .ok (.aload_n 0, 1) := by decide +kernel
theorem dX8_refuseOwn_26 : decode cX8_refuseOwn 26 = .ok (.bipush 7, 2) := by decide +kernel
theorem dX8_refuseOwn_28 : decode cX8_refuseOwn 28 = .ok (.aload_n 0, 1) := by decide +kernel
theorem dX8_refuseOwn_29 : decode cX8_refuseOwn 29 = .ok (.getfield 53, 3) := by decide +kernel
theorem dX8_refuseOwn_32 : decode cX8_refuseOwn 32 = .ok (.invokevirtual 71, 3) := by decide +kernel
theorem dX8_refuseOwn_35 : decode cX8_refuseOwn 35 = .ok (.return_, 1) := by decide +kernel
theorem cwX8_refuseOwn : mw_cwV yX8_refuseOwn cX8_refuseOwn 3 (none) 2 := ⟨⟨wd_2, wd_1099, by decide +kernel⟩, wd_1098, sl_41⟩
noncomputable def fX8_refuseOwn_b35 (fu : Nat) (a1 : Int32) (a2 : Int32) (M : mwM) (L : mwL) : Option (mwM × mwL) :=
  some (M, L)
noncomputable def DX8_refuseOwn (fu : Nat) (a1 : Int32) (a2 : Int32) (M : mwM) (L : mwL) : Option (mwM × mwL) :=
  (if (M 1 12) = 0 then mck a1 40 ((if (M 68 a1.toNatClampNeg) = a2 then mb2 (DX8_fail fu 7 (M 1 7) M L) (fun M5 L6 => fX8_refuseOwn_b35 fu a1 a2 M5 L6) else fX8_refuseOwn_b35 fu a1 a2 M L)) else fX8_refuseOwn_b35 fu a1 a2 M L)
set_option maxHeartbeats 4000000 in
set_option maxRecDepth 100000 in
theorem tX8_refuseOwn (l : Launch) (G : mwG) (ad : Nat → Nat) (fu : Nat) (a1 : Int32) (a2 : Int32) (M : mwM) (L : mwL) {M0 : mwM} {L0 : mwL} (hD : DX8_refuseOwn fu a1 a2 M L = some (M0, L0)) : Met l yX8_refuseOwn (Cond.code yX8_refuseOwn cX8_refuseOwn 3 (none) :: GT) ({ frames := 1, cells := 0, slots := 0, locals := 22 }) (mw_Pre G ad NF TF FF M L [.ref (ad 1), .int a1, .int a2]) (mw_Qv G ad NF TF FF (mw_eqV M0 L0)) 0 0 (mw_fr G) := by
  refine mw_enter (by decide) (Nat.le_of_ble_eq_true rfl) ?_
  intro p e s m below meth c ls C hr hlocks hnm hw hl
  have hl : lv_has ls 3 [(0, .ref (ad 1)), (1, .int a1), (2, .int a2)] := hl
  have hb35 : ∀ (M : mwM) (L : mwL) (H : Heap) (locs : List Loc) (ls : Array Slot), fX8_refuseOwn_b35 fu a1 a2 M L = some (M0, L0) → mw_W G ad NF TF FF M L H locs → lv_has ls 3 [] → W p l e ({ frames := 1, cells := 0, slots := 0, locals := 22 }) s m [.ref (ad 1), .int a1, .int a2].toArray below meth c H locs 0 0 (MQ below (mw_Qv G ad NF TF FF (mw_eqV M0 L0)) [.ref (ad 1), .int a1, .int a2].toArray s 0 0 (mw_fr G)) (F0 m 35 ls []) := by
    intro M L H locs ls hD hw hl
    unfold fX8_refuseOwn_b35 at hD
    exact mr_vret C hr hlocks hw (Option.some.inj hD) dX8_refuseOwn_35
  unfold DX8_refuseOwn at hD
  refine lv_aload_n C.1.1 C.1.2.1 dX8_refuseOwn_0 rfl (lv_at hl 0 rfl) ?_
  refine mr_getI C hw kc_8 12 (by decide) tf_1 wd_607 dX8_refuseOwn_1 (by decide) rfl ?_
  refine lv_if_ne (tgt := 35) C.1.1 C.1.2.1 dX8_refuseOwn_4 (by decide) (fun c1 => ?_) (fun c1 => ?_)
  · replace hD := g_neg c1 hD
    exact hb35 M L _ _ ls hD hw (lv_sub hl [] rfl)
  · replace hD := g_pos c1 hD
    refine lv_aload_n C.1.1 C.1.2.1 dX8_refuseOwn_7 rfl (lv_at hl 0 rfl) ?_
    refine mr_getR C hw kc_8 1 (by decide) tf_1 ff_1_1 wd_595 dX8_refuseOwn_8 (by decide) rfl ?_
    refine mr_getNR C hw kc_1 3 (by decide) tf_3 ff_3_3 nd_520 dX8_refuseOwn_11 (by decide) rfl ?_
    refine mr_getNR C hw kc_6 0 (by decide) tf_61 ff_61_0 nd_229 dX8_refuseOwn_14 (by decide) rfl ?_
    refine lv_iconst (v := 5) C.1.1 C.1.2.1 dX8_refuseOwn_17 (by decide) ?_
    refine mr_aald C hw (by decide) tf_62 (by decide) (by decide) rfl rfl (show vp_in 5 10 from by unfold vp_in; decide) ff_62_5 dX8_refuseOwn_18 ?_
    refine lv_iload_n C.1.1 C.1.2.1 dX8_refuseOwn_19 rfl (lv_at hl 1 rfl) ?_
    obtain ⟨q3, hD⟩ := g_ck hD
    refine mr_iald C hw (by decide) tf_68 q3 dX8_refuseOwn_20 ?_
    refine lv_iload_n C.1.1 C.1.2.1 dX8_refuseOwn_21 rfl (lv_at hl 2 rfl) ?_
    refine lv_icmp_ne (tgt := 35) C.1.1 C.1.2.1 dX8_refuseOwn_22 (by decide) (fun c4 => ?_) (fun c4 => ?_)
    · replace hD := g_neg c4 hD
      exact hb35 M L _ _ ls hD hw (lv_sub hl [] rfl)
    · replace hD := g_pos c4 hD
      refine lv_aload_n C.1.1 C.1.2.1 dX8_refuseOwn_25 rfl (lv_at hl 0 rfl) ?_
      refine lv_bipush (v := 7) C.1.1 C.1.2.1 dX8_refuseOwn_26 (by decide) ?_
      refine lv_aload_n C.1.1 C.1.2.1 dX8_refuseOwn_28 rfl (lv_at hl 0 rfl) ?_
      refine mr_getI C hw kc_8 7 (by decide) tf_1 wd_602 dX8_refuseOwn_29 (by decide) rfl ?_
      obtain ⟨M5, L6, h1, hD⟩ := g_b2 hD
      refine md_cvV (As := [.int 7, .int (M 1 7)]) (rest := []) C hw (tX8_fail l G ad fu 7 (M 1 7) M L h1) kc_8 (by decide) tf_1 wd_918 cwX8_fail ⟨Nat.le_of_ble_eq_true rfl, Nat.le_of_ble_eq_true rfl⟩ rfl hl.1 (Nat.le_of_ble_eq_true rfl) dX8_refuseOwn_32 rfl rfl ⟨Nat.zero_le _, Nat.zero_le _⟩ rfl (fun H locs hw => ?_)
      exact hb35 M5 L6 _ _ ls hD hw (lv_sub hl [] rfl)

theorem dX8_readRead_0 : decode cX8_readRead 0 = .ok (.aload_n 0, 1) := by decide +kernel
theorem dX8_readRead_1 : decode cX8_readRead 1 = .ok (.iconst 0, 1) := by decide +kernel
theorem dX8_readRead_2 : decode cX8_readRead 2 = .ok (.iconst 3, 1) := by decide +kernel
theorem dX8_readRead_3 : decode cX8_readRead 3 = .ok (.invokevirtual 151, 3) := by decide +kernel
theorem dX8_readRead_6 : decode cX8_readRead 6 = .ok (.istore_n 1, 1) := by decide +kernel
theorem dX8_readRead_7 : decode cX8_readRead 7 = .ok (.aload_n 0, 1) := by decide +kernel
theorem dX8_readRead_8 : decode cX8_readRead 8 = .ok (.iconst 0, 1) := by decide +kernel
theorem dX8_readRead_9 : decode cX8_readRead 9 = .ok (.iconst 2, 1) := by decide +kernel
theorem dX8_readRead_10 : decode cX8_readRead 10 = .ok (.invokevirtual 151, 3) := by decide +kernel
theorem dX8_readRead_13 : decode cX8_readRead 13 = .ok (.istore_n 2, 1) := by decide +kernel
theorem dX8_readRead_14 : decode cX8_readRead 14 = .ok (.aload_n 0, 1) := by decide +kernel
theorem dX8_readRead_15 : decode cX8_readRead 15 = .ok (.iload_n 2, 1) := by decide +kernel
theorem dX8_readRead_16 : decode cX8_readRead 16 = .ok (.invokestatic 202, 3) := by decide +kernel
theorem dX8_readRead_19 : decode cX8_readRead 19 = .ok (.iconst 5, 1) := by decide +kernel
theorem dX8_readRead_20 : decode cX8_readRead 20 = .ok (.invokevirtual 151, 3) := by decide +kernel
theorem dX8_readRead_23 : decode cX8_readRead 23 = .ok (.istore_n 3, 1) := by decide +kernel
theorem dX8_readRead_24 : decode cX8_readRead 24 = .ok (.aload_n 0, 1) := by decide +kernel
theorem dX8_readRead_25 : decode cX8_readRead 25 = .ok (.iconst 0, 1) := by decide +kernel
theorem dX8_readRead_26 : decode cX8_readRead 26 = .ok (.bipush 99, 2) := by decide +kernel
theorem dX8_readRead_28 : decode cX8_readRead 28 = .ok (.invokevirtual 155, 3) := by decide +kernel
theorem dX8_readRead_31 : decode cX8_readRead 31 = .ok (.istore 4, 2) := by decide +kernel
theorem dX8_readRead_33 : decode cX8_readRead 33 = .ok (.aload_n 0, 1) := by decide +kernel
theorem dX8_readRead_34 : decode cX8_readRead 34 = .ok (.invokevirtual 136, 3) := by decide +kernel
theorem dX8_readRead_37 : decode cX8_readRead 37 = .ok (.aload_n 0, 1) := by decide +kernel
theorem dX8_readRead_38 : decode cX8_readRead 38 = .ok (.iload_n 1, 1) := by decide +kernel
theorem dX8_readRead_39 : decode cX8_readRead 39 = .ok (.aload_n 0, 1) := by decide +kernel
theorem dX8_readRead_40 : decode cX8_readRead 40 = .ok (.getfield 18, 3) := by decide +kernel
theorem dX8_readRead_43 : decode cX8_readRead 43 = .ok (.getfield 183, 3) := by decide +kernel
theorem dX8_readRead_46 : decode cX8_readRead 46 = .ok (.iload_n 2, 1) := by decide +kernel
theorem dX8_readRead_47 : decode cX8_readRead 47 = .ok (.aaload, 1) := by decide +kernel
theorem dX8_readRead_48 : decode cX8_readRead 48 = .ok (.getfield 239, 3) := by decide +kernel
theorem dX8_readRead_51 : decode cX8_readRead 51 = .ok (.invokevirtual 252, 3) := by decide +kernel
theorem dX8_readRead_54 : decode cX8_readRead 54 = .ok (.aload_n 0, 1) := by decide +kernel
theorem dX8_readRead_55 : decode cX8_readRead 55 = .ok (.getfield 34, 3) := by decide +kernel
theorem dX8_readRead_58 : decode cX8_readRead 58 = .ok (.ifCond .ne 19, 3) := by decide +kernel
theorem dX8_readRead_61 : decode cX8_readRead 61 = .ok (.aload_n 0, 1) := by decide +kernel
theorem dX8_readRead_62 : decode cX8_readRead 62 = .ok (.aload_n 0, 1) := by decide +kernel
theorem dX8_readRead_63 : decode cX8_readRead 63 = .ok (.getfield 18, 3) := by decide +kernel
theorem dX8_readRead_66 : decode cX8_readRead 66 = .ok (.iload_n 1, 1) := by decide +kernel
theorem dX8_readRead_67 : decode cX8_readRead 67 = .ok (.iload_n 2, 1) := by decide +kernel
theorem dX8_readRead_68 : decode cX8_readRead 68 = .ok (.iload_n 3, 1) := by decide +kernel
theorem dX8_readRead_69 : decode cX8_readRead 69 = .ok (.iload 4, 2) := by decide +kernel
theorem dX8_readRead_71 : decode cX8_readRead 71 = .ok (.invokevirtual 255, 3) := by decide +kernel
theorem dX8_readRead_74 : decode cX8_readRead 74 = .ok (.invokevirtual 190, 3) := by decide +kernel
theorem dX8_readRead_77 : decode cX8_readRead 77 = .ok (.return_, 1) := by decide +kernel
theorem cwX8_readRead : mw_cwV yX8_readRead cX8_readRead 5 (none) 0 := ⟨⟨wd_2, wd_1095, by decide +kernel⟩, wd_1094, sl_40⟩
noncomputable def fX8_readRead_b77 (fu : Nat) (M : mwM) (L : mwL) : Option (mwM × mwL) :=
  some (M, L)
noncomputable def DX8_readRead (fu : Nat) (M : mwM) (L : mwL) : Option (mwM × mwL) :=
  mb3 (DX8_toldName fu 0 3 M L) (fun r3 M1 L2 => mb3 (DX8_toldName fu 0 2 M1 L2) (fun r6 M4 L5 => mb3 (DX8_dataOf fu r6 M4 L5) (fun r9 M7 L8 => mb3 (DX8_toldName fu r9 5 M7 L8) (fun r12 M10 L11 => mb3 (DX8_number fu 0 99 M10 L11) (fun r15 M13 L14 => mb2 (DX8_endLine fu M13 L14) (fun M16 L17 => mck r6 12 (mb2 (DX8_refuseOwn fu r3 (M16 ((293 + 36 * r6.toNatClampNeg) + 0) 5) M16 L17) (fun M19 L20 => (if (M19 1 12) = 0 then mb3 (DX1_addRead fu r3 r6 r12 r15 M19 L20) (fun r24 M22 L23 => mb2 (DX8_heed fu r24 M22 L23) (fun M25 L26 => fX8_readRead_b77 fu M25 L26)) else fX8_readRead_b77 fu M19 L20)))))))))
set_option maxHeartbeats 4000000 in
set_option maxRecDepth 100000 in
theorem tX8_readRead (l : Launch) (G : mwG) (ad : Nat → Nat) (fu : Nat) (M : mwM) (L : mwL) {M0 : mwM} {L0 : mwL} (hD : DX8_readRead fu M L = some (M0, L0)) : Met l yX8_readRead (Cond.code yX8_readRead cX8_readRead 5 (none) :: GT) ({ frames := 4, cells := 0, slots := 0, locals := 87 }) (mw_Pre G ad NF TF FF M L [.ref (ad 1)]) (mw_Qv G ad NF TF FF (mw_eqV M0 L0)) 0 0 (mw_fr G) := by
  refine mw_enter (by decide) (Nat.le_of_ble_eq_true rfl) ?_
  intro p e s m below meth c ls C hr hlocks hnm hw hl
  have hl : lv_has ls 5 [(0, .ref (ad 1))] := hl
  have hb77 : ∀ (M : mwM) (L : mwL) (H : Heap) (locs : List Loc) (ls : Array Slot), fX8_readRead_b77 fu M L = some (M0, L0) → mw_W G ad NF TF FF M L H locs → lv_has ls 5 [] → W p l e ({ frames := 4, cells := 0, slots := 0, locals := 87 }) s m [.ref (ad 1)].toArray below meth c H locs 0 0 (MQ below (mw_Qv G ad NF TF FF (mw_eqV M0 L0)) [.ref (ad 1)].toArray s 0 0 (mw_fr G)) (F0 m 77 ls []) := by
    intro M L H locs ls hD hw hl
    unfold fX8_readRead_b77 at hD
    exact mr_vret C hr hlocks hw (Option.some.inj hD) dX8_readRead_77
  unfold DX8_readRead at hD
  refine lv_aload_n C.1.1 C.1.2.1 dX8_readRead_0 rfl (lv_at hl 0 rfl) ?_
  refine lv_iconst (v := 0) C.1.1 C.1.2.1 dX8_readRead_1 (by decide) ?_
  refine lv_iconst (v := 3) C.1.1 C.1.2.1 dX8_readRead_2 (by decide) ?_
  obtain ⟨r3, M1, L2, h1, hD⟩ := g_b3 hD
  refine md_cvI (As := [.int 0, .int 3]) (rest := []) C hw (tX8_toldName l G ad fu 0 3 M L h1) kc_8 (by decide) tf_1 wd_942 cwX8_toldName ⟨Nat.le_of_ble_eq_true rfl, Nat.le_of_ble_eq_true rfl⟩ rfl hl.1 (Nat.le_of_ble_eq_true rfl) dX8_readRead_3 rfl rfl ⟨Nat.zero_le _, Nat.zero_le _⟩ rfl (fun H locs hw => ?_)
  refine lv_istore_n (lv' := [(1, .int r3), (0, .ref (ad 1))]) C.1.1 C.1.2.1 dX8_readRead_6 rfl hl (by decide) rfl (fun ls hl => ?_)
  refine lv_aload_n C.1.1 C.1.2.1 dX8_readRead_7 rfl (lv_at hl 1 rfl) ?_
  refine lv_iconst (v := 0) C.1.1 C.1.2.1 dX8_readRead_8 (by decide) ?_
  refine lv_iconst (v := 2) C.1.1 C.1.2.1 dX8_readRead_9 (by decide) ?_
  obtain ⟨r6, M4, L5, h1, hD⟩ := g_b3 hD
  refine md_cvI (As := [.int 0, .int 2]) (rest := []) C hw (tX8_toldName l G ad fu 0 2 M1 L2 h1) kc_8 (by decide) tf_1 wd_942 cwX8_toldName ⟨Nat.le_of_ble_eq_true rfl, Nat.le_of_ble_eq_true rfl⟩ rfl hl.1 (Nat.le_of_ble_eq_true rfl) dX8_readRead_10 rfl rfl ⟨Nat.zero_le _, Nat.zero_le _⟩ rfl (fun H locs hw => ?_)
  refine lv_istore_n (lv' := [(2, .int r6), (1, .int r3), (0, .ref (ad 1))]) C.1.1 C.1.2.1 dX8_readRead_13 rfl hl (by decide) rfl (fun ls hl => ?_)
  refine lv_aload_n C.1.1 C.1.2.1 dX8_readRead_14 rfl (lv_at hl 2 rfl) ?_
  refine lv_iload_n C.1.1 C.1.2.1 dX8_readRead_15 rfl (lv_at hl 0 rfl) ?_
  obtain ⟨r9, M7, L8, h1, hD⟩ := g_b3 hD
  refine md_csI (As := [.int r6]) (rest := [.ref (ad 1)]) C hw (tX8_dataOf l G ad fu r6 M4 L5 h1) wd_1032 cwX8_dataOf ⟨Nat.le_of_ble_eq_true rfl, Nat.le_of_ble_eq_true rfl⟩ rfl hl.1 (Nat.le_of_ble_eq_true rfl) dX8_readRead_16 rfl rfl ⟨Nat.zero_le _, Nat.zero_le _⟩ rfl (fun H locs hw => ?_)
  refine lv_iconst (v := 5) C.1.1 C.1.2.1 dX8_readRead_19 (by decide) ?_
  obtain ⟨r12, M10, L11, h1, hD⟩ := g_b3 hD
  refine md_cvI (As := [.int r9, .int 5]) (rest := []) C hw (tX8_toldName l G ad fu r9 5 M7 L8 h1) kc_8 (by decide) tf_1 wd_942 cwX8_toldName ⟨Nat.le_of_ble_eq_true rfl, Nat.le_of_ble_eq_true rfl⟩ rfl hl.1 (Nat.le_of_ble_eq_true rfl) dX8_readRead_20 rfl rfl ⟨Nat.zero_le _, Nat.zero_le _⟩ rfl (fun H locs hw => ?_)
  refine lv_istore_n (lv' := [(3, .int r12), (2, .int r6), (1, .int r3), (0, .ref (ad 1))]) C.1.1 C.1.2.1 dX8_readRead_23 rfl hl (by decide) rfl (fun ls hl => ?_)
  refine lv_aload_n C.1.1 C.1.2.1 dX8_readRead_24 rfl (lv_at hl 3 rfl) ?_
  refine lv_iconst (v := 0) C.1.1 C.1.2.1 dX8_readRead_25 (by decide) ?_
  refine lv_bipush (v := 99) C.1.1 C.1.2.1 dX8_readRead_26 (by decide) ?_
  obtain ⟨r15, M13, L14, h1, hD⟩ := g_b3 hD
  refine md_cvI (As := [.int 0, .int 99]) (rest := []) C hw (tX8_number l G ad fu 0 99 M10 L11 h1) kc_8 (by decide) tf_1 wd_950 cwX8_number ⟨Nat.le_of_ble_eq_true rfl, Nat.le_of_ble_eq_true rfl⟩ rfl hl.1 (Nat.le_of_ble_eq_true rfl) dX8_readRead_28 rfl rfl ⟨Nat.zero_le _, Nat.zero_le _⟩ rfl (fun H locs hw => ?_)
  refine lv_istore (lv' := [(4, .int r15), (3, .int r12), (2, .int r6), (1, .int r3), (0, .ref (ad 1))]) C.1.1 C.1.2.1 dX8_readRead_31 hl (by decide) rfl (fun ls hl => ?_)
  refine lv_aload_n C.1.1 C.1.2.1 dX8_readRead_33 rfl (lv_at hl 4 rfl) ?_
  obtain ⟨M16, L17, h1, hD⟩ := g_b2 hD
  refine md_cvV (As := []) (rest := []) C hw (tX8_endLine l G ad fu M13 L14 h1) kc_8 (by decide) tf_1 wd_930 cwX8_endLine ⟨Nat.le_of_ble_eq_true rfl, Nat.le_of_ble_eq_true rfl⟩ rfl hl.1 (Nat.le_of_ble_eq_true rfl) dX8_readRead_34 rfl rfl ⟨Nat.zero_le _, Nat.zero_le _⟩ rfl (fun H locs hw => ?_)
  refine lv_aload_n C.1.1 C.1.2.1 dX8_readRead_37 rfl (lv_at hl 4 rfl) ?_
  refine lv_iload_n C.1.1 C.1.2.1 dX8_readRead_38 rfl (lv_at hl 3 rfl) ?_
  refine lv_aload_n C.1.1 C.1.2.1 dX8_readRead_39 rfl (lv_at hl 4 rfl) ?_
  refine mr_getR C hw kc_8 1 (by decide) tf_1 ff_1_1 wd_595 dX8_readRead_40 (by decide) rfl ?_
  refine mr_getNR C hw kc_1 0 (by decide) tf_3 ff_3_0 nd_512 dX8_readRead_43 (by decide) rfl ?_
  refine lv_iload_n C.1.1 C.1.2.1 dX8_readRead_46 rfl (lv_at hl 2 rfl) ?_
  obtain ⟨q18, hD⟩ := g_ck hD
  refine mr_aald C hw (by decide) tf_4 (by decide) (by decide) rfl rfl q18 (fr_4 _ (g_lt q18)) dX8_readRead_47 ?_
  refine mr_getNI C hw kc_2 5 (Ch_N0 (isCh_of (g_lt q18))) (Ch_T0 (isCh_of (g_lt q18))) nd_456 dX8_readRead_48 (by decide) rfl ?_
  obtain ⟨M19, L20, h1, hD⟩ := g_b2 hD
  refine md_cvV (As := [.int r3, .int (M16 ((293 + 36 * r6.toNatClampNeg) + 0) 5)]) (rest := []) C hw (tX8_refuseOwn l G ad fu r3 (M16 ((293 + 36 * r6.toNatClampNeg) + 0) 5) M16 L17 h1) kc_8 (by decide) tf_1 wd_1096 cwX8_refuseOwn ⟨Nat.le_of_ble_eq_true rfl, Nat.le_of_ble_eq_true rfl⟩ rfl hl.1 (Nat.le_of_ble_eq_true rfl) dX8_readRead_51 rfl rfl ⟨Nat.zero_le _, Nat.zero_le _⟩ rfl (fun H locs hw => ?_)
  refine lv_aload_n C.1.1 C.1.2.1 dX8_readRead_54 rfl (lv_at hl 4 rfl) ?_
  refine mr_getI C hw kc_8 12 (by decide) tf_1 wd_607 dX8_readRead_55 (by decide) rfl ?_
  refine lv_if_ne (tgt := 77) C.1.1 C.1.2.1 dX8_readRead_58 (by decide) (fun c21 => ?_) (fun c21 => ?_)
  · replace hD := g_neg c21 hD
    exact hb77 M19 L20 _ _ ls hD hw (lv_sub hl [] rfl)
  · replace hD := g_pos c21 hD
    refine lv_aload_n C.1.1 C.1.2.1 dX8_readRead_61 rfl (lv_at hl 4 rfl) ?_
    refine lv_aload_n C.1.1 C.1.2.1 dX8_readRead_62 rfl (lv_at hl 4 rfl) ?_
    refine mr_getR C hw kc_8 1 (by decide) tf_1 ff_1_1 wd_595 dX8_readRead_63 (by decide) rfl ?_
    refine lv_iload_n C.1.1 C.1.2.1 dX8_readRead_66 rfl (lv_at hl 3 rfl) ?_
    refine lv_iload_n C.1.1 C.1.2.1 dX8_readRead_67 rfl (lv_at hl 2 rfl) ?_
    refine lv_iload_n C.1.1 C.1.2.1 dX8_readRead_68 rfl (lv_at hl 1 rfl) ?_
    refine lv_iload C.1.1 C.1.2.1 dX8_readRead_69 (lv_at hl 0 rfl) ?_
    obtain ⟨r24, M22, L23, h1, hD⟩ := g_b3 hD
    refine md_cvI (As := [.int r3, .int r6, .int r12, .int r15]) (rest := [.ref (ad 1)]) C hw (tX1_addRead l G ad fu r3 r6 r12 r15 M19 L20 h1) kc_1 (by decide) tf_3 wd_1100 cwX1_addRead ⟨Nat.le_of_ble_eq_true rfl, Nat.le_of_ble_eq_true rfl⟩ rfl hl.1 (Nat.le_of_ble_eq_true rfl) dX8_readRead_71 rfl rfl ⟨Nat.zero_le _, Nat.zero_le _⟩ rfl (fun H locs hw => ?_)
    obtain ⟨M25, L26, h1, hD⟩ := g_b2 hD
    refine md_cvV (As := [.int r24]) (rest := []) C hw (tX8_heed l G ad fu r24 M22 L23 h1) kc_8 (by decide) tf_1 wd_1014 cwX8_heed ⟨Nat.le_of_ble_eq_true rfl, Nat.le_of_ble_eq_true rfl⟩ rfl hl.1 (Nat.le_of_ble_eq_true rfl) dX8_readRead_74 rfl rfl ⟨Nat.zero_le _, Nat.zero_le _⟩ rfl (fun H locs hw => ?_)
    exact hb77 M25 L26 _ _ ls hD hw (lv_sub hl [] rfl)

theorem dX8_readWatch_0 : decode cX8_readWatch 0 = .ok (.aload_n 0, 1) := by decide +kernel
theorem dX8_readWatch_1 : decode cX8_readWatch 1 = .ok (.iconst 0, 1) := by decide +kernel
theorem dX8_readWatch_2 : decode cX8_readWatch 2 = .ok (.iconst 3, 1) := by decide +kernel
theorem dX8_readWatch_3 : decode cX8_readWatch 3 = .ok (.invokevirtual 151, 3) := by decide +kernel
theorem dX8_readWatch_6 : decode cX8_readWatch 6 = .ok (.istore_n 1, 1) := by decide +kernel
theorem dX8_readWatch_7 : decode cX8_readWatch 7 = .ok (.aload_n 0, 1) := by decide +kernel
theorem dX8_readWatch_8 : decode cX8_readWatch 8 = .ok (.iconst 0, 1) := by decide +kernel
theorem dX8_readWatch_9 : decode cX8_readWatch 9 = .ok (.iconst 0, 1) := by decide +kernel
theorem dX8_readWatch_10 : decode cX8_readWatch 10 = .ok (.invokevirtual 151, 3) := by decide +kernel
theorem dX8_readWatch_13 : decode cX8_readWatch 13 = .ok (.istore_n 2, 1) := by decide +kernel
theorem dX8_readWatch_14 : decode cX8_readWatch 14 = .ok (.aload_n 0, 1) := by decide +kernel
theorem dX8_readWatch_15 : decode cX8_readWatch 15 = .ok (.iconst 1, 1) := by decide +kernel
theorem dX8_readWatch_16 : decode cX8_readWatch 16 = .ok (.sipush 255, 3) := by decide +kernel
theorem dX8_readWatch_19 : decode cX8_readWatch 19 = .ok (.invokevirtual 155, 3) := by decide +kernel
theorem dX8_readWatch_22 : decode cX8_readWatch 22 = .ok (.istore_n 3, 1) := by decide +kernel
theorem dX8_readWatch_23 : decode cX8_readWatch 23 = .ok (.aload_n 0, 1) := by decide +kernel
theorem dX8_readWatch_24 : decode cX8_readWatch 24 = .ok (.invokevirtual 136, 3) := by decide +kernel
theorem dX8_readWatch_27 : decode cX8_readWatch 27 = .ok (.aload_n 0, 1) := by decide +kernel
theorem dX8_readWatch_28 : decode cX8_readWatch 28 = .ok (.iload_n 1, 1) := by decide +kernel
theorem dX8_readWatch_29 : decode cX8_readWatch 29 = .ok (.iload_n 2, 1) := by decide +kernel
theorem dX8_readWatch_30 : decode cX8_readWatch 30 = .ok (.invokevirtual 252, 3) := by decide +kernel
theorem dX8_readWatch_33 : decode cX8_readWatch 33 = .ok (.aload_n 0, 1) := by decide +kernel
theorem dX8_readWatch_34 : decode cX8_readWatch 34 = .ok (.getfield 34, 3) := by decide +kernel
theorem dX8_readWatch_37 : decode cX8_readWatch 37 = .ok (.ifCond .ne 40, 3) := by decide +kernel
theorem dX8_readWatch_40 : decode cX8_readWatch 40 = .ok (.aload_n 0, 1) := by decide +kernel
theorem dX8_readWatch_41 : decode cX8_readWatch 41 = .ok (.getfield 18, 3) := by decide +kernel
theorem dX8_readWatch_44 : decode cX8_readWatch 44 = .ok (.getfield 75, 3) := by decide +kernel
theorem dX8_readWatch_47 : decode cX8_readWatch 47 = .ok (.getfield 85, 3) := by decide +kernel
theorem dX8_readWatch_50 : decode cX8_readWatch 50 = .ok (.iconst 3, 1) := by decide +kernel
theorem dX8_readWatch_51 : decode cX8_readWatch 51 = .ok (.aaload, 1) := by decide +kernel
theorem dX8_readWatch_52 : decode cX8_readWatch 52 = .ok (.iload_n 1, 1) := by decide +kernel
theorem dX8_readWatch_53 : decode cX8_readWatch 53 = .ok (.iaload, 1) := by decide +kernel
theorem dX8_readWatch_54 : decode cX8_readWatch 54 = .ok (.istore 4, 2) := by decide +kernel
theorem dX8_readWatch_56 : decode cX8_readWatch 56 = .ok (.aload_n 0, 1) := by decide +kernel
theorem dX8_readWatch_57 : decode cX8_readWatch 57 = .ok (.aload_n 0, 1) := by decide +kernel
theorem dX8_readWatch_58 : decode cX8_readWatch 58 = .ok (.getfield 18, 3) := by decide +kernel
theorem dX8_readWatch_61 : decode cX8_readWatch 61 = .ok (.getfield 258, 3) := by decide +kernel
theorem dX8_readWatch_64 : decode cX8_readWatch 64 = .ok (.iload_n 1, 1) := by decide +kernel
theorem dX8_readWatch_65 : decode cX8_readWatch 65 = .ok (.iload_n 2, 1) := by decide +kernel
theorem dX8_readWatch_66 : decode cX8_readWatch 66 = .ok (.iload_n 3, 1) := by decide +kernel
theorem dX8_readWatch_67 : decode cX8_readWatch 67 = .ok (.iconst 3, 1) := by decide +kernel
theorem dX8_readWatch_68 : decode cX8_readWatch 68 = .ok (.iload 4, 2) := by decide +kernel
theorem dX8_readWatch_70 : decode cX8_readWatch 70 = .ok (.imul, 1) := by decide +kernel
theorem dX8_readWatch_71 : decode cX8_readWatch 71 = .ok (.invokevirtual 262, 3) := by decide +kernel
theorem dX8_readWatch_74 : decode cX8_readWatch 74 = .ok (.invokevirtual 190, 3) := by decide +kernel
theorem dX8_readWatch_77 : decode cX8_readWatch 77 = .ok (.return_, 1) := by decide +kernel
theorem cwX8_readWatch : mw_cwV yX8_readWatch cX8_readWatch 5 (none) 0 := ⟨⟨wd_2, wd_1107, by decide +kernel⟩, wd_1106, sl_42⟩
noncomputable def fX8_readWatch_b77 (fu : Nat) (M : mwM) (L : mwL) : Option (mwM × mwL) :=
  some (M, L)
noncomputable def DX8_readWatch (fu : Nat) (M : mwM) (L : mwL) : Option (mwM × mwL) :=
  mb3 (DX8_toldName fu 0 3 M L) (fun r3 M1 L2 => mb3 (DX8_toldName fu 0 0 M1 L2) (fun r6 M4 L5 => mb3 (DX8_number fu 1 255 M4 L5) (fun r9 M7 L8 => mb2 (DX8_endLine fu M7 L8) (fun M10 L11 => mb2 (DX8_refuseOwn fu r3 r6 M10 L11) (fun M12 L13 => (if (M12 1 12) = 0 then mck r3 40 (mlet (M12 66 r3.toNatClampNeg) (fun x17 => mb3 (DX10_addWatch fu r3 r6 r9 (3 * x17) M12 L13) (fun r20 M18 L19 => mb2 (DX8_heed fu r20 M18 L19) (fun M21 L22 => fX8_readWatch_b77 fu M21 L22)))) else fX8_readWatch_b77 fu M12 L13))))))
set_option maxHeartbeats 4000000 in
set_option maxRecDepth 100000 in
theorem tX8_readWatch (l : Launch) (G : mwG) (ad : Nat → Nat) (fu : Nat) (M : mwM) (L : mwL) {M0 : mwM} {L0 : mwL} (hD : DX8_readWatch fu M L = some (M0, L0)) : Met l yX8_readWatch (Cond.code yX8_readWatch cX8_readWatch 5 (none) :: GT) ({ frames := 4, cells := 0, slots := 0, locals := 87 }) (mw_Pre G ad NF TF FF M L [.ref (ad 1)]) (mw_Qv G ad NF TF FF (mw_eqV M0 L0)) 0 0 (mw_fr G) := by
  refine mw_enter (by decide) (Nat.le_of_ble_eq_true rfl) ?_
  intro p e s m below meth c ls C hr hlocks hnm hw hl
  have hl : lv_has ls 5 [(0, .ref (ad 1))] := hl
  have hb77 : ∀ (M : mwM) (L : mwL) (H : Heap) (locs : List Loc) (ls : Array Slot), fX8_readWatch_b77 fu M L = some (M0, L0) → mw_W G ad NF TF FF M L H locs → lv_has ls 5 [] → W p l e ({ frames := 4, cells := 0, slots := 0, locals := 87 }) s m [.ref (ad 1)].toArray below meth c H locs 0 0 (MQ below (mw_Qv G ad NF TF FF (mw_eqV M0 L0)) [.ref (ad 1)].toArray s 0 0 (mw_fr G)) (F0 m 77 ls []) := by
    intro M L H locs ls hD hw hl
    unfold fX8_readWatch_b77 at hD
    exact mr_vret C hr hlocks hw (Option.some.inj hD) dX8_readWatch_77
  unfold DX8_readWatch at hD
  refine lv_aload_n C.1.1 C.1.2.1 dX8_readWatch_0 rfl (lv_at hl 0 rfl) ?_
  refine lv_iconst (v := 0) C.1.1 C.1.2.1 dX8_readWatch_1 (by decide) ?_
  refine lv_iconst (v := 3) C.1.1 C.1.2.1 dX8_readWatch_2 (by decide) ?_
  obtain ⟨r3, M1, L2, h1, hD⟩ := g_b3 hD
  refine md_cvI (As := [.int 0, .int 3]) (rest := []) C hw (tX8_toldName l G ad fu 0 3 M L h1) kc_8 (by decide) tf_1 wd_942 cwX8_toldName ⟨Nat.le_of_ble_eq_true rfl, Nat.le_of_ble_eq_true rfl⟩ rfl hl.1 (Nat.le_of_ble_eq_true rfl) dX8_readWatch_3 rfl rfl ⟨Nat.zero_le _, Nat.zero_le _⟩ rfl (fun H locs hw => ?_)
  refine lv_istore_n (lv' := [(1, .int r3), (0, .ref (ad 1))]) C.1.1 C.1.2.1 dX8_readWatch_6 rfl hl (by decide) rfl (fun ls hl => ?_)
  refine lv_aload_n C.1.1 C.1.2.1 dX8_readWatch_7 rfl (lv_at hl 1 rfl) ?_
  refine lv_iconst (v := 0) C.1.1 C.1.2.1 dX8_readWatch_8 (by decide) ?_
  refine lv_iconst (v := 0) C.1.1 C.1.2.1 dX8_readWatch_9 (by decide) ?_
  obtain ⟨r6, M4, L5, h1, hD⟩ := g_b3 hD
  refine md_cvI (As := [.int 0, .int 0]) (rest := []) C hw (tX8_toldName l G ad fu 0 0 M1 L2 h1) kc_8 (by decide) tf_1 wd_942 cwX8_toldName ⟨Nat.le_of_ble_eq_true rfl, Nat.le_of_ble_eq_true rfl⟩ rfl hl.1 (Nat.le_of_ble_eq_true rfl) dX8_readWatch_10 rfl rfl ⟨Nat.zero_le _, Nat.zero_le _⟩ rfl (fun H locs hw => ?_)
  refine lv_istore_n (lv' := [(2, .int r6), (1, .int r3), (0, .ref (ad 1))]) C.1.1 C.1.2.1 dX8_readWatch_13 rfl hl (by decide) rfl (fun ls hl => ?_)
  refine lv_aload_n C.1.1 C.1.2.1 dX8_readWatch_14 rfl (lv_at hl 2 rfl) ?_
  refine lv_iconst (v := 1) C.1.1 C.1.2.1 dX8_readWatch_15 (by decide) ?_
  refine lv_sipush (v := 255) C.1.1 C.1.2.1 dX8_readWatch_16 (by decide) ?_
  obtain ⟨r9, M7, L8, h1, hD⟩ := g_b3 hD
  refine md_cvI (As := [.int 1, .int 255]) (rest := []) C hw (tX8_number l G ad fu 1 255 M4 L5 h1) kc_8 (by decide) tf_1 wd_950 cwX8_number ⟨Nat.le_of_ble_eq_true rfl, Nat.le_of_ble_eq_true rfl⟩ rfl hl.1 (Nat.le_of_ble_eq_true rfl) dX8_readWatch_19 rfl rfl ⟨Nat.zero_le _, Nat.zero_le _⟩ rfl (fun H locs hw => ?_)
  refine lv_istore_n (lv' := [(3, .int r9), (2, .int r6), (1, .int r3), (0, .ref (ad 1))]) C.1.1 C.1.2.1 dX8_readWatch_22 rfl hl (by decide) rfl (fun ls hl => ?_)
  refine lv_aload_n C.1.1 C.1.2.1 dX8_readWatch_23 rfl (lv_at hl 3 rfl) ?_
  obtain ⟨M10, L11, h1, hD⟩ := g_b2 hD
  refine md_cvV (As := []) (rest := []) C hw (tX8_endLine l G ad fu M7 L8 h1) kc_8 (by decide) tf_1 wd_930 cwX8_endLine ⟨Nat.le_of_ble_eq_true rfl, Nat.le_of_ble_eq_true rfl⟩ rfl hl.1 (Nat.le_of_ble_eq_true rfl) dX8_readWatch_24 rfl rfl ⟨Nat.zero_le _, Nat.zero_le _⟩ rfl (fun H locs hw => ?_)
  refine lv_aload_n C.1.1 C.1.2.1 dX8_readWatch_27 rfl (lv_at hl 3 rfl) ?_
  refine lv_iload_n C.1.1 C.1.2.1 dX8_readWatch_28 rfl (lv_at hl 2 rfl) ?_
  refine lv_iload_n C.1.1 C.1.2.1 dX8_readWatch_29 rfl (lv_at hl 1 rfl) ?_
  obtain ⟨M12, L13, h1, hD⟩ := g_b2 hD
  refine md_cvV (As := [.int r3, .int r6]) (rest := []) C hw (tX8_refuseOwn l G ad fu r3 r6 M10 L11 h1) kc_8 (by decide) tf_1 wd_1096 cwX8_refuseOwn ⟨Nat.le_of_ble_eq_true rfl, Nat.le_of_ble_eq_true rfl⟩ rfl hl.1 (Nat.le_of_ble_eq_true rfl) dX8_readWatch_30 rfl rfl ⟨Nat.zero_le _, Nat.zero_le _⟩ rfl (fun H locs hw => ?_)
  refine lv_aload_n C.1.1 C.1.2.1 dX8_readWatch_33 rfl (lv_at hl 3 rfl) ?_
  refine mr_getI C hw kc_8 12 (by decide) tf_1 wd_607 dX8_readWatch_34 (by decide) rfl ?_
  refine lv_if_ne (tgt := 77) C.1.1 C.1.2.1 dX8_readWatch_37 (by decide) (fun c14 => ?_) (fun c14 => ?_)
  · replace hD := g_neg c14 hD
    exact hb77 M12 L13 _ _ ls hD hw (lv_sub hl [] rfl)
  · replace hD := g_pos c14 hD
    refine lv_aload_n C.1.1 C.1.2.1 dX8_readWatch_40 rfl (lv_at hl 3 rfl) ?_
    refine mr_getR C hw kc_8 1 (by decide) tf_1 ff_1_1 wd_595 dX8_readWatch_41 (by decide) rfl ?_
    refine mr_getNR C hw kc_1 3 (by decide) tf_3 ff_3_3 nd_520 dX8_readWatch_44 (by decide) rfl ?_
    refine mr_getNR C hw kc_6 0 (by decide) tf_61 ff_61_0 nd_229 dX8_readWatch_47 (by decide) rfl ?_
    refine lv_iconst (v := 3) C.1.1 C.1.2.1 dX8_readWatch_50 (by decide) ?_
    refine mr_aald C hw (by decide) tf_62 (by decide) (by decide) rfl rfl (show vp_in 3 10 from by unfold vp_in; decide) ff_62_3 dX8_readWatch_51 ?_
    refine lv_iload_n C.1.1 C.1.2.1 dX8_readWatch_52 rfl (lv_at hl 2 rfl) ?_
    obtain ⟨q16, hD⟩ := g_ck hD
    refine mr_iald C hw (by decide) tf_66 q16 dX8_readWatch_53 ?_
    obtain ⟨x17, ex17, hD⟩ := g_let hD
    refine W.eq (g2 := F0 m 54 ls (.int x17 :: [])) (by rw [ex17]) ?_
    refine lv_istore (lv' := [(4, .int x17), (3, .int r9), (2, .int r6), (1, .int r3), (0, .ref (ad 1))]) C.1.1 C.1.2.1 dX8_readWatch_54 hl (by decide) rfl (fun ls hl => ?_)
    refine lv_aload_n C.1.1 C.1.2.1 dX8_readWatch_56 rfl (lv_at hl 4 rfl) ?_
    refine lv_aload_n C.1.1 C.1.2.1 dX8_readWatch_57 rfl (lv_at hl 4 rfl) ?_
    refine mr_getR C hw kc_8 1 (by decide) tf_1 ff_1_1 wd_595 dX8_readWatch_58 (by decide) rfl ?_
    refine mr_getNR C hw kc_1 5 (by decide) tf_3 ff_3_5 nd_527 dX8_readWatch_61 (by decide) rfl ?_
    refine lv_iload_n C.1.1 C.1.2.1 dX8_readWatch_64 rfl (lv_at hl 3 rfl) ?_
    refine lv_iload_n C.1.1 C.1.2.1 dX8_readWatch_65 rfl (lv_at hl 2 rfl) ?_
    refine lv_iload_n C.1.1 C.1.2.1 dX8_readWatch_66 rfl (lv_at hl 1 rfl) ?_
    refine lv_iconst (v := 3) C.1.1 C.1.2.1 dX8_readWatch_67 (by decide) ?_
    refine lv_iload C.1.1 C.1.2.1 dX8_readWatch_68 (lv_at hl 0 rfl) ?_
    refine lv_imul C.1.1 C.1.2.1 dX8_readWatch_70 ?_
    obtain ⟨r20, M18, L19, h1, hD⟩ := g_b3 hD
    refine md_cvI (As := [.int r3, .int r6, .int r9, .int (3 * x17)]) (rest := [.ref (ad 1)]) C hw (tX10_addWatch l G ad fu r3 r6 r9 (3 * x17) M12 L13 h1) kc_10 (by decide) tf_139 wd_1108 cwX10_addWatch ⟨Nat.le_of_ble_eq_true rfl, Nat.le_of_ble_eq_true rfl⟩ rfl hl.1 (Nat.le_of_ble_eq_true rfl) dX8_readWatch_71 rfl rfl ⟨Nat.zero_le _, Nat.zero_le _⟩ rfl (fun H locs hw => ?_)
    obtain ⟨M21, L22, h1, hD⟩ := g_b2 hD
    refine md_cvV (As := [.int r20]) (rest := []) C hw (tX8_heed l G ad fu r20 M18 L19 h1) kc_8 (by decide) tf_1 wd_1014 cwX8_heed ⟨Nat.le_of_ble_eq_true rfl, Nat.le_of_ble_eq_true rfl⟩ rfl hl.1 (Nat.le_of_ble_eq_true rfl) dX8_readWatch_74 rfl rfl ⟨Nat.zero_le _, Nat.zero_le _⟩ rfl (fun H locs hw => ?_)
    exact hb77 M21 L22 _ _ ls hD hw (lv_sub hl [] rfl)
