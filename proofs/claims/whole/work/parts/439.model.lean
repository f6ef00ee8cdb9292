theorem dX19_findDatum_0 : decode cX19_findDatum 0 = .ok (.iconst 0, 1) := by decide +kernel
theorem dX19_findDatum_1 : decode cX19_findDatum 1 = .ok (.istore_n 2, 1) := by decide +kernel
theorem dX19_findDatum_2 : decode cX19_findDatum 2 = .ok (.iload_n 2, 1) := by decide +kernel
theorem dX19_findDatum_3 : decode cX19_findDatum 3 = .ok (.aload_n 0, 1) := by decide +kernel
theorem dX19_findDatum_4 : decode cX19_findDatum 4 = .ok (.getfield 82, 3) := by decide +kernel
theorem dX19_findDatum_7 : decode cX19_findDatum 7 = .ok (.iload_n 1, 1) := by decide +kernel
theorem dX19_findDatum_8 : decode cX19_findDatum 8 = .ok (.iaload, 1) := by decide +kernel
theorem dX19_findDatum_9 : decode cX19_findDatum 9 = .ok (.if_icmp .ge 40, 3) := by decide +kernel
theorem dX19_findDatum_12 : decode cX19_findDatum 12 = .ok (.aload_n 0, 1) := by decide +kernel
theorem dX19_findDatum_13 : decode cX19_findDatum 13 = .ok (.aload_n 0, 1) := by decide +kernel
theorem dX19_findDatum_14 : decode cX19_findDatum 14 = .ok (.getfield 85, 3) := by decide +kernel
theorem dX19_findDatum_17 : decode cX19_findDatum 17 = .ok (.bipush 32, 2) := by decide +kernel
theorem dX19_findDatum_19 : decode cX19_findDatum 19 = .ok (.iload_n 1, 1) := by decide +kernel
theorem dX19_findDatum_20 : decode cX19_findDatum 20 = .ok (.imul, 1) := by decide +kernel
theorem dX19_findDatum_21 : decode cX19_findDatum 21 = .ok (.iload_n 2, 1) := by decide +kernel
theorem dX19_findDatum_22 : decode cX19_findDatum 22 = .ok (.iadd, 1) := by decide +kernel
theorem dX19_findDatum_23 : decode cX19_findDatum 23 = .ok (.iaload, 1) := by decide +kernel
theorem dX19_findDatum_24 : decode cX19_findDatum 24 = .ok (.aload_n 0, 1) := by decide +kernel
theorem dX19_findDatum_25 : decode cX19_findDatum 25 = .ok (.getfield 88, 3) := by decide +kernel
theorem dX19_findDatum_28 : decode cX19_findDatum 28 = .ok (.bipush 32, 2) := by decide +kernel
theorem dX19_findDatum_30 : decode cX19_findDatum 30 = .ok (.iload_n 1, 1) := by decide +kernel
theorem dX19_findDatum_31 : decode cX19_findDatum 31 = .ok (.imul, 1) := by decide +kernel
theorem dX19_findDatum_32 : decode cX19_findDatum 32 = .ok (.iload_n 2, 1) := by decide +kernel
theorem dX19_findDatum_33 : decode cX19_findDatum 33 = .ok (.iadd, 1) := by decide +kernel
theorem dX19_findDatum_34 : decode cX19_findDatum 34 = .ok (.iaload, 1) := by decide +kernel
theorem dX19_findDatum_35 : decode cX19_findDatum 35 = .ok (.invokevirtual 350, 3) := by decide +kernel
theorem dX19_findDatum_38 : decode cX19_findDatum 38 = .ok (.ifCond .eq 5, 3) := by decide +kernel
theorem dX19_findDatum_41 : decode cX19_findDatum 41 = .ok (.iload_n 2, 1) := by decide +kernel
theorem dX19_findDatum_42 : decode cX19_findDatum 42 = .ok (.ireturn, 1) := by decide +kernel
theorem dX19_findDatum_43 : decode cX19_findDatum 43 = .ok (.iinc 2 1, 3) := by decide +kernel
theorem dX19_findDatum_46 : decode cX19_findDatum 46 = .ok (.goto (-44), 3) := by decide +kernel
theorem dX19_findDatum_49 : decode cX19_findDatum 49 = .ok (.iconst (-1), 1) := by decide +kernel
theorem dX19_findDatum_50 : decode cX19_findDatum 50 = .ok (.ireturn, 1) := by decide +kernel
theorem cwX19_findDatum : mw_cwV yX19_findDatum cX19_findDatum 3 ((some .int)) 1 := ⟨⟨wd_13, wd_3294, by decide +kernel⟩, wd_3293, sl_178⟩
set_option maxHeartbeats 4000000 in
set_option maxRecDepth 100000 in
theorem tX19_findDatum (l : Launch) (G : mwG) (ad : Nat → Nat) (fu : Nat) (a1 : Int32) (M : mwM) (L : mwL) {r0 : Int32} {M0 : mwM} {L0 : mwL} (hD : DX19_findDatum fu a1 M L = some (r0, M0, L0)) : Met l yX19_findDatum (Cond.code yX19_findDatum cX19_findDatum 3 ((some .int)) :: GT) ({ frames := 1, cells := 0, slots := 0, locals := 24 }) (mw_Pre G ad NF TF FF M L [.ref (ad 732), .int a1]) (mw_Qi G ad NF TF FF (mw_eqI r0 M0 L0)) 0 0 (mw_fr G) := by
  refine mw_enter (by decide) (Nat.le_of_ble_eq_true rfl) ?_
  intro p e s m below meth c ls C hr hlocks hnm hw hl
  have hl : lv_has ls 3 [(0, .ref (ad 732)), (1, .int a1)] := hl
  have hh2 : ∀ (f : Nat) (v2 : Int32) (M : mwM) (L : mwL) (H : Heap) (locs : List Loc) (ls : Array Slot), fX19_findDatum_h2 fu a1 f (v2, M, L) = some (r0, M0, L0) → mw_W G ad NF TF FF M L H locs → lv_has ls 3 [(0, .ref (ad 732)), (1, .int a1), (2, .int v2)] → W p l e ({ frames := 1, cells := 0, slots := 0, locals := 24 }) s m [.ref (ad 732), .int a1].toArray below meth c H locs 0 0 (MQ below (mw_Qi G ad NF TF FF (mw_eqI r0 M0 L0)) [.ref (ad 732), .int a1].toArray s 0 0 (mw_fr G)) (F0 m 2 ls []) := by
    intro f
    induction f with
    | zero => intro v2 M L H locs ls hD; cases hD
    | succ f2 ih2 =>
      intro v2 M L H locs ls hD hw hl
      replace hD : fX19_findDatum_i2 fu a1 (fX19_findDatum_h2 fu a1 f2) v2 M L = some (r0, M0, L0) := hD
      unfold fX19_findDatum_i2 at hD
      refine lv_iload_n C.1.1 C.1.2.1 dX19_findDatum_2 rfl (lv_at hl 2 rfl) ?_
      refine lv_aload_n C.1.1 C.1.2.1 dX19_findDatum_3 rfl (lv_at hl 0 rfl) ?_
      refine mr_getR C hw kc_19 42 (by decide) tf_732 ff_732_42 wd_2823 dX19_findDatum_4 (by decide) rfl ?_
      refine lv_iload_n C.1.1 C.1.2.1 dX19_findDatum_7 rfl (lv_at hl 1 rfl) ?_
      obtain ⟨q1, hD⟩ := g_ck hD
      refine mr_iald C hw (by decide) tf_757 q1 dX19_findDatum_8 ?_
      refine lv_icmp_ge (tgt := 49) C.1.1 C.1.2.1 dX19_findDatum_9 (by decide) (fun c2 => ?_) (fun c2 => ?_)
      · replace hD := g_pos c2 hD
        refine lv_iconst (v := (-1)) C.1.1 C.1.2.1 dX19_findDatum_49 (by decide) ?_
        exact mr_iret C hr hlocks hw rfl (Option.some.inj hD) dX19_findDatum_50
      · replace hD := g_neg c2 hD
        refine lv_aload_n C.1.1 C.1.2.1 dX19_findDatum_12 rfl (lv_at hl 0 rfl) ?_
        refine lv_aload_n C.1.1 C.1.2.1 dX19_findDatum_13 rfl (lv_at hl 0 rfl) ?_
        refine mr_getR C hw kc_19 43 (by decide) tf_732 ff_732_43 wd_2824 dX19_findDatum_14 (by decide) rfl ?_
        refine lv_bipush (v := 32) C.1.1 C.1.2.1 dX19_findDatum_17 (by decide) ?_
        refine lv_iload_n C.1.1 C.1.2.1 dX19_findDatum_19 rfl (lv_at hl 1 rfl) ?_
        refine lv_imul C.1.1 C.1.2.1 dX19_findDatum_20 ?_
        refine lv_iload_n C.1.1 C.1.2.1 dX19_findDatum_21 rfl (lv_at hl 2 rfl) ?_
        refine lv_iadd C.1.1 C.1.2.1 dX19_findDatum_22 ?_
        obtain ⟨q3, hD⟩ := g_ck hD
        refine mr_iald C hw (by decide) tf_758 q3 dX19_findDatum_23 ?_
        refine lv_aload_n C.1.1 C.1.2.1 dX19_findDatum_24 rfl (lv_at hl 0 rfl) ?_
        refine mr_getR C hw kc_19 44 (by decide) tf_732 ff_732_44 wd_2825 dX19_findDatum_25 (by decide) rfl ?_
        refine lv_bipush (v := 32) C.1.1 C.1.2.1 dX19_findDatum_28 (by decide) ?_
        refine lv_iload_n C.1.1 C.1.2.1 dX19_findDatum_30 rfl (lv_at hl 1 rfl) ?_
        refine lv_imul C.1.1 C.1.2.1 dX19_findDatum_31 ?_
        refine lv_iload_n C.1.1 C.1.2.1 dX19_findDatum_32 rfl (lv_at hl 2 rfl) ?_
        refine lv_iadd C.1.1 C.1.2.1 dX19_findDatum_33 ?_
        obtain ⟨q4, hD⟩ := g_ck hD
        refine mr_iald C hw (by decide) tf_759 q4 dX19_findDatum_34 ?_
        obtain ⟨r7, M5, L6, h1, hD⟩ := g_b3 hD
        refine md_cvI (As := [.int (M 758 ((32 * a1) + v2).toNatClampNeg), .int (M 759 ((32 * a1) + v2).toNatClampNeg)]) (rest := []) C hw (tX19_same l G ad fu (M 758 ((32 * a1) + v2).toNatClampNeg) (M 759 ((32 * a1) + v2).toNatClampNeg) M L h1) kc_19 (by decide) tf_732 wd_3190 cwX19_same ⟨Nat.le_of_ble_eq_true rfl, Nat.le_of_ble_eq_true rfl⟩ rfl hl.1 (Nat.le_of_ble_eq_true rfl) dX19_findDatum_35 rfl rfl ⟨Nat.zero_le _, Nat.zero_le _⟩ rfl (fun H locs hw => ?_)
        refine lv_if_eq (tgt := 43) C.1.1 C.1.2.1 dX19_findDatum_38 (by decide) (fun c8 => ?_) (fun c8 => ?_)
        · replace hD := g_pos c8 hD
          obtain ⟨x9, ex9, hD⟩ := g_let hD
          refine lv_iinc (v := x9) (lv' := [(2, .int x9), (0, .ref (ad 732)), (1, .int a1)]) C.1.1 C.1.2.1 dX19_findDatum_43 hl (k := 2) rfl (by rw [ex9]; rfl) (by decide) rfl (fun ls hl => ?_)
          refine lv_goto (tgt := 2) C.1.1 C.1.2.1 dX19_findDatum_46 (by decide) ?_
          exact ih2 x9 M5 L6 _ _ ls hD hw (lv_sub hl [1, 2, 0] rfl)
        · replace hD := g_neg c8 hD
          refine lv_iload_n C.1.1 C.1.2.1 dX19_findDatum_41 rfl (lv_at hl 2 rfl) ?_
          exact mr_iret C hr hlocks hw rfl (Option.some.inj hD) dX19_findDatum_42
  unfold DX19_findDatum at hD
  refine lv_iconst (v := 0) C.1.1 C.1.2.1 dX19_findDatum_0 (by decide) ?_
  refine lv_istore_n (lv' := [(2, .int 0), (0, .ref (ad 732)), (1, .int a1)]) C.1.1 C.1.2.1 dX19_findDatum_1 rfl hl (by decide) rfl (fun ls hl => ?_)
  exact hh2 fu 0 M L _ _ ls hD hw (lv_sub hl [1, 2, 0] rfl)

theorem dX19_state_0 : decode cX19_state 0 = .ok (.aload_n 0, 1) := by decide +kernel
theorem dX19_state_1 : decode cX19_state 1 = .ok (.invokevirtual 341, 3) := by decide +kernel
theorem dX19_state_4 : decode cX19_state 4 = .ok (.ifCond .ne 5, 3) := by decide +kernel
theorem dX19_state_7 : decode cX19_state 7 = .ok (.iconst (-1), 1) := by decide +kernel
theorem dX19_state_8 : decode cX19_state 8 = .ok (.ireturn, 1) := by decide +kernel
theorem dX19_state_9 : decode cX19_state 9 = .ok (.aload_n 0, 1) := by decide +kernel
theorem dX19_state_10 : decode cX19_state 10 = .ok (.iload_n 1, 1) := by decide +kernel
theorem dX19_state_11 : decode cX19_state 11 = .ok (.invokevirtual 359, 3) := by decide +kernel
theorem dX19_state_14 : decode cX19_state 14 = .ok (.istore_n 2, 1) := by decide +kernel
theorem dX19_state_15 : decode cX19_state 15 = .ok (.iload_n 2, 1) := by decide +kernel
theorem dX19_state_16 : decode cX19_state 16 = .ok (.ifCond .gt 15, 3) := by decide +kernel
theorem dX19_state_19 : decode cX19_state 19 = .ok (.aload_n 0, 1) := by decide +kernel
theorem dX19_state_20 : decode cX19_state 20 = .ok (.iconst 4, 1) := by decide +kernel
theorem dX19_state_21 : decode cX19_state 21 = .ok (.aload_n 0, 1) := by decide +kernel
theorem dX19_state_22 : decode cX19_state 22 = .ok (.getfield 311, 3) := by decide +kernel
theorem dX19_state_25 : decode cX19_state 25 = .ok (.invokevirtual 321, 3) := by decide +kernel
theorem dX19_state_28 : decode cX19_state 28 = .ok (.ifCond .eq 7, 3) := by decide +kernel
theorem dX19_state_31 : decode cX19_state 31 = .ok (.iconst 1, 1) := by decide +kernel
theorem dX19_state_32 : decode cX19_state 32 = .ok (.goto 4, 3) := by decide +kernel
theorem dX19_state_35 : decode cX19_state 35 = .ok (.iconst 0, 1) := by decide +kernel
theorem dX19_state_36 : decode cX19_state 36 = .ok (.istore_n 3, 1) := by decide +kernel
theorem dX19_state_37 : decode cX19_state 37 = .ok (.iload_n 2, 1) := by decide +kernel
theorem dX19_state_38 : decode cX19_state 38 = .ok (.ireturn, 1) := by decide +kernel
theorem cwX19_state : mw_cwV yX19_state cX19_state 4 ((some .int)) 1 := ⟨⟨wd_13, wd_3249, by decide +kernel⟩, wd_3248, sl_170⟩
set_option maxHeartbeats 4000000 in
set_option maxRecDepth 100000 in
theorem tX19_state (l : Launch) (G : mwG) (ad : Nat → Nat) (fu : Nat) (a1 : Int32) (M : mwM) (L : mwL) {r0 : Int32} {M0 : mwM} {L0 : mwL} (hD : DX19_state fu a1 M L = some (r0, M0, L0)) : Met l yX19_state (Cond.code yX19_state cX19_state 4 ((some .int)) :: GT) ({ frames := 2, cells := 0, slots := 0, locals := 46 }) (mw_Pre G ad NF TF FF M L [.ref (ad 732), .int a1]) (mw_Qi G ad NF TF FF (mw_eqI r0 M0 L0)) 0 0 (mw_fr G) := by
  refine mw_enter (by decide) (Nat.le_of_ble_eq_true rfl) ?_
  intro p e s m below meth c ls C hr hlocks hnm hw hl
  have hl : lv_has ls 4 [(0, .ref (ad 732)), (1, .int a1)] := hl
  have hb36 : ∀ (v2 : Int32) (s0 : Int32) (M : mwM) (L : mwL) (H : Heap) (locs : List Loc) (ls : Array Slot), fX19_state_b36 fu a1 v2 s0 M L = some (r0, M0, L0) → mw_W G ad NF TF FF M L H locs → lv_has ls 4 [(2, .int v2)] → W p l e ({ frames := 2, cells := 0, slots := 0, locals := 46 }) s m [.ref (ad 732), .int a1].toArray below meth c H locs 0 0 (MQ below (mw_Qi G ad NF TF FF (mw_eqI r0 M0 L0)) [.ref (ad 732), .int a1].toArray s 0 0 (mw_fr G)) (F0 m 36 ls [.int s0]) := by
    intro v2 s0 M L H locs ls hD hw hl
    unfold fX19_state_b36 at hD
    refine lv_istore_n (lv' := [(3, .int s0), (2, .int v2)]) C.1.1 C.1.2.1 dX19_state_36 rfl hl (by decide) rfl (fun ls hl => ?_)
    refine lv_iload_n C.1.1 C.1.2.1 dX19_state_37 rfl (lv_at hl 1 rfl) ?_
    exact mr_iret C hr hlocks hw rfl (Option.some.inj hD) dX19_state_38
  have hb31 : ∀ (v2 : Int32) (M : mwM) (L : mwL) (H : Heap) (locs : List Loc) (ls : Array Slot), fX19_state_b31 fu a1 v2 M L = some (r0, M0, L0) → mw_W G ad NF TF FF M L H locs → lv_has ls 4 [(2, .int v2)] → W p l e ({ frames := 2, cells := 0, slots := 0, locals := 46 }) s m [.ref (ad 732), .int a1].toArray below meth c H locs 0 0 (MQ below (mw_Qi G ad NF TF FF (mw_eqI r0 M0 L0)) [.ref (ad 732), .int a1].toArray s 0 0 (mw_fr G)) (F0 m 31 ls []) := by
    intro v2 M L H locs ls hD hw hl
    unfold fX19_state_b31 at hD
    refine lv_iconst (v := 1) C.1.1 C.1.2.1 dX19_state_31 (by decide) ?_
    refine lv_goto (tgt := 36) C.1.1 C.1.2.1 dX19_state_32 (by decide) ?_
    exact hb36 v2 1 M L _ _ ls hD hw (lv_sub hl [0] rfl)
  unfold DX19_state at hD
  refine lv_aload_n C.1.1 C.1.2.1 dX19_state_0 rfl (lv_at hl 0 rfl) ?_
  obtain ⟨r3, M1, L2, h1, hD⟩ := g_b3 hD
  refine md_cvI (As := []) (rest := []) C hw (tX19_must l G ad fu M L h1) kc_19 (by decide) tf_732 wd_3168 cwX19_must ⟨Nat.le_of_ble_eq_true rfl, Nat.le_of_ble_eq_true rfl⟩ rfl hl.1 (Nat.le_of_ble_eq_true rfl) dX19_state_1 rfl rfl ⟨Nat.zero_le _, Nat.zero_le _⟩ rfl (fun H locs hw => ?_)
  refine lv_if_ne (tgt := 9) C.1.1 C.1.2.1 dX19_state_4 (by decide) (fun c4 => ?_) (fun c4 => ?_)
  · replace hD := g_neg c4 hD
    refine lv_aload_n C.1.1 C.1.2.1 dX19_state_9 rfl (lv_at hl 0 rfl) ?_
    refine lv_iload_n C.1.1 C.1.2.1 dX19_state_10 rfl (lv_at hl 1 rfl) ?_
    obtain ⟨r7, M5, L6, h1, hD⟩ := g_b3 hD
    refine md_cvI (As := [.int a1]) (rest := []) C hw (tX19_findState l G ad fu a1 M1 L2 h1) kc_19 (by decide) tf_732 wd_3233 cwX19_findState ⟨Nat.le_of_ble_eq_true rfl, Nat.le_of_ble_eq_true rfl⟩ rfl hl.1 (Nat.le_of_ble_eq_true rfl) dX19_state_11 rfl rfl ⟨Nat.zero_le _, Nat.zero_le _⟩ rfl (fun H locs hw => ?_)
    refine lv_istore_n (lv' := [(2, .int r7), (0, .ref (ad 732)), (1, .int a1)]) C.1.1 C.1.2.1 dX19_state_14 rfl hl (by decide) rfl (fun ls hl => ?_)
    refine lv_iload_n C.1.1 C.1.2.1 dX19_state_15 rfl (lv_at hl 0 rfl) ?_
    refine lv_if_gt (tgt := 31) C.1.1 C.1.2.1 dX19_state_16 (by decide) (fun c8 => ?_) (fun c8 => ?_)
    · replace hD := g_pos c8 hD
      exact hb31 r7 M5 L6 _ _ ls hD hw (lv_sub hl [0] rfl)
    · replace hD := g_neg c8 hD
      refine lv_aload_n C.1.1 C.1.2.1 dX19_state_19 rfl (lv_at hl 1 rfl) ?_
      refine lv_iconst (v := 4) C.1.1 C.1.2.1 dX19_state_20 (by decide) ?_
      refine lv_aload_n C.1.1 C.1.2.1 dX19_state_21 rfl (lv_at hl 1 rfl) ?_
      refine mr_getI C hw kc_19 9 (by decide) tf_732 wd_2790 dX19_state_22 (by decide) rfl ?_
      obtain ⟨r11, M9, L10, h1, hD⟩ := g_b3 hD
      refine md_cvI (As := [.int 4, .int (M5 732 9)]) (rest := []) C hw (tX19_fail l G ad fu 4 (M5 732 9) M5 L6 h1) kc_19 (by decide) tf_732 wd_3172 cwX19_fail ⟨Nat.le_of_ble_eq_true rfl, Nat.le_of_ble_eq_true rfl⟩ rfl hl.1 (Nat.le_of_ble_eq_true rfl) dX19_state_25 rfl rfl ⟨Nat.zero_le _, Nat.zero_le _⟩ rfl (fun H locs hw => ?_)
      refine lv_if_eq (tgt := 35) C.1.1 C.1.2.1 dX19_state_28 (by decide) (fun c12 => ?_) (fun c12 => ?_)
      · replace hD := g_pos c12 hD
        refine lv_iconst (v := 0) C.1.1 C.1.2.1 dX19_state_35 (by decide) ?_
        exact hb36 r7 0 M9 L10 _ _ ls hD hw (lv_sub hl [0] rfl)
      · replace hD := g_neg c12 hD
        exact hb31 r7 M9 L10 _ _ ls hD hw (lv_sub hl [0] rfl)
  · replace hD := g_pos c4 hD
    refine lv_iconst (v := (-1)) C.1.1 C.1.2.1 dX19_state_7 (by decide) ?_
    exact mr_iret C hr hlocks hw rfl (Option.some.inj hD) dX19_state_8

theorem dX19_datum_0 : decode cX19_datum 0 = .ok (.aload_n 0, 1) := by decide +kernel
theorem dX19_datum_1 : decode cX19_datum 1 = .ok (.invokevirtual 341, 3) := by decide +kernel
theorem dX19_datum_4 : decode cX19_datum 4 = .ok (.ifCond .ne 5, 3) := by decide +kernel
theorem dX19_datum_7 : decode cX19_datum 7 = .ok (.iconst (-1), 1) := by decide +kernel
theorem dX19_datum_8 : decode cX19_datum 8 = .ok (.ireturn, 1) := by decide +kernel
theorem dX19_datum_9 : decode cX19_datum 9 = .ok (.aload_n 0, 1) := by decide +kernel
theorem dX19_datum_10 : decode cX19_datum 10 = .ok (.iload_n 1, 1) := by decide +kernel
theorem dX19_datum_11 : decode cX19_datum 11 = .ok (.invokevirtual 363, 3) := by decide +kernel
theorem dX19_datum_14 : decode cX19_datum 14 = .ok (.istore_n 2, 1) := by decide +kernel
theorem dX19_datum_15 : decode cX19_datum 15 = .ok (.iload_n 2, 1) := by decide +kernel
theorem dX19_datum_16 : decode cX19_datum 16 = .ok (.ifCond .ge 15, 3) := by decide +kernel
theorem dX19_datum_19 : decode cX19_datum 19 = .ok (.aload_n 0, 1) := by decide +kernel
theorem dX19_datum_20 : decode cX19_datum 20 = .ok (.iconst 4, 1) := by decide +kernel
theorem dX19_datum_21 : decode cX19_datum 21 = .ok (.aload_n 0, 1) := by decide +kernel
theorem dX19_datum_22 : decode cX19_datum 22 = .ok (.getfield 311, 3) := by decide +kernel
theorem dX19_datum_25 : decode cX19_datum 25 = .ok (.invokevirtual 321, 3) := by decide +kernel
theorem dX19_datum_28 : decode cX19_datum 28 = .ok (.ifCond .eq 7, 3) := by decide +kernel
theorem dX19_datum_31 : decode cX19_datum 31 = .ok (.iconst 1, 1) := by decide +kernel
theorem dX19_datum_32 : decode cX19_datum 32 = .ok (.goto 4, 3) := by decide +kernel
theorem dX19_datum_35 : decode cX19_datum 35 = .ok (.iconst 0, 1) := by decide +kernel
theorem dX19_datum_36 : decode cX19_datum 36 = .ok (.istore_n 3, 1) := by decide +kernel
theorem dX19_datum_37 : decode cX19_datum 37 = .ok (.iload_n 2, 1) := by decide +kernel
theorem dX19_datum_38 : decode cX19_datum 38 = .ok (.ireturn, 1) := by decide +kernel
theorem cwX19_datum : mw_cwV yX19_datum cX19_datum 4 ((some .int)) 1 := ⟨⟨wd_13, wd_3290, by decide +kernel⟩, wd_3289, sl_177⟩
set_option maxHeartbeats 4000000 in
set_option maxRecDepth 100000 in
theorem tX19_datum (l : Launch) (G : mwG) (ad : Nat → Nat) (fu : Nat) (a1 : Int32) (M : mwM) (L : mwL) {r0 : Int32} {M0 : mwM} {L0 : mwL} (hD : DX19_datum fu a1 M L = some (r0, M0, L0)) : Met l yX19_datum (Cond.code yX19_datum cX19_datum 4 ((some .int)) :: GT) ({ frames := 2, cells := 0, slots := 0, locals := 46 }) (mw_Pre G ad NF TF FF M L [.ref (ad 732), .int a1]) (mw_Qi G ad NF TF FF (mw_eqI r0 M0 L0)) 0 0 (mw_fr G) := by
  refine mw_enter (by decide) (Nat.le_of_ble_eq_true rfl) ?_
  intro p e s m below meth c ls C hr hlocks hnm hw hl
  have hl : lv_has ls 4 [(0, .ref (ad 732)), (1, .int a1)] := hl
  have hb36 : ∀ (v2 : Int32) (s0 : Int32) (M : mwM) (L : mwL) (H : Heap) (locs : List Loc) (ls : Array Slot), fX19_datum_b36 fu a1 v2 s0 M L = some (r0, M0, L0) → mw_W G ad NF TF FF M L H locs → lv_has ls 4 [(2, .int v2)] → W p l e ({ frames := 2, cells := 0, slots := 0, locals := 46 }) s m [.ref (ad 732), .int a1].toArray below meth c H locs 0 0 (MQ below (mw_Qi G ad NF TF FF (mw_eqI r0 M0 L0)) [.ref (ad 732), .int a1].toArray s 0 0 (mw_fr G)) (F0 m 36 ls [.int s0]) := by
    intro v2 s0 M L H locs ls hD hw hl
    unfold fX19_datum_b36 at hD
    refine lv_istore_n (lv' := [(3, .int s0), (2, .int v2)]) C.1.1 C.1.2.1 dX19_datum_36 rfl hl (by decide) rfl (fun ls hl => ?_)
    refine lv_iload_n C.1.1 C.1.2.1 dX19_datum_37 rfl (lv_at hl 1 rfl) ?_
    exact mr_iret C hr hlocks hw rfl (Option.some.inj hD) dX19_datum_38
  have hb31 : ∀ (v2 : Int32) (M : mwM) (L : mwL) (H : Heap) (locs : List Loc) (ls : Array Slot), fX19_datum_b31 fu a1 v2 M L = some (r0, M0, L0) → mw_W G ad NF TF FF M L H locs → lv_has ls 4 [(2, .int v2)] → W p l e ({ frames := 2, cells := 0, slots := 0, locals := 46 }) s m [.ref (ad 732), .int a1].toArray below meth c H locs 0 0 (MQ below (mw_Qi G ad NF TF FF (mw_eqI r0 M0 L0)) [.ref (ad 732), .int a1].toArray s 0 0 (mw_fr G)) (F0 m 31 ls []) := by
    intro v2 M L H locs ls hD hw hl
    unfold fX19_datum_b31 at hD
    refine lv_iconst (v := 1) C.1.1 C.1.2.1 dX19_datum_31 (by decide) ?_
    refine lv_goto (tgt := 36) C.1.1 C.1.2.1 dX19_datum_32 (by decide) ?_
    exact hb36 v2 1 M L _ _ ls hD hw (lv_sub hl [0] rfl)
  unfold DX19_datum at hD
  refine lv_aload_n C.1.1 C.1.2.1 dX19_datum_0 rfl (lv_at hl 0 rfl) ?_
  obtain ⟨r3, M1, L2, h1, hD⟩ := g_b3 hD
  refine md_cvI (As := []) (rest := []) C hw (tX19_must l G ad fu M L h1) kc_19 (by decide) tf_732 wd_3168 cwX19_must ⟨Nat.le_of_ble_eq_true rfl, Nat.le_of_ble_eq_true rfl⟩ rfl hl.1 (Nat.le_of_ble_eq_true rfl) dX19_datum_1 rfl rfl ⟨Nat.zero_le _, Nat.zero_le _⟩ rfl (fun H locs hw => ?_)
  refine lv_if_ne (tgt := 9) C.1.1 C.1.2.1 dX19_datum_4 (by decide) (fun c4 => ?_) (fun c4 => ?_)
  · replace hD := g_neg c4 hD
    refine lv_aload_n C.1.1 C.1.2.1 dX19_datum_9 rfl (lv_at hl 0 rfl) ?_
    refine lv_iload_n C.1.1 C.1.2.1 dX19_datum_10 rfl (lv_at hl 1 rfl) ?_
    obtain ⟨r7, M5, L6, h1, hD⟩ := g_b3 hD
    refine md_cvI (As := [.int a1]) (rest := []) C hw (tX19_findDatum l G ad fu a1 M1 L2 h1) kc_19 (by decide) tf_732 wd_3291 cwX19_findDatum ⟨Nat.le_of_ble_eq_true rfl, Nat.le_of_ble_eq_true rfl⟩ rfl hl.1 (Nat.le_of_ble_eq_true rfl) dX19_datum_11 rfl rfl ⟨Nat.zero_le _, Nat.zero_le _⟩ rfl (fun H locs hw => ?_)
    refine lv_istore_n (lv' := [(2, .int r7), (0, .ref (ad 732)), (1, .int a1)]) C.1.1 C.1.2.1 dX19_datum_14 rfl hl (by decide) rfl (fun ls hl => ?_)
    refine lv_iload_n C.1.1 C.1.2.1 dX19_datum_15 rfl (lv_at hl 0 rfl) ?_
    refine lv_if_ge (tgt := 31) C.1.1 C.1.2.1 dX19_datum_16 (by decide) (fun c8 => ?_) (fun c8 => ?_)
    · replace hD := g_pos c8 hD
      exact hb31 r7 M5 L6 _ _ ls hD hw (lv_sub hl [0] rfl)
    · replace hD := g_neg c8 hD
      refine lv_aload_n C.1.1 C.1.2.1 dX19_datum_19 rfl (lv_at hl 1 rfl) ?_
      refine lv_iconst (v := 4) C.1.1 C.1.2.1 dX19_datum_20 (by decide) ?_
      refine lv_aload_n C.1.1 C.1.2.1 dX19_datum_21 rfl (lv_at hl 1 rfl) ?_
      refine mr_getI C hw kc_19 9 (by decide) tf_732 wd_2790 dX19_datum_22 (by decide) rfl ?_
      obtain ⟨r11, M9, L10, h1, hD⟩ := g_b3 hD
      refine md_cvI (As := [.int 4, .int (M5 732 9)]) (rest := []) C hw (tX19_fail l G ad fu 4 (M5 732 9) M5 L6 h1) kc_19 (by decide) tf_732 wd_3172 cwX19_fail ⟨Nat.le_of_ble_eq_true rfl, Nat.le_of_ble_eq_true rfl⟩ rfl hl.1 (Nat.le_of_ble_eq_true rfl) dX19_datum_25 rfl rfl ⟨Nat.zero_le _, Nat.zero_le _⟩ rfl (fun H locs hw => ?_)
      refine lv_if_eq (tgt := 35) C.1.1 C.1.2.1 dX19_datum_28 (by decide) (fun c12 => ?_) (fun c12 => ?_)
      · replace hD := g_pos c12 hD
        refine lv_iconst (v := 0) C.1.1 C.1.2.1 dX19_datum_35 (by decide) ?_
        exact hb36 r7 0 M9 L10 _ _ ls hD hw (lv_sub hl [0] rfl)
      · replace hD := g_neg c12 hD
        exact hb31 r7 M9 L10 _ _ ls hD hw (lv_sub hl [0] rfl)
  · replace hD := g_pos c4 hD
    refine lv_iconst (v := (-1)) C.1.1 C.1.2.1 dX19_datum_7 (by decide) ?_
    exact mr_iret C hr hlocks hw rfl (Option.some.inj hD) dX19_datum_8

theorem dX19_fits_0 : decode cX19_fits 0 = .ok (.iload_n 1, 1) := by decide +kernel
theorem dX19_fits_1 : decode cX19_fits 1 = .ok (.ifCond .ge 27, 3) := by decide +kernel
theorem dX19_fits_4 : decode cX19_fits 4 = .ok (.aload_n 0, 1) := by decide +kernel
theorem dX19_fits_5 : decode cX19_fits 5 = .ok (.iload_n 1, 1) := by decide +kernel
theorem dX19_fits_6 : decode cX19_fits 6 = .ok (.bipush (-4), 2) := by decide +kernel
theorem dX19_fits_8 : decode cX19_fits 8 = .ok (.if_icmp .ne 8, 3) := by decide +kernel
theorem dX19_fits_11 : decode cX19_fits 11 = .ok (.bipush 6, 2) := by decide +kernel
theorem dX19_fits_13 : decode cX19_fits 13 = .ok (.goto 5, 3) := by decide +kernel
theorem dX19_fits_16 : decode cX19_fits 16 = .ok (.bipush 7, 2) := by decide +kernel
theorem dX19_fits_18 : decode cX19_fits 18 = .ok (.aload_n 0, 1) := by decide +kernel
theorem dX19_fits_19 : decode cX19_fits 19 = .ok (.getfield 366, 3) := by decide +kernel
theorem dX19_fits_22 : decode cX19_fits 22 = .ok (.invokevirtual 321, 3) := by decide +kernel
theorem dX19_fits_25 : decode cX19_fits 25 = .ok (.ifCond .eq 7, 3) := by decide +kernel
theorem dX19_fits_28 : decode cX19_fits 28 = .ok (.iconst 1, 1) := by decide +kernel
theorem dX19_fits_29 : decode cX19_fits 29 = .ok (.goto 4, 3) := by decide +kernel
theorem dX19_fits_32 : decode cX19_fits 32 = .ok (.iconst 0, 1) := by decide +kernel
theorem dX19_fits_33 : decode cX19_fits 33 = .ok (.ireturn, 1) := by decide +kernel
theorem cwX19_fits : mw_cwV yX19_fits cX19_fits 2 ((some .boolean)) 1 := ⟨⟨wd_13, wd_3275, by decide +kernel⟩, wd_3274, sl_174⟩
set_option maxHeartbeats 4000000 in
set_option maxRecDepth 100000 in
theorem tX19_fits (l : Launch) (G : mwG) (ad : Nat → Nat) (fu : Nat) (a1 : Int32) (M : mwM) (L : mwL) {r0 : Int32} {M0 : mwM} {L0 : mwL} (hD : DX19_fits fu a1 M L = some (r0, M0, L0)) : Met l yX19_fits (Cond.code yX19_fits cX19_fits 2 ((some .boolean)) :: GT) ({ frames := 1, cells := 0, slots := 0, locals := 22 }) (mw_Pre G ad NF TF FF M L [.ref (ad 732), .int a1]) (mw_Qi G ad NF TF FF (mw_eqI r0 M0 L0)) 0 0 (mw_fr G) := by
  refine mw_enter (by decide) (Nat.le_of_ble_eq_true rfl) ?_
  intro p e s m below meth c ls C hr hlocks hnm hw hl
  have hl : lv_has ls 2 [(0, .ref (ad 732)), (1, .int a1)] := hl
  have hb33 : ∀ (s0 : Int32) (M : mwM) (L : mwL) (H : Heap) (locs : List Loc) (ls : Array Slot), fX19_fits_b33 fu a1 s0 M L = some (r0, M0, L0) → mw_W G ad NF TF FF M L H locs → lv_has ls 2 [] → W p l e ({ frames := 1, cells := 0, slots := 0, locals := 22 }) s m [.ref (ad 732), .int a1].toArray below meth c H locs 0 0 (MQ below (mw_Qi G ad NF TF FF (mw_eqI r0 M0 L0)) [.ref (ad 732), .int a1].toArray s 0 0 (mw_fr G)) (F0 m 33 ls [.int s0]) := by
    intro s0 M L H locs ls hD hw hl
    unfold fX19_fits_b33 at hD
    obtain ⟨z5, hD⟩ := g_zz hD
    exact mr_iret C hr hlocks hw (nz_zz z5) (Option.some.inj hD) dX19_fits_33
  have hb28 : ∀ (M : mwM) (L : mwL) (H : Heap) (locs : List Loc) (ls : Array Slot), fX19_fits_b28 fu a1 M L = some (r0, M0, L0) → mw_W G ad NF TF FF M L H locs → lv_has ls 2 [] → W p l e ({ frames := 1, cells := 0, slots := 0, locals := 22 }) s m [.ref (ad 732), .int a1].toArray below meth c H locs 0 0 (MQ below (mw_Qi G ad NF TF FF (mw_eqI r0 M0 L0)) [.ref (ad 732), .int a1].toArray s 0 0 (mw_fr G)) (F0 m 28 ls []) := by
    intro M L H locs ls hD hw hl
    unfold fX19_fits_b28 at hD
    refine lv_iconst (v := 1) C.1.1 C.1.2.1 dX19_fits_28 (by decide) ?_
    refine lv_goto (tgt := 33) C.1.1 C.1.2.1 dX19_fits_29 (by decide) ?_
    exact hb33 1 M L _ _ ls hD hw (lv_sub hl [] rfl)
  have hb18 : ∀ (s1 : Int32) (M : mwM) (L : mwL) (H : Heap) (locs : List Loc) (ls : Array Slot), fX19_fits_b18 fu a1 s1 M L = some (r0, M0, L0) → mw_W G ad NF TF FF M L H locs → lv_has ls 2 [(0, .ref (ad 732))] → W p l e ({ frames := 1, cells := 0, slots := 0, locals := 22 }) s m [.ref (ad 732), .int a1].toArray below meth c H locs 0 0 (MQ below (mw_Qi G ad NF TF FF (mw_eqI r0 M0 L0)) [.ref (ad 732), .int a1].toArray s 0 0 (mw_fr G)) (F0 m 18 ls [.int s1, .ref (ad 732)]) := by
    intro s1 M L H locs ls hD hw hl
    unfold fX19_fits_b18 at hD
    refine lv_aload_n C.1.1 C.1.2.1 dX19_fits_18 rfl (lv_at hl 0 rfl) ?_
    refine mr_getI C hw kc_19 8 (by decide) tf_732 wd_2789 dX19_fits_19 (by decide) rfl ?_
    obtain ⟨r3, M1, L2, h1, hD⟩ := g_b3 hD
    refine md_cvI (As := [.int s1, .int (M 732 8)]) (rest := []) C hw (tX19_fail l G ad fu s1 (M 732 8) M L h1) kc_19 (by decide) tf_732 wd_3172 cwX19_fail ⟨Nat.le_of_ble_eq_true rfl, Nat.le_of_ble_eq_true rfl⟩ rfl hl.1 (Nat.le_of_ble_eq_true rfl) dX19_fits_22 rfl rfl ⟨Nat.zero_le _, Nat.zero_le _⟩ rfl (fun H locs hw => ?_)
    refine lv_if_eq (tgt := 32) C.1.1 C.1.2.1 dX19_fits_25 (by decide) (fun c4 => ?_) (fun c4 => ?_)
    · replace hD := g_pos c4 hD
      refine lv_iconst (v := 0) C.1.1 C.1.2.1 dX19_fits_32 (by decide) ?_
      exact hb33 0 M1 L2 _ _ ls hD hw (lv_sub hl [] rfl)
    · replace hD := g_neg c4 hD
      exact hb28 M1 L2 _ _ ls hD hw (lv_sub hl [] rfl)
  unfold DX19_fits at hD
  refine lv_iload_n C.1.1 C.1.2.1 dX19_fits_0 rfl (lv_at hl 1 rfl) ?_
  refine lv_if_ge (tgt := 28) C.1.1 C.1.2.1 dX19_fits_1 (by decide) (fun c6 => ?_) (fun c6 => ?_)
  · replace hD := g_pos c6 hD
    exact hb28 M L _ _ ls hD hw (lv_sub hl [] rfl)
  · replace hD := g_neg c6 hD
    refine lv_aload_n C.1.1 C.1.2.1 dX19_fits_4 rfl (lv_at hl 0 rfl) ?_
    refine lv_iload_n C.1.1 C.1.2.1 dX19_fits_5 rfl (lv_at hl 1 rfl) ?_
    refine lv_bipush (v := (-4)) C.1.1 C.1.2.1 dX19_fits_6 (by decide) ?_
    refine lv_icmp_ne (tgt := 16) C.1.1 C.1.2.1 dX19_fits_8 (by decide) (fun c7 => ?_) (fun c7 => ?_)
    · replace hD := g_neg c7 hD
      refine lv_bipush (v := 7) C.1.1 C.1.2.1 dX19_fits_16 (by decide) ?_
      exact hb18 7 M L _ _ ls hD hw (lv_sub hl [0] rfl)
    · replace hD := g_pos c7 hD
      refine lv_bipush (v := 6) C.1.1 C.1.2.1 dX19_fits_11 (by decide) ?_
      refine lv_goto (tgt := 18) C.1.1 C.1.2.1 dX19_fits_13 (by decide) ?_
      exact hb18 6 M L _ _ ls hD hw (lv_sub hl [0] rfl)

theorem dX19_addController_0 : decode cX19_addController 0 = .ok (.aload_n 0, 1) := by decide +kernel
theorem dX19_addController_1 : decode cX19_addController 1 = .ok (.aload_n 0, 1) := by decide +kernel
theorem dX19_addController_2 : decode cX19_addController 2 = .ok (.getfield 435, 3) := by decide +kernel
theorem dX19_addController_5 : decode cX19_addController 5 = .ok (.bipush 6, 2) := by decide +kernel
theorem dX19_addController_7 : decode cX19_addController 7 = .ok (.invokevirtual 438, 3) := by decide +kernel
theorem dX19_addController_10 : decode cX19_addController 10 = .ok (.ifCond .ne 5, 3) := by decide +kernel
theorem dX19_addController_13 : decode cX19_addController 13 = .ok (.iconst 0, 1) := by decide +kernel
theorem dX19_addController_14 : decode cX19_addController 14 = .ok (.ireturn, 1) := by decide +kernel
theorem dX19_addController_15 : decode cX19_addController 15 = .ok (.aload_n 0, 1) := by decide +kernel
theorem dX19_addController_16 : decode cX19_addController 16 = .ok (.getfield 311, 3) := by decide +kernel
theorem dX19_addController_19 : decode cX19_addController 19 = .ok (.istore_n 1, 1) := by decide +kernel
theorem dX19_addController_20 : decode cX19_addController 20 = .ok (.aload_n 0, 1) := by decide +kernel
theorem dX19_addController_21 : decode cX19_addController 21 = .ok (.getfield 314, 3) := by decide +kernel
theorem dX19_addController_24 : decode cX19_addController 24 = .ok (.aload_n 0, 1) := by decide +kernel
theorem dX19_addController_25 : decode cX19_addController 25 = .ok (.getfield 311, 3) := by decide +kernel
theorem dX19_addController_28 : decode cX19_addController 28 = .ok (.isub, 1) := by decide +kernel
theorem dX19_addController_29 : decode cX19_addController 29 = .ok (.istore_n 2, 1) := by decide +kernel
theorem dX19_addController_30 : decode cX19_addController 30 = .ok (.aload_n 0, 1) := by decide +kernel
theorem dX19_addController_31 : decode cX19_addController 31 = .ok (.invokevirtual 441, 3) := by decide +kernel
theorem dX19_addController_34 : decode cX19_addController 34 = .ok (.ifCond .ne 5, 3) := by decide +kernel
theorem dX19_addController_37 : decode cX19_addController 37 = .ok (.iconst 0, 1) := by decide +kernel
theorem dX19_addController_38 : decode cX19_addController 38 = .ok (.ireturn, 1) := by decide +kernel
theorem dX19_addController_39 : decode cX19_addController 39 = .ok (.aload_n 0, 1) := by decide +kernel
theorem dX19_addController_40 : decode cX19_addController 40 = .ok (.iload_n 1, 1) := by decide +kernel
theorem dX19_addController_41 : decode cX19_addController 41 = .ok (.iload_n 2, 1) := by decide +kernel
theorem dX19_addController_42 : decode cX19_addController 42 = .ok (.iconst 1, 1) := by decide +kernel
theorem dX19_addController_43 : decode cX19_addController 43 = .ok (.aload_n 0, 1) := by decide +kernel
theorem dX19_addController_44 : decode cX19_addController 44 = .ok (.getfield 435, 3) := by decide +kernel
theorem dX19_addController_47 : decode cX19_addController 47 = .ok (.invokevirtual 444, 3) := by decide +kernel
theorem dX19_addController_50 : decode cX19_addController 50 = .ok (.aload_n 0, 1) := by decide +kernel
theorem dX19_addController_51 : decode cX19_addController 51 = .ok (.dup, 1) := by decide +kernel
theorem dX19_addController_52 : decode cX19_addController 52 = .ok (.getfield 435, 3) := by decide +kernel
theorem dX19_addController_55 : decode cX19_addController 55 = .ok (.iconst 1, 1) := by decide +kernel
theorem dX19_addController_56 : decode cX19_addController 56 = .ok (.iadd, 1) := by decide +kernel
theorem dX19_addController_57 : decode cX19_addController 57 = .ok (.putfield 435, 3) := by decide +kernel
theorem dX19_addController_60 : decode cX19_addController 60 = .ok (.iconst 1, 1) := by decide +kernel
theorem dX19_addController_61 : decode cX19_addController 61 = .ok (.ireturn, 1) := by decide +kernel
theorem cwX19_addController : mw_cwV yX19_addController cX19_addController 3 ((some .boolean)) 0 := ⟨⟨wd_13, wd_3163, by decide +kernel⟩, wd_3162, sl_152⟩
set_option maxHeartbeats 4000000 in
set_option maxRecDepth 100000 in
theorem tX19_addController (l : Launch) (G : mwG) (ad : Nat → Nat) (fu : Nat) (M : mwM) (L : mwL) {r0 : Int32} {M0 : mwM} {L0 : mwL} (hD : DX19_addController fu M L = some (r0, M0, L0)) : Met l yX19_addController (Cond.code yX19_addController cX19_addController 3 ((some .boolean)) :: GT) ({ frames := 3, cells := 0, slots := 0, locals := 67 }) (mw_Pre G ad NF TF FF M L [.ref (ad 732)]) (mw_Qi G ad NF TF FF (mw_eqI r0 M0 L0)) 0 0 (mw_fr G) := by
  refine mw_enter (by decide) (Nat.le_of_ble_eq_true rfl) ?_
  intro p e s m below meth c ls C hr hlocks hnm hw hl
  have hl : lv_has ls 3 [(0, .ref (ad 732))] := hl
  unfold DX19_addController at hD
  refine lv_aload_n C.1.1 C.1.2.1 dX19_addController_0 rfl (lv_at hl 0 rfl) ?_
  refine lv_aload_n C.1.1 C.1.2.1 dX19_addController_1 rfl (lv_at hl 0 rfl) ?_
  refine mr_getI C hw kc_19 19 (by decide) tf_732 wd_2800 dX19_addController_2 (by decide) rfl ?_
  refine lv_bipush (v := 6) C.1.1 C.1.2.1 dX19_addController_5 (by decide) ?_
  obtain ⟨r3, M1, L2, h1, hD⟩ := g_b3 hD
  refine md_cvI (As := [.int (M 732 19), .int 6]) (rest := []) C hw (tX19_newName l G ad fu (M 732 19) 6 M L h1) kc_19 (by decide) tf_732 wd_3164 cwX19_newName ⟨Nat.le_of_ble_eq_true rfl, Nat.le_of_ble_eq_true rfl⟩ rfl hl.1 (Nat.le_of_ble_eq_true rfl) dX19_addController_7 rfl rfl ⟨Nat.zero_le _, Nat.zero_le _⟩ rfl (fun H locs hw => ?_)
  refine lv_if_ne (tgt := 15) C.1.1 C.1.2.1 dX19_addController_10 (by decide) (fun c4 => ?_) (fun c4 => ?_)
  · replace hD := g_neg c4 hD
    refine lv_aload_n C.1.1 C.1.2.1 dX19_addController_15 rfl (lv_at hl 0 rfl) ?_
    refine mr_getI C hw kc_19 9 (by decide) tf_732 wd_2790 dX19_addController_16 (by decide) rfl ?_
    obtain ⟨x5, ex5, hD⟩ := g_let hD
    refine W.eq (g2 := F0 m 19 ls (.int x5 :: [])) (by rw [ex5]) ?_
    refine lv_istore_n (lv' := [(1, .int x5), (0, .ref (ad 732))]) C.1.1 C.1.2.1 dX19_addController_19 rfl hl (by decide) rfl (fun ls hl => ?_)
    refine lv_aload_n C.1.1 C.1.2.1 dX19_addController_20 rfl (lv_at hl 1 rfl) ?_
    refine mr_getI C hw kc_19 10 (by decide) tf_732 wd_2791 dX19_addController_21 (by decide) rfl ?_
    refine lv_aload_n C.1.1 C.1.2.1 dX19_addController_24 rfl (lv_at hl 1 rfl) ?_
    refine mr_getI C hw kc_19 9 (by decide) tf_732 wd_2790 dX19_addController_25 (by decide) rfl ?_
    refine lv_isub C.1.1 C.1.2.1 dX19_addController_28 ?_
    obtain ⟨x6, ex6, hD⟩ := g_let hD
    refine W.eq (g2 := F0 m 29 ls (.int x6 :: [])) (by rw [ex6]) ?_
    refine lv_istore_n (lv' := [(2, .int x6), (1, .int x5), (0, .ref (ad 732))]) C.1.1 C.1.2.1 dX19_addController_29 rfl hl (by decide) rfl (fun ls hl => ?_)
    refine lv_aload_n C.1.1 C.1.2.1 dX19_addController_30 rfl (lv_at hl 2 rfl) ?_
    obtain ⟨r9, M7, L8, h1, hD⟩ := g_b3 hD
    refine md_cvI (As := []) (rest := []) C hw (tX19_end l G ad fu M1 L2 h1) kc_19 (by decide) tf_732 wd_3194 cwX19_end ⟨Nat.le_of_ble_eq_true rfl, Nat.le_of_ble_eq_true rfl⟩ rfl hl.1 (Nat.le_of_ble_eq_true rfl) dX19_addController_31 rfl rfl ⟨Nat.zero_le _, Nat.zero_le _⟩ rfl (fun H locs hw => ?_)
    refine lv_if_ne (tgt := 39) C.1.1 C.1.2.1 dX19_addController_34 (by decide) (fun c10 => ?_) (fun c10 => ?_)
    · replace hD := g_neg c10 hD
      refine lv_aload_n C.1.1 C.1.2.1 dX19_addController_39 rfl (lv_at hl 2 rfl) ?_
      refine lv_iload_n C.1.1 C.1.2.1 dX19_addController_40 rfl (lv_at hl 1 rfl) ?_
      refine lv_iload_n C.1.1 C.1.2.1 dX19_addController_41 rfl (lv_at hl 0 rfl) ?_
      refine lv_iconst (v := 1) C.1.1 C.1.2.1 dX19_addController_42 (by decide) ?_
      refine lv_aload_n C.1.1 C.1.2.1 dX19_addController_43 rfl (lv_at hl 2 rfl) ?_
      refine mr_getI C hw kc_19 19 (by decide) tf_732 wd_2800 dX19_addController_44 (by decide) rfl ?_
      obtain ⟨M11, L12, h1, hD⟩ := g_b2 hD
      refine md_cvV (As := [.int x5, .int x6, .int 1, .int (M7 732 19)]) (rest := []) C hw (tX19_addName l G ad fu x5 x6 1 (M7 732 19) M7 L8 h1) kc_19 (by decide) tf_732 wd_3198 cwX19_addName ⟨Nat.le_of_ble_eq_true rfl, Nat.le_of_ble_eq_true rfl⟩ rfl hl.1 (Nat.le_of_ble_eq_true rfl) dX19_addController_47 rfl rfl ⟨Nat.zero_le _, Nat.zero_le _⟩ rfl (fun H locs hw => ?_)
      refine lv_aload_n C.1.1 C.1.2.1 dX19_addController_50 rfl (lv_at hl 2 rfl) ?_
      refine lv_dup C.1.1 C.1.2.1 dX19_addController_51 rfl ?_
      refine mr_getI C hw kc_19 19 (by decide) tf_732 wd_2800 dX19_addController_52 (by decide) rfl ?_
      refine lv_iconst (v := 1) C.1.1 C.1.2.1 dX19_addController_55 (by decide) ?_
      refine lv_iadd C.1.1 C.1.2.1 dX19_addController_56 ?_
      obtain ⟨M13, eM13, hD⟩ := g_let hD
      refine mr_putI C hw kc_19 19 (by decide) tf_732 wd_2800 dX19_addController_57 (by decide) rfl rfl rfl rfl (fun H locs hw => ?_)
      replace hw : mw_W G ad NF TF FF M13 L12 H locs := by rw [eM13]; exact hw
      refine lv_iconst (v := 1) C.1.1 C.1.2.1 dX19_addController_60 (by decide) ?_
      exact mr_iret C hr hlocks hw (by decide +kernel) (Option.some.inj hD) dX19_addController_61
    · replace hD := g_pos c10 hD
      refine lv_iconst (v := 0) C.1.1 C.1.2.1 dX19_addController_37 (by decide) ?_
      exact mr_iret C hr hlocks hw (by decide +kernel) (Option.some.inj hD) dX19_addController_38
  · replace hD := g_pos c4 hD
    refine lv_iconst (v := 0) C.1.1 C.1.2.1 dX19_addController_13 (by decide) ?_
    exact mr_iret C hr hlocks hw (by decide +kernel) (Option.some.inj hD) dX19_addController_14

theorem dX19_addTask_0 : decode cX19_addTask 0 = .ok (.aload_n 0, 1) := by decide +kernel
theorem dX19_addTask_1 : decode cX19_addTask 1 = .ok (.aload_n 0, 1) := by decide +kernel
theorem dX19_addTask_2 : decode cX19_addTask 2 = .ok (.getfield 448, 3) := by decide +kernel
theorem dX19_addTask_5 : decode cX19_addTask 5 = .ok (.bipush 12, 2) := by decide +kernel
theorem dX19_addTask_7 : decode cX19_addTask 7 = .ok (.invokevirtual 438, 3) := by decide +kernel
theorem dX19_addTask_10 : decode cX19_addTask 10 = .ok (.ifCond .ne 5, 3) := by decide +kernel
theorem dX19_addTask_13 : decode cX19_addTask 13 = .ok (.iconst 0, 1) := by decide +kernel
theorem dX19_addTask_14 : decode cX19_addTask 14 = .ok (.ireturn, 1) := by decide +kernel
theorem dX19_addTask_15 : decode cX19_addTask 15 = .ok (.aload_n 0, 1) := by decide +kernel
theorem dX19_addTask_16 : decode cX19_addTask 16 = .ok (.getfield 311, 3) := by decide +kernel
theorem dX19_addTask_19 : decode cX19_addTask 19 = .ok (.istore_n 1, 1) := by decide +kernel
theorem dX19_addTask_20 : decode cX19_addTask 20 = .ok (.aload_n 0, 1) := by decide +kernel
theorem dX19_addTask_21 : decode cX19_addTask 21 = .ok (.getfield 314, 3) := by decide +kernel
theorem dX19_addTask_24 : decode cX19_addTask 24 = .ok (.aload_n 0, 1) := by decide +kernel
theorem dX19_addTask_25 : decode cX19_addTask 25 = .ok (.getfield 311, 3) := by decide +kernel
theorem dX19_addTask_28 : decode cX19_addTask 28 = .ok (.isub, 1) := by decide +kernel
theorem dX19_addTask_29 : decode cX19_addTask 29 = .ok (.istore_n 2, 1) := by decide +kernel
theorem dX19_addTask_30 : decode cX19_addTask 30 = .ok (.aload_n 0, 1) := by decide +kernel
theorem dX19_addTask_31 : decode cX19_addTask 31 = .ok (.iconst 1, 1) := by decide +kernel
theorem dX19_addTask_32 : decode cX19_addTask 32 = .ok (.invokevirtual 451, 3) := by decide +kernel
theorem dX19_addTask_35 : decode cX19_addTask 35 = .ok (.istore_n 3, 1) := by decide +kernel
theorem dX19_addTask_36 : decode cX19_addTask 36 = .ok (.iload_n 3, 1) := by decide +kernel
theorem dX19_addTask_37 : decode cX19_addTask 37 = .ok (.ifCond .lt 14, 3) := by decide +kernel
theorem dX19_addTask_40 : decode cX19_addTask 40 = .ok (.aload_n 0, 1) := by decide +kernel
theorem dX19_addTask_41 : decode cX19_addTask 41 = .ok (.iconst 0, 1) := by decide +kernel
theorem dX19_addTask_42 : decode cX19_addTask 42 = .ok (.sipush 255, 3) := by decide +kernel
theorem dX19_addTask_45 : decode cX19_addTask 45 = .ok (.invokevirtual 454, 3) := by decide +kernel
theorem dX19_addTask_48 : decode cX19_addTask 48 = .ok (.ifCond .ne 5, 3) := by decide +kernel
theorem dX19_addTask_51 : decode cX19_addTask 51 = .ok (.iconst 0, 1) := by decide +kernel
theorem dX19_addTask_52 : decode cX19_addTask 52 = .ok (.ireturn, 1) := by decide +kernel
theorem dX19_addTask_53 : decode cX19_addTask 53 = .ok (.aload_n 0, 1) := by decide +kernel
theorem dX19_addTask_54 : decode cX19_addTask 54 = .ok (.getfield 40, 3) := by decide +kernel
theorem dX19_addTask_57 : decode cX19_addTask 57 = .ok (.aload_n 0, 1) := by decide +kernel
theorem dX19_addTask_58 : decode cX19_addTask 58 = .ok (.getfield 448, 3) := by decide +kernel
theorem dX19_addTask_61 : decode cX19_addTask 61 = .ok (.aload_n 0, 1) := by decide +kernel
theorem dX19_addTask_62 : decode cX19_addTask 62 = .ok (.getfield 338, 3) := by decide +kernel
theorem dX19_addTask_65 : decode cX19_addTask 65 = .ok (.iastore, 1) := by decide +kernel
theorem dX19_addTask_66 : decode cX19_addTask 66 = .ok (.aload_n 0, 1) := by decide +kernel
theorem dX19_addTask_67 : decode cX19_addTask 67 = .ok (.sipush 500, 3) := by decide +kernel
theorem dX19_addTask_70 : decode cX19_addTask 70 = .ok (.sipush 20000, 3) := by decide +kernel
theorem dX19_addTask_73 : decode cX19_addTask 73 = .ok (.invokevirtual 454, 3) := by decide +kernel
theorem dX19_addTask_76 : decode cX19_addTask 76 = .ok (.ifCond .ne 5, 3) := by decide +kernel
theorem dX19_addTask_79 : decode cX19_addTask 79 = .ok (.iconst 0, 1) := by decide +kernel
theorem dX19_addTask_80 : decode cX19_addTask 80 = .ok (.ireturn, 1) := by decide +kernel
theorem dX19_addTask_81 : decode cX19_addTask 81 = .ok (.aload_n 0, 1) := by decide +kernel
theorem dX19_addTask_82 : decode cX19_addTask 82 = .ok (.getfield 43, 3) := by decide +kernel
theorem dX19_addTask_85 : decode cX19_addTask 85 = .ok (.aload_n 0, 1) := by decide +kernel
theorem dX19_addTask_86 : decode cX19_addTask 86 = .ok (.getfield 448, 3) := by decide +kernel
theorem dX19_addTask_89 : decode cX19_addTask 89 = .ok (.aload_n 0, 1) := by decide +kernel
theorem dX19_addTask_90 : decode cX19_addTask 90 = .ok (.getfield 338, 3) := by decide +kernel
theorem dX19_addTask_93 : decode cX19_addTask 93 = .ok (.iastore, 1) := by decide +kernel
theorem dX19_addTask_94 : decode cX19_addTask 94 = .ok (.aload_n 0, 1) := by decide +kernel
theorem dX19_addTask_95 : decode cX19_addTask 95 = .ok (.iconst 0, 1) := by decide +kernel
theorem dX19_addTask_96 : decode cX19_addTask 96 = .ok (.aload_n 0, 1) := by decide +kernel
theorem dX19_addTask_97 : decode cX19_addTask 97 = .ok (.getfield 338, 3) := by decide +kernel
theorem dX19_addTask_100 : decode cX19_addTask 100 = .ok (.iconst 1, 1) := by decide +kernel
theorem dX19_addTask_101 : decode cX19_addTask 101 = .ok (.isub, 1) := by decide +kernel
theorem dX19_addTask_102 : decode cX19_addTask 102 = .ok (.invokevirtual 454, 3) := by decide +kernel
theorem dX19_addTask_105 : decode cX19_addTask 105 = .ok (.ifCond .ne 5, 3) := by decide +kernel
theorem dX19_addTask_108 : decode cX19_addTask 108 = .ok (.iconst 0, 1) := by decide +kernel
theorem dX19_addTask_109 : decode cX19_addTask 109 = .ok (.ireturn, 1) := by decide +kernel
theorem dX19_addTask_110 : decode cX19_addTask 110 = .ok (.aload_n 0, 1) := by decide +kernel
theorem dX19_addTask_111 : decode cX19_addTask 111 = .ok (.getfield 46, 3) := by decide +kernel
theorem dX19_addTask_114 : decode cX19_addTask 114 = .ok (.aload_n 0, 1) := by decide +kernel
theorem dX19_addTask_115 : decode cX19_addTask 115 = .ok (.getfield 448, 3) := by decide +kernel
theorem dX19_addTask_118 : decode cX19_addTask 118 = .ok (.aload_n 0, 1) := by decide +kernel
theorem dX19_addTask_119 : decode cX19_addTask 119 = .ok (.getfield 338, 3) := by decide +kernel
theorem dX19_addTask_122 : decode cX19_addTask 122 = .ok (.iastore, 1) := by decide +kernel
theorem dX19_addTask_123 : decode cX19_addTask 123 = .ok (.aload_n 0, 1) := by decide +kernel
theorem dX19_addTask_124 : decode cX19_addTask 124 = .ok (.iconst 1, 1) := by decide +kernel
theorem dX19_addTask_125 : decode cX19_addTask 125 = .ok (.sipush 1000, 3) := by decide +kernel
theorem dX19_addTask_128 : decode cX19_addTask 128 = .ok (.invokevirtual 454, 3) := by decide +kernel
theorem dX19_addTask_131 : decode cX19_addTask 131 = .ok (.ifCond .ne 5, 3) := by decide +kernel
theorem dX19_addTask_134 : decode cX19_addTask 134 = .ok (.iconst 0, 1) := by decide +kernel
theorem dX19_addTask_135 : decode cX19_addTask 135 = .ok (.ireturn, 1) := by decide +kernel
theorem dX19_addTask_136 : decode cX19_addTask 136 = .ok (.aload_n 0, 1) := by decide +kernel
theorem dX19_addTask_137 : decode cX19_addTask 137 = .ok (.getfield 49, 3) := by decide +kernel
theorem dX19_addTask_140 : decode cX19_addTask 140 = .ok (.aload_n 0, 1) := by decide +kernel
theorem dX19_addTask_141 : decode cX19_addTask 141 = .ok (.getfield 448, 3) := by decide +kernel
theorem dX19_addTask_144 : decode cX19_addTask 144 = .ok (.aload_n 0, 1) := by decide +kernel
theorem dX19_addTask_145 : decode cX19_addTask 145 = .ok (.getfield 338, 3) := by decide +kernel
theorem dX19_addTask_148 : decode cX19_addTask 148 = .ok (.iastore, 1) := by decide +kernel
theorem dX19_addTask_149 : decode cX19_addTask 149 = .ok (.aload_n 0, 1) := by decide +kernel
theorem dX19_addTask_150 : decode cX19_addTask 150 = .ok (.invokevirtual 441, 3) := by decide +kernel
theorem dX19_addTask_153 : decode cX19_addTask 153 = .ok (.ifCond .ne 5, 3) := by decide +kernel
theorem dX19_addTask_156 : decode cX19_addTask 156 = .ok (.iconst 0, 1) := by decide +kernel
theorem dX19_addTask_157 : decode cX19_addTask 157 = .ok (.ireturn, 1) := by decide +kernel
theorem dX19_addTask_158 : decode cX19_addTask 158 = .ok (.aload_n 0, 1) := by decide +kernel
theorem dX19_addTask_159 : decode cX19_addTask 159 = .ok (.getfield 34, 3) := by decide +kernel
theorem dX19_addTask_162 : decode cX19_addTask 162 = .ok (.aload_n 0, 1) := by decide +kernel
theorem dX19_addTask_163 : decode cX19_addTask 163 = .ok (.getfield 448, 3) := by decide +kernel
theorem dX19_addTask_166 : decode cX19_addTask 166 = .ok (.iload_n 1, 1) := by decide +kernel
theorem dX19_addTask_167 : decode cX19_addTask 167 = .ok (.iastore, 1) := by decide +kernel
theorem dX19_addTask_168 : decode cX19_addTask 168 = .ok (.aload_n 0, 1) := by decide +kernel
theorem dX19_addTask_169 : decode cX19_addTask 169 = .ok (.getfield 37, 3) := by decide +kernel
theorem dX19_addTask_172 : decode cX19_addTask 172 = .ok (.aload_n 0, 1) := by decide +kernel
theorem dX19_addTask_173 : decode cX19_addTask 173 = .ok (.getfield 448, 3) := by decide +kernel
theorem dX19_addTask_176 : decode cX19_addTask 176 = .ok (.iload_n 3, 1) := by decide +kernel
theorem dX19_addTask_177 : decode cX19_addTask 177 = .ok (.iastore, 1) := by decide +kernel
theorem dX19_addTask_178 : decode cX19_addTask 178 = .ok (.aload_n 0, 1) := by decide +kernel
theorem dX19_addTask_179 : decode cX19_addTask 179 = .ok (.getfield 52, 3) := by decide +kernel
theorem dX19_addTask_182 : decode cX19_addTask 182 = .ok (.aload_n 0, 1) := by decide +kernel
theorem dX19_addTask_183 : decode cX19_addTask 183 = .ok (.getfield 448, 3) := by decide +kernel
theorem dX19_addTask_186 : decode cX19_addTask 186 = .ok (.iconst (-1), 1) := by decide +kernel
theorem dX19_addTask_187 : decode cX19_addTask 187 = .ok (.iastore, 1) := by decide +kernel
theorem dX19_addTask_188 : decode cX19_addTask 188 = .ok (.aload_n 0, 1) := by decide +kernel
theorem dX19_addTask_189 : decode cX19_addTask 189 = .ok (.getfield 55, 3) := by decide +kernel
theorem dX19_addTask_192 : decode cX19_addTask 192 = .ok (.aload_n 0, 1) := by decide +kernel
theorem dX19_addTask_193 : decode cX19_addTask 193 = .ok (.getfield 448, 3) := by decide +kernel
theorem dX19_addTask_196 : decode cX19_addTask 196 = .ok (.iconst 0, 1) := by decide +kernel
theorem dX19_addTask_197 : decode cX19_addTask 197 = .ok (.iastore, 1) := by decide +kernel
theorem dX19_addTask_198 : decode cX19_addTask 198 = .ok (.aload_n 0, 1) := by decide +kernel
theorem dX19_addTask_199 : decode cX19_addTask 199 = .ok (.iload_n 1, 1) := by decide +kernel
theorem dX19_addTask_200 : decode cX19_addTask 200 = .ok (.iload_n 2, 1) := by decide +kernel
theorem dX19_addTask_201 : decode cX19_addTask 201 = .ok (.iconst 2, 1) := by decide +kernel
theorem dX19_addTask_202 : decode cX19_addTask 202 = .ok (.aload_n 0, 1) := by decide +kernel
theorem dX19_addTask_203 : decode cX19_addTask 203 = .ok (.getfield 448, 3) := by decide +kernel
theorem dX19_addTask_206 : decode cX19_addTask 206 = .ok (.invokevirtual 444, 3) := by decide +kernel
theorem dX19_addTask_209 : decode cX19_addTask 209 = .ok (.aload_n 0, 1) := by decide +kernel
theorem dX19_addTask_210 : decode cX19_addTask 210 = .ok (.dup, 1) := by decide +kernel
theorem dX19_addTask_211 : decode cX19_addTask 211 = .ok (.getfield 448, 3) := by decide +kernel
theorem dX19_addTask_214 : decode cX19_addTask 214 = .ok (.iconst 1, 1) := by decide +kernel
theorem dX19_addTask_215 : decode cX19_addTask 215 = .ok (.iadd, 1) := by decide +kernel
theorem dX19_addTask_216 : decode cX19_addTask 216 = .ok (.putfield 448, 3) := by decide +kernel
theorem dX19_addTask_219 : decode cX19_addTask 219 = .ok (.iconst 1, 1) := by decide +kernel
theorem dX19_addTask_220 : decode cX19_addTask 220 = .ok (.ireturn, 1) := by decide +kernel
theorem cwX19_addTask : mw_cwV yX19_addTask cX19_addTask 4 ((some .boolean)) 0 := ⟨⟨wd_13, wd_3206, by decide +kernel⟩, wd_3205, sl_161⟩
set_option maxHeartbeats 4000000 in
set_option maxRecDepth 100000 in
theorem tX19_addTask (l : Launch) (G : mwG) (ad : Nat → Nat) (fu : Nat) (M : mwM) (L : mwL) {r0 : Int32} {M0 : mwM} {L0 : mwL} (hD : DX19_addTask fu M L = some (r0, M0, L0)) : Met l yX19_addTask (Cond.code yX19_addTask cX19_addTask 4 ((some .boolean)) :: GT) ({ frames := 3, cells := 0, slots := 0, locals := 68 }) (mw_Pre G ad NF TF FF M L [.ref (ad 732)]) (mw_Qi G ad NF TF FF (mw_eqI r0 M0 L0)) 0 0 (mw_fr G) := by
  refine mw_enter (by decide) (Nat.le_of_ble_eq_true rfl) ?_
  intro p e s m below meth c ls C hr hlocks hnm hw hl
  have hl : lv_has ls 4 [(0, .ref (ad 732))] := hl
  have hb51 : ∀ (M : mwM) (L : mwL) (H : Heap) (locs : List Loc) (ls : Array Slot), fX19_addTask_b51 fu M L = some (r0, M0, L0) → mw_W G ad NF TF FF M L H locs → lv_has ls 4 [] → W p l e ({ frames := 3, cells := 0, slots := 0, locals := 68 }) s m [.ref (ad 732)].toArray below meth c H locs 0 0 (MQ below (mw_Qi G ad NF TF FF (mw_eqI r0 M0 L0)) [.ref (ad 732)].toArray s 0 0 (mw_fr G)) (F0 m 51 ls []) := by
    intro M L H locs ls hD hw hl
    unfold fX19_addTask_b51 at hD
    refine lv_iconst (v := 0) C.1.1 C.1.2.1 dX19_addTask_51 (by decide) ?_
    exact mr_iret C hr hlocks hw (by decide +kernel) (Option.some.inj hD) dX19_addTask_52
  unfold DX19_addTask at hD
  refine lv_aload_n C.1.1 C.1.2.1 dX19_addTask_0 rfl (lv_at hl 0 rfl) ?_
  refine lv_aload_n C.1.1 C.1.2.1 dX19_addTask_1 rfl (lv_at hl 0 rfl) ?_
  refine mr_getI C hw kc_19 24 (by decide) tf_732 wd_2805 dX19_addTask_2 (by decide) rfl ?_
  refine lv_bipush (v := 12) C.1.1 C.1.2.1 dX19_addTask_5 (by decide) ?_
  obtain ⟨r3, M1, L2, h1, hD⟩ := g_b3 hD
  refine md_cvI (As := [.int (M 732 24), .int 12]) (rest := []) C hw (tX19_newName l G ad fu (M 732 24) 12 M L h1) kc_19 (by decide) tf_732 wd_3164 cwX19_newName ⟨Nat.le_of_ble_eq_true rfl, Nat.le_of_ble_eq_true rfl⟩ rfl hl.1 (Nat.le_of_ble_eq_true rfl) dX19_addTask_7 rfl rfl ⟨Nat.zero_le _, Nat.zero_le _⟩ rfl (fun H locs hw => ?_)
  refine lv_if_ne (tgt := 15) C.1.1 C.1.2.1 dX19_addTask_10 (by decide) (fun c4 => ?_) (fun c4 => ?_)
  · replace hD := g_neg c4 hD
    refine lv_aload_n C.1.1 C.1.2.1 dX19_addTask_15 rfl (lv_at hl 0 rfl) ?_
    refine mr_getI C hw kc_19 9 (by decide) tf_732 wd_2790 dX19_addTask_16 (by decide) rfl ?_
    obtain ⟨x5, ex5, hD⟩ := g_let hD
    refine W.eq (g2 := F0 m 19 ls (.int x5 :: [])) (by rw [ex5]) ?_
    refine lv_istore_n (lv' := [(1, .int x5), (0, .ref (ad 732))]) C.1.1 C.1.2.1 dX19_addTask_19 rfl hl (by decide) rfl (fun ls hl => ?_)
    refine lv_aload_n C.1.1 C.1.2.1 dX19_addTask_20 rfl (lv_at hl 1 rfl) ?_
    refine mr_getI C hw kc_19 10 (by decide) tf_732 wd_2791 dX19_addTask_21 (by decide) rfl ?_
    refine lv_aload_n C.1.1 C.1.2.1 dX19_addTask_24 rfl (lv_at hl 1 rfl) ?_
    refine mr_getI C hw kc_19 9 (by decide) tf_732 wd_2790 dX19_addTask_25 (by decide) rfl ?_
    refine lv_isub C.1.1 C.1.2.1 dX19_addTask_28 ?_
    obtain ⟨x6, ex6, hD⟩ := g_let hD
    refine W.eq (g2 := F0 m 29 ls (.int x6 :: [])) (by rw [ex6]) ?_
    refine lv_istore_n (lv' := [(2, .int x6), (1, .int x5), (0, .ref (ad 732))]) C.1.1 C.1.2.1 dX19_addTask_29 rfl hl (by decide) rfl (fun ls hl => ?_)
    refine lv_aload_n C.1.1 C.1.2.1 dX19_addTask_30 rfl (lv_at hl 2 rfl) ?_
    refine lv_iconst (v := 1) C.1.1 C.1.2.1 dX19_addTask_31 (by decide) ?_
    obtain ⟨r9, M7, L8, h1, hD⟩ := g_b3 hD
    refine md_cvI (As := [.int 1]) (rest := []) C hw (tX19_named l G ad fu 1 M1 L2 h1) kc_19 (by decide) tf_732 wd_3207 cwX19_named ⟨Nat.le_of_ble_eq_true rfl, Nat.le_of_ble_eq_true rfl⟩ rfl hl.1 (Nat.le_of_ble_eq_true rfl) dX19_addTask_32 rfl rfl ⟨Nat.zero_le _, Nat.zero_le _⟩ rfl (fun H locs hw => ?_)
    refine lv_istore_n (lv' := [(3, .int r9), (2, .int x6), (1, .int x5), (0, .ref (ad 732))]) C.1.1 C.1.2.1 dX19_addTask_35 rfl hl (by decide) rfl (fun ls hl => ?_)
    refine lv_iload_n C.1.1 C.1.2.1 dX19_addTask_36 rfl (lv_at hl 0 rfl) ?_
    refine lv_if_lt (tgt := 51) C.1.1 C.1.2.1 dX19_addTask_37 (by decide) (fun c10 => ?_) (fun c10 => ?_)
    · replace hD := g_pos c10 hD
      exact hb51 M7 L8 _ _ ls hD hw (lv_sub hl [] rfl)
    · replace hD := g_neg c10 hD
      refine lv_aload_n C.1.1 C.1.2.1 dX19_addTask_40 rfl (lv_at hl 3 rfl) ?_
      refine lv_iconst (v := 0) C.1.1 C.1.2.1 dX19_addTask_41 (by decide) ?_
      refine lv_sipush (v := 255) C.1.1 C.1.2.1 dX19_addTask_42 (by decide) ?_
      obtain ⟨r13, M11, L12, h1, hD⟩ := g_b3 hD
      refine md_cvI (As := [.int 0, .int 255]) (rest := []) C hw (tX19_number l G ad fu 0 255 M7 L8 h1) kc_19 (by decide) tf_732 wd_3211 cwX19_number ⟨Nat.le_of_ble_eq_true rfl, Nat.le_of_ble_eq_true rfl⟩ rfl hl.1 (Nat.le_of_ble_eq_true rfl) dX19_addTask_45 rfl rfl ⟨Nat.zero_le _, Nat.zero_le _⟩ rfl (fun H locs hw => ?_)
      refine lv_if_ne (tgt := 53) C.1.1 C.1.2.1 dX19_addTask_48 (by decide) (fun c14 => ?_) (fun c14 => ?_)
      · replace hD := g_neg c14 hD
        refine lv_aload_n C.1.1 C.1.2.1 dX19_addTask_53 rfl (lv_at hl 3 rfl) ?_
        refine mr_getR C hw kc_19 27 (by decide) tf_732 ff_732_27 wd_2808 dX19_addTask_54 (by decide) rfl ?_
        refine lv_aload_n C.1.1 C.1.2.1 dX19_addTask_57 rfl (lv_at hl 3 rfl) ?_
        refine mr_getI C hw kc_19 24 (by decide) tf_732 wd_2805 dX19_addTask_58 (by decide) rfl ?_
        refine lv_aload_n C.1.1 C.1.2.1 dX19_addTask_61 rfl (lv_at hl 3 rfl) ?_
        refine mr_getI C hw kc_19 13 (by decide) tf_732 wd_2794 dX19_addTask_62 (by decide) rfl ?_
        obtain ⟨q15, hD⟩ := g_ck hD
        obtain ⟨M16, eM16, hD⟩ := g_let hD
        refine mr_iast C hw (by decide) tf_743 q15 dX19_addTask_65 (fun H locs hw => ?_)
        replace hw : mw_W G ad NF TF FF M16 L12 H locs := by rw [eM16]; exact hw
        refine lv_aload_n C.1.1 C.1.2.1 dX19_addTask_66 rfl (lv_at hl 3 rfl) ?_
        refine lv_sipush (v := 500) C.1.1 C.1.2.1 dX19_addTask_67 (by decide) ?_
        refine lv_sipush (v := 20000) C.1.1 C.1.2.1 dX19_addTask_70 (by decide) ?_
        obtain ⟨r19, M17, L18, h1, hD⟩ := g_b3 hD
        refine md_cvI (As := [.int 500, .int 20000]) (rest := []) C hw (tX19_number l G ad fu 500 20000 M16 L12 h1) kc_19 (by decide) tf_732 wd_3211 cwX19_number ⟨Nat.le_of_ble_eq_true rfl, Nat.le_of_ble_eq_true rfl⟩ rfl hl.1 (Nat.le_of_ble_eq_true rfl) dX19_addTask_73 rfl rfl ⟨Nat.zero_le _, Nat.zero_le _⟩ rfl (fun H locs hw => ?_)
        refine lv_if_ne (tgt := 81) C.1.1 C.1.2.1 dX19_addTask_76 (by decide) (fun c20 => ?_) (fun c20 => ?_)
        · replace hD := g_neg c20 hD
          refine lv_aload_n C.1.1 C.1.2.1 dX19_addTask_81 rfl (lv_at hl 3 rfl) ?_
          refine mr_getR C hw kc_19 28 (by decide) tf_732 ff_732_28 wd_2809 dX19_addTask_82 (by decide) rfl ?_
          refine lv_aload_n C.1.1 C.1.2.1 dX19_addTask_85 rfl (lv_at hl 3 rfl) ?_
          refine mr_getI C hw kc_19 24 (by decide) tf_732 wd_2805 dX19_addTask_86 (by decide) rfl ?_
          refine lv_aload_n C.1.1 C.1.2.1 dX19_addTask_89 rfl (lv_at hl 3 rfl) ?_
          refine mr_getI C hw kc_19 13 (by decide) tf_732 wd_2794 dX19_addTask_90 (by decide) rfl ?_
          obtain ⟨q21, hD⟩ := g_ck hD
          obtain ⟨M22, eM22, hD⟩ := g_let hD
          refine mr_iast C hw (by decide) tf_744 q21 dX19_addTask_93 (fun H locs hw => ?_)
          replace hw : mw_W G ad NF TF FF M22 L18 H locs := by rw [eM22]; exact hw
          refine lv_aload_n C.1.1 C.1.2.1 dX19_addTask_94 rfl (lv_at hl 3 rfl) ?_
          refine lv_iconst (v := 0) C.1.1 C.1.2.1 dX19_addTask_95 (by decide) ?_
          refine lv_aload_n C.1.1 C.1.2.1 dX19_addTask_96 rfl (lv_at hl 3 rfl) ?_
          refine mr_getI C hw kc_19 13 (by decide) tf_732 wd_2794 dX19_addTask_97 (by decide) rfl ?_
          refine lv_iconst (v := 1) C.1.1 C.1.2.1 dX19_addTask_100 (by decide) ?_
          refine lv_isub C.1.1 C.1.2.1 dX19_addTask_101 ?_
          obtain ⟨r25, M23, L24, h1, hD⟩ := g_b3 hD
          refine md_cvI (As := [.int 0, .int ((M22 732 13) - 1)]) (rest := []) C hw (tX19_number l G ad fu 0 ((M22 732 13) - 1) M22 L18 h1) kc_19 (by decide) tf_732 wd_3211 cwX19_number ⟨Nat.le_of_ble_eq_true rfl, Nat.le_of_ble_eq_true rfl⟩ rfl hl.1 (Nat.le_of_ble_eq_true rfl) dX19_addTask_102 rfl rfl ⟨Nat.zero_le _, Nat.zero_le _⟩ rfl (fun H locs hw => ?_)
          refine lv_if_ne (tgt := 110) C.1.1 C.1.2.1 dX19_addTask_105 (by decide) (fun c26 => ?_) (fun c26 => ?_)
          · replace hD := g_neg c26 hD
            refine lv_aload_n C.1.1 C.1.2.1 dX19_addTask_110 rfl (lv_at hl 3 rfl) ?_
            refine mr_getR C hw kc_19 29 (by decide) tf_732 ff_732_29 wd_2810 dX19_addTask_111 (by decide) rfl ?_
            refine lv_aload_n C.1.1 C.1.2.1 dX19_addTask_114 rfl (lv_at hl 3 rfl) ?_
            refine mr_getI C hw kc_19 24 (by decide) tf_732 wd_2805 dX19_addTask_115 (by decide) rfl ?_
            refine lv_aload_n C.1.1 C.1.2.1 dX19_addTask_118 rfl (lv_at hl 3 rfl) ?_
            refine mr_getI C hw kc_19 13 (by decide) tf_732 wd_2794 dX19_addTask_119 (by decide) rfl ?_
            obtain ⟨q27, hD⟩ := g_ck hD
            obtain ⟨M28, eM28, hD⟩ := g_let hD
            refine mr_iast C hw (by decide) tf_745 q27 dX19_addTask_122 (fun H locs hw => ?_)
            replace hw : mw_W G ad NF TF FF M28 L24 H locs := by rw [eM28]; exact hw
            refine lv_aload_n C.1.1 C.1.2.1 dX19_addTask_123 rfl (lv_at hl 3 rfl) ?_
            refine lv_iconst (v := 1) C.1.1 C.1.2.1 dX19_addTask_124 (by decide) ?_
            refine lv_sipush (v := 1000) C.1.1 C.1.2.1 dX19_addTask_125 (by decide) ?_
            obtain ⟨r31, M29, L30, h1, hD⟩ := g_b3 hD
            refine md_cvI (As := [.int 1, .int 1000]) (rest := []) C hw (tX19_number l G ad fu 1 1000 M28 L24 h1) kc_19 (by decide) tf_732 wd_3211 cwX19_number ⟨Nat.le_of_ble_eq_true rfl, Nat.le_of_ble_eq_true rfl⟩ rfl hl.1 (Nat.le_of_ble_eq_true rfl) dX19_addTask_128 rfl rfl ⟨Nat.zero_le _, Nat.zero_le _⟩ rfl (fun H locs hw => ?_)
            refine lv_if_ne (tgt := 136) C.1.1 C.1.2.1 dX19_addTask_131 (by decide) (fun c32 => ?_) (fun c32 => ?_)
            · replace hD := g_neg c32 hD
              refine lv_aload_n C.1.1 C.1.2.1 dX19_addTask_136 rfl (lv_at hl 3 rfl) ?_
              refine mr_getR C hw kc_19 30 (by decide) tf_732 ff_732_30 wd_2811 dX19_addTask_137 (by decide) rfl ?_
              refine lv_aload_n C.1.1 C.1.2.1 dX19_addTask_140 rfl (lv_at hl 3 rfl) ?_
              refine mr_getI C hw kc_19 24 (by decide) tf_732 wd_2805 dX19_addTask_141 (by decide) rfl ?_
              refine lv_aload_n C.1.1 C.1.2.1 dX19_addTask_144 rfl (lv_at hl 3 rfl) ?_
              refine mr_getI C hw kc_19 13 (by decide) tf_732 wd_2794 dX19_addTask_145 (by decide) rfl ?_
              obtain ⟨q33, hD⟩ := g_ck hD
              obtain ⟨M34, eM34, hD⟩ := g_let hD
              refine mr_iast C hw (by decide) tf_746 q33 dX19_addTask_148 (fun H locs hw => ?_)
              replace hw : mw_W G ad NF TF FF M34 L30 H locs := by rw [eM34]; exact hw
              refine lv_aload_n C.1.1 C.1.2.1 dX19_addTask_149 rfl (lv_at hl 3 rfl) ?_
              obtain ⟨r37, M35, L36, h1, hD⟩ := g_b3 hD
              refine md_cvI (As := []) (rest := []) C hw (tX19_end l G ad fu M34 L30 h1) kc_19 (by decide) tf_732 wd_3194 cwX19_end ⟨Nat.le_of_ble_eq_true rfl, Nat.le_of_ble_eq_true rfl⟩ rfl hl.1 (Nat.le_of_ble_eq_true rfl) dX19_addTask_150 rfl rfl ⟨Nat.zero_le _, Nat.zero_le _⟩ rfl (fun H locs hw => ?_)
              refine lv_if_ne (tgt := 158) C.1.1 C.1.2.1 dX19_addTask_153 (by decide) (fun c38 => ?_) (fun c38 => ?_)
              · replace hD := g_neg c38 hD
                refine lv_aload_n C.1.1 C.1.2.1 dX19_addTask_158 rfl (lv_at hl 3 rfl) ?_
                refine mr_getR C hw kc_19 25 (by decide) tf_732 ff_732_25 wd_2806 dX19_addTask_159 (by decide) rfl ?_
                refine lv_aload_n C.1.1 C.1.2.1 dX19_addTask_162 rfl (lv_at hl 3 rfl) ?_
                refine mr_getI C hw kc_19 24 (by decide) tf_732 wd_2805 dX19_addTask_163 (by decide) rfl ?_
                refine lv_iload_n C.1.1 C.1.2.1 dX19_addTask_166 rfl (lv_at hl 2 rfl) ?_
                obtain ⟨q39, hD⟩ := g_ck hD
                obtain ⟨M40, eM40, hD⟩ := g_let hD
                refine mr_iast C hw (by decide) tf_741 q39 dX19_addTask_167 (fun H locs hw => ?_)
                replace hw : mw_W G ad NF TF FF M40 L36 H locs := by rw [eM40]; exact hw
                refine lv_aload_n C.1.1 C.1.2.1 dX19_addTask_168 rfl (lv_at hl 3 rfl) ?_
                refine mr_getR C hw kc_19 26 (by decide) tf_732 ff_732_26 wd_2807 dX19_addTask_169 (by decide) rfl ?_
                refine lv_aload_n C.1.1 C.1.2.1 dX19_addTask_172 rfl (lv_at hl 3 rfl) ?_
                refine mr_getI C hw kc_19 24 (by decide) tf_732 wd_2805 dX19_addTask_173 (by decide) rfl ?_
                refine lv_iload_n C.1.1 C.1.2.1 dX19_addTask_176 rfl (lv_at hl 0 rfl) ?_
                obtain ⟨q41, hD⟩ := g_ck hD
                obtain ⟨M42, eM42, hD⟩ := g_let hD
                refine mr_iast C hw (by decide) tf_742 q41 dX19_addTask_177 (fun H locs hw => ?_)
                replace hw : mw_W G ad NF TF FF M42 L36 H locs := by rw [eM42]; exact hw
                refine lv_aload_n C.1.1 C.1.2.1 dX19_addTask_178 rfl (lv_at hl 3 rfl) ?_
                refine mr_getR C hw kc_19 31 (by decide) tf_732 ff_732_31 wd_2812 dX19_addTask_179 (by decide) rfl ?_
                refine lv_aload_n C.1.1 C.1.2.1 dX19_addTask_182 rfl (lv_at hl 3 rfl) ?_
                refine mr_getI C hw kc_19 24 (by decide) tf_732 wd_2805 dX19_addTask_183 (by decide) rfl ?_
                refine lv_iconst (v := (-1)) C.1.1 C.1.2.1 dX19_addTask_186 (by decide) ?_
                obtain ⟨q43, hD⟩ := g_ck hD
                obtain ⟨M44, eM44, hD⟩ := g_let hD
                refine mr_iast C hw (by decide) tf_747 q43 dX19_addTask_187 (fun H locs hw => ?_)
                replace hw : mw_W G ad NF TF FF M44 L36 H locs := by rw [eM44]; exact hw
                refine lv_aload_n C.1.1 C.1.2.1 dX19_addTask_188 rfl (lv_at hl 3 rfl) ?_
                refine mr_getR C hw kc_19 32 (by decide) tf_732 ff_732_32 wd_2813 dX19_addTask_189 (by decide) rfl ?_
                refine lv_aload_n C.1.1 C.1.2.1 dX19_addTask_192 rfl (lv_at hl 3 rfl) ?_
                refine mr_getI C hw kc_19 24 (by decide) tf_732 wd_2805 dX19_addTask_193 (by decide) rfl ?_
                refine lv_iconst (v := 0) C.1.1 C.1.2.1 dX19_addTask_196 (by decide) ?_
                obtain ⟨q45, hD⟩ := g_ck hD
                obtain ⟨M46, eM46, hD⟩ := g_let hD
                refine mr_iast C hw (by decide) tf_748 q45 dX19_addTask_197 (fun H locs hw => ?_)
                replace hw : mw_W G ad NF TF FF M46 L36 H locs := by rw [eM46]; exact hw
                refine lv_aload_n C.1.1 C.1.2.1 dX19_addTask_198 rfl (lv_at hl 3 rfl) ?_
                refine lv_iload_n C.1.1 C.1.2.1 dX19_addTask_199 rfl (lv_at hl 2 rfl) ?_
                refine lv_iload_n C.1.1 C.1.2.1 dX19_addTask_200 rfl (lv_at hl 1 rfl) ?_
                refine lv_iconst (v := 2) C.1.1 C.1.2.1 dX19_addTask_201 (by decide) ?_
                refine lv_aload_n C.1.1 C.1.2.1 dX19_addTask_202 rfl (lv_at hl 3 rfl) ?_
                refine mr_getI C hw kc_19 24 (by decide) tf_732 wd_2805 dX19_addTask_203 (by decide) rfl ?_
                obtain ⟨M47, L48, h1, hD⟩ := g_b2 hD
                refine md_cvV (As := [.int x5, .int x6, .int 2, .int (M46 732 24)]) (rest := []) C hw (tX19_addName l G ad fu x5 x6 2 (M46 732 24) M46 L36 h1) kc_19 (by decide) tf_732 wd_3198 cwX19_addName ⟨Nat.le_of_ble_eq_true rfl, Nat.le_of_ble_eq_true rfl⟩ rfl hl.1 (Nat.le_of_ble_eq_true rfl) dX19_addTask_206 rfl rfl ⟨Nat.zero_le _, Nat.zero_le _⟩ rfl (fun H locs hw => ?_)
                refine lv_aload_n C.1.1 C.1.2.1 dX19_addTask_209 rfl (lv_at hl 3 rfl) ?_
                refine lv_dup C.1.1 C.1.2.1 dX19_addTask_210 rfl ?_
                refine mr_getI C hw kc_19 24 (by decide) tf_732 wd_2805 dX19_addTask_211 (by decide) rfl ?_
                refine lv_iconst (v := 1) C.1.1 C.1.2.1 dX19_addTask_214 (by decide) ?_
                refine lv_iadd C.1.1 C.1.2.1 dX19_addTask_215 ?_
                obtain ⟨M49, eM49, hD⟩ := g_let hD
                refine mr_putI C hw kc_19 24 (by decide) tf_732 wd_2805 dX19_addTask_216 (by decide) rfl rfl rfl rfl (fun H locs hw => ?_)
                replace hw : mw_W G ad NF TF FF M49 L48 H locs := by rw [eM49]; exact hw
                refine lv_iconst (v := 1) C.1.1 C.1.2.1 dX19_addTask_219 (by decide) ?_
                exact mr_iret C hr hlocks hw (by decide +kernel) (Option.some.inj hD) dX19_addTask_220
              · replace hD := g_pos c38 hD
                refine lv_iconst (v := 0) C.1.1 C.1.2.1 dX19_addTask_156 (by decide) ?_
                exact mr_iret C hr hlocks hw (by decide +kernel) (Option.some.inj hD) dX19_addTask_157
            · replace hD := g_pos c32 hD
              refine lv_iconst (v := 0) C.1.1 C.1.2.1 dX19_addTask_134 (by decide) ?_
              exact mr_iret C hr hlocks hw (by decide +kernel) (Option.some.inj hD) dX19_addTask_135
          · replace hD := g_pos c26 hD
            refine lv_iconst (v := 0) C.1.1 C.1.2.1 dX19_addTask_108 (by decide) ?_
            exact mr_iret C hr hlocks hw (by decide +kernel) (Option.some.inj hD) dX19_addTask_109
        · replace hD := g_pos c20 hD
          refine lv_iconst (v := 0) C.1.1 C.1.2.1 dX19_addTask_79 (by decide) ?_
          exact mr_iret C hr hlocks hw (by decide +kernel) (Option.some.inj hD) dX19_addTask_80
      · replace hD := g_pos c14 hD
        exact hb51 M11 L12 _ _ ls hD hw (lv_sub hl [] rfl)
  · replace hD := g_pos c4 hD
    refine lv_iconst (v := 0) C.1.1 C.1.2.1 dX19_addTask_13 (by decide) ?_
    exact mr_iret C hr hlocks hw (by decide +kernel) (Option.some.inj hD) dX19_addTask_14

theorem dX19_addChart_0 : decode cX19_addChart 0 = .ok (.aload_n 0, 1) := by decide +kernel
theorem dX19_addChart_1 : decode cX19_addChart 1 = .ok (.aload_n 0, 1) := by decide +kernel
theorem dX19_addChart_2 : decode cX19_addChart 2 = .ok (.getfield 456, 3) := by decide +kernel
theorem dX19_addChart_5 : decode cX19_addChart 5 = .ok (.bipush 12, 2) := by decide +kernel
theorem dX19_addChart_7 : decode cX19_addChart 7 = .ok (.invokevirtual 438, 3) := by decide +kernel
theorem dX19_addChart_10 : decode cX19_addChart 10 = .ok (.ifCond .ne 5, 3) := by decide +kernel
theorem dX19_addChart_13 : decode cX19_addChart 13 = .ok (.iconst 0, 1) := by decide +kernel
theorem dX19_addChart_14 : decode cX19_addChart 14 = .ok (.ireturn, 1) := by decide +kernel
theorem dX19_addChart_15 : decode cX19_addChart 15 = .ok (.aload_n 0, 1) := by decide +kernel
theorem dX19_addChart_16 : decode cX19_addChart 16 = .ok (.getfield 311, 3) := by decide +kernel
theorem dX19_addChart_19 : decode cX19_addChart 19 = .ok (.istore_n 1, 1) := by decide +kernel
theorem dX19_addChart_20 : decode cX19_addChart 20 = .ok (.aload_n 0, 1) := by decide +kernel
theorem dX19_addChart_21 : decode cX19_addChart 21 = .ok (.getfield 314, 3) := by decide +kernel
theorem dX19_addChart_24 : decode cX19_addChart 24 = .ok (.aload_n 0, 1) := by decide +kernel
theorem dX19_addChart_25 : decode cX19_addChart 25 = .ok (.getfield 311, 3) := by decide +kernel
theorem dX19_addChart_28 : decode cX19_addChart 28 = .ok (.isub, 1) := by decide +kernel
theorem dX19_addChart_29 : decode cX19_addChart 29 = .ok (.istore_n 2, 1) := by decide +kernel
theorem dX19_addChart_30 : decode cX19_addChart 30 = .ok (.aload_n 0, 1) := by decide +kernel
theorem dX19_addChart_31 : decode cX19_addChart 31 = .ok (.iconst 2, 1) := by decide +kernel
theorem dX19_addChart_32 : decode cX19_addChart 32 = .ok (.invokevirtual 451, 3) := by decide +kernel
theorem dX19_addChart_35 : decode cX19_addChart 35 = .ok (.istore_n 3, 1) := by decide +kernel
theorem dX19_addChart_36 : decode cX19_addChart 36 = .ok (.aload_n 0, 1) := by decide +kernel
theorem dX19_addChart_37 : decode cX19_addChart 37 = .ok (.getfield 311, 3) := by decide +kernel
theorem dX19_addChart_40 : decode cX19_addChart 40 = .ok (.istore 4, 2) := by decide +kernel
theorem dX19_addChart_42 : decode cX19_addChart 42 = .ok (.iload_n 3, 1) := by decide +kernel
theorem dX19_addChart_43 : decode cX19_addChart 43 = .ok (.ifCond .lt 13, 3) := by decide +kernel
theorem dX19_addChart_46 : decode cX19_addChart 46 = .ok (.aload_n 0, 1) := by decide +kernel
theorem dX19_addChart_47 : decode cX19_addChart 47 = .ok (.iconst 0, 1) := by decide +kernel
theorem dX19_addChart_48 : decode cX19_addChart 48 = .ok (.bipush 50, 2) := by decide +kernel
theorem dX19_addChart_50 : decode cX19_addChart 50 = .ok (.invokevirtual 454, 3) := by decide +kernel
theorem dX19_addChart_53 : decode cX19_addChart 53 = .ok (.ifCond .ne 5, 3) := by decide +kernel
theorem dX19_addChart_56 : decode cX19_addChart 56 = .ok (.iconst 0, 1) := by decide +kernel
theorem dX19_addChart_57 : decode cX19_addChart 57 = .ok (.ireturn, 1) := by decide +kernel
theorem dX19_addChart_58 : decode cX19_addChart 58 = .ok (.aload_n 0, 1) := by decide +kernel
theorem dX19_addChart_59 : decode cX19_addChart 59 = .ok (.getfield 338, 3) := by decide +kernel
theorem dX19_addChart_62 : decode cX19_addChart 62 = .ok (.istore 5, 2) := by decide +kernel
theorem dX19_addChart_64 : decode cX19_addChart 64 = .ok (.aload_n 0, 1) := by decide +kernel
theorem dX19_addChart_65 : decode cX19_addChart 65 = .ok (.invokevirtual 441, 3) := by decide +kernel
theorem dX19_addChart_68 : decode cX19_addChart 68 = .ok (.ifCond .ne 5, 3) := by decide +kernel
theorem dX19_addChart_71 : decode cX19_addChart 71 = .ok (.iconst 0, 1) := by decide +kernel
theorem dX19_addChart_72 : decode cX19_addChart 72 = .ok (.ireturn, 1) := by decide +kernel
theorem dX19_addChart_73 : decode cX19_addChart 73 = .ok (.aload_n 0, 1) := by decide +kernel
theorem dX19_addChart_74 : decode cX19_addChart 74 = .ok (.getfield 52, 3) := by decide +kernel
theorem dX19_addChart_77 : decode cX19_addChart 77 = .ok (.iload_n 3, 1) := by decide +kernel
theorem dX19_addChart_78 : decode cX19_addChart 78 = .ok (.iaload, 1) := by decide +kernel
theorem dX19_addChart_79 : decode cX19_addChart 79 = .ok (.ifCond .lt 12, 3) := by decide +kernel
theorem dX19_addChart_82 : decode cX19_addChart 82 = .ok (.aload_n 0, 1) := by decide +kernel
theorem dX19_addChart_83 : decode cX19_addChart 83 = .ok (.bipush 7, 2) := by decide +kernel
theorem dX19_addChart_85 : decode cX19_addChart 85 = .ok (.iload 4, 2) := by decide +kernel
theorem dX19_addChart_87 : decode cX19_addChart 87 = .ok (.invokevirtual 321, 3) := by decide +kernel
theorem dX19_addChart_90 : decode cX19_addChart 90 = .ok (.ireturn, 1) := by decide +kernel
theorem dX19_addChart_91 : decode cX19_addChart 91 = .ok (.aload_n 0, 1) := by decide +kernel
theorem dX19_addChart_92 : decode cX19_addChart 92 = .ok (.getfield 52, 3) := by decide +kernel
theorem dX19_addChart_95 : decode cX19_addChart 95 = .ok (.iload_n 3, 1) := by decide +kernel
theorem dX19_addChart_96 : decode cX19_addChart 96 = .ok (.aload_n 0, 1) := by decide +kernel
theorem dX19_addChart_97 : decode cX19_addChart 97 = .ok (.getfield 456, 3) := by decide +kernel
theorem dX19_addChart_100 : decode cX19_addChart 100 = .ok (.iastore, 1) := by decide +kernel
theorem dX19_addChart_101 : decode cX19_addChart 101 = .ok (.aload_n 0, 1) := by decide +kernel
theorem dX19_addChart_102 : decode cX19_addChart 102 = .ok (.getfield 58, 3) := by decide +kernel
theorem dX19_addChart_105 : decode cX19_addChart 105 = .ok (.aload_n 0, 1) := by decide +kernel
theorem dX19_addChart_106 : decode cX19_addChart 106 = .ok (.getfield 456, 3) := by decide +kernel
theorem dX19_addChart_109 : decode cX19_addChart 109 = .ok (.iload_n 3, 1) := by decide +kernel
theorem dX19_addChart_110 : decode cX19_addChart 110 = .ok (.iastore, 1) := by decide +kernel
theorem dX19_addChart_111 : decode cX19_addChart 111 = .ok (.aload_n 0, 1) := by decide +kernel
theorem dX19_addChart_112 : decode cX19_addChart 112 = .ok (.getfield 61, 3) := by decide +kernel
theorem dX19_addChart_115 : decode cX19_addChart 115 = .ok (.aload_n 0, 1) := by decide +kernel
theorem dX19_addChart_116 : decode cX19_addChart 116 = .ok (.getfield 456, 3) := by decide +kernel
theorem dX19_addChart_119 : decode cX19_addChart 119 = .ok (.iconst 0, 1) := by decide +kernel
theorem dX19_addChart_120 : decode cX19_addChart 120 = .ok (.iastore, 1) := by decide +kernel
theorem dX19_addChart_121 : decode cX19_addChart 121 = .ok (.aload_n 0, 1) := by decide +kernel
theorem dX19_addChart_122 : decode cX19_addChart 122 = .ok (.getfield 64, 3) := by decide +kernel
theorem dX19_addChart_125 : decode cX19_addChart 125 = .ok (.aload_n 0, 1) := by decide +kernel
theorem dX19_addChart_126 : decode cX19_addChart 126 = .ok (.getfield 456, 3) := by decide +kernel
theorem dX19_addChart_129 : decode cX19_addChart 129 = .ok (.iconst 0, 1) := by decide +kernel
theorem dX19_addChart_130 : decode cX19_addChart 130 = .ok (.iastore, 1) := by decide +kernel
theorem dX19_addChart_131 : decode cX19_addChart 131 = .ok (.aload_n 0, 1) := by decide +kernel
theorem dX19_addChart_132 : decode cX19_addChart 132 = .ok (.getfield 67, 3) := by decide +kernel
theorem dX19_addChart_135 : decode cX19_addChart 135 = .ok (.aload_n 0, 1) := by decide +kernel
theorem dX19_addChart_136 : decode cX19_addChart 136 = .ok (.getfield 456, 3) := by decide +kernel
theorem dX19_addChart_139 : decode cX19_addChart 139 = .ok (.iconst 0, 1) := by decide +kernel
theorem dX19_addChart_140 : decode cX19_addChart 140 = .ok (.iastore, 1) := by decide +kernel
theorem dX19_addChart_141 : decode cX19_addChart 141 = .ok (.aload_n 0, 1) := by decide +kernel
theorem dX19_addChart_142 : decode cX19_addChart 142 = .ok (.getfield 73, 3) := by decide +kernel
theorem dX19_addChart_145 : decode cX19_addChart 145 = .ok (.aload_n 0, 1) := by decide +kernel
theorem dX19_addChart_146 : decode cX19_addChart 146 = .ok (.getfield 456, 3) := by decide +kernel
theorem dX19_addChart_149 : decode cX19_addChart 149 = .ok (.iconst 0, 1) := by decide +kernel
theorem dX19_addChart_150 : decode cX19_addChart 150 = .ok (.iastore, 1) := by decide +kernel
theorem dX19_addChart_151 : decode cX19_addChart 151 = .ok (.aload_n 0, 1) := by decide +kernel
theorem dX19_addChart_152 : decode cX19_addChart 152 = .ok (.getfield 82, 3) := by decide +kernel
theorem dX19_addChart_155 : decode cX19_addChart 155 = .ok (.aload_n 0, 1) := by decide +kernel
theorem dX19_addChart_156 : decode cX19_addChart 156 = .ok (.getfield 456, 3) := by decide +kernel
theorem dX19_addChart_159 : decode cX19_addChart 159 = .ok (.iconst 0, 1) := by decide +kernel
theorem dX19_addChart_160 : decode cX19_addChart 160 = .ok (.iastore, 1) := by decide +kernel
theorem dX19_addChart_161 : decode cX19_addChart 161 = .ok (.aload_n 0, 1) := by decide +kernel
theorem dX19_addChart_162 : decode cX19_addChart 162 = .ok (.getfield 217, 3) := by decide +kernel
theorem dX19_addChart_165 : decode cX19_addChart 165 = .ok (.aload_n 0, 1) := by decide +kernel
theorem dX19_addChart_166 : decode cX19_addChart 166 = .ok (.getfield 456, 3) := by decide +kernel
theorem dX19_addChart_169 : decode cX19_addChart 169 = .ok (.aaload, 1) := by decide +kernel
theorem dX19_addChart_170 : decode cX19_addChart 170 = .ok (.iload 5, 2) := by decide +kernel
theorem dX19_addChart_172 : decode cX19_addChart 172 = .ok (.invokevirtual 459, 3) := by decide +kernel
theorem dX19_addChart_175 : decode cX19_addChart 175 = .ok (.aload_n 0, 1) := by decide +kernel
theorem dX19_addChart_176 : decode cX19_addChart 176 = .ok (.iload_n 1, 1) := by decide +kernel
theorem dX19_addChart_177 : decode cX19_addChart 177 = .ok (.iload_n 2, 1) := by decide +kernel
theorem dX19_addChart_178 : decode cX19_addChart 178 = .ok (.iconst 3, 1) := by decide +kernel
theorem dX19_addChart_179 : decode cX19_addChart 179 = .ok (.aload_n 0, 1) := by decide +kernel
theorem dX19_addChart_180 : decode cX19_addChart 180 = .ok (.getfield 456, 3) := by decide +kernel
theorem dX19_addChart_183 : decode cX19_addChart 183 = .ok (.invokevirtual 444, 3) := by decide +kernel
theorem dX19_addChart_186 : decode cX19_addChart 186 = .ok (.aload_n 0, 1) := by decide +kernel
theorem dX19_addChart_187 : decode cX19_addChart 187 = .ok (.dup, 1) := by decide +kernel
theorem dX19_addChart_188 : decode cX19_addChart 188 = .ok (.getfield 456, 3) := by decide +kernel
theorem dX19_addChart_191 : decode cX19_addChart 191 = .ok (.iconst 1, 1) := by decide +kernel
theorem dX19_addChart_192 : decode cX19_addChart 192 = .ok (.iadd, 1) := by decide +kernel
theorem dX19_addChart_193 : decode cX19_addChart 193 = .ok (.putfield 456, 3) := by decide +kernel
theorem dX19_addChart_196 : decode cX19_addChart 196 = .ok (.iconst 1, 1) := by decide +kernel
theorem dX19_addChart_197 : decode cX19_addChart 197 = .ok (.ireturn, 1) := by decide +kernel
theorem cwX19_addChart : mw_cwV yX19_addChart cX19_addChart 6 ((some .boolean)) 0 := ⟨⟨wd_13, wd_3223, by decide +kernel⟩, wd_3222, sl_165⟩
set_option maxHeartbeats 4000000 in
set_option maxRecDepth 100000 in
theorem tX19_addChart (l : Launch) (G : mwG) (ad : Nat → Nat) (fu : Nat) (M : mwM) (L : mwL) {r0 : Int32} {M0 : mwM} {L0 : mwL} (hD : DX19_addChart fu M L = some (r0, M0, L0)) : Met l yX19_addChart (Cond.code yX19_addChart cX19_addChart 6 ((some .boolean)) :: GT) ({ frames := 3, cells := 0, slots := 0, locals := 68 }) (mw_Pre G ad NF TF FF M L [.ref (ad 732)]) (mw_Qi G ad NF TF FF (mw_eqI r0 M0 L0)) 0 0 (mw_fr G) := by
  refine mw_enter (by decide) (Nat.le_of_ble_eq_true rfl) ?_
  intro p e s m below meth c ls C hr hlocks hnm hw hl
  have hl : lv_has ls 6 [(0, .ref (ad 732))] := hl
  have hb56 : ∀ (M : mwM) (L : mwL) (H : Heap) (locs : List Loc) (ls : Array Slot), fX19_addChart_b56 fu M L = some (r0, M0, L0) → mw_W G ad NF TF FF M L H locs → lv_has ls 6 [] → W p l e ({ frames := 3, cells := 0, slots := 0, locals := 68 }) s m [.ref (ad 732)].toArray below meth c H locs 0 0 (MQ below (mw_Qi G ad NF TF FF (mw_eqI r0 M0 L0)) [.ref (ad 732)].toArray s 0 0 (mw_fr G)) (F0 m 56 ls []) := by
    intro M L H locs ls hD hw hl
    unfold fX19_addChart_b56 at hD
    refine lv_iconst (v := 0) C.1.1 C.1.2.1 dX19_addChart_56 (by decide) ?_
    exact mr_iret C hr hlocks hw (by decide +kernel) (Option.some.inj hD) dX19_addChart_57
  unfold DX19_addChart at hD
  refine lv_aload_n C.1.1 C.1.2.1 dX19_addChart_0 rfl (lv_at hl 0 rfl) ?_
  refine lv_aload_n C.1.1 C.1.2.1 dX19_addChart_1 rfl (lv_at hl 0 rfl) ?_
  refine mr_getI C hw kc_19 33 (by decide) tf_732 wd_2814 dX19_addChart_2 (by decide) rfl ?_
  refine lv_bipush (v := 12) C.1.1 C.1.2.1 dX19_addChart_5 (by decide) ?_
  obtain ⟨r3, M1, L2, h1, hD⟩ := g_b3 hD
  refine md_cvI (As := [.int (M 732 33), .int 12]) (rest := []) C hw (tX19_newName l G ad fu (M 732 33) 12 M L h1) kc_19 (by decide) tf_732 wd_3164 cwX19_newName ⟨Nat.le_of_ble_eq_true rfl, Nat.le_of_ble_eq_true rfl⟩ rfl hl.1 (Nat.le_of_ble_eq_true rfl) dX19_addChart_7 rfl rfl ⟨Nat.zero_le _, Nat.zero_le _⟩ rfl (fun H locs hw => ?_)
  refine lv_if_ne (tgt := 15) C.1.1 C.1.2.1 dX19_addChart_10 (by decide) (fun c4 => ?_) (fun c4 => ?_)
  · replace hD := g_neg c4 hD
    refine lv_aload_n C.1.1 C.1.2.1 dX19_addChart_15 rfl (lv_at hl 0 rfl) ?_
    refine mr_getI C hw kc_19 9 (by decide) tf_732 wd_2790 dX19_addChart_16 (by decide) rfl ?_
    obtain ⟨x5, ex5, hD⟩ := g_let hD
    refine W.eq (g2 := F0 m 19 ls (.int x5 :: [])) (by rw [ex5]) ?_
    refine lv_istore_n (lv' := [(1, .int x5), (0, .ref (ad 732))]) C.1.1 C.1.2.1 dX19_addChart_19 rfl hl (by decide) rfl (fun ls hl => ?_)
    refine lv_aload_n C.1.1 C.1.2.1 dX19_addChart_20 rfl (lv_at hl 1 rfl) ?_
    refine mr_getI C hw kc_19 10 (by decide) tf_732 wd_2791 dX19_addChart_21 (by decide) rfl ?_
    refine lv_aload_n C.1.1 C.1.2.1 dX19_addChart_24 rfl (lv_at hl 1 rfl) ?_
    refine mr_getI C hw kc_19 9 (by decide) tf_732 wd_2790 dX19_addChart_25 (by decide) rfl ?_
    refine lv_isub C.1.1 C.1.2.1 dX19_addChart_28 ?_
    obtain ⟨x6, ex6, hD⟩ := g_let hD
    refine W.eq (g2 := F0 m 29 ls (.int x6 :: [])) (by rw [ex6]) ?_
    refine lv_istore_n (lv' := [(2, .int x6), (1, .int x5), (0, .ref (ad 732))]) C.1.1 C.1.2.1 dX19_addChart_29 rfl hl (by decide) rfl (fun ls hl => ?_)
    refine lv_aload_n C.1.1 C.1.2.1 dX19_addChart_30 rfl (lv_at hl 2 rfl) ?_
    refine lv_iconst (v := 2) C.1.1 C.1.2.1 dX19_addChart_31 (by decide) ?_
    obtain ⟨r9, M7, L8, h1, hD⟩ := g_b3 hD
    refine md_cvI (As := [.int 2]) (rest := []) C hw (tX19_named l G ad fu 2 M1 L2 h1) kc_19 (by decide) tf_732 wd_3207 cwX19_named ⟨Nat.le_of_ble_eq_true rfl, Nat.le_of_ble_eq_true rfl⟩ rfl hl.1 (Nat.le_of_ble_eq_true rfl) dX19_addChart_32 rfl rfl ⟨Nat.zero_le _, Nat.zero_le _⟩ rfl (fun H locs hw => ?_)
    refine lv_istore_n (lv' := [(3, .int r9), (2, .int x6), (1, .int x5), (0, .ref (ad 732))]) C.1.1 C.1.2.1 dX19_addChart_35 rfl hl (by decide) rfl (fun ls hl => ?_)
    refine lv_aload_n C.1.1 C.1.2.1 dX19_addChart_36 rfl (lv_at hl 3 rfl) ?_
    refine mr_getI C hw kc_19 9 (by decide) tf_732 wd_2790 dX19_addChart_37 (by decide) rfl ?_
    obtain ⟨x10, ex10, hD⟩ := g_let hD
    refine W.eq (g2 := F0 m 40 ls (.int x10 :: [])) (by rw [ex10]) ?_
    refine lv_istore (lv' := [(4, .int x10), (3, .int r9), (2, .int x6), (1, .int x5), (0, .ref (ad 732))]) C.1.1 C.1.2.1 dX19_addChart_40 hl (by decide) rfl (fun ls hl => ?_)
    refine lv_iload_n C.1.1 C.1.2.1 dX19_addChart_42 rfl (lv_at hl 1 rfl) ?_
    refine lv_if_lt (tgt := 56) C.1.1 C.1.2.1 dX19_addChart_43 (by decide) (fun c11 => ?_) (fun c11 => ?_)
    · replace hD := g_pos c11 hD
      exact hb56 M7 L8 _ _ ls hD hw (lv_sub hl [] rfl)
    · replace hD := g_neg c11 hD
      refine lv_aload_n C.1.1 C.1.2.1 dX19_addChart_46 rfl (lv_at hl 4 rfl) ?_
      refine lv_iconst (v := 0) C.1.1 C.1.2.1 dX19_addChart_47 (by decide) ?_
      refine lv_bipush (v := 50) C.1.1 C.1.2.1 dX19_addChart_48 (by decide) ?_
      obtain ⟨r14, M12, L13, h1, hD⟩ := g_b3 hD
      refine md_cvI (As := [.int 0, .int 50]) (rest := []) C hw (tX19_number l G ad fu 0 50 M7 L8 h1) kc_19 (by decide) tf_732 wd_3211 cwX19_number ⟨Nat.le_of_ble_eq_true rfl, Nat.le_of_ble_eq_true rfl⟩ rfl hl.1 (Nat.le_of_ble_eq_true rfl) dX19_addChart_50 rfl rfl ⟨Nat.zero_le _, Nat.zero_le _⟩ rfl (fun H locs hw => ?_)
      refine lv_if_ne (tgt := 58) C.1.1 C.1.2.1 dX19_addChart_53 (by decide) (fun c15 => ?_) (fun c15 => ?_)
      · replace hD := g_neg c15 hD
        refine lv_aload_n C.1.1 C.1.2.1 dX19_addChart_58 rfl (lv_at hl 4 rfl) ?_
        refine mr_getI C hw kc_19 13 (by decide) tf_732 wd_2794 dX19_addChart_59 (by decide) rfl ?_
        obtain ⟨x16, ex16, hD⟩ := g_let hD
        refine W.eq (g2 := F0 m 62 ls (.int x16 :: [])) (by rw [ex16]) ?_
        refine lv_istore (lv' := [(5, .int x16), (4, .int x10), (3, .int r9), (2, .int x6), (1, .int x5), (0, .ref (ad 732))]) C.1.1 C.1.2.1 dX19_addChart_62 hl (by decide) rfl (fun ls hl => ?_)
        refine lv_aload_n C.1.1 C.1.2.1 dX19_addChart_64 rfl (lv_at hl 5 rfl) ?_
        obtain ⟨r19, M17, L18, h1, hD⟩ := g_b3 hD
        refine md_cvI (As := []) (rest := []) C hw (tX19_end l G ad fu M12 L13 h1) kc_19 (by decide) tf_732 wd_3194 cwX19_end ⟨Nat.le_of_ble_eq_true rfl, Nat.le_of_ble_eq_true rfl⟩ rfl hl.1 (Nat.le_of_ble_eq_true rfl) dX19_addChart_65 rfl rfl ⟨Nat.zero_le _, Nat.zero_le _⟩ rfl (fun H locs hw => ?_)
        refine lv_if_ne (tgt := 73) C.1.1 C.1.2.1 dX19_addChart_68 (by decide) (fun c20 => ?_) (fun c20 => ?_)
        · replace hD := g_neg c20 hD
          refine lv_aload_n C.1.1 C.1.2.1 dX19_addChart_73 rfl (lv_at hl 5 rfl) ?_
          refine mr_getR C hw kc_19 31 (by decide) tf_732 ff_732_31 wd_2812 dX19_addChart_74 (by decide) rfl ?_
          refine lv_iload_n C.1.1 C.1.2.1 dX19_addChart_77 rfl (lv_at hl 2 rfl) ?_
          obtain ⟨q21, hD⟩ := g_ck hD
          refine mr_iald C hw (by decide) tf_747 q21 dX19_addChart_78 ?_
          refine lv_if_lt (tgt := 91) C.1.1 C.1.2.1 dX19_addChart_79 (by decide) (fun c22 => ?_) (fun c22 => ?_)
          · replace hD := g_pos c22 hD
            refine lv_aload_n C.1.1 C.1.2.1 dX19_addChart_91 rfl (lv_at hl 5 rfl) ?_
            refine mr_getR C hw kc_19 31 (by decide) tf_732 ff_732_31 wd_2812 dX19_addChart_92 (by decide) rfl ?_
            refine lv_iload_n C.1.1 C.1.2.1 dX19_addChart_95 rfl (lv_at hl 2 rfl) ?_
            refine lv_aload_n C.1.1 C.1.2.1 dX19_addChart_96 rfl (lv_at hl 5 rfl) ?_
            refine mr_getI C hw kc_19 33 (by decide) tf_732 wd_2814 dX19_addChart_97 (by decide) rfl ?_
            obtain ⟨q23, hD⟩ := g_ck hD
            obtain ⟨M24, eM24, hD⟩ := g_let hD
            refine mr_iast C hw (by decide) tf_747 q23 dX19_addChart_100 (fun H locs hw => ?_)
            replace hw : mw_W G ad NF TF FF M24 L18 H locs := by rw [eM24]; exact hw
            refine lv_aload_n C.1.1 C.1.2.1 dX19_addChart_101 rfl (lv_at hl 5 rfl) ?_
            refine mr_getR C hw kc_19 34 (by decide) tf_732 ff_732_34 wd_2815 dX19_addChart_102 (by decide) rfl ?_
            refine lv_aload_n C.1.1 C.1.2.1 dX19_addChart_105 rfl (lv_at hl 5 rfl) ?_
            refine mr_getI C hw kc_19 33 (by decide) tf_732 wd_2814 dX19_addChart_106 (by decide) rfl ?_
            refine lv_iload_n C.1.1 C.1.2.1 dX19_addChart_109 rfl (lv_at hl 2 rfl) ?_
            obtain ⟨q25, hD⟩ := g_ck hD
            obtain ⟨M26, eM26, hD⟩ := g_let hD
            refine mr_iast C hw (by decide) tf_749 q25 dX19_addChart_110 (fun H locs hw => ?_)
            replace hw : mw_W G ad NF TF FF M26 L18 H locs := by rw [eM26]; exact hw
            refine lv_aload_n C.1.1 C.1.2.1 dX19_addChart_111 rfl (lv_at hl 5 rfl) ?_
            refine mr_getR C hw kc_19 35 (by decide) tf_732 ff_732_35 wd_2816 dX19_addChart_112 (by decide) rfl ?_
            refine lv_aload_n C.1.1 C.1.2.1 dX19_addChart_115 rfl (lv_at hl 5 rfl) ?_
            refine mr_getI C hw kc_19 33 (by decide) tf_732 wd_2814 dX19_addChart_116 (by decide) rfl ?_
            refine lv_iconst (v := 0) C.1.1 C.1.2.1 dX19_addChart_119 (by decide) ?_
            obtain ⟨q27, hD⟩ := g_ck hD
            obtain ⟨M28, eM28, hD⟩ := g_let hD
            refine mr_iast C hw (by decide) tf_750 q27 dX19_addChart_120 (fun H locs hw => ?_)
            replace hw : mw_W G ad NF TF FF M28 L18 H locs := by rw [eM28]; exact hw
            refine lv_aload_n C.1.1 C.1.2.1 dX19_addChart_121 rfl (lv_at hl 5 rfl) ?_
            refine mr_getR C hw kc_19 36 (by decide) tf_732 ff_732_36 wd_2817 dX19_addChart_122 (by decide) rfl ?_
            refine lv_aload_n C.1.1 C.1.2.1 dX19_addChart_125 rfl (lv_at hl 5 rfl) ?_
            refine mr_getI C hw kc_19 33 (by decide) tf_732 wd_2814 dX19_addChart_126 (by decide) rfl ?_
            refine lv_iconst (v := 0) C.1.1 C.1.2.1 dX19_addChart_129 (by decide) ?_
            obtain ⟨q29, hD⟩ := g_ck hD
            obtain ⟨M30, eM30, hD⟩ := g_let hD
            refine mr_iast C hw (by decide) tf_751 q29 dX19_addChart_130 (fun H locs hw => ?_)
            replace hw : mw_W G ad NF TF FF M30 L18 H locs := by rw [eM30]; exact hw
            refine lv_aload_n C.1.1 C.1.2.1 dX19_addChart_131 rfl (lv_at hl 5 rfl) ?_
            refine mr_getR C hw kc_19 37 (by decide) tf_732 ff_732_37 wd_2818 dX19_addChart_132 (by decide) rfl ?_
            refine lv_aload_n C.1.1 C.1.2.1 dX19_addChart_135 rfl (lv_at hl 5 rfl) ?_
            refine mr_getI C hw kc_19 33 (by decide) tf_732 wd_2814 dX19_addChart_136 (by decide) rfl ?_
            refine lv_iconst (v := 0) C.1.1 C.1.2.1 dX19_addChart_139 (by decide) ?_
            obtain ⟨q31, hD⟩ := g_ck hD
            obtain ⟨M32, eM32, hD⟩ := g_let hD
            refine mr_iast C hw (by decide) tf_752 q31 dX19_addChart_140 (fun H locs hw => ?_)
            replace hw : mw_W G ad NF TF FF M32 L18 H locs := by rw [eM32]; exact hw
            refine lv_aload_n C.1.1 C.1.2.1 dX19_addChart_141 rfl (lv_at hl 5 rfl) ?_
            refine mr_getR C hw kc_19 39 (by decide) tf_732 ff_732_39 wd_2820 dX19_addChart_142 (by decide) rfl ?_
            refine lv_aload_n C.1.1 C.1.2.1 dX19_addChart_145 rfl (lv_at hl 5 rfl) ?_
            refine mr_getI C hw kc_19 33 (by decide) tf_732 wd_2814 dX19_addChart_146 (by decide) rfl ?_
            refine lv_iconst (v := 0) C.1.1 C.1.2.1 dX19_addChart_149 (by decide) ?_
            obtain ⟨q33, hD⟩ := g_ck hD
            obtain ⟨M34, eM34, hD⟩ := g_let hD
            refine mr_iast C hw (by decide) tf_754 q33 dX19_addChart_150 (fun H locs hw => ?_)
            replace hw : mw_W G ad NF TF FF M34 L18 H locs := by rw [eM34]; exact hw
            refine lv_aload_n C.1.1 C.1.2.1 dX19_addChart_151 rfl (lv_at hl 5 rfl) ?_
            refine mr_getR C hw kc_19 42 (by decide) tf_732 ff_732_42 wd_2823 dX19_addChart_152 (by decide) rfl ?_
            refine lv_aload_n C.1.1 C.1.2.1 dX19_addChart_155 rfl (lv_at hl 5 rfl) ?_
            refine mr_getI C hw kc_19 33 (by decide) tf_732 wd_2814 dX19_addChart_156 (by decide) rfl ?_
            refine lv_iconst (v := 0) C.1.1 C.1.2.1 dX19_addChart_159 (by decide) ?_
            obtain ⟨q35, hD⟩ := g_ck hD
            obtain ⟨M36, eM36, hD⟩ := g_let hD
            refine mr_iast C hw (by decide) tf_757 q35 dX19_addChart_160 (fun H locs hw => ?_)
            replace hw : mw_W G ad NF TF FF M36 L18 H locs := by rw [eM36]; exact hw
            refine lv_aload_n C.1.1 C.1.2.1 dX19_addChart_161 rfl (lv_at hl 5 rfl) ?_
            refine mr_getR C hw kc_19 82 (by decide) tf_732 ff_732_82 wd_2863 dX19_addChart_162 (by decide) rfl ?_
            refine lv_aload_n C.1.1 C.1.2.1 dX19_addChart_165 rfl (lv_at hl 5 rfl) ?_
            refine mr_getI C hw kc_19 33 (by decide) tf_732 wd_2814 dX19_addChart_166 (by decide) rfl ?_
            obtain ⟨q37, hD⟩ := g_ck hD
            refine mr_aald C hw (by decide) tf_922 (by decide) (by decide) rfl rfl q37 (fr_922 _ (g_lt q37)) dX19_addChart_169 ?_
            refine lv_iload C.1.1 C.1.2.1 dX19_addChart_170 (lv_at hl 0 rfl) ?_
            obtain ⟨M38, L39, h1, hD⟩ := g_b2 hD
            refine md_cvV (As := [.int x16]) (rest := []) C hw (tX13_anew l G ad fu ((964 + 53 * (M36 732 33).toNatClampNeg)) x16 M36 L18 h1 (isMc_of (g_lt q37))) kc_13 (Mc_N0 (isMc_of (g_lt q37))) (Mc_T0 (isMc_of (g_lt q37))) wd_3224 cwX13_anew ⟨Nat.le_of_ble_eq_true rfl, Nat.le_of_ble_eq_true rfl⟩ rfl hl.1 (Nat.le_of_ble_eq_true rfl) dX19_addChart_172 rfl rfl ⟨Nat.zero_le _, Nat.zero_le _⟩ rfl (fun H locs hw => ?_)
            refine lv_aload_n C.1.1 C.1.2.1 dX19_addChart_175 rfl (lv_at hl 5 rfl) ?_
            refine lv_iload_n C.1.1 C.1.2.1 dX19_addChart_176 rfl (lv_at hl 4 rfl) ?_
            refine lv_iload_n C.1.1 C.1.2.1 dX19_addChart_177 rfl (lv_at hl 3 rfl) ?_
            refine lv_iconst (v := 3) C.1.1 C.1.2.1 dX19_addChart_178 (by decide) ?_
            refine lv_aload_n C.1.1 C.1.2.1 dX19_addChart_179 rfl (lv_at hl 5 rfl) ?_
            refine mr_getI C hw kc_19 33 (by decide) tf_732 wd_2814 dX19_addChart_180 (by decide) rfl ?_
            obtain ⟨M40, L41, h1, hD⟩ := g_b2 hD
            refine md_cvV (As := [.int x5, .int x6, .int 3, .int (M38 732 33)]) (rest := []) C hw (tX19_addName l G ad fu x5 x6 3 (M38 732 33) M38 L39 h1) kc_19 (by decide) tf_732 wd_3198 cwX19_addName ⟨Nat.le_of_ble_eq_true rfl, Nat.le_of_ble_eq_true rfl⟩ rfl hl.1 (Nat.le_of_ble_eq_true rfl) dX19_addChart_183 rfl rfl ⟨Nat.zero_le _, Nat.zero_le _⟩ rfl (fun H locs hw => ?_)
            refine lv_aload_n C.1.1 C.1.2.1 dX19_addChart_186 rfl (lv_at hl 5 rfl) ?_
            refine lv_dup C.1.1 C.1.2.1 dX19_addChart_187 rfl ?_
            refine mr_getI C hw kc_19 33 (by decide) tf_732 wd_2814 dX19_addChart_188 (by decide) rfl ?_
            refine lv_iconst (v := 1) C.1.1 C.1.2.1 dX19_addChart_191 (by decide) ?_
            refine lv_iadd C.1.1 C.1.2.1 dX19_addChart_192 ?_
            obtain ⟨M42, eM42, hD⟩ := g_let hD
            refine mr_putI C hw kc_19 33 (by decide) tf_732 wd_2814 dX19_addChart_193 (by decide) rfl rfl rfl rfl (fun H locs hw => ?_)
            replace hw : mw_W G ad NF TF FF M42 L41 H locs := by rw [eM42]; exact hw
            refine lv_iconst (v := 1) C.1.1 C.1.2.1 dX19_addChart_196 (by decide) ?_
            exact mr_iret C hr hlocks hw (by decide +kernel) (Option.some.inj hD) dX19_addChart_197
          · replace hD := g_neg c22 hD
            refine lv_aload_n C.1.1 C.1.2.1 dX19_addChart_82 rfl (lv_at hl 5 rfl) ?_
            refine lv_bipush (v := 7) C.1.1 C.1.2.1 dX19_addChart_83 (by decide) ?_
            refine lv_iload C.1.1 C.1.2.1 dX19_addChart_85 (lv_at hl 1 rfl) ?_
            obtain ⟨r45, M43, L44, h1, hD⟩ := g_b3 hD
            refine md_cvI (As := [.int 7, .int x10]) (rest := []) C hw (tX19_fail l G ad fu 7 x10 M17 L18 h1) kc_19 (by decide) tf_732 wd_3172 cwX19_fail ⟨Nat.le_of_ble_eq_true rfl, Nat.le_of_ble_eq_true rfl⟩ rfl hl.1 (Nat.le_of_ble_eq_true rfl) dX19_addChart_87 rfl rfl ⟨Nat.zero_le _, Nat.zero_le _⟩ rfl (fun H locs hw => ?_)
            obtain ⟨z46, hD⟩ := g_zz hD
            exact mr_iret C hr hlocks hw (nz_zz z46) (Option.some.inj hD) dX19_addChart_90
        · replace hD := g_pos c20 hD
          refine lv_iconst (v := 0) C.1.1 C.1.2.1 dX19_addChart_71 (by decide) ?_
          exact mr_iret C hr hlocks hw (by decide +kernel) (Option.some.inj hD) dX19_addChart_72
      · replace hD := g_pos c15 hD
        exact hb56 M12 L13 _ _ ls hD hw (lv_sub hl [] rfl)
  · replace hD := g_pos c4 hD
    refine lv_iconst (v := 0) C.1.1 C.1.2.1 dX19_addChart_13 (by decide) ?_
    exact mr_iret C hr hlocks hw (by decide +kernel) (Option.some.inj hD) dX19_addChart_14

theorem dX19_newIn_0 : decode cX19_newIn 0 = .ok (.aload_n 0, 1) := by decide +kernel
theorem dX19_newIn_1 : decode cX19_newIn 1 = .ok (.invokevirtual 353, 3) := by decide +kernel
theorem dX19_newIn_4 : decode cX19_newIn 4 = .ok (.ifCond .eq 14, 3) := by decide +kernel
theorem dX19_newIn_7 : decode cX19_newIn 7 = .ok (.aload_n 0, 1) := by decide +kernel
theorem dX19_newIn_8 : decode cX19_newIn 8 = .ok (.ldc2_w 463, 3) := by decide +kernel
theorem dX19_newIn_11 : decode cX19_newIn 11 = .ok (.lconst 0, 1) := by decide +kernel
theorem dX19_newIn_12 : decode cX19_newIn 12 = .ok (.invokevirtual 327, 3) := by decide +kernel
theorem dX19_newIn_15 : decode cX19_newIn 15 = .ok (.ifCond .eq 13, 3) := by decide +kernel
theorem dX19_newIn_18 : decode cX19_newIn 18 = .ok (.aload_n 0, 1) := by decide +kernel
theorem dX19_newIn_19 : decode cX19_newIn 19 = .ok (.iconst 2, 1) := by decide +kernel
theorem dX19_newIn_20 : decode cX19_newIn 20 = .ok (.aload_n 0, 1) := by decide +kernel
theorem dX19_newIn_21 : decode cX19_newIn 21 = .ok (.getfield 311, 3) := by decide +kernel
theorem dX19_newIn_24 : decode cX19_newIn 24 = .ok (.invokevirtual 321, 3) := by decide +kernel
theorem dX19_newIn_27 : decode cX19_newIn 27 = .ok (.ireturn, 1) := by decide +kernel
theorem dX19_newIn_28 : decode cX19_newIn 28 = .ok (.iload_n 1, 1) := by decide +kernel
theorem dX19_newIn_29 : decode cX19_newIn 29 = .ok (.ifCond .eq 15, 3) := by decide +kernel
theorem dX19_newIn_32 : decode cX19_newIn 32 = .ok (.aload_n 0, 1) := by decide +kernel
theorem dX19_newIn_33 : decode cX19_newIn 33 = .ok (.iconst 3, 1) := by decide +kernel
theorem dX19_newIn_34 : decode cX19_newIn 34 = .ok (.aload_n 0, 1) := by decide +kernel
theorem dX19_newIn_35 : decode cX19_newIn 35 = .ok (.getfield 311, 3) := by decide +kernel
theorem dX19_newIn_38 : decode cX19_newIn 38 = .ok (.invokevirtual 321, 3) := by decide +kernel
theorem dX19_newIn_41 : decode cX19_newIn 41 = .ok (.ifCond .eq 7, 3) := by decide +kernel
theorem dX19_newIn_44 : decode cX19_newIn 44 = .ok (.iconst 1, 1) := by decide +kernel
theorem dX19_newIn_45 : decode cX19_newIn 45 = .ok (.goto 4, 3) := by decide +kernel
theorem dX19_newIn_48 : decode cX19_newIn 48 = .ok (.iconst 0, 1) := by decide +kernel
theorem dX19_newIn_49 : decode cX19_newIn 49 = .ok (.ireturn, 1) := by decide +kernel
theorem cwX19_newIn : mw_cwV yX19_newIn cX19_newIn 2 ((some .boolean)) 1 := ⟨⟨wd_13, wd_3240, by decide +kernel⟩, wd_3239, sl_168⟩
set_option maxHeartbeats 4000000 in
set_option maxRecDepth 100000 in
theorem tX19_newIn (l : Launch) (G : mwG) (ad : Nat → Nat) (fu : Nat) (a1 : Int32) (M : mwM) (L : mwL) {r0 : Int32} {M0 : mwM} {L0 : mwL} (hD : DX19_newIn fu a1 M L = some (r0, M0, L0)) : Met l yX19_newIn (Cond.code yX19_newIn cX19_newIn 2 ((some .boolean)) :: GT) ({ frames := 2, cells := 0, slots := 0, locals := 42 }) (mw_Pre G ad NF TF FF M L [.ref (ad 732), .int a1]) (mw_Qi G ad NF TF FF (mw_eqI r0 M0 L0)) 0 0 (mw_fr G) := by
  refine mw_enter (by decide) (Nat.le_of_ble_eq_true rfl) ?_
  intro p e s m below meth c ls C hr hlocks hnm hw hl
  have hl : lv_has ls 2 [(0, .ref (ad 732)), (1, .int a1)] := hl
  have hb18 : ∀ (M : mwM) (L : mwL) (H : Heap) (locs : List Loc) (ls : Array Slot), fX19_newIn_b18 fu a1 M L = some (r0, M0, L0) → mw_W G ad NF TF FF M L H locs → lv_has ls 2 [(0, .ref (ad 732))] → W p l e ({ frames := 2, cells := 0, slots := 0, locals := 42 }) s m [.ref (ad 732), .int a1].toArray below meth c H locs 0 0 (MQ below (mw_Qi G ad NF TF FF (mw_eqI r0 M0 L0)) [.ref (ad 732), .int a1].toArray s 0 0 (mw_fr G)) (F0 m 18 ls []) := by
    intro M L H locs ls hD hw hl
    unfold fX19_newIn_b18 at hD
    refine lv_aload_n C.1.1 C.1.2.1 dX19_newIn_18 rfl (lv_at hl 0 rfl) ?_
    refine lv_iconst (v := 2) C.1.1 C.1.2.1 dX19_newIn_19 (by decide) ?_
    refine lv_aload_n C.1.1 C.1.2.1 dX19_newIn_20 rfl (lv_at hl 0 rfl) ?_
    refine mr_getI C hw kc_19 9 (by decide) tf_732 wd_2790 dX19_newIn_21 (by decide) rfl ?_
    obtain ⟨r3, M1, L2, h1, hD⟩ := g_b3 hD
    refine md_cvI (As := [.int 2, .int (M 732 9)]) (rest := []) C hw (tX19_fail l G ad fu 2 (M 732 9) M L h1) kc_19 (by decide) tf_732 wd_3172 cwX19_fail ⟨Nat.le_of_ble_eq_true rfl, Nat.le_of_ble_eq_true rfl⟩ rfl hl.1 (Nat.le_of_ble_eq_true rfl) dX19_newIn_24 rfl rfl ⟨Nat.zero_le _, Nat.zero_le _⟩ rfl (fun H locs hw => ?_)
    obtain ⟨z4, hD⟩ := g_zz hD
    exact mr_iret C hr hlocks hw (nz_zz z4) (Option.some.inj hD) dX19_newIn_27
  have hb49 : ∀ (s0 : Int32) (M : mwM) (L : mwL) (H : Heap) (locs : List Loc) (ls : Array Slot), fX19_newIn_b49 fu a1 s0 M L = some (r0, M0, L0) → mw_W G ad NF TF FF M L H locs → lv_has ls 2 [] → W p l e ({ frames := 2, cells := 0, slots := 0, locals := 42 }) s m [.ref (ad 732), .int a1].toArray below meth c H locs 0 0 (MQ below (mw_Qi G ad NF TF FF (mw_eqI r0 M0 L0)) [.ref (ad 732), .int a1].toArray s 0 0 (mw_fr G)) (F0 m 49 ls [.int s0]) := by
    intro s0 M L H locs ls hD hw hl
    unfold fX19_newIn_b49 at hD
    obtain ⟨z5, hD⟩ := g_zz hD
    exact mr_iret C hr hlocks hw (nz_zz z5) (Option.some.inj hD) dX19_newIn_49
  have hb44 : ∀ (M : mwM) (L : mwL) (H : Heap) (locs : List Loc) (ls : Array Slot), fX19_newIn_b44 fu a1 M L = some (r0, M0, L0) → mw_W G ad NF TF FF M L H locs → lv_has ls 2 [] → W p l e ({ frames := 2, cells := 0, slots := 0, locals := 42 }) s m [.ref (ad 732), .int a1].toArray below meth c H locs 0 0 (MQ below (mw_Qi G ad NF TF FF (mw_eqI r0 M0 L0)) [.ref (ad 732), .int a1].toArray s 0 0 (mw_fr G)) (F0 m 44 ls []) := by
    intro M L H locs ls hD hw hl
    unfold fX19_newIn_b44 at hD
    refine lv_iconst (v := 1) C.1.1 C.1.2.1 dX19_newIn_44 (by decide) ?_
    refine lv_goto (tgt := 49) C.1.1 C.1.2.1 dX19_newIn_45 (by decide) ?_
    exact hb49 1 M L _ _ ls hD hw (lv_sub hl [] rfl)
  unfold DX19_newIn at hD
  refine lv_aload_n C.1.1 C.1.2.1 dX19_newIn_0 rfl (lv_at hl 0 rfl) ?_
  obtain ⟨r8, M6, L7, h1, hD⟩ := g_b3 hD
  refine md_cvI (As := []) (rest := []) C hw (tX19_isName l G ad fu M L h1) kc_19 (by decide) tf_732 wd_3176 cwX19_isName ⟨Nat.le_of_ble_eq_true rfl, Nat.le_of_ble_eq_true rfl⟩ rfl hl.1 (Nat.le_of_ble_eq_true rfl) dX19_newIn_1 rfl rfl ⟨Nat.zero_le _, Nat.zero_le _⟩ rfl (fun H locs hw => ?_)
  refine lv_if_eq (tgt := 18) C.1.1 C.1.2.1 dX19_newIn_4 (by decide) (fun c9 => ?_) (fun c9 => ?_)
  · replace hD := g_pos c9 hD
    exact hb18 M6 L7 _ _ ls hD hw (lv_sub hl [0] rfl)
  · replace hD := g_neg c9 hD
    refine lv_aload_n C.1.1 C.1.2.1 dX19_newIn_7 rfl (lv_at hl 0 rfl) ?_
    refine lv_ldc2 (v := 7368564) C.1.1 C.1.2.1 C.1.2.2.2.1 (C.1.2.2.2.2 _ wd_3241) dX19_newIn_8 ?_
    refine lv_lconst (v := 0) C.1.1 C.1.2.1 dX19_newIn_11 (by decide) ?_
    obtain ⟨r12, M10, L11, h1, hD⟩ := g_b3 hD
    refine md_cvI (As := [.long 7368564, .long 0]) (rest := []) C hw (tX19_is l G ad fu 7368564 0 M6 L7 h1) kc_19 (by decide) tf_732 wd_3155 cwX19_is ⟨Nat.le_of_ble_eq_true rfl, Nat.le_of_ble_eq_true rfl⟩ rfl hl.1 (Nat.le_of_ble_eq_true rfl) dX19_newIn_12 rfl rfl ⟨Nat.zero_le _, Nat.zero_le _⟩ rfl (fun H locs hw => ?_)
    refine lv_if_eq (tgt := 28) C.1.1 C.1.2.1 dX19_newIn_15 (by decide) (fun c13 => ?_) (fun c13 => ?_)
    · replace hD := g_pos c13 hD
      refine lv_iload_n C.1.1 C.1.2.1 dX19_newIn_28 rfl (lv_at hl 1 rfl) ?_
      refine lv_if_eq (tgt := 44) C.1.1 C.1.2.1 dX19_newIn_29 (by decide) (fun c14 => ?_) (fun c14 => ?_)
      · replace hD := g_pos c14 hD
        exact hb44 M10 L11 _ _ ls hD hw (lv_sub hl [] rfl)
      · replace hD := g_neg c14 hD
        refine lv_aload_n C.1.1 C.1.2.1 dX19_newIn_32 rfl (lv_at hl 0 rfl) ?_
        refine lv_iconst (v := 3) C.1.1 C.1.2.1 dX19_newIn_33 (by decide) ?_
        refine lv_aload_n C.1.1 C.1.2.1 dX19_newIn_34 rfl (lv_at hl 0 rfl) ?_
        refine mr_getI C hw kc_19 9 (by decide) tf_732 wd_2790 dX19_newIn_35 (by decide) rfl ?_
        obtain ⟨r17, M15, L16, h1, hD⟩ := g_b3 hD
        refine md_cvI (As := [.int 3, .int (M10 732 9)]) (rest := []) C hw (tX19_fail l G ad fu 3 (M10 732 9) M10 L11 h1) kc_19 (by decide) tf_732 wd_3172 cwX19_fail ⟨Nat.le_of_ble_eq_true rfl, Nat.le_of_ble_eq_true rfl⟩ rfl hl.1 (Nat.le_of_ble_eq_true rfl) dX19_newIn_38 rfl rfl ⟨Nat.zero_le _, Nat.zero_le _⟩ rfl (fun H locs hw => ?_)
        refine lv_if_eq (tgt := 48) C.1.1 C.1.2.1 dX19_newIn_41 (by decide) (fun c18 => ?_) (fun c18 => ?_)
        · replace hD := g_pos c18 hD
          refine lv_iconst (v := 0) C.1.1 C.1.2.1 dX19_newIn_48 (by decide) ?_
          exact hb49 0 M15 L16 _ _ ls hD hw (lv_sub hl [] rfl)
        · replace hD := g_neg c18 hD
          exact hb44 M15 L16 _ _ ls hD hw (lv_sub hl [] rfl)
    · replace hD := g_neg c13 hD
      exact hb18 M10 L11 _ _ ls hD hw (lv_sub hl [0] rfl)

theorem dX19_kind_0 : decode cX19_kind 0 = .ok (.aload_n 0, 1) := by decide +kernel
theorem dX19_kind_1 : decode cX19_kind 1 = .ok (.ldc2_w 465, 3) := by decide +kernel
theorem dX19_kind_4 : decode cX19_kind 4 = .ok (.lconst 0, 1) := by decide +kernel
theorem dX19_kind_5 : decode cX19_kind 5 = .ok (.invokevirtual 327, 3) := by decide +kernel
theorem dX19_kind_8 : decode cX19_kind 8 = .ok (.ifCond .eq 5, 3) := by decide +kernel
theorem dX19_kind_11 : decode cX19_kind 11 = .ok (.iconst 0, 1) := by decide +kernel
theorem dX19_kind_12 : decode cX19_kind 12 = .ok (.ireturn, 1) := by decide +kernel
theorem dX19_kind_13 : decode cX19_kind 13 = .ok (.aload_n 0, 1) := by decide +kernel
theorem dX19_kind_14 : decode cX19_kind 14 = .ok (.ldc2_w 467, 3) := by decide +kernel
theorem dX19_kind_17 : decode cX19_kind 17 = .ok (.lconst 0, 1) := by decide +kernel
theorem dX19_kind_18 : decode cX19_kind 18 = .ok (.invokevirtual 327, 3) := by decide +kernel
theorem dX19_kind_21 : decode cX19_kind 21 = .ok (.ifCond .eq 5, 3) := by decide +kernel
theorem dX19_kind_24 : decode cX19_kind 24 = .ok (.iconst 1, 1) := by decide +kernel
theorem dX19_kind_25 : decode cX19_kind 25 = .ok (.ireturn, 1) := by decide +kernel
theorem dX19_kind_26 : decode cX19_kind 26 = .ok (.aload_n 0, 1) := by decide +kernel
theorem dX19_kind_27 : decode cX19_kind 27 = .ok (.ldc2_w 469, 3) := by decide +kernel
theorem dX19_kind_30 : decode cX19_kind 30 = .ok (.lconst 0, 1) := by decide +kernel
theorem dX19_kind_31 : decode cX19_kind 31 = .ok (.invokevirtual 327, 3) := by decide +kernel
theorem dX19_kind_34 : decode cX19_kind 34 = .ok (.ifCond .eq 5, 3) := by decide +kernel
theorem dX19_kind_37 : decode cX19_kind 37 = .ok (.iconst 2, 1) := by decide +kernel
theorem dX19_kind_38 : decode cX19_kind 38 = .ok (.ireturn, 1) := by decide +kernel
theorem dX19_kind_39 : decode cX19_kind 39 = .ok (.aload_n 0, 1) := by decide +kernel
theorem dX19_kind_40 : decode cX19_kind 40 = .ok (.ldc2_w 471, 3) := by decide +kernel
theorem dX19_kind_43 : decode cX19_kind 43 = .ok (.lconst 0, 1) := by decide +kernel
theorem dX19_kind_44 : decode cX19_kind 44 = .ok (.invokevirtual 327, 3) := by decide +kernel
theorem dX19_kind_47 : decode cX19_kind 47 = .ok (.ifCond .eq 5, 3) := by decide +kernel
theorem dX19_kind_50 : decode cX19_kind 50 = .ok (.iconst 3, 1) := by decide +kernel
theorem dX19_kind_51 : decode cX19_kind 51 = .ok (.ireturn, 1) := by decide +kernel
theorem dX19_kind_52 : decode cX19_kind 52 = .ok (.aload_n 0, 1) := by decide +kernel
theorem dX19_kind_53 : decode cX19_kind 53 = .ok (.ldc2_w 473, 3) := by decide +kernel
theorem dX19_kind_56 : decode cX19_kind 56 = .ok (.lconst 0, 1) := by decide +kernel
theorem dX19_kind_57 : decode cX19_kind 57 = .ok (.invokevirtual 327, 3) := by decide +kernel
theorem dX19_kind_60 : decode cX19_kind 60 = .ok (.ifCond .eq 5, 3) := by decide +kernel
theorem dX19_kind_63 : decode cX19_kind 63 = .ok (.iconst 4, 1) := by decide +kernel
theorem dX19_kind_64 : decode cX19_kind 64 = .ok (.ireturn, 1) := by decide +kernel
theorem dX19_kind_65 : decode cX19_kind 65 = .ok (.aload_n 0, 1) := by decide +kernel
theorem dX19_kind_66 : decode cX19_kind 66 = .ok (.ldc2_w 475, 3) := by decide +kernel
theorem dX19_kind_69 : decode cX19_kind 69 = .ok (.lconst 0, 1) := by decide +kernel
theorem dX19_kind_70 : decode cX19_kind 70 = .ok (.invokevirtual 327, 3) := by decide +kernel
theorem dX19_kind_73 : decode cX19_kind 73 = .ok (.ifCond .eq 7, 3) := by decide +kernel
theorem dX19_kind_76 : decode cX19_kind 76 = .ok (.iconst 5, 1) := by decide +kernel
theorem dX19_kind_77 : decode cX19_kind 77 = .ok (.goto 4, 3) := by decide +kernel
theorem dX19_kind_80 : decode cX19_kind 80 = .ok (.iconst (-1), 1) := by decide +kernel
theorem dX19_kind_81 : decode cX19_kind 81 = .ok (.ireturn, 1) := by decide +kernel
theorem cwX19_kind : mw_cwV yX19_kind cX19_kind 1 ((some .int)) 0 := ⟨⟨wd_13, wd_3253, by decide +kernel⟩, wd_3252, sl_171⟩
set_option maxHeartbeats 4000000 in
set_option maxRecDepth 100000 in
theorem tX19_kind (l : Launch) (G : mwG) (ad : Nat → Nat) (fu : Nat) (M : mwM) (L : mwL) {r0 : Int32} {M0 : mwM} {L0 : mwL} (hD : DX19_kind fu M L = some (r0, M0, L0)) : Met l yX19_kind (Cond.code yX19_kind cX19_kind 1 ((some .int)) :: GT) ({ frames := 1, cells := 0, slots := 0, locals := 29 }) (mw_Pre G ad NF TF FF M L [.ref (ad 732)]) (mw_Qi G ad NF TF FF (mw_eqI r0 M0 L0)) 0 0 (mw_fr G) := by
  refine mw_enter (by decide) (Nat.le_of_ble_eq_true rfl) ?_
  intro p e s m below meth c ls C hr hlocks hnm hw hl
  have hl : lv_has ls 1 [(0, .ref (ad 732))] := hl
  have hb81 : ∀ (s0 : Int32) (M : mwM) (L : mwL) (H : Heap) (locs : List Loc) (ls : Array Slot), fX19_kind_b81 fu s0 M L = some (r0, M0, L0) → mw_W G ad NF TF FF M L H locs → lv_has ls 1 [] → W p l e ({ frames := 1, cells := 0, slots := 0, locals := 29 }) s m [.ref (ad 732)].toArray below meth c H locs 0 0 (MQ below (mw_Qi G ad NF TF FF (mw_eqI r0 M0 L0)) [.ref (ad 732)].toArray s 0 0 (mw_fr G)) (F0 m 81 ls [.int s0]) := by
    intro s0 M L H locs ls hD hw hl
    unfold fX19_kind_b81 at hD
    exact mr_iret C hr hlocks hw rfl (Option.some.inj hD) dX19_kind_81
  unfold DX19_kind at hD
  refine lv_aload_n C.1.1 C.1.2.1 dX19_kind_0 rfl (lv_at hl 0 rfl) ?_
  refine lv_ldc2 (v := 474214394992) C.1.1 C.1.2.1 C.1.2.2.2.1 (C.1.2.2.2.2 _ wd_3254) dX19_kind_1 ?_
  refine lv_lconst (v := 0) C.1.1 C.1.2.1 dX19_kind_4 (by decide) ?_
  obtain ⟨r3, M1, L2, h1, hD⟩ := g_b3 hD
  refine md_cvI (As := [.long 474214394992, .long 0]) (rest := []) C hw (tX19_is l G ad fu 474214394992 0 M L h1) kc_19 (by decide) tf_732 wd_3155 cwX19_is ⟨Nat.le_of_ble_eq_true rfl, Nat.le_of_ble_eq_true rfl⟩ rfl hl.1 (Nat.le_of_ble_eq_true rfl) dX19_kind_5 rfl rfl ⟨Nat.zero_le _, Nat.zero_le _⟩ rfl (fun H locs hw => ?_)
  refine lv_if_eq (tgt := 13) C.1.1 C.1.2.1 dX19_kind_8 (by decide) (fun c4 => ?_) (fun c4 => ?_)
  · replace hD := g_pos c4 hD
    refine lv_aload_n C.1.1 C.1.2.1 dX19_kind_13 rfl (lv_at hl 0 rfl) ?_
    refine lv_ldc2 (v := 499984920691) C.1.1 C.1.2.1 C.1.2.2.2.1 (C.1.2.2.2.2 _ wd_3255) dX19_kind_14 ?_
    refine lv_lconst (v := 0) C.1.1 C.1.2.1 dX19_kind_17 (by decide) ?_
    obtain ⟨r7, M5, L6, h1, hD⟩ := g_b3 hD
    refine md_cvI (As := [.long 499984920691, .long 0]) (rest := []) C hw (tX19_is l G ad fu 499984920691 0 M1 L2 h1) kc_19 (by decide) tf_732 wd_3155 cwX19_is ⟨Nat.le_of_ble_eq_true rfl, Nat.le_of_ble_eq_true rfl⟩ rfl hl.1 (Nat.le_of_ble_eq_true rfl) dX19_kind_18 rfl rfl ⟨Nat.zero_le _, Nat.zero_le _⟩ rfl (fun H locs hw => ?_)
    refine lv_if_eq (tgt := 26) C.1.1 C.1.2.1 dX19_kind_21 (by decide) (fun c8 => ?_) (fun c8 => ?_)
    · replace hD := g_pos c8 hD
      refine lv_aload_n C.1.1 C.1.2.1 dX19_kind_26 rfl (lv_at hl 0 rfl) ?_
      refine lv_ldc2 (v := 34184295202646376) C.1.1 C.1.2.1 C.1.2.2.2.1 (C.1.2.2.2.2 _ wd_3256) dX19_kind_27 ?_
      refine lv_lconst (v := 0) C.1.1 C.1.2.1 dX19_kind_30 (by decide) ?_
      obtain ⟨r11, M9, L10, h1, hD⟩ := g_b3 hD
      refine md_cvI (As := [.long 34184295202646376, .long 0]) (rest := []) C hw (tX19_is l G ad fu 34184295202646376 0 M5 L6 h1) kc_19 (by decide) tf_732 wd_3155 cwX19_is ⟨Nat.le_of_ble_eq_true rfl, Nat.le_of_ble_eq_true rfl⟩ rfl hl.1 (Nat.le_of_ble_eq_true rfl) dX19_kind_31 rfl rfl ⟨Nat.zero_le _, Nat.zero_le _⟩ rfl (fun H locs hw => ?_)
      refine lv_if_eq (tgt := 39) C.1.1 C.1.2.1 dX19_kind_34 (by decide) (fun c12 => ?_) (fun c12 => ?_)
      · replace hD := g_pos c12 hD
        refine lv_aload_n C.1.1 C.1.2.1 dX19_kind_39 rfl (lv_at hl 0 rfl) ?_
        refine lv_ldc2 (v := 1885693284) C.1.1 C.1.2.1 C.1.2.2.2.1 (C.1.2.2.2.2 _ wd_3257) dX19_kind_40 ?_
        refine lv_lconst (v := 0) C.1.1 C.1.2.1 dX19_kind_43 (by decide) ?_
        obtain ⟨r15, M13, L14, h1, hD⟩ := g_b3 hD
        refine md_cvI (As := [.long 1885693284, .long 0]) (rest := []) C hw (tX19_is l G ad fu 1885693284 0 M9 L10 h1) kc_19 (by decide) tf_732 wd_3155 cwX19_is ⟨Nat.le_of_ble_eq_true rfl, Nat.le_of_ble_eq_true rfl⟩ rfl hl.1 (Nat.le_of_ble_eq_true rfl) dX19_kind_44 rfl rfl ⟨Nat.zero_le _, Nat.zero_le _⟩ rfl (fun H locs hw => ?_)
        refine lv_if_eq (tgt := 52) C.1.1 C.1.2.1 dX19_kind_47 (by decide) (fun c16 => ?_) (fun c16 => ?_)
        · replace hD := g_pos c16 hD
          refine lv_aload_n C.1.1 C.1.2.1 dX19_kind_52 rfl (lv_at hl 0 rfl) ?_
          refine lv_ldc2 (v := 1802661734) C.1.1 C.1.2.1 C.1.2.2.2.1 (C.1.2.2.2.2 _ wd_3258) dX19_kind_53 ?_
          refine lv_lconst (v := 0) C.1.1 C.1.2.1 dX19_kind_56 (by decide) ?_
          obtain ⟨r19, M17, L18, h1, hD⟩ := g_b3 hD
          refine md_cvI (As := [.long 1802661734, .long 0]) (rest := []) C hw (tX19_is l G ad fu 1802661734 0 M13 L14 h1) kc_19 (by decide) tf_732 wd_3155 cwX19_is ⟨Nat.le_of_ble_eq_true rfl, Nat.le_of_ble_eq_true rfl⟩ rfl hl.1 (Nat.le_of_ble_eq_true rfl) dX19_kind_57 rfl rfl ⟨Nat.zero_le _, Nat.zero_le _⟩ rfl (fun H locs hw => ?_)
          refine lv_if_eq (tgt := 65) C.1.1 C.1.2.1 dX19_kind_60 (by decide) (fun c20 => ?_) (fun c20 => ?_)
          · replace hD := g_pos c20 hD
            refine lv_aload_n C.1.1 C.1.2.1 dX19_kind_65 rfl (lv_at hl 0 rfl) ?_
            refine lv_ldc2 (v := 1852403562) C.1.1 C.1.2.1 C.1.2.2.2.1 (C.1.2.2.2.2 _ wd_3259) dX19_kind_66 ?_
            refine lv_lconst (v := 0) C.1.1 C.1.2.1 dX19_kind_69 (by decide) ?_
            obtain ⟨r23, M21, L22, h1, hD⟩ := g_b3 hD
            refine md_cvI (As := [.long 1852403562, .long 0]) (rest := []) C hw (tX19_is l G ad fu 1852403562 0 M17 L18 h1) kc_19 (by decide) tf_732 wd_3155 cwX19_is ⟨Nat.le_of_ble_eq_true rfl, Nat.le_of_ble_eq_true rfl⟩ rfl hl.1 (Nat.le_of_ble_eq_true rfl) dX19_kind_70 rfl rfl ⟨Nat.zero_le _, Nat.zero_le _⟩ rfl (fun H locs hw => ?_)
            refine lv_if_eq (tgt := 80) C.1.1 C.1.2.1 dX19_kind_73 (by decide) (fun c24 => ?_) (fun c24 => ?_)
            · replace hD := g_pos c24 hD
              refine lv_iconst (v := (-1)) C.1.1 C.1.2.1 dX19_kind_80 (by decide) ?_
              exact hb81 ((-1)) M21 L22 _ _ ls hD hw (lv_sub hl [] rfl)
            · replace hD := g_neg c24 hD
              refine lv_iconst (v := 5) C.1.1 C.1.2.1 dX19_kind_76 (by decide) ?_
              refine lv_goto (tgt := 81) C.1.1 C.1.2.1 dX19_kind_77 (by decide) ?_
              exact hb81 5 M21 L22 _ _ ls hD hw (lv_sub hl [] rfl)
          · replace hD := g_neg c20 hD
            refine lv_iconst (v := 4) C.1.1 C.1.2.1 dX19_kind_63 (by decide) ?_
            exact mr_iret C hr hlocks hw rfl (Option.some.inj hD) dX19_kind_64
        · replace hD := g_neg c16 hD
          refine lv_iconst (v := 3) C.1.1 C.1.2.1 dX19_kind_50 (by decide) ?_
          exact mr_iret C hr hlocks hw rfl (Option.some.inj hD) dX19_kind_51
      · replace hD := g_neg c12 hD
        refine lv_iconst (v := 2) C.1.1 C.1.2.1 dX19_kind_37 (by decide) ?_
        exact mr_iret C hr hlocks hw rfl (Option.some.inj hD) dX19_kind_38
    · replace hD := g_neg c8 hD
      refine lv_iconst (v := 1) C.1.1 C.1.2.1 dX19_kind_24 (by decide) ?_
      exact mr_iret C hr hlocks hw rfl (Option.some.inj hD) dX19_kind_25
  · replace hD := g_neg c4 hD
    refine lv_iconst (v := 0) C.1.1 C.1.2.1 dX19_kind_11 (by decide) ?_
    exact mr_iret C hr hlocks hw rfl (Option.some.inj hD) dX19_kind_12

theorem dX19_addState_0 : decode cX19_addState 0 = .ok (.aload_n 0, 1) := by decide +kernel
theorem dX19_addState_1 : decode cX19_addState 1 = .ok (.iconst 3, 1) := by decide +kernel
theorem dX19_addState_2 : decode cX19_addState 2 = .ok (.invokevirtual 451, 3) := by decide +kernel
theorem dX19_addState_5 : decode cX19_addState 5 = .ok (.istore_n 1, 1) := by decide +kernel
theorem dX19_addState_6 : decode cX19_addState 6 = .ok (.iload_n 1, 1) := by decide +kernel
theorem dX19_addState_7 : decode cX19_addState 7 = .ok (.ifCond .lt 30, 3) := by decide +kernel
theorem dX19_addState_10 : decode cX19_addState 10 = .ok (.aload_n 0, 1) := by decide +kernel
theorem dX19_addState_11 : decode cX19_addState 11 = .ok (.invokevirtual 341, 3) := by decide +kernel
theorem dX19_addState_14 : decode cX19_addState 14 = .ok (.ifCond .eq 23, 3) := by decide +kernel
theorem dX19_addState_17 : decode cX19_addState 17 = .ok (.aload_n 0, 1) := by decide +kernel
theorem dX19_addState_18 : decode cX19_addState 18 = .ok (.aload_n 0, 1) := by decide +kernel
theorem dX19_addState_19 : decode cX19_addState 19 = .ok (.iload_n 1, 1) := by decide +kernel
theorem dX19_addState_20 : decode cX19_addState 20 = .ok (.invokevirtual 359, 3) := by decide +kernel
theorem dX19_addState_23 : decode cX19_addState 23 = .ok (.ifCond .le 7, 3) := by decide +kernel
theorem dX19_addState_26 : decode cX19_addState 26 = .ok (.iconst 1, 1) := by decide +kernel
theorem dX19_addState_27 : decode cX19_addState 27 = .ok (.goto 4, 3) := by decide +kernel
theorem dX19_addState_30 : decode cX19_addState 30 = .ok (.iconst 0, 1) := by decide +kernel
theorem dX19_addState_31 : decode cX19_addState 31 = .ok (.invokevirtual 477, 3) := by decide +kernel
theorem dX19_addState_34 : decode cX19_addState 34 = .ok (.ifCond .ne 5, 3) := by decide +kernel
theorem dX19_addState_37 : decode cX19_addState 37 = .ok (.iconst 0, 1) := by decide +kernel
theorem dX19_addState_38 : decode cX19_addState 38 = .ok (.ireturn, 1) := by decide +kernel
theorem dX19_addState_39 : decode cX19_addState 39 = .ok (.aload_n 0, 1) := by decide +kernel
theorem dX19_addState_40 : decode cX19_addState 40 = .ok (.getfield 311, 3) := by decide +kernel
theorem dX19_addState_43 : decode cX19_addState 43 = .ok (.istore_n 2, 1) := by decide +kernel
theorem dX19_addState_44 : decode cX19_addState 44 = .ok (.aload_n 0, 1) := by decide +kernel
theorem dX19_addState_45 : decode cX19_addState 45 = .ok (.getfield 314, 3) := by decide +kernel
theorem dX19_addState_48 : decode cX19_addState 48 = .ok (.aload_n 0, 1) := by decide +kernel
theorem dX19_addState_49 : decode cX19_addState 49 = .ok (.getfield 311, 3) := by decide +kernel
theorem dX19_addState_52 : decode cX19_addState 52 = .ok (.isub, 1) := by decide +kernel
theorem dX19_addState_53 : decode cX19_addState 53 = .ok (.istore_n 3, 1) := by decide +kernel
theorem dX19_addState_54 : decode cX19_addState 54 = .ok (.aload_n 0, 1) := by decide +kernel
theorem dX19_addState_55 : decode cX19_addState 55 = .ok (.ldc2_w 463, 3) := by decide +kernel
theorem dX19_addState_58 : decode cX19_addState 58 = .ok (.invokevirtual 481, 3) := by decide +kernel
theorem dX19_addState_61 : decode cX19_addState 61 = .ok (.ifCond .eq 7, 3) := by decide +kernel
theorem dX19_addState_64 : decode cX19_addState 64 = .ok (.iconst 0, 1) := by decide +kernel
theorem dX19_addState_65 : decode cX19_addState 65 = .ok (.goto 8, 3) := by decide +kernel
theorem dX19_addState_68 : decode cX19_addState 68 = .ok (.aload_n 0, 1) := by decide +kernel
theorem dX19_addState_69 : decode cX19_addState 69 = .ok (.iload_n 1, 1) := by decide +kernel
theorem dX19_addState_70 : decode cX19_addState 70 = .ok (.invokevirtual 485, 3) := by decide +kernel
theorem dX19_addState_73 : decode cX19_addState 73 = .ok (.istore 4, 2) := by decide +kernel
theorem dX19_addState_75 : decode cX19_addState 75 = .ok (.iload 4, 2) := by decide +kernel
theorem dX19_addState_77 : decode cX19_addState 77 = .ok (.ifCond .lt 10, 3) := by decide +kernel
theorem dX19_addState_80 : decode cX19_addState 80 = .ok (.aload_n 0, 1) := by decide +kernel
theorem dX19_addState_81 : decode cX19_addState 81 = .ok (.invokevirtual 341, 3) := by decide +kernel
theorem dX19_addState_84 : decode cX19_addState 84 = .ok (.ifCond .ne 5, 3) := by decide +kernel
theorem dX19_addState_87 : decode cX19_addState 87 = .ok (.iconst 0, 1) := by decide +kernel
theorem dX19_addState_88 : decode cX19_addState 88 = .ok (.ireturn, 1) := by decide +kernel
theorem dX19_addState_89 : decode cX19_addState 89 = .ok (.aload_n 0, 1) := by decide +kernel
theorem dX19_addState_90 : decode cX19_addState 90 = .ok (.invokevirtual 488, 3) := by decide +kernel
theorem dX19_addState_93 : decode cX19_addState 93 = .ok (.istore 5, 2) := by decide +kernel
theorem dX19_addState_95 : decode cX19_addState 95 = .ok (.iload 5, 2) := by decide +kernel
theorem dX19_addState_97 : decode cX19_addState 97 = .ok (.ifCond .ge 13, 3) := by decide +kernel
theorem dX19_addState_100 : decode cX19_addState 100 = .ok (.aload_n 0, 1) := by decide +kernel
theorem dX19_addState_101 : decode cX19_addState 101 = .ok (.iconst 1, 1) := by decide +kernel
theorem dX19_addState_102 : decode cX19_addState 102 = .ok (.aload_n 0, 1) := by decide +kernel
theorem dX19_addState_103 : decode cX19_addState 103 = .ok (.getfield 311, 3) := by decide +kernel
theorem dX19_addState_106 : decode cX19_addState 106 = .ok (.invokevirtual 321, 3) := by decide +kernel
theorem dX19_addState_109 : decode cX19_addState 109 = .ok (.ireturn, 1) := by decide +kernel
theorem dX19_addState_110 : decode cX19_addState 110 = .ok (.aload_n 0, 1) := by decide +kernel
theorem dX19_addState_111 : decode cX19_addState 111 = .ok (.invokevirtual 441, 3) := by decide +kernel
theorem dX19_addState_114 : decode cX19_addState 114 = .ok (.ifCond .ne 5, 3) := by decide +kernel
theorem dX19_addState_117 : decode cX19_addState 117 = .ok (.iconst 0, 1) := by decide +kernel
theorem dX19_addState_118 : decode cX19_addState 118 = .ok (.ireturn, 1) := by decide +kernel
theorem dX19_addState_119 : decode cX19_addState 119 = .ok (.aload_n 0, 1) := by decide +kernel
theorem dX19_addState_120 : decode cX19_addState 120 = .ok (.getfield 217, 3) := by decide +kernel
theorem dX19_addState_123 : decode cX19_addState 123 = .ok (.iload_n 1, 1) := by decide +kernel
theorem dX19_addState_124 : decode cX19_addState 124 = .ok (.aaload, 1) := by decide +kernel
theorem dX19_addState_125 : decode cX19_addState 125 = .ok (.iload 4, 2) := by decide +kernel
theorem dX19_addState_127 : decode cX19_addState 127 = .ok (.iload 5, 2) := by decide +kernel
theorem dX19_addState_129 : decode cX19_addState 129 = .ok (.invokevirtual 491, 3) := by decide +kernel
theorem dX19_addState_132 : decode cX19_addState 132 = .ok (.istore 6, 2) := by decide +kernel
theorem dX19_addState_134 : decode cX19_addState 134 = .ok (.aload_n 0, 1) := by decide +kernel
theorem dX19_addState_135 : decode cX19_addState 135 = .ok (.iload 6, 2) := by decide +kernel
theorem dX19_addState_137 : decode cX19_addState 137 = .ok (.invokevirtual 494, 3) := by decide +kernel
theorem dX19_addState_140 : decode cX19_addState 140 = .ok (.ifCond .ne 5, 3) := by decide +kernel
theorem dX19_addState_143 : decode cX19_addState 143 = .ok (.iconst 0, 1) := by decide +kernel
theorem dX19_addState_144 : decode cX19_addState 144 = .ok (.ireturn, 1) := by decide +kernel
theorem dX19_addState_145 : decode cX19_addState 145 = .ok (.aload_n 0, 1) := by decide +kernel
theorem dX19_addState_146 : decode cX19_addState 146 = .ok (.getfield 73, 3) := by decide +kernel
theorem dX19_addState_149 : decode cX19_addState 149 = .ok (.iload_n 1, 1) := by decide +kernel
theorem dX19_addState_150 : decode cX19_addState 150 = .ok (.iload 6, 2) := by decide +kernel
theorem dX19_addState_152 : decode cX19_addState 152 = .ok (.iastore, 1) := by decide +kernel
theorem dX19_addState_153 : decode cX19_addState 153 = .ok (.aload_n 0, 1) := by decide +kernel
theorem dX19_addState_154 : decode cX19_addState 154 = .ok (.getfield 76, 3) := by decide +kernel
theorem dX19_addState_157 : decode cX19_addState 157 = .ok (.sipush 201, 3) := by decide +kernel
theorem dX19_addState_160 : decode cX19_addState 160 = .ok (.iload_n 1, 1) := by decide +kernel
theorem dX19_addState_161 : decode cX19_addState 161 = .ok (.imul, 1) := by decide +kernel
theorem dX19_addState_162 : decode cX19_addState 162 = .ok (.iload 6, 2) := by decide +kernel
theorem dX19_addState_164 : decode cX19_addState 164 = .ok (.iadd, 1) := by decide +kernel
theorem dX19_addState_165 : decode cX19_addState 165 = .ok (.iload_n 2, 1) := by decide +kernel
theorem dX19_addState_166 : decode cX19_addState 166 = .ok (.iastore, 1) := by decide +kernel
theorem dX19_addState_167 : decode cX19_addState 167 = .ok (.aload_n 0, 1) := by decide +kernel
theorem dX19_addState_168 : decode cX19_addState 168 = .ok (.getfield 79, 3) := by decide +kernel
theorem dX19_addState_171 : decode cX19_addState 171 = .ok (.sipush 201, 3) := by decide +kernel
theorem dX19_addState_174 : decode cX19_addState 174 = .ok (.iload_n 1, 1) := by decide +kernel
theorem dX19_addState_175 : decode cX19_addState 175 = .ok (.imul, 1) := by decide +kernel
theorem dX19_addState_176 : decode cX19_addState 176 = .ok (.iload 6, 2) := by decide +kernel
theorem dX19_addState_178 : decode cX19_addState 178 = .ok (.iadd, 1) := by decide +kernel
theorem dX19_addState_179 : decode cX19_addState 179 = .ok (.iload_n 3, 1) := by decide +kernel
theorem dX19_addState_180 : decode cX19_addState 180 = .ok (.iastore, 1) := by decide +kernel
theorem dX19_addState_181 : decode cX19_addState 181 = .ok (.iconst 1, 1) := by decide +kernel
theorem dX19_addState_182 : decode cX19_addState 182 = .ok (.ireturn, 1) := by decide +kernel
theorem cwX19_addState : mw_cwV yX19_addState cX19_addState 7 ((some .boolean)) 0 := ⟨⟨wd_13, wd_3232, by decide +kernel⟩, wd_3231, sl_166⟩
set_option maxHeartbeats 4000000 in
set_option maxRecDepth 100000 in
theorem tX19_addState (l : Launch) (G : mwG) (ad : Nat → Nat) (fu : Nat) (M : mwM) (L : mwL) {r0 : Int32} {M0 : mwM} {L0 : mwL} (hD : DX19_addState fu M L = some (r0, M0, L0)) : Met l yX19_addState (Cond.code yX19_addState cX19_addState 7 ((some .boolean)) :: GT) ({ frames := 3, cells := 0, slots := 0, locals := 69 }) (mw_Pre G ad NF TF FF M L [.ref (ad 732)]) (mw_Qi G ad NF TF FF (mw_eqI r0 M0 L0)) 0 0 (mw_fr G) := by
  refine mw_enter (by decide) (Nat.le_of_ble_eq_true rfl) ?_
  intro p e s m below meth c ls C hr hlocks hnm hw hl
  have hl : lv_has ls 7 [(0, .ref (ad 732))] := hl
  have hb37 : ∀ (M : mwM) (L : mwL) (H : Heap) (locs : List Loc) (ls : Array Slot), fX19_addState_b37 fu M L = some (r0, M0, L0) → mw_W G ad NF TF FF M L H locs → lv_has ls 7 [] → W p l e ({ frames := 3, cells := 0, slots := 0, locals := 69 }) s m [.ref (ad 732)].toArray below meth c H locs 0 0 (MQ below (mw_Qi G ad NF TF FF (mw_eqI r0 M0 L0)) [.ref (ad 732)].toArray s 0 0 (mw_fr G)) (F0 m 37 ls []) := by
    intro M L H locs ls hD hw hl
    unfold fX19_addState_b37 at hD
    refine lv_iconst (v := 0) C.1.1 C.1.2.1 dX19_addState_37 (by decide) ?_
    exact mr_iret C hr hlocks hw (by decide +kernel) (Option.some.inj hD) dX19_addState_38
  have hb87 : ∀ (M : mwM) (L : mwL) (H : Heap) (locs : List Loc) (ls : Array Slot), fX19_addState_b87 fu M L = some (r0, M0, L0) → mw_W G ad NF TF FF M L H locs → lv_has ls 7 [] → W p l e ({ frames := 3, cells := 0, slots := 0, locals := 69 }) s m [.ref (ad 732)].toArray below meth c H locs 0 0 (MQ below (mw_Qi G ad NF TF FF (mw_eqI r0 M0 L0)) [.ref (ad 732)].toArray s 0 0 (mw_fr G)) (F0 m 87 ls []) := by
    intro M L H locs ls hD hw hl
    unfold fX19_addState_b87 at hD
    refine lv_iconst (v := 0) C.1.1 C.1.2.1 dX19_addState_87 (by decide) ?_
    exact mr_iret C hr hlocks hw (by decide +kernel) (Option.some.inj hD) dX19_addState_88
  have hb73 : ∀ (v1 : Int32) (v2 : Int32) (v3 : Int32) (s0 : Int32) (M : mwM) (L : mwL) (H : Heap) (locs : List Loc) (ls : Array Slot), fX19_addState_b73 fu v1 v2 v3 s0 M L = some (r0, M0, L0) → mw_W G ad NF TF FF M L H locs → lv_has ls 7 [(0, .ref (ad 732)), (1, .int v1), (2, .int v2), (3, .int v3)] → W p l e ({ frames := 3, cells := 0, slots := 0, locals := 69 }) s m [.ref (ad 732)].toArray below meth c H locs 0 0 (MQ below (mw_Qi G ad NF TF FF (mw_eqI r0 M0 L0)) [.ref (ad 732)].toArray s 0 0 (mw_fr G)) (F0 m 73 ls [.int s0]) := by
    intro v1 v2 v3 s0 M L H locs ls hD hw hl
    unfold fX19_addState_b73 at hD
    refine lv_istore (lv' := [(4, .int s0), (0, .ref (ad 732)), (1, .int v1), (2, .int v2), (3, .int v3)]) C.1.1 C.1.2.1 dX19_addState_73 hl (by decide) rfl (fun ls hl => ?_)
    refine lv_iload C.1.1 C.1.2.1 dX19_addState_75 (lv_at hl 0 rfl) ?_
    refine lv_if_lt (tgt := 87) C.1.1 C.1.2.1 dX19_addState_77 (by decide) (fun c14 => ?_) (fun c14 => ?_)
    · replace hD := g_pos c14 hD
      exact hb87 M L _ _ ls hD hw (lv_sub hl [] rfl)
    · replace hD := g_neg c14 hD
      refine lv_aload_n C.1.1 C.1.2.1 dX19_addState_80 rfl (lv_at hl 1 rfl) ?_
      obtain ⟨r17, M15, L16, h1, hD⟩ := g_b3 hD
      refine md_cvI (As := []) (rest := []) C hw (tX19_must l G ad fu M L h1) kc_19 (by decide) tf_732 wd_3168 cwX19_must ⟨Nat.le_of_ble_eq_true rfl, Nat.le_of_ble_eq_true rfl⟩ rfl hl.1 (Nat.le_of_ble_eq_true rfl) dX19_addState_81 rfl rfl ⟨Nat.zero_le _, Nat.zero_le _⟩ rfl (fun H locs hw => ?_)
      refine lv_if_ne (tgt := 89) C.1.1 C.1.2.1 dX19_addState_84 (by decide) (fun c18 => ?_) (fun c18 => ?_)
      · replace hD := g_neg c18 hD
        refine lv_aload_n C.1.1 C.1.2.1 dX19_addState_89 rfl (lv_at hl 1 rfl) ?_
        obtain ⟨r21, M19, L20, h1, hD⟩ := g_b3 hD
        refine md_cvI (As := []) (rest := []) C hw (tX19_kind l G ad fu M15 L16 h1) kc_19 (by decide) tf_732 wd_3250 cwX19_kind ⟨Nat.le_of_ble_eq_true rfl, Nat.le_of_ble_eq_true rfl⟩ rfl hl.1 (Nat.le_of_ble_eq_true rfl) dX19_addState_90 rfl rfl ⟨Nat.zero_le _, Nat.zero_le _⟩ rfl (fun H locs hw => ?_)
        refine lv_istore (lv' := [(5, .int r21), (4, .int s0), (0, .ref (ad 732)), (1, .int v1), (2, .int v2), (3, .int v3)]) C.1.1 C.1.2.1 dX19_addState_93 hl (by decide) rfl (fun ls hl => ?_)
        refine lv_iload C.1.1 C.1.2.1 dX19_addState_95 (lv_at hl 0 rfl) ?_
        refine lv_if_ge (tgt := 110) C.1.1 C.1.2.1 dX19_addState_97 (by decide) (fun c22 => ?_) (fun c22 => ?_)
        · replace hD := g_pos c22 hD
          refine lv_aload_n C.1.1 C.1.2.1 dX19_addState_110 rfl (lv_at hl 2 rfl) ?_
          obtain ⟨r25, M23, L24, h1, hD⟩ := g_b3 hD
          refine md_cvI (As := []) (rest := []) C hw (tX19_end l G ad fu M19 L20 h1) kc_19 (by decide) tf_732 wd_3194 cwX19_end ⟨Nat.le_of_ble_eq_true rfl, Nat.le_of_ble_eq_true rfl⟩ rfl hl.1 (Nat.le_of_ble_eq_true rfl) dX19_addState_111 rfl rfl ⟨Nat.zero_le _, Nat.zero_le _⟩ rfl (fun H locs hw => ?_)
          refine lv_if_ne (tgt := 119) C.1.1 C.1.2.1 dX19_addState_114 (by decide) (fun c26 => ?_) (fun c26 => ?_)
          · replace hD := g_neg c26 hD
            refine lv_aload_n C.1.1 C.1.2.1 dX19_addState_119 rfl (lv_at hl 2 rfl) ?_
            refine mr_getR C hw kc_19 82 (by decide) tf_732 ff_732_82 wd_2863 dX19_addState_120 (by decide) rfl ?_
            refine lv_iload_n C.1.1 C.1.2.1 dX19_addState_123 rfl (lv_at hl 3 rfl) ?_
            obtain ⟨q27, hD⟩ := g_ck hD
            refine mr_aald C hw (by decide) tf_922 (by decide) (by decide) rfl rfl q27 (fr_922 _ (g_lt q27)) dX19_addState_124 ?_
            refine lv_iload C.1.1 C.1.2.1 dX19_addState_125 (lv_at hl 1 rfl) ?_
            refine lv_iload C.1.1 C.1.2.1 dX19_addState_127 (lv_at hl 0 rfl) ?_
            obtain ⟨r30, M28, L29, h1, hD⟩ := g_b3 hD
            refine md_cvI (As := [.int s0, .int r21]) (rest := []) C hw (tX13_state l G ad fu ((964 + 53 * v1.toNatClampNeg)) s0 r21 M23 L24 h1 (isMc_of (g_lt q27))) kc_13 (Mc_N0 (isMc_of (g_lt q27))) (Mc_T0 (isMc_of (g_lt q27))) wd_3260 cwX13_state ⟨Nat.le_of_ble_eq_true rfl, Nat.le_of_ble_eq_true rfl⟩ rfl hl.1 (Nat.le_of_ble_eq_true rfl) dX19_addState_129 rfl rfl ⟨Nat.zero_le _, Nat.zero_le _⟩ rfl (fun H locs hw => ?_)
            refine lv_istore (lv' := [(6, .int r30), (5, .int r21), (4, .int s0), (0, .ref (ad 732)), (1, .int v1), (2, .int v2), (3, .int v3)]) C.1.1 C.1.2.1 dX19_addState_132 hl (by decide) rfl (fun ls hl => ?_)
            refine lv_aload_n C.1.1 C.1.2.1 dX19_addState_134 rfl (lv_at hl 3 rfl) ?_
            refine lv_iload C.1.1 C.1.2.1 dX19_addState_135 (lv_at hl 0 rfl) ?_
            obtain ⟨r33, M31, L32, h1, hD⟩ := g_b3 hD
            refine md_cvI (As := [.int r30]) (rest := []) C hw (tX19_fits l G ad fu r30 M28 L29 h1) kc_19 (by decide) tf_732 wd_3272 cwX19_fits ⟨Nat.le_of_ble_eq_true rfl, Nat.le_of_ble_eq_true rfl⟩ rfl hl.1 (Nat.le_of_ble_eq_true rfl) dX19_addState_137 rfl rfl ⟨Nat.zero_le _, Nat.zero_le _⟩ rfl (fun H locs hw => ?_)
            refine lv_if_ne (tgt := 145) C.1.1 C.1.2.1 dX19_addState_140 (by decide) (fun c34 => ?_) (fun c34 => ?_)
            · replace hD := g_neg c34 hD
              refine lv_aload_n C.1.1 C.1.2.1 dX19_addState_145 rfl (lv_at hl 3 rfl) ?_
              refine mr_getR C hw kc_19 39 (by decide) tf_732 ff_732_39 wd_2820 dX19_addState_146 (by decide) rfl ?_
              refine lv_iload_n C.1.1 C.1.2.1 dX19_addState_149 rfl (lv_at hl 4 rfl) ?_
              refine lv_iload C.1.1 C.1.2.1 dX19_addState_150 (lv_at hl 0 rfl) ?_
              obtain ⟨q35, hD⟩ := g_ck hD
              obtain ⟨M36, eM36, hD⟩ := g_let hD
              refine mr_iast C hw (by decide) tf_754 q35 dX19_addState_152 (fun H locs hw => ?_)
              replace hw : mw_W G ad NF TF FF M36 L32 H locs := by rw [eM36]; exact hw
              refine lv_aload_n C.1.1 C.1.2.1 dX19_addState_153 rfl (lv_at hl 3 rfl) ?_
              refine mr_getR C hw kc_19 40 (by decide) tf_732 ff_732_40 wd_2821 dX19_addState_154 (by decide) rfl ?_
              refine lv_sipush (v := 201) C.1.1 C.1.2.1 dX19_addState_157 (by decide) ?_
              refine lv_iload_n C.1.1 C.1.2.1 dX19_addState_160 rfl (lv_at hl 4 rfl) ?_
              refine lv_imul C.1.1 C.1.2.1 dX19_addState_161 ?_
              refine lv_iload C.1.1 C.1.2.1 dX19_addState_162 (lv_at hl 0 rfl) ?_
              refine lv_iadd C.1.1 C.1.2.1 dX19_addState_164 ?_
              refine lv_iload_n C.1.1 C.1.2.1 dX19_addState_165 rfl (lv_at hl 5 rfl) ?_
              obtain ⟨q37, hD⟩ := g_ck hD
              obtain ⟨M38, eM38, hD⟩ := g_let hD
              refine mr_iast C hw (by decide) tf_755 q37 dX19_addState_166 (fun H locs hw => ?_)
              replace hw : mw_W G ad NF TF FF M38 L32 H locs := by rw [eM38]; exact hw
              refine lv_aload_n C.1.1 C.1.2.1 dX19_addState_167 rfl (lv_at hl 3 rfl) ?_
              refine mr_getR C hw kc_19 41 (by decide) tf_732 ff_732_41 wd_2822 dX19_addState_168 (by decide) rfl ?_
              refine lv_sipush (v := 201) C.1.1 C.1.2.1 dX19_addState_171 (by decide) ?_
              refine lv_iload_n C.1.1 C.1.2.1 dX19_addState_174 rfl (lv_at hl 4 rfl) ?_
              refine lv_imul C.1.1 C.1.2.1 dX19_addState_175 ?_
              refine lv_iload C.1.1 C.1.2.1 dX19_addState_176 (lv_at hl 0 rfl) ?_
              refine lv_iadd C.1.1 C.1.2.1 dX19_addState_178 ?_
              refine lv_iload_n C.1.1 C.1.2.1 dX19_addState_179 rfl (lv_at hl 6 rfl) ?_
              obtain ⟨q39, hD⟩ := g_ck hD
              obtain ⟨M40, eM40, hD⟩ := g_let hD
              refine mr_iast C hw (by decide) tf_756 q39 dX19_addState_180 (fun H locs hw => ?_)
              replace hw : mw_W G ad NF TF FF M40 L32 H locs := by rw [eM40]; exact hw
              refine lv_iconst (v := 1) C.1.1 C.1.2.1 dX19_addState_181 (by decide) ?_
              exact mr_iret C hr hlocks hw (by decide +kernel) (Option.some.inj hD) dX19_addState_182
            · replace hD := g_pos c34 hD
              refine lv_iconst (v := 0) C.1.1 C.1.2.1 dX19_addState_143 (by decide) ?_
              exact mr_iret C hr hlocks hw (by decide +kernel) (Option.some.inj hD) dX19_addState_144
          · replace hD := g_pos c26 hD
            refine lv_iconst (v := 0) C.1.1 C.1.2.1 dX19_addState_117 (by decide) ?_
            exact mr_iret C hr hlocks hw (by decide +kernel) (Option.some.inj hD) dX19_addState_118
        · replace hD := g_neg c22 hD
          refine lv_aload_n C.1.1 C.1.2.1 dX19_addState_100 rfl (lv_at hl 2 rfl) ?_
          refine lv_iconst (v := 1) C.1.1 C.1.2.1 dX19_addState_101 (by decide) ?_
          refine lv_aload_n C.1.1 C.1.2.1 dX19_addState_102 rfl (lv_at hl 2 rfl) ?_
          refine mr_getI C hw kc_19 9 (by decide) tf_732 wd_2790 dX19_addState_103 (by decide) rfl ?_
          obtain ⟨r43, M41, L42, h1, hD⟩ := g_b3 hD
          refine md_cvI (As := [.int 1, .int (M19 732 9)]) (rest := []) C hw (tX19_fail l G ad fu 1 (M19 732 9) M19 L20 h1) kc_19 (by decide) tf_732 wd_3172 cwX19_fail ⟨Nat.le_of_ble_eq_true rfl, Nat.le_of_ble_eq_true rfl⟩ rfl hl.1 (Nat.le_of_ble_eq_true rfl) dX19_addState_106 rfl rfl ⟨Nat.zero_le _, Nat.zero_le _⟩ rfl (fun H locs hw => ?_)
          obtain ⟨z44, hD⟩ := g_zz hD
          exact mr_iret C hr hlocks hw (nz_zz z44) (Option.some.inj hD) dX19_addState_109
      · replace hD := g_pos c18 hD
        exact hb87 M15 L16 _ _ ls hD hw (lv_sub hl [] rfl)
  have hb31 : ∀ (v1 : Int32) (s1 : Int32) (M : mwM) (L : mwL) (H : Heap) (locs : List Loc) (ls : Array Slot), fX19_addState_b31 fu v1 s1 M L = some (r0, M0, L0) → mw_W G ad NF TF FF M L H locs → lv_has ls 7 [(0, .ref (ad 732)), (1, .int v1)] → W p l e ({ frames := 3, cells := 0, slots := 0, locals := 69 }) s m [.ref (ad 732)].toArray below meth c H locs 0 0 (MQ below (mw_Qi G ad NF TF FF (mw_eqI r0 M0 L0)) [.ref (ad 732)].toArray s 0 0 (mw_fr G)) (F0 m 31 ls [.int s1, .ref (ad 732)]) := by
    intro v1 s1 M L H locs ls hD hw hl
    unfold fX19_addState_b31 at hD
    obtain ⟨r3, M1, L2, h1, hD⟩ := g_b3 hD
    refine md_cvI (As := [.int s1]) (rest := []) C hw (tX19_newIn l G ad fu s1 M L h1) kc_19 (by decide) tf_732 wd_3237 cwX19_newIn ⟨Nat.le_of_ble_eq_true rfl, Nat.le_of_ble_eq_true rfl⟩ rfl hl.1 (Nat.le_of_ble_eq_true rfl) dX19_addState_31 rfl rfl ⟨Nat.zero_le _, Nat.zero_le _⟩ rfl (fun H locs hw => ?_)
    refine lv_if_ne (tgt := 39) C.1.1 C.1.2.1 dX19_addState_34 (by decide) (fun c4 => ?_) (fun c4 => ?_)
    · replace hD := g_neg c4 hD
      refine lv_aload_n C.1.1 C.1.2.1 dX19_addState_39 rfl (lv_at hl 0 rfl) ?_
      refine mr_getI C hw kc_19 9 (by decide) tf_732 wd_2790 dX19_addState_40 (by decide) rfl ?_
      obtain ⟨x5, ex5, hD⟩ := g_let hD
      refine W.eq (g2 := F0 m 43 ls (.int x5 :: [])) (by rw [ex5]) ?_
      refine lv_istore_n (lv' := [(2, .int x5), (0, .ref (ad 732)), (1, .int v1)]) C.1.1 C.1.2.1 dX19_addState_43 rfl hl (by decide) rfl (fun ls hl => ?_)
      refine lv_aload_n C.1.1 C.1.2.1 dX19_addState_44 rfl (lv_at hl 1 rfl) ?_
      refine mr_getI C hw kc_19 10 (by decide) tf_732 wd_2791 dX19_addState_45 (by decide) rfl ?_
      refine lv_aload_n C.1.1 C.1.2.1 dX19_addState_48 rfl (lv_at hl 1 rfl) ?_
      refine mr_getI C hw kc_19 9 (by decide) tf_732 wd_2790 dX19_addState_49 (by decide) rfl ?_
      refine lv_isub C.1.1 C.1.2.1 dX19_addState_52 ?_
      obtain ⟨x6, ex6, hD⟩ := g_let hD
      refine W.eq (g2 := F0 m 53 ls (.int x6 :: [])) (by rw [ex6]) ?_
      refine lv_istore_n (lv' := [(3, .int x6), (2, .int x5), (0, .ref (ad 732)), (1, .int v1)]) C.1.1 C.1.2.1 dX19_addState_53 rfl hl (by decide) rfl (fun ls hl => ?_)
      refine lv_aload_n C.1.1 C.1.2.1 dX19_addState_54 rfl (lv_at hl 2 rfl) ?_
      refine lv_ldc2 (v := 7368564) C.1.1 C.1.2.1 C.1.2.2.2.1 (C.1.2.2.2.2 _ wd_3241) dX19_addState_55 ?_
      obtain ⟨r9, M7, L8, h1, hD⟩ := g_b3 hD
      refine md_cvI (As := [.long 7368564]) (rest := []) C hw (tX19_takes l G ad fu 7368564 M1 L2 h1) kc_19 (by decide) tf_732 wd_3242 cwX19_takes ⟨Nat.le_of_ble_eq_true rfl, Nat.le_of_ble_eq_true rfl⟩ rfl hl.1 (Nat.le_of_ble_eq_true rfl) dX19_addState_58 rfl rfl ⟨Nat.zero_le _, Nat.zero_le _⟩ rfl (fun H locs hw => ?_)
      refine lv_if_eq (tgt := 68) C.1.1 C.1.2.1 dX19_addState_61 (by decide) (fun c10 => ?_) (fun c10 => ?_)
      · replace hD := g_pos c10 hD
        refine lv_aload_n C.1.1 C.1.2.1 dX19_addState_68 rfl (lv_at hl 2 rfl) ?_
        refine lv_iload_n C.1.1 C.1.2.1 dX19_addState_69 rfl (lv_at hl 3 rfl) ?_
        obtain ⟨r13, M11, L12, h1, hD⟩ := g_b3 hD
        refine md_cvI (As := [.int v1]) (rest := []) C hw (tX19_state l G ad fu v1 M7 L8 h1) kc_19 (by decide) tf_732 wd_3246 cwX19_state ⟨Nat.le_of_ble_eq_true rfl, Nat.le_of_ble_eq_true rfl⟩ rfl hl.1 (Nat.le_of_ble_eq_true rfl) dX19_addState_70 rfl rfl ⟨Nat.zero_le _, Nat.zero_le _⟩ rfl (fun H locs hw => ?_)
        exact hb73 v1 x5 x6 r13 M11 L12 _ _ ls hD hw (lv_sub hl [2, 3, 1, 0] rfl)
      · replace hD := g_neg c10 hD
        refine lv_iconst (v := 0) C.1.1 C.1.2.1 dX19_addState_64 (by decide) ?_
        refine lv_goto (tgt := 73) C.1.1 C.1.2.1 dX19_addState_65 (by decide) ?_
        exact hb73 v1 x5 x6 0 M7 L8 _ _ ls hD hw (lv_sub hl [2, 3, 1, 0] rfl)
    · replace hD := g_pos c4 hD
      exact hb37 M1 L2 _ _ ls hD hw (lv_sub hl [] rfl)
  unfold DX19_addState at hD
  refine lv_aload_n C.1.1 C.1.2.1 dX19_addState_0 rfl (lv_at hl 0 rfl) ?_
  refine lv_iconst (v := 3) C.1.1 C.1.2.1 dX19_addState_1 (by decide) ?_
  obtain ⟨r47, M45, L46, h1, hD⟩ := g_b3 hD
  refine md_cvI (As := [.int 3]) (rest := []) C hw (tX19_named l G ad fu 3 M L h1) kc_19 (by decide) tf_732 wd_3207 cwX19_named ⟨Nat.le_of_ble_eq_true rfl, Nat.le_of_ble_eq_true rfl⟩ rfl hl.1 (Nat.le_of_ble_eq_true rfl) dX19_addState_2 rfl rfl ⟨Nat.zero_le _, Nat.zero_le _⟩ rfl (fun H locs hw => ?_)
  refine lv_istore_n (lv' := [(1, .int r47), (0, .ref (ad 732))]) C.1.1 C.1.2.1 dX19_addState_5 rfl hl (by decide) rfl (fun ls hl => ?_)
  refine lv_iload_n C.1.1 C.1.2.1 dX19_addState_6 rfl (lv_at hl 0 rfl) ?_
  refine lv_if_lt (tgt := 37) C.1.1 C.1.2.1 dX19_addState_7 (by decide) (fun c48 => ?_) (fun c48 => ?_)
  · replace hD := g_pos c48 hD
    exact hb37 M45 L46 _ _ ls hD hw (lv_sub hl [] rfl)
  · replace hD := g_neg c48 hD
    refine lv_aload_n C.1.1 C.1.2.1 dX19_addState_10 rfl (lv_at hl 1 rfl) ?_
    obtain ⟨r51, M49, L50, h1, hD⟩ := g_b3 hD
    refine md_cvI (As := []) (rest := []) C hw (tX19_must l G ad fu M45 L46 h1) kc_19 (by decide) tf_732 wd_3168 cwX19_must ⟨Nat.le_of_ble_eq_true rfl, Nat.le_of_ble_eq_true rfl⟩ rfl hl.1 (Nat.le_of_ble_eq_true rfl) dX19_addState_11 rfl rfl ⟨Nat.zero_le _, Nat.zero_le _⟩ rfl (fun H locs hw => ?_)
    refine lv_if_eq (tgt := 37) C.1.1 C.1.2.1 dX19_addState_14 (by decide) (fun c52 => ?_) (fun c52 => ?_)
    · replace hD := g_pos c52 hD
      exact hb37 M49 L50 _ _ ls hD hw (lv_sub hl [] rfl)
    · replace hD := g_neg c52 hD
      refine lv_aload_n C.1.1 C.1.2.1 dX19_addState_17 rfl (lv_at hl 1 rfl) ?_
      refine lv_aload_n C.1.1 C.1.2.1 dX19_addState_18 rfl (lv_at hl 1 rfl) ?_
      refine lv_iload_n C.1.1 C.1.2.1 dX19_addState_19 rfl (lv_at hl 0 rfl) ?_
      obtain ⟨r55, M53, L54, h1, hD⟩ := g_b3 hD
      refine md_cvI (As := [.int r47]) (rest := [.ref (ad 732)]) C hw (tX19_findState l G ad fu r47 M49 L50 h1) kc_19 (by decide) tf_732 wd_3233 cwX19_findState ⟨Nat.le_of_ble_eq_true rfl, Nat.le_of_ble_eq_true rfl⟩ rfl hl.1 (Nat.le_of_ble_eq_true rfl) dX19_addState_20 rfl rfl ⟨Nat.zero_le _, Nat.zero_le _⟩ rfl (fun H locs hw => ?_)
      refine lv_if_le (tgt := 30) C.1.1 C.1.2.1 dX19_addState_23 (by decide) (fun c56 => ?_) (fun c56 => ?_)
      · replace hD := g_pos c56 hD
        refine lv_iconst (v := 0) C.1.1 C.1.2.1 dX19_addState_30 (by decide) ?_
        exact hb31 r47 0 M53 L54 _ _ ls hD hw (lv_sub hl [1, 0] rfl)
      · replace hD := g_neg c56 hD
        refine lv_iconst (v := 1) C.1.1 C.1.2.1 dX19_addState_26 (by decide) ?_
        refine lv_goto (tgt := 31) C.1.1 C.1.2.1 dX19_addState_27 (by decide) ?_
        exact hb31 r47 1 M53 L54 _ _ ls hD hw (lv_sub hl [1, 0] rfl)

theorem dX19_op_0 : decode cX19_op 0 = .ok (.aload_n 0, 1) := by decide +kernel
theorem dX19_op_1 : decode cX19_op 1 = .ok (.ldc2_w 497, 3) := by decide +kernel
theorem dX19_op_4 : decode cX19_op 4 = .ok (.lconst 0, 1) := by decide +kernel
theorem dX19_op_5 : decode cX19_op 5 = .ok (.invokevirtual 327, 3) := by decide +kernel
theorem dX19_op_8 : decode cX19_op 8 = .ok (.ifCond .eq 5, 3) := by decide +kernel
theorem dX19_op_11 : decode cX19_op 11 = .ok (.iconst 1, 1) := by decide +kernel
theorem dX19_op_12 : decode cX19_op 12 = .ok (.ireturn, 1) := by decide +kernel
theorem dX19_op_13 : decode cX19_op 13 = .ok (.aload_n 0, 1) := by decide +kernel
theorem dX19_op_14 : decode cX19_op 14 = .ok (.ldc2_w 499, 3) := by decide +kernel
theorem dX19_op_17 : decode cX19_op 17 = .ok (.lconst 0, 1) := by decide +kernel
theorem dX19_op_18 : decode cX19_op 18 = .ok (.invokevirtual 327, 3) := by decide +kernel
theorem dX19_op_21 : decode cX19_op 21 = .ok (.ifCond .eq 5, 3) := by decide +kernel
theorem dX19_op_24 : decode cX19_op 24 = .ok (.iconst 2, 1) := by decide +kernel
theorem dX19_op_25 : decode cX19_op 25 = .ok (.ireturn, 1) := by decide +kernel
theorem dX19_op_26 : decode cX19_op 26 = .ok (.aload_n 0, 1) := by decide +kernel
theorem dX19_op_27 : decode cX19_op 27 = .ok (.ldc2_w 501, 3) := by decide +kernel
theorem dX19_op_30 : decode cX19_op 30 = .ok (.lconst 0, 1) := by decide +kernel
theorem dX19_op_31 : decode cX19_op 31 = .ok (.invokevirtual 327, 3) := by decide +kernel
theorem dX19_op_34 : decode cX19_op 34 = .ok (.ifCond .eq 5, 3) := by decide +kernel
theorem dX19_op_37 : decode cX19_op 37 = .ok (.iconst 3, 1) := by decide +kernel
theorem dX19_op_38 : decode cX19_op 38 = .ok (.ireturn, 1) := by decide +kernel
theorem dX19_op_39 : decode cX19_op 39 = .ok (.aload_n 0, 1) := by decide +kernel
theorem dX19_op_40 : decode cX19_op 40 = .ok (.ldc2_w 503, 3) := by decide +kernel
theorem dX19_op_43 : decode cX19_op 43 = .ok (.lconst 0, 1) := by decide +kernel
theorem dX19_op_44 : decode cX19_op 44 = .ok (.invokevirtual 327, 3) := by decide +kernel
theorem dX19_op_47 : decode cX19_op 47 = .ok (.ifCond .eq 5, 3) := by decide +kernel
theorem dX19_op_50 : decode cX19_op 50 = .ok (.iconst 4, 1) := by decide +kernel
theorem dX19_op_51 : decode cX19_op 51 = .ok (.ireturn, 1) := by decide +kernel
theorem dX19_op_52 : decode cX19_op 52 = .ok (.aload_n 0, 1) := by decide +kernel
theorem dX19_op_53 : decode cX19_op 53 = .ok (.ldc2_w 505, 3) := by decide +kernel
theorem dX19_op_56 : decode cX19_op 56 = .ok (.lconst 0, 1) := by decide +kernel
theorem dX19_op_57 : decode cX19_op 57 = .ok (.invokevirtual 327, 3) := by decide +kernel
theorem dX19_op_60 : decode cX19_op 60 = .ok (.ifCond .eq 5, 3) := by decide +kernel
theorem dX19_op_63 : decode cX19_op 63 = .ok (.iconst 5, 1) := by decide +kernel
theorem dX19_op_64 : decode cX19_op 64 = .ok (.ireturn, 1) := by decide +kernel
theorem dX19_op_65 : decode cX19_op 65 = .ok (.aload_n 0, 1) := by decide +kernel
theorem dX19_op_66 : decode cX19_op 66 = .ok (.ldc2_w 507, 3) := by decide +kernel
theorem dX19_op_69 : decode cX19_op 69 = .ok (.lconst 0, 1) := by decide +kernel
theorem dX19_op_70 : decode cX19_op 70 = .ok (.invokevirtual 327, 3) := by decide +kernel
theorem dX19_op_73 : decode cX19_op 73 = .ok (.ifCond .eq 8, 3) := by decide +kernel
theorem dX19_op_76 : decode cX19_op 76 = .ok (.bipush 6, 2) := by decide +kernel
theorem dX19_op_78 : decode cX19_op 78 = .ok (.goto 4, 3) := by decide +kernel
theorem dX19_op_81 : decode cX19_op 81 = .ok (.iconst (-1), 1) := by decide +kernel
theorem dX19_op_82 : decode cX19_op 82 = .ok (.ireturn, 1) := by decide +kernel
theorem cwX19_op : mw_cwV yX19_op cX19_op 1 ((some .int)) 0 := ⟨⟨wd_13, wd_3298, by decide +kernel⟩, wd_3297, sl_179⟩
set_option maxHeartbeats 4000000 in
set_option maxRecDepth 100000 in
theorem tX19_op (l : Launch) (G : mwG) (ad : Nat → Nat) (fu : Nat) (M : mwM) (L : mwL) {r0 : Int32} {M0 : mwM} {L0 : mwL} (hD : DX19_op fu M L = some (r0, M0, L0)) : Met l yX19_op (Cond.code yX19_op cX19_op 1 ((some .int)) :: GT) ({ frames := 1, cells := 0, slots := 0, locals := 29 }) (mw_Pre G ad NF TF FF M L [.ref (ad 732)]) (mw_Qi G ad NF TF FF (mw_eqI r0 M0 L0)) 0 0 (mw_fr G) := by
  refine mw_enter (by decide) (Nat.le_of_ble_eq_true rfl) ?_
  intro p e s m below meth c ls C hr hlocks hnm hw hl
  have hl : lv_has ls 1 [(0, .ref (ad 732))] := hl
  have hb82 : ∀ (s0 : Int32) (M : mwM) (L : mwL) (H : Heap) (locs : List Loc) (ls : Array Slot), fX19_op_b82 fu s0 M L = some (r0, M0, L0) → mw_W G ad NF TF FF M L H locs → lv_has ls 1 [] → W p l e ({ frames := 1, cells := 0, slots := 0, locals := 29 }) s m [.ref (ad 732)].toArray below meth c H locs 0 0 (MQ below (mw_Qi G ad NF TF FF (mw_eqI r0 M0 L0)) [.ref (ad 732)].toArray s 0 0 (mw_fr G)) (F0 m 82 ls [.int s0]) := by
    intro s0 M L H locs ls hD hw hl
    unfold fX19_op_b82 at hD
    exact mr_iret C hr hlocks hw rfl (Option.some.inj hD) dX19_op_82
  unfold DX19_op at hD
  refine lv_aload_n C.1.1 C.1.2.1 dX19_op_0 rfl (lv_at hl 0 rfl) ?_
  refine lv_ldc2 (v := 29029) C.1.1 C.1.2.1 C.1.2.2.2.1 (C.1.2.2.2.2 _ wd_3299) dX19_op_1 ?_
  refine lv_lconst (v := 0) C.1.1 C.1.2.1 dX19_op_4 (by decide) ?_
  obtain ⟨r3, M1, L2, h1, hD⟩ := g_b3 hD
  refine md_cvI (As := [.long 29029, .long 0]) (rest := []) C hw (tX19_is l G ad fu 29029 0 M L h1) kc_19 (by decide) tf_732 wd_3155 cwX19_is ⟨Nat.le_of_ble_eq_true rfl, Nat.le_of_ble_eq_true rfl⟩ rfl hl.1 (Nat.le_of_ble_eq_true rfl) dX19_op_5 rfl rfl ⟨Nat.zero_le _, Nat.zero_le _⟩ rfl (fun H locs hw => ?_)
  refine lv_if_eq (tgt := 13) C.1.1 C.1.2.1 dX19_op_8 (by decide) (fun c4 => ?_) (fun c4 => ?_)
  · replace hD := g_pos c4 hD
    refine lv_aload_n C.1.1 C.1.2.1 dX19_op_13 rfl (lv_at hl 0 rfl) ?_
    refine lv_ldc2 (v := 25966) C.1.1 C.1.2.1 C.1.2.2.2.1 (C.1.2.2.2.2 _ wd_3300) dX19_op_14 ?_
    refine lv_lconst (v := 0) C.1.1 C.1.2.1 dX19_op_17 (by decide) ?_
    obtain ⟨r7, M5, L6, h1, hD⟩ := g_b3 hD
    refine md_cvI (As := [.long 25966, .long 0]) (rest := []) C hw (tX19_is l G ad fu 25966 0 M1 L2 h1) kc_19 (by decide) tf_732 wd_3155 cwX19_is ⟨Nat.le_of_ble_eq_true rfl, Nat.le_of_ble_eq_true rfl⟩ rfl hl.1 (Nat.le_of_ble_eq_true rfl) dX19_op_18 rfl rfl ⟨Nat.zero_le _, Nat.zero_le _⟩ rfl (fun H locs hw => ?_)
    refine lv_if_eq (tgt := 26) C.1.1 C.1.2.1 dX19_op_21 (by decide) (fun c8 => ?_) (fun c8 => ?_)
    · replace hD := g_pos c8 hD
      refine lv_aload_n C.1.1 C.1.2.1 dX19_op_26 rfl (lv_at hl 0 rfl) ?_
      refine lv_ldc2 (v := 29804) C.1.1 C.1.2.1 C.1.2.2.2.1 (C.1.2.2.2.2 _ wd_3301) dX19_op_27 ?_
      refine lv_lconst (v := 0) C.1.1 C.1.2.1 dX19_op_30 (by decide) ?_
      obtain ⟨r11, M9, L10, h1, hD⟩ := g_b3 hD
      refine md_cvI (As := [.long 29804, .long 0]) (rest := []) C hw (tX19_is l G ad fu 29804 0 M5 L6 h1) kc_19 (by decide) tf_732 wd_3155 cwX19_is ⟨Nat.le_of_ble_eq_true rfl, Nat.le_of_ble_eq_true rfl⟩ rfl hl.1 (Nat.le_of_ble_eq_true rfl) dX19_op_31 rfl rfl ⟨Nat.zero_le _, Nat.zero_le _⟩ rfl (fun H locs hw => ?_)
      refine lv_if_eq (tgt := 39) C.1.1 C.1.2.1 dX19_op_34 (by decide) (fun c12 => ?_) (fun c12 => ?_)
      · replace hD := g_pos c12 hD
        refine lv_aload_n C.1.1 C.1.2.1 dX19_op_39 rfl (lv_at hl 0 rfl) ?_
        refine lv_ldc2 (v := 25959) C.1.1 C.1.2.1 C.1.2.2.2.1 (C.1.2.2.2.2 _ wd_3302) dX19_op_40 ?_
        refine lv_lconst (v := 0) C.1.1 C.1.2.1 dX19_op_43 (by decide) ?_
        obtain ⟨r15, M13, L14, h1, hD⟩ := g_b3 hD
        refine md_cvI (As := [.long 25959, .long 0]) (rest := []) C hw (tX19_is l G ad fu 25959 0 M9 L10 h1) kc_19 (by decide) tf_732 wd_3155 cwX19_is ⟨Nat.le_of_ble_eq_true rfl, Nat.le_of_ble_eq_true rfl⟩ rfl hl.1 (Nat.le_of_ble_eq_true rfl) dX19_op_44 rfl rfl ⟨Nat.zero_le _, Nat.zero_le _⟩ rfl (fun H locs hw => ?_)
        refine lv_if_eq (tgt := 52) C.1.1 C.1.2.1 dX19_op_47 (by decide) (fun c16 => ?_) (fun c16 => ?_)
        · replace hD := g_pos c16 hD
          refine lv_aload_n C.1.1 C.1.2.1 dX19_op_52 rfl (lv_at hl 0 rfl) ?_
          refine lv_ldc2 (v := 7760228) C.1.1 C.1.2.1 C.1.2.2.2.1 (C.1.2.2.2.2 _ wd_3303) dX19_op_53 ?_
          refine lv_lconst (v := 0) C.1.1 C.1.2.1 dX19_op_56 (by decide) ?_
          obtain ⟨r19, M17, L18, h1, hD⟩ := g_b3 hD
          refine md_cvI (As := [.long 7760228, .long 0]) (rest := []) C hw (tX19_is l G ad fu 7760228 0 M13 L14 h1) kc_19 (by decide) tf_732 wd_3155 cwX19_is ⟨Nat.le_of_ble_eq_true rfl, Nat.le_of_ble_eq_true rfl⟩ rfl hl.1 (Nat.le_of_ble_eq_true rfl) dX19_op_57 rfl rfl ⟨Nat.zero_le _, Nat.zero_le _⟩ rfl (fun H locs hw => ?_)
          refine lv_if_eq (tgt := 65) C.1.1 C.1.2.1 dX19_op_60 (by decide) (fun c20 => ?_) (fun c20 => ?_)
          · replace hD := g_pos c20 hD
            refine lv_aload_n C.1.1 C.1.2.1 dX19_op_65 rfl (lv_at hl 0 rfl) ?_
            refine lv_ldc2 (v := 6582125) C.1.1 C.1.2.1 C.1.2.2.2.1 (C.1.2.2.2.2 _ wd_3304) dX19_op_66 ?_
            refine lv_lconst (v := 0) C.1.1 C.1.2.1 dX19_op_69 (by decide) ?_
            obtain ⟨r23, M21, L22, h1, hD⟩ := g_b3 hD
            refine md_cvI (As := [.long 6582125, .long 0]) (rest := []) C hw (tX19_is l G ad fu 6582125 0 M17 L18 h1) kc_19 (by decide) tf_732 wd_3155 cwX19_is ⟨Nat.le_of_ble_eq_true rfl, Nat.le_of_ble_eq_true rfl⟩ rfl hl.1 (Nat.le_of_ble_eq_true rfl) dX19_op_70 rfl rfl ⟨Nat.zero_le _, Nat.zero_le _⟩ rfl (fun H locs hw => ?_)
            refine lv_if_eq (tgt := 81) C.1.1 C.1.2.1 dX19_op_73 (by decide) (fun c24 => ?_) (fun c24 => ?_)
            · replace hD := g_pos c24 hD
              refine lv_iconst (v := (-1)) C.1.1 C.1.2.1 dX19_op_81 (by decide) ?_
              exact hb82 ((-1)) M21 L22 _ _ ls hD hw (lv_sub hl [] rfl)
            · replace hD := g_neg c24 hD
              refine lv_bipush (v := 6) C.1.1 C.1.2.1 dX19_op_76 (by decide) ?_
              refine lv_goto (tgt := 82) C.1.1 C.1.2.1 dX19_op_78 (by decide) ?_
              exact hb82 6 M21 L22 _ _ ls hD hw (lv_sub hl [] rfl)
          · replace hD := g_neg c20 hD
            refine lv_iconst (v := 5) C.1.1 C.1.2.1 dX19_op_63 (by decide) ?_
            exact mr_iret C hr hlocks hw rfl (Option.some.inj hD) dX19_op_64
        · replace hD := g_neg c16 hD
          refine lv_iconst (v := 4) C.1.1 C.1.2.1 dX19_op_50 (by decide) ?_
          exact mr_iret C hr hlocks hw rfl (Option.some.inj hD) dX19_op_51
      · replace hD := g_neg c12 hD
        refine lv_iconst (v := 3) C.1.1 C.1.2.1 dX19_op_37 (by decide) ?_
        exact mr_iret C hr hlocks hw rfl (Option.some.inj hD) dX19_op_38
    · replace hD := g_neg c8 hD
      refine lv_iconst (v := 2) C.1.1 C.1.2.1 dX19_op_24 (by decide) ?_
      exact mr_iret C hr hlocks hw rfl (Option.some.inj hD) dX19_op_25
  · replace hD := g_neg c4 hD
    refine lv_iconst (v := 1) C.1.1 C.1.2.1 dX19_op_11 (by decide) ?_
    exact mr_iret C hr hlocks hw rfl (Option.some.inj hD) dX19_op_12

theorem dX19_guard_0 : decode cX19_guard 0 = .ok (.aload_n 0, 1) := by decide +kernel
theorem dX19_guard_1 : decode cX19_guard 1 = .ok (.invokevirtual 317, 3) := by decide +kernel
theorem dX19_guard_4 : decode cX19_guard 4 = .ok (.ifCond .ne 5, 3) := by decide +kernel
theorem dX19_guard_7 : decode cX19_guard 7 = .ok (.iconst 0, 1) := by decide +kernel
theorem dX19_guard_8 : decode cX19_guard 8 = .ok (.ireturn, 1) := by decide +kernel
theorem dX19_guard_9 : decode cX19_guard 9 = .ok (.aload_n 0, 1) := by decide +kernel
theorem dX19_guard_10 : decode cX19_guard 10 = .ok (.ldc2_w 509, 3) := by decide +kernel
theorem dX19_guard_13 : decode cX19_guard 13 = .ok (.lconst 0, 1) := by decide +kernel
theorem dX19_guard_14 : decode cX19_guard 14 = .ok (.invokevirtual 327, 3) := by decide +kernel
theorem dX19_guard_17 : decode cX19_guard 17 = .ok (.ifCond .ne 21, 3) := by decide +kernel
theorem dX19_guard_20 : decode cX19_guard 20 = .ok (.aload_n 0, 1) := by decide +kernel
theorem dX19_guard_21 : decode cX19_guard 21 = .ok (.iconst 2, 1) := by decide +kernel
theorem dX19_guard_22 : decode cX19_guard 22 = .ok (.aload_n 0, 1) := by decide +kernel
theorem dX19_guard_23 : decode cX19_guard 23 = .ok (.getfield 311, 3) := by decide +kernel
theorem dX19_guard_26 : decode cX19_guard 26 = .ok (.invokevirtual 321, 3) := by decide +kernel
theorem dX19_guard_29 : decode cX19_guard 29 = .ok (.ifCond .eq 7, 3) := by decide +kernel
theorem dX19_guard_32 : decode cX19_guard 32 = .ok (.iconst 0, 1) := by decide +kernel
theorem dX19_guard_33 : decode cX19_guard 33 = .ok (.goto 4, 3) := by decide +kernel
theorem dX19_guard_36 : decode cX19_guard 36 = .ok (.iconst (-1), 1) := by decide +kernel
theorem dX19_guard_37 : decode cX19_guard 37 = .ok (.ireturn, 1) := by decide +kernel
theorem dX19_guard_38 : decode cX19_guard 38 = .ok (.aload_n 0, 1) := by decide +kernel
theorem dX19_guard_39 : decode cX19_guard 39 = .ok (.iload_n 1, 1) := by decide +kernel
theorem dX19_guard_40 : decode cX19_guard 40 = .ok (.invokevirtual 511, 3) := by decide +kernel
theorem dX19_guard_43 : decode cX19_guard 43 = .ok (.istore_n 2, 1) := by decide +kernel
theorem dX19_guard_44 : decode cX19_guard 44 = .ok (.iload_n 2, 1) := by decide +kernel
theorem dX19_guard_45 : decode cX19_guard 45 = .ok (.ifCond .lt 10, 3) := by decide +kernel
theorem dX19_guard_48 : decode cX19_guard 48 = .ok (.aload_n 0, 1) := by decide +kernel
theorem dX19_guard_49 : decode cX19_guard 49 = .ok (.invokevirtual 341, 3) := by decide +kernel
theorem dX19_guard_52 : decode cX19_guard 52 = .ok (.ifCond .ne 5, 3) := by decide +kernel
theorem dX19_guard_55 : decode cX19_guard 55 = .ok (.iconst (-1), 1) := by decide +kernel
theorem dX19_guard_56 : decode cX19_guard 56 = .ok (.ireturn, 1) := by decide +kernel
theorem dX19_guard_57 : decode cX19_guard 57 = .ok (.aload_n 0, 1) := by decide +kernel
theorem dX19_guard_58 : decode cX19_guard 58 = .ok (.invokevirtual 514, 3) := by decide +kernel
theorem dX19_guard_61 : decode cX19_guard 61 = .ok (.istore_n 3, 1) := by decide +kernel
theorem dX19_guard_62 : decode cX19_guard 62 = .ok (.iload_n 3, 1) := by decide +kernel
theorem dX19_guard_63 : decode cX19_guard 63 = .ok (.ifCond .ge 21, 3) := by decide +kernel
theorem dX19_guard_66 : decode cX19_guard 66 = .ok (.aload_n 0, 1) := by decide +kernel
theorem dX19_guard_67 : decode cX19_guard 67 = .ok (.iconst 1, 1) := by decide +kernel
theorem dX19_guard_68 : decode cX19_guard 68 = .ok (.aload_n 0, 1) := by decide +kernel
theorem dX19_guard_69 : decode cX19_guard 69 = .ok (.getfield 311, 3) := by decide +kernel
theorem dX19_guard_72 : decode cX19_guard 72 = .ok (.invokevirtual 321, 3) := by decide +kernel
theorem dX19_guard_75 : decode cX19_guard 75 = .ok (.ifCond .eq 7, 3) := by decide +kernel
theorem dX19_guard_78 : decode cX19_guard 78 = .ok (.iconst 0, 1) := by decide +kernel
theorem dX19_guard_79 : decode cX19_guard 79 = .ok (.goto 4, 3) := by decide +kernel
theorem dX19_guard_82 : decode cX19_guard 82 = .ok (.iconst (-1), 1) := by decide +kernel
theorem dX19_guard_83 : decode cX19_guard 83 = .ok (.ireturn, 1) := by decide +kernel
theorem dX19_guard_84 : decode cX19_guard 84 = .ok (.aload_n 0, 1) := by decide +kernel
theorem dX19_guard_85 : decode cX19_guard 85 = .ok (.invokevirtual 341, 3) := by decide +kernel
theorem dX19_guard_88 : decode cX19_guard 88 = .ok (.ifCond .ne 5, 3) := by decide +kernel
theorem dX19_guard_91 : decode cX19_guard 91 = .ok (.iconst (-1), 1) := by decide +kernel
theorem dX19_guard_92 : decode cX19_guard 92 = .ok (.ireturn, 1) := by decide +kernel
theorem dX19_guard_93 : decode cX19_guard 93 = .ok (.aload_n 0, 1) := by decide +kernel
theorem dX19_guard_94 : decode cX19_guard 94 = .ok (.iload_n 1, 1) := by decide +kernel
theorem dX19_guard_95 : decode cX19_guard 95 = .ok (.invokevirtual 363, 3) := by decide +kernel
theorem dX19_guard_98 : decode cX19_guard 98 = .ok (.istore 4, 2) := by decide +kernel
theorem dX19_guard_100 : decode cX19_guard 100 = .ok (.iload 4, 2) := by decide +kernel
theorem dX19_guard_102 : decode cX19_guard 102 = .ok (.ifCond .lt 17, 3) := by decide +kernel
theorem dX19_guard_105 : decode cX19_guard 105 = .ok (.sipush 256, 3) := by decide +kernel
theorem dX19_guard_108 : decode cX19_guard 108 = .ok (.iload 4, 2) := by decide +kernel
theorem dX19_guard_110 : decode cX19_guard 110 = .ok (.imul, 1) := by decide +kernel
theorem dX19_guard_111 : decode cX19_guard 111 = .ok (.bipush 8, 2) := by decide +kernel
theorem dX19_guard_113 : decode cX19_guard 113 = .ok (.iload_n 2, 1) := by decide +kernel
theorem dX19_guard_114 : decode cX19_guard 114 = .ok (.imul, 1) := by decide +kernel
theorem dX19_guard_115 : decode cX19_guard 115 = .ok (.iadd, 1) := by decide +kernel
theorem dX19_guard_116 : decode cX19_guard 116 = .ok (.iload_n 3, 1) := by decide +kernel
theorem dX19_guard_117 : decode cX19_guard 117 = .ok (.iadd, 1) := by decide +kernel
theorem dX19_guard_118 : decode cX19_guard 118 = .ok (.ireturn, 1) := by decide +kernel
theorem dX19_guard_119 : decode cX19_guard 119 = .ok (.aload_n 0, 1) := by decide +kernel
theorem dX19_guard_120 : decode cX19_guard 120 = .ok (.invokevirtual 344, 3) := by decide +kernel
theorem dX19_guard_123 : decode cX19_guard 123 = .ok (.ifCond .ne 21, 3) := by decide +kernel
theorem dX19_guard_126 : decode cX19_guard 126 = .ok (.aload_n 0, 1) := by decide +kernel
theorem dX19_guard_127 : decode cX19_guard 127 = .ok (.iconst 4, 1) := by decide +kernel
theorem dX19_guard_128 : decode cX19_guard 128 = .ok (.aload_n 0, 1) := by decide +kernel
theorem dX19_guard_129 : decode cX19_guard 129 = .ok (.getfield 311, 3) := by decide +kernel
theorem dX19_guard_132 : decode cX19_guard 132 = .ok (.invokevirtual 321, 3) := by decide +kernel
theorem dX19_guard_135 : decode cX19_guard 135 = .ok (.ifCond .eq 7, 3) := by decide +kernel
theorem dX19_guard_138 : decode cX19_guard 138 = .ok (.iconst 0, 1) := by decide +kernel
theorem dX19_guard_139 : decode cX19_guard 139 = .ok (.goto 4, 3) := by decide +kernel
theorem dX19_guard_142 : decode cX19_guard 142 = .ok (.iconst (-1), 1) := by decide +kernel
theorem dX19_guard_143 : decode cX19_guard 143 = .ok (.ireturn, 1) := by decide +kernel
theorem dX19_guard_144 : decode cX19_guard 144 = .ok (.aload_n 0, 1) := by decide +kernel
theorem dX19_guard_145 : decode cX19_guard 145 = .ok (.getfield 338, 3) := by decide +kernel
theorem dX19_guard_148 : decode cX19_guard 148 = .ok (.ifCond .lt 12, 3) := by decide +kernel
theorem dX19_guard_151 : decode cX19_guard 151 = .ok (.aload_n 0, 1) := by decide +kernel
theorem dX19_guard_152 : decode cX19_guard 152 = .ok (.getfield 338, 3) := by decide +kernel
theorem dX19_guard_155 : decode cX19_guard 155 = .ok (.bipush 31, 2) := by decide +kernel
theorem dX19_guard_157 : decode cX19_guard 157 = .ok (.if_icmp .le 21, 3) := by decide +kernel
theorem dX19_guard_160 : decode cX19_guard 160 = .ok (.aload_n 0, 1) := by decide +kernel
theorem dX19_guard_161 : decode cX19_guard 161 = .ok (.iconst 5, 1) := by decide +kernel
theorem dX19_guard_162 : decode cX19_guard 162 = .ok (.aload_n 0, 1) := by decide +kernel
theorem dX19_guard_163 : decode cX19_guard 163 = .ok (.getfield 311, 3) := by decide +kernel
theorem dX19_guard_166 : decode cX19_guard 166 = .ok (.invokevirtual 321, 3) := by decide +kernel
theorem dX19_guard_169 : decode cX19_guard 169 = .ok (.ifCond .eq 7, 3) := by decide +kernel
theorem dX19_guard_172 : decode cX19_guard 172 = .ok (.iconst 0, 1) := by decide +kernel
theorem dX19_guard_173 : decode cX19_guard 173 = .ok (.goto 4, 3) := by decide +kernel
theorem dX19_guard_176 : decode cX19_guard 176 = .ok (.iconst (-1), 1) := by decide +kernel
theorem dX19_guard_177 : decode cX19_guard 177 = .ok (.ireturn, 1) := by decide +kernel
theorem dX19_guard_178 : decode cX19_guard 178 = .ok (.sipush 8192, 3) := by decide +kernel
theorem dX19_guard_181 : decode cX19_guard 181 = .ok (.sipush 256, 3) := by decide +kernel
theorem dX19_guard_184 : decode cX19_guard 184 = .ok (.aload_n 0, 1) := by decide +kernel
theorem dX19_guard_185 : decode cX19_guard 185 = .ok (.getfield 338, 3) := by decide +kernel
theorem dX19_guard_188 : decode cX19_guard 188 = .ok (.imul, 1) := by decide +kernel
theorem dX19_guard_189 : decode cX19_guard 189 = .ok (.iadd, 1) := by decide +kernel
theorem dX19_guard_190 : decode cX19_guard 190 = .ok (.bipush 8, 2) := by decide +kernel
theorem dX19_guard_192 : decode cX19_guard 192 = .ok (.iload_n 2, 1) := by decide +kernel
theorem dX19_guard_193 : decode cX19_guard 193 = .ok (.imul, 1) := by decide +kernel
theorem dX19_guard_194 : decode cX19_guard 194 = .ok (.iadd, 1) := by decide +kernel
theorem dX19_guard_195 : decode cX19_guard 195 = .ok (.iload_n 3, 1) := by decide +kernel
theorem dX19_guard_196 : decode cX19_guard 196 = .ok (.iadd, 1) := by decide +kernel
theorem dX19_guard_197 : decode cX19_guard 197 = .ok (.ireturn, 1) := by decide +kernel
theorem cwX19_guard : mw_cwV yX19_guard cX19_guard 5 ((some .int)) 1 := ⟨⟨wd_13, wd_3285, by decide +kernel⟩, wd_3284, sl_176⟩
set_option maxHeartbeats 4000000 in
set_option maxRecDepth 100000 in
theorem tX19_guard (l : Launch) (G : mwG) (ad : Nat → Nat) (fu : Nat) (a1 : Int32) (M : mwM) (L : mwL) {r0 : Int32} {M0 : mwM} {L0 : mwL} (hD : DX19_guard fu a1 M L = some (r0, M0, L0)) : Met l yX19_guard (Cond.code yX19_guard cX19_guard 5 ((some .int)) :: GT) ({ frames := 3, cells := 0, slots := 0, locals := 69 }) (mw_Pre G ad NF TF FF M L [.ref (ad 732), .int a1]) (mw_Qi G ad NF TF FF (mw_eqI r0 M0 L0)) 0 0 (mw_fr G) := by
  refine mw_enter (by decide) (Nat.le_of_ble_eq_true rfl) ?_
  intro p e s m below meth c ls C hr hlocks hnm hw hl
  have hl : lv_has ls 5 [(0, .ref (ad 732)), (1, .int a1)] := hl
  have hb37 : ∀ (s0 : Int32) (M : mwM) (L : mwL) (H : Heap) (locs : List Loc) (ls : Array Slot), fX19_guard_b37 fu a1 s0 M L = some (r0, M0, L0) → mw_W G ad NF TF FF M L H locs → lv_has ls 5 [] → W p l e ({ frames := 3, cells := 0, slots := 0, locals := 69 }) s m [.ref (ad 732), .int a1].toArray below meth c H locs 0 0 (MQ below (mw_Qi G ad NF TF FF (mw_eqI r0 M0 L0)) [.ref (ad 732), .int a1].toArray s 0 0 (mw_fr G)) (F0 m 37 ls [.int s0]) := by
    intro s0 M L H locs ls hD hw hl
    unfold fX19_guard_b37 at hD
    exact mr_iret C hr hlocks hw rfl (Option.some.inj hD) dX19_guard_37
  have hb55 : ∀ (M : mwM) (L : mwL) (H : Heap) (locs : List Loc) (ls : Array Slot), fX19_guard_b55 fu a1 M L = some (r0, M0, L0) → mw_W G ad NF TF FF M L H locs → lv_has ls 5 [] → W p l e ({ frames := 3, cells := 0, slots := 0, locals := 69 }) s m [.ref (ad 732), .int a1].toArray below meth c H locs 0 0 (MQ below (mw_Qi G ad NF TF FF (mw_eqI r0 M0 L0)) [.ref (ad 732), .int a1].toArray s 0 0 (mw_fr G)) (F0 m 55 ls []) := by
    intro M L H locs ls hD hw hl
    unfold fX19_guard_b55 at hD
    refine lv_iconst (v := (-1)) C.1.1 C.1.2.1 dX19_guard_55 (by decide) ?_
    exact mr_iret C hr hlocks hw rfl (Option.some.inj hD) dX19_guard_56
  have hb83 : ∀ (s0 : Int32) (M : mwM) (L : mwL) (H : Heap) (locs : List Loc) (ls : Array Slot), fX19_guard_b83 fu a1 s0 M L = some (r0, M0, L0) → mw_W G ad NF TF FF M L H locs → lv_has ls 5 [] → W p l e ({ frames := 3, cells := 0, slots := 0, locals := 69 }) s m [.ref (ad 732), .int a1].toArray below meth c H locs 0 0 (MQ below (mw_Qi G ad NF TF FF (mw_eqI r0 M0 L0)) [.ref (ad 732), .int a1].toArray s 0 0 (mw_fr G)) (F0 m 83 ls [.int s0]) := by
    intro s0 M L H locs ls hD hw hl
    unfold fX19_guard_b83 at hD
    exact mr_iret C hr hlocks hw rfl (Option.some.inj hD) dX19_guard_83
  have hb143 : ∀ (s0 : Int32) (M : mwM) (L : mwL) (H : Heap) (locs : List Loc) (ls : Array Slot), fX19_guard_b143 fu a1 s0 M L = some (r0, M0, L0) → mw_W G ad NF TF FF M L H locs → lv_has ls 5 [] → W p l e ({ frames := 3, cells := 0, slots := 0, locals := 69 }) s m [.ref (ad 732), .int a1].toArray below meth c H locs 0 0 (MQ below (mw_Qi G ad NF TF FF (mw_eqI r0 M0 L0)) [.ref (ad 732), .int a1].toArray s 0 0 (mw_fr G)) (F0 m 143 ls [.int s0]) := by
    intro s0 M L H locs ls hD hw hl
    unfold fX19_guard_b143 at hD
    exact mr_iret C hr hlocks hw rfl (Option.some.inj hD) dX19_guard_143
  have hb177 : ∀ (s0 : Int32) (M : mwM) (L : mwL) (H : Heap) (locs : List Loc) (ls : Array Slot), fX19_guard_b177 fu a1 s0 M L = some (r0, M0, L0) → mw_W G ad NF TF FF M L H locs → lv_has ls 5 [] → W p l e ({ frames := 3, cells := 0, slots := 0, locals := 69 }) s m [.ref (ad 732), .int a1].toArray below meth c H locs 0 0 (MQ below (mw_Qi G ad NF TF FF (mw_eqI r0 M0 L0)) [.ref (ad 732), .int a1].toArray s 0 0 (mw_fr G)) (F0 m 177 ls [.int s0]) := by
    intro s0 M L H locs ls hD hw hl
    unfold fX19_guard_b177 at hD
    exact mr_iret C hr hlocks hw rfl (Option.some.inj hD) dX19_guard_177
  have hb160 : ∀ (M : mwM) (L : mwL) (H : Heap) (locs : List Loc) (ls : Array Slot), fX19_guard_b160 fu a1 M L = some (r0, M0, L0) → mw_W G ad NF TF FF M L H locs → lv_has ls 5 [(0, .ref (ad 732))] → W p l e ({ frames := 3, cells := 0, slots := 0, locals := 69 }) s m [.ref (ad 732), .int a1].toArray below meth c H locs 0 0 (MQ below (mw_Qi G ad NF TF FF (mw_eqI r0 M0 L0)) [.ref (ad 732), .int a1].toArray s 0 0 (mw_fr G)) (F0 m 160 ls []) := by
    intro M L H locs ls hD hw hl
    unfold fX19_guard_b160 at hD
    refine lv_aload_n C.1.1 C.1.2.1 dX19_guard_160 rfl (lv_at hl 0 rfl) ?_
    refine lv_iconst (v := 5) C.1.1 C.1.2.1 dX19_guard_161 (by decide) ?_
    refine lv_aload_n C.1.1 C.1.2.1 dX19_guard_162 rfl (lv_at hl 0 rfl) ?_
    refine mr_getI C hw kc_19 9 (by decide) tf_732 wd_2790 dX19_guard_163 (by decide) rfl ?_
    obtain ⟨r3, M1, L2, h1, hD⟩ := g_b3 hD
    refine md_cvI (As := [.int 5, .int (M 732 9)]) (rest := []) C hw (tX19_fail l G ad fu 5 (M 732 9) M L h1) kc_19 (by decide) tf_732 wd_3172 cwX19_fail ⟨Nat.le_of_ble_eq_true rfl, Nat.le_of_ble_eq_true rfl⟩ rfl hl.1 (Nat.le_of_ble_eq_true rfl) dX19_guard_166 rfl rfl ⟨Nat.zero_le _, Nat.zero_le _⟩ rfl (fun H locs hw => ?_)
    refine lv_if_eq (tgt := 176) C.1.1 C.1.2.1 dX19_guard_169 (by decide) (fun c4 => ?_) (fun c4 => ?_)
    · replace hD := g_pos c4 hD
      refine lv_iconst (v := (-1)) C.1.1 C.1.2.1 dX19_guard_176 (by decide) ?_
      exact hb177 ((-1)) M1 L2 _ _ ls hD hw (lv_sub hl [] rfl)
    · replace hD := g_neg c4 hD
      refine lv_iconst (v := 0) C.1.1 C.1.2.1 dX19_guard_172 (by decide) ?_
      refine lv_goto (tgt := 177) C.1.1 C.1.2.1 dX19_guard_173 (by decide) ?_
      exact hb177 0 M1 L2 _ _ ls hD hw (lv_sub hl [] rfl)
  unfold DX19_guard at hD
  refine lv_aload_n C.1.1 C.1.2.1 dX19_guard_0 rfl (lv_at hl 0 rfl) ?_
  obtain ⟨r7, M5, L6, h1, hD⟩ := g_b3 hD
  refine md_cvI (As := []) (rest := []) C hw (tX19_next l G ad fu M L h1) kc_19 (by decide) tf_732 wd_3145 cwX19_next ⟨Nat.le_of_ble_eq_true rfl, Nat.le_of_ble_eq_true rfl⟩ rfl hl.1 (Nat.le_of_ble_eq_true rfl) dX19_guard_1 rfl rfl ⟨Nat.zero_le _, Nat.zero_le _⟩ rfl (fun H locs hw => ?_)
  refine lv_if_ne (tgt := 9) C.1.1 C.1.2.1 dX19_guard_4 (by decide) (fun c8 => ?_) (fun c8 => ?_)
  · replace hD := g_neg c8 hD
    refine lv_aload_n C.1.1 C.1.2.1 dX19_guard_9 rfl (lv_at hl 0 rfl) ?_
    refine lv_ldc2 (v := 26217) C.1.1 C.1.2.1 C.1.2.2.2.1 (C.1.2.2.2.2 _ wd_3286) dX19_guard_10 ?_
    refine lv_lconst (v := 0) C.1.1 C.1.2.1 dX19_guard_13 (by decide) ?_
    obtain ⟨r11, M9, L10, h1, hD⟩ := g_b3 hD
    refine md_cvI (As := [.long 26217, .long 0]) (rest := []) C hw (tX19_is l G ad fu 26217 0 M5 L6 h1) kc_19 (by decide) tf_732 wd_3155 cwX19_is ⟨Nat.le_of_ble_eq_true rfl, Nat.le_of_ble_eq_true rfl⟩ rfl hl.1 (Nat.le_of_ble_eq_true rfl) dX19_guard_14 rfl rfl ⟨Nat.zero_le _, Nat.zero_le _⟩ rfl (fun H locs hw => ?_)
    refine lv_if_ne (tgt := 38) C.1.1 C.1.2.1 dX19_guard_17 (by decide) (fun c12 => ?_) (fun c12 => ?_)
    · replace hD := g_neg c12 hD
      refine lv_aload_n C.1.1 C.1.2.1 dX19_guard_38 rfl (lv_at hl 0 rfl) ?_
      refine lv_iload_n C.1.1 C.1.2.1 dX19_guard_39 rfl (lv_at hl 1 rfl) ?_
      obtain ⟨r15, M13, L14, h1, hD⟩ := g_b3 hD
      refine md_cvI (As := [.int a1]) (rest := []) C hw (tX19_datum l G ad fu a1 M9 L10 h1) kc_19 (by decide) tf_732 wd_3287 cwX19_datum ⟨Nat.le_of_ble_eq_true rfl, Nat.le_of_ble_eq_true rfl⟩ rfl hl.1 (Nat.le_of_ble_eq_true rfl) dX19_guard_40 rfl rfl ⟨Nat.zero_le _, Nat.zero_le _⟩ rfl (fun H locs hw => ?_)
      refine lv_istore_n (lv' := [(2, .int r15), (0, .ref (ad 732)), (1, .int a1)]) C.1.1 C.1.2.1 dX19_guard_43 rfl hl (by decide) rfl (fun ls hl => ?_)
      refine lv_iload_n C.1.1 C.1.2.1 dX19_guard_44 rfl (lv_at hl 0 rfl) ?_
      refine lv_if_lt (tgt := 55) C.1.1 C.1.2.1 dX19_guard_45 (by decide) (fun c16 => ?_) (fun c16 => ?_)
      · replace hD := g_pos c16 hD
        exact hb55 M13 L14 _ _ ls hD hw (lv_sub hl [] rfl)
      · replace hD := g_neg c16 hD
        refine lv_aload_n C.1.1 C.1.2.1 dX19_guard_48 rfl (lv_at hl 1 rfl) ?_
        obtain ⟨r19, M17, L18, h1, hD⟩ := g_b3 hD
        refine md_cvI (As := []) (rest := []) C hw (tX19_must l G ad fu M13 L14 h1) kc_19 (by decide) tf_732 wd_3168 cwX19_must ⟨Nat.le_of_ble_eq_true rfl, Nat.le_of_ble_eq_true rfl⟩ rfl hl.1 (Nat.le_of_ble_eq_true rfl) dX19_guard_49 rfl rfl ⟨Nat.zero_le _, Nat.zero_le _⟩ rfl (fun H locs hw => ?_)
        refine lv_if_ne (tgt := 57) C.1.1 C.1.2.1 dX19_guard_52 (by decide) (fun c20 => ?_) (fun c20 => ?_)
        · replace hD := g_neg c20 hD
          refine lv_aload_n C.1.1 C.1.2.1 dX19_guard_57 rfl (lv_at hl 1 rfl) ?_
          obtain ⟨r23, M21, L22, h1, hD⟩ := g_b3 hD
          refine md_cvI (As := []) (rest := []) C hw (tX19_op l G ad fu M17 L18 h1) kc_19 (by decide) tf_732 wd_3295 cwX19_op ⟨Nat.le_of_ble_eq_true rfl, Nat.le_of_ble_eq_true rfl⟩ rfl hl.1 (Nat.le_of_ble_eq_true rfl) dX19_guard_58 rfl rfl ⟨Nat.zero_le _, Nat.zero_le _⟩ rfl (fun H locs hw => ?_)
          refine lv_istore_n (lv' := [(3, .int r23), (2, .int r15), (0, .ref (ad 732)), (1, .int a1)]) C.1.1 C.1.2.1 dX19_guard_61 rfl hl (by decide) rfl (fun ls hl => ?_)
          refine lv_iload_n C.1.1 C.1.2.1 dX19_guard_62 rfl (lv_at hl 0 rfl) ?_
          refine lv_if_ge (tgt := 84) C.1.1 C.1.2.1 dX19_guard_63 (by decide) (fun c24 => ?_) (fun c24 => ?_)
          · replace hD := g_pos c24 hD
            refine lv_aload_n C.1.1 C.1.2.1 dX19_guard_84 rfl (lv_at hl 2 rfl) ?_
            obtain ⟨r27, M25, L26, h1, hD⟩ := g_b3 hD
            refine md_cvI (As := []) (rest := []) C hw (tX19_must l G ad fu M21 L22 h1) kc_19 (by decide) tf_732 wd_3168 cwX19_must ⟨Nat.le_of_ble_eq_true rfl, Nat.le_of_ble_eq_true rfl⟩ rfl hl.1 (Nat.le_of_ble_eq_true rfl) dX19_guard_85 rfl rfl ⟨Nat.zero_le _, Nat.zero_le _⟩ rfl (fun H locs hw => ?_)
            refine lv_if_ne (tgt := 93) C.1.1 C.1.2.1 dX19_guard_88 (by decide) (fun c28 => ?_) (fun c28 => ?_)
            · replace hD := g_neg c28 hD
              refine lv_aload_n C.1.1 C.1.2.1 dX19_guard_93 rfl (lv_at hl 2 rfl) ?_
              refine lv_iload_n C.1.1 C.1.2.1 dX19_guard_94 rfl (lv_at hl 3 rfl) ?_
              obtain ⟨r31, M29, L30, h1, hD⟩ := g_b3 hD
              refine md_cvI (As := [.int a1]) (rest := []) C hw (tX19_findDatum l G ad fu a1 M25 L26 h1) kc_19 (by decide) tf_732 wd_3291 cwX19_findDatum ⟨Nat.le_of_ble_eq_true rfl, Nat.le_of_ble_eq_true rfl⟩ rfl hl.1 (Nat.le_of_ble_eq_true rfl) dX19_guard_95 rfl rfl ⟨Nat.zero_le _, Nat.zero_le _⟩ rfl (fun H locs hw => ?_)
              refine lv_istore (lv' := [(4, .int r31), (3, .int r23), (2, .int r15), (0, .ref (ad 732)), (1, .int a1)]) C.1.1 C.1.2.1 dX19_guard_98 hl (by decide) rfl (fun ls hl => ?_)
              refine lv_iload C.1.1 C.1.2.1 dX19_guard_100 (lv_at hl 0 rfl) ?_
              refine lv_if_lt (tgt := 119) C.1.1 C.1.2.1 dX19_guard_102 (by decide) (fun c32 => ?_) (fun c32 => ?_)
              · replace hD := g_pos c32 hD
                refine lv_aload_n C.1.1 C.1.2.1 dX19_guard_119 rfl (lv_at hl 3 rfl) ?_
                obtain ⟨r35, M33, L34, h1, hD⟩ := g_b3 hD
                refine md_cvI (As := []) (rest := []) C hw (tX19_isNumber l G ad fu M29 L30 h1) kc_19 (by decide) tf_732 wd_3215 cwX19_isNumber ⟨Nat.le_of_ble_eq_true rfl, Nat.le_of_ble_eq_true rfl⟩ rfl hl.1 (Nat.le_of_ble_eq_true rfl) dX19_guard_120 rfl rfl ⟨Nat.zero_le _, Nat.zero_le _⟩ rfl (fun H locs hw => ?_)
                refine lv_if_ne (tgt := 144) C.1.1 C.1.2.1 dX19_guard_123 (by decide) (fun c36 => ?_) (fun c36 => ?_)
                · replace hD := g_neg c36 hD
                  refine lv_aload_n C.1.1 C.1.2.1 dX19_guard_144 rfl (lv_at hl 3 rfl) ?_
                  refine mr_getI C hw kc_19 13 (by decide) tf_732 wd_2794 dX19_guard_145 (by decide) rfl ?_
                  refine lv_if_lt (tgt := 160) C.1.1 C.1.2.1 dX19_guard_148 (by decide) (fun c37 => ?_) (fun c37 => ?_)
                  · replace hD := g_pos c37 hD
                    exact hb160 M33 L34 _ _ ls hD hw (lv_sub hl [3] rfl)
                  · replace hD := g_neg c37 hD
                    refine lv_aload_n C.1.1 C.1.2.1 dX19_guard_151 rfl (lv_at hl 3 rfl) ?_
                    refine mr_getI C hw kc_19 13 (by decide) tf_732 wd_2794 dX19_guard_152 (by decide) rfl ?_
                    refine lv_bipush (v := 31) C.1.1 C.1.2.1 dX19_guard_155 (by decide) ?_
                    refine lv_icmp_le (tgt := 178) C.1.1 C.1.2.1 dX19_guard_157 (by decide) (fun c38 => ?_) (fun c38 => ?_)
                    · replace hD := g_pos c38 hD
                      refine lv_sipush (v := 8192) C.1.1 C.1.2.1 dX19_guard_178 (by decide) ?_
                      refine lv_sipush (v := 256) C.1.1 C.1.2.1 dX19_guard_181 (by decide) ?_
                      refine lv_aload_n C.1.1 C.1.2.1 dX19_guard_184 rfl (lv_at hl 3 rfl) ?_
                      refine mr_getI C hw kc_19 13 (by decide) tf_732 wd_2794 dX19_guard_185 (by decide) rfl ?_
                      refine lv_imul C.1.1 C.1.2.1 dX19_guard_188 ?_
                      refine lv_iadd C.1.1 C.1.2.1 dX19_guard_189 ?_
                      refine lv_bipush (v := 8) C.1.1 C.1.2.1 dX19_guard_190 (by decide) ?_
                      refine lv_iload_n C.1.1 C.1.2.1 dX19_guard_192 rfl (lv_at hl 2 rfl) ?_
                      refine lv_imul C.1.1 C.1.2.1 dX19_guard_193 ?_
                      refine lv_iadd C.1.1 C.1.2.1 dX19_guard_194 ?_
                      refine lv_iload_n C.1.1 C.1.2.1 dX19_guard_195 rfl (lv_at hl 1 rfl) ?_
                      refine lv_iadd C.1.1 C.1.2.1 dX19_guard_196 ?_
                      exact mr_iret C hr hlocks hw rfl (Option.some.inj hD) dX19_guard_197
                    · replace hD := g_neg c38 hD
                      exact hb160 M33 L34 _ _ ls hD hw (lv_sub hl [3] rfl)
                · replace hD := g_pos c36 hD
                  refine lv_aload_n C.1.1 C.1.2.1 dX19_guard_126 rfl (lv_at hl 3 rfl) ?_
                  refine lv_iconst (v := 4) C.1.1 C.1.2.1 dX19_guard_127 (by decide) ?_
                  refine lv_aload_n C.1.1 C.1.2.1 dX19_guard_128 rfl (lv_at hl 3 rfl) ?_
                  refine mr_getI C hw kc_19 9 (by decide) tf_732 wd_2790 dX19_guard_129 (by decide) rfl ?_
                  obtain ⟨r41, M39, L40, h1, hD⟩ := g_b3 hD
                  refine md_cvI (As := [.int 4, .int (M33 732 9)]) (rest := []) C hw (tX19_fail l G ad fu 4 (M33 732 9) M33 L34 h1) kc_19 (by decide) tf_732 wd_3172 cwX19_fail ⟨Nat.le_of_ble_eq_true rfl, Nat.le_of_ble_eq_true rfl⟩ rfl hl.1 (Nat.le_of_ble_eq_true rfl) dX19_guard_132 rfl rfl ⟨Nat.zero_le _, Nat.zero_le _⟩ rfl (fun H locs hw => ?_)
                  refine lv_if_eq (tgt := 142) C.1.1 C.1.2.1 dX19_guard_135 (by decide) (fun c42 => ?_) (fun c42 => ?_)
                  · replace hD := g_pos c42 hD
                    refine lv_iconst (v := (-1)) C.1.1 C.1.2.1 dX19_guard_142 (by decide) ?_
                    exact hb143 ((-1)) M39 L40 _ _ ls hD hw (lv_sub hl [] rfl)
                  · replace hD := g_neg c42 hD
                    refine lv_iconst (v := 0) C.1.1 C.1.2.1 dX19_guard_138 (by decide) ?_
                    refine lv_goto (tgt := 143) C.1.1 C.1.2.1 dX19_guard_139 (by decide) ?_
                    exact hb143 0 M39 L40 _ _ ls hD hw (lv_sub hl [] rfl)
              · replace hD := g_neg c32 hD
                refine lv_sipush (v := 256) C.1.1 C.1.2.1 dX19_guard_105 (by decide) ?_
                refine lv_iload C.1.1 C.1.2.1 dX19_guard_108 (lv_at hl 0 rfl) ?_
                refine lv_imul C.1.1 C.1.2.1 dX19_guard_110 ?_
                refine lv_bipush (v := 8) C.1.1 C.1.2.1 dX19_guard_111 (by decide) ?_
                refine lv_iload_n C.1.1 C.1.2.1 dX19_guard_113 rfl (lv_at hl 2 rfl) ?_
                refine lv_imul C.1.1 C.1.2.1 dX19_guard_114 ?_
                refine lv_iadd C.1.1 C.1.2.1 dX19_guard_115 ?_
                refine lv_iload_n C.1.1 C.1.2.1 dX19_guard_116 rfl (lv_at hl 1 rfl) ?_
                refine lv_iadd C.1.1 C.1.2.1 dX19_guard_117 ?_
                exact mr_iret C hr hlocks hw rfl (Option.some.inj hD) dX19_guard_118
            · replace hD := g_pos c28 hD
              refine lv_iconst (v := (-1)) C.1.1 C.1.2.1 dX19_guard_91 (by decide) ?_
              exact mr_iret C hr hlocks hw rfl (Option.some.inj hD) dX19_guard_92
          · replace hD := g_neg c24 hD
            refine lv_aload_n C.1.1 C.1.2.1 dX19_guard_66 rfl (lv_at hl 2 rfl) ?_
            refine lv_iconst (v := 1) C.1.1 C.1.2.1 dX19_guard_67 (by decide) ?_
            refine lv_aload_n C.1.1 C.1.2.1 dX19_guard_68 rfl (lv_at hl 2 rfl) ?_
            refine mr_getI C hw kc_19 9 (by decide) tf_732 wd_2790 dX19_guard_69 (by decide) rfl ?_
            obtain ⟨r45, M43, L44, h1, hD⟩ := g_b3 hD
            refine md_cvI (As := [.int 1, .int (M21 732 9)]) (rest := []) C hw (tX19_fail l G ad fu 1 (M21 732 9) M21 L22 h1) kc_19 (by decide) tf_732 wd_3172 cwX19_fail ⟨Nat.le_of_ble_eq_true rfl, Nat.le_of_ble_eq_true rfl⟩ rfl hl.1 (Nat.le_of_ble_eq_true rfl) dX19_guard_72 rfl rfl ⟨Nat.zero_le _, Nat.zero_le _⟩ rfl (fun H locs hw => ?_)
            refine lv_if_eq (tgt := 82) C.1.1 C.1.2.1 dX19_guard_75 (by decide) (fun c46 => ?_) (fun c46 => ?_)
            · replace hD := g_pos c46 hD
              refine lv_iconst (v := (-1)) C.1.1 C.1.2.1 dX19_guard_82 (by decide) ?_
              exact hb83 ((-1)) M43 L44 _ _ ls hD hw (lv_sub hl [] rfl)
            · replace hD := g_neg c46 hD
              refine lv_iconst (v := 0) C.1.1 C.1.2.1 dX19_guard_78 (by decide) ?_
              refine lv_goto (tgt := 83) C.1.1 C.1.2.1 dX19_guard_79 (by decide) ?_
              exact hb83 0 M43 L44 _ _ ls hD hw (lv_sub hl [] rfl)
        · replace hD := g_pos c20 hD
          exact hb55 M17 L18 _ _ ls hD hw (lv_sub hl [] rfl)
    · replace hD := g_pos c12 hD
      refine lv_aload_n C.1.1 C.1.2.1 dX19_guard_20 rfl (lv_at hl 0 rfl) ?_
      refine lv_iconst (v := 2) C.1.1 C.1.2.1 dX19_guard_21 (by decide) ?_
      refine lv_aload_n C.1.1 C.1.2.1 dX19_guard_22 rfl (lv_at hl 0 rfl) ?_
      refine mr_getI C hw kc_19 9 (by decide) tf_732 wd_2790 dX19_guard_23 (by decide) rfl ?_
      obtain ⟨r49, M47, L48, h1, hD⟩ := g_b3 hD
      refine md_cvI (As := [.int 2, .int (M9 732 9)]) (rest := []) C hw (tX19_fail l G ad fu 2 (M9 732 9) M9 L10 h1) kc_19 (by decide) tf_732 wd_3172 cwX19_fail ⟨Nat.le_of_ble_eq_true rfl, Nat.le_of_ble_eq_true rfl⟩ rfl hl.1 (Nat.le_of_ble_eq_true rfl) dX19_guard_26 rfl rfl ⟨Nat.zero_le _, Nat.zero_le _⟩ rfl (fun H locs hw => ?_)
      refine lv_if_eq (tgt := 36) C.1.1 C.1.2.1 dX19_guard_29 (by decide) (fun c50 => ?_) (fun c50 => ?_)
      · replace hD := g_pos c50 hD
        refine lv_iconst (v := (-1)) C.1.1 C.1.2.1 dX19_guard_36 (by decide) ?_
        exact hb37 ((-1)) M47 L48 _ _ ls hD hw (lv_sub hl [] rfl)
      · replace hD := g_neg c50 hD
        refine lv_iconst (v := 0) C.1.1 C.1.2.1 dX19_guard_32 (by decide) ?_
        refine lv_goto (tgt := 37) C.1.1 C.1.2.1 dX19_guard_33 (by decide) ?_
        exact hb37 0 M47 L48 _ _ ls hD hw (lv_sub hl [] rfl)
  · replace hD := g_pos c8 hD
    refine lv_iconst (v := 0) C.1.1 C.1.2.1 dX19_guard_7 (by decide) ?_
    exact mr_iret C hr hlocks hw rfl (Option.some.inj hD) dX19_guard_8
