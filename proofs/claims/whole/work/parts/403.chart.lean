theorem dX2_workOff_0 : decode cX2_workOff 0 = .ok (.aload_n 0, 1) := by decide +kernel
theorem dX2_workOff_1 : decode cX2_workOff 1 = .ok (.getfield 49, 3) := by decide +kernel
theorem dX2_workOff_4 : decode cX2_workOff 4 = .ok (.istore_n 2, 1) := by decide +kernel
theorem dX2_workOff_5 : decode cX2_workOff 5 = .ok (.aload_n 0, 1) := by decide +kernel
theorem dX2_workOff_6 : decode cX2_workOff 6 = .ok (.iconst 0, 1) := by decide +kernel
theorem dX2_workOff_7 : decode cX2_workOff 7 = .ok (.putfield 49, 3) := by decide +kernel
theorem dX2_workOff_10 : decode cX2_workOff 10 = .ok (.aload_n 0, 1) := by decide +kernel
theorem dX2_workOff_11 : decode cX2_workOff 11 = .ok (.getfield 13, 3) := by decide +kernel
theorem dX2_workOff_14 : decode cX2_workOff 14 = .ok (.iconst 4, 1) := by decide +kernel
theorem dX2_workOff_15 : decode cX2_workOff 15 = .ok (.aaload, 1) := by decide +kernel
theorem dX2_workOff_16 : decode cX2_workOff 16 = .ok (.iconst 0, 1) := by decide +kernel
theorem dX2_workOff_17 : decode cX2_workOff 17 = .ok (.iaload, 1) := by decide +kernel
theorem dX2_workOff_18 : decode cX2_workOff 18 = .ok (.ifCond .ne 4, 3) := by decide +kernel
theorem dX2_workOff_21 : decode cX2_workOff 21 = .ok (.return_, 1) := by decide +kernel
theorem dX2_workOff_22 : decode cX2_workOff 22 = .ok (.iload_n 2, 1) := by decide +kernel
theorem dX2_workOff_23 : decode cX2_workOff 23 = .ok (.ifCond .ne 22, 3) := by decide +kernel
theorem dX2_workOff_26 : decode cX2_workOff 26 = .ok (.aload_n 0, 1) := by decide +kernel
theorem dX2_workOff_27 : decode cX2_workOff 27 = .ok (.iconst 0, 1) := by decide +kernel
theorem dX2_workOff_28 : decode cX2_workOff 28 = .ok (.iload_n 1, 1) := by decide +kernel
theorem dX2_workOff_29 : decode cX2_workOff 29 = .ok (.invokevirtual 94, 3) := by decide +kernel
theorem dX2_workOff_32 : decode cX2_workOff 32 = .ok (.ifCond .ne 13, 3) := by decide +kernel
theorem dX2_workOff_35 : decode cX2_workOff 35 = .ok (.aload_n 0, 1) := by decide +kernel
theorem dX2_workOff_36 : decode cX2_workOff 36 = .ok (.dup, 1) := by decide +kernel
theorem dX2_workOff_37 : decode cX2_workOff 37 = .ok (.getfield 55, 3) := by decide +kernel
theorem dX2_workOff_40 : decode cX2_workOff 40 = .ok (.iconst 1, 1) := by decide +kernel
theorem dX2_workOff_41 : decode cX2_workOff 41 = .ok (.iadd, 1) := by decide +kernel
theorem dX2_workOff_42 : decode cX2_workOff 42 = .ok (.putfield 55, 3) := by decide +kernel
theorem dX2_workOff_45 : decode cX2_workOff 45 = .ok (.iconst 0, 1) := by decide +kernel
theorem dX2_workOff_46 : decode cX2_workOff 46 = .ok (.istore_n 3, 1) := by decide +kernel
theorem dX2_workOff_47 : decode cX2_workOff 47 = .ok (.iload_n 3, 1) := by decide +kernel
theorem dX2_workOff_48 : decode cX2_workOff 48 = .ok (.iload_n 2, 1) := by decide +kernel
theorem dX2_workOff_49 : decode cX2_workOff 49 = .ok (.if_icmp .ge 33, 3) := by decide +kernel
theorem dX2_workOff_52 : decode cX2_workOff 52 = .ok (.aload_n 0, 1) := by decide +kernel
theorem dX2_workOff_53 : decode cX2_workOff 53 = .ok (.aload_n 0, 1) := by decide +kernel
theorem dX2_workOff_54 : decode cX2_workOff 54 = .ok (.getfield 26, 3) := by decide +kernel
theorem dX2_workOff_57 : decode cX2_workOff 57 = .ok (.iload_n 3, 1) := by decide +kernel
theorem dX2_workOff_58 : decode cX2_workOff 58 = .ok (.iaload, 1) := by decide +kernel
theorem dX2_workOff_59 : decode cX2_workOff 59 = .ok (.iload_n 1, 1) := by decide +kernel
theorem dX2_workOff_60 : decode cX2_workOff 60 = .ok (.invokevirtual 94, 3) := by decide +kernel
theorem dX2_workOff_63 : decode cX2_workOff 63 = .ok (.ifCond .ne 13, 3) := by decide +kernel
theorem dX2_workOff_66 : decode cX2_workOff 66 = .ok (.aload_n 0, 1) := by decide +kernel
theorem dX2_workOff_67 : decode cX2_workOff 67 = .ok (.dup, 1) := by decide +kernel
theorem dX2_workOff_68 : decode cX2_workOff 68 = .ok (.getfield 55, 3) := by decide +kernel
theorem dX2_workOff_71 : decode cX2_workOff 71 = .ok (.iconst 1, 1) := by decide +kernel
theorem dX2_workOff_72 : decode cX2_workOff 72 = .ok (.iadd, 1) := by decide +kernel
theorem dX2_workOff_73 : decode cX2_workOff 73 = .ok (.putfield 55, 3) := by decide +kernel
theorem dX2_workOff_76 : decode cX2_workOff 76 = .ok (.iinc 3 1, 3) := by decide +kernel
theorem dX2_workOff_79 : decode cX2_workOff 79 = .ok (.goto (-32), 3) := by decide +kernel
theorem dX2_workOff_82 : decode cX2_workOff 82 = .ok (.return_, 1) := by decide +kernel
theorem cwX2_workOff : mw_cwV yX2_workOff cX2_workOff 4 (none) 1 := ⟨⟨wd_12, wd_1650, by decide +kernel⟩, wd_1648, wd_1649⟩
noncomputable def fX2_workOff_b76 (fu : Nat) (k : Nat) (a1 : Int32) (r47 : (Int32 × Int32 × mwM × mwL) → Option (mwM × mwL)) (v2 : Int32) (v3 : Int32) (M : mwM) (L : mwL) : Option (mwM × mwL) :=
  mlet (v3 + 1) (fun x8 => r47 (v2, x8, M, L))
noncomputable def fX2_workOff_i47 (fu : Nat) (k : Nat) (a1 : Int32) (r47 : (Int32 × Int32 × mwM × mwL) → Option (mwM × mwL)) (v2 : Int32) (v3 : Int32) (M : mwM) (L : mwL) : Option (mwM × mwL) :=
  (if v2 ≤ v3 then some (M, L) else mck v3 16 (mb3 (DX2_happen fu k (M (k + 35) v3.toNatClampNeg) a1 M L) (fun r5 M3 L4 => (if r5 = 0 then mlet (mset M3 k 13 ((M3 k 13) + 1)) (fun M7 => fX2_workOff_b76 fu k a1 r47 v2 v3 M7 L4) else fX2_workOff_b76 fu k a1 r47 v2 v3 M3 L4))))
noncomputable def fX2_workOff_h47 (fu : Nat) (k : Nat) (a1 : Int32) : Nat → (Int32 × Int32 × mwM × mwL) → Option (mwM × mwL) := mloop (fun r47 s => fX2_workOff_i47 fu k a1 r47 s.1 s.2.1 s.2.2.1 s.2.2.2)
noncomputable def fX2_workOff_b45 (fu : Nat) (k : Nat) (a1 : Int32) (v2 : Int32) (M : mwM) (L : mwL) : Option (mwM × mwL) :=
  fX2_workOff_h47 fu k a1 fu (v2, 0, M, L)
noncomputable def DX2_workOff (fu : Nat) (k : Nat) (a1 : Int32) (M : mwM) (L : mwL) : Option (mwM × mwL) :=
  mlet (M k 11) (fun x9 => mlet (mset M k 11 0) (fun M10 => (if (M10 (k + 6) (0 : Int32).toNatClampNeg) = 0 then some (M10, L) else (if x9 = 0 then mb3 (DX2_happen fu k 0 a1 M10 L) (fun r17 M15 L16 => (if r17 = 0 then mlet (mset M15 k 13 ((M15 k 13) + 1)) (fun M19 => fX2_workOff_b45 fu k a1 x9 M19 L16) else fX2_workOff_b45 fu k a1 x9 M15 L16)) else fX2_workOff_b45 fu k a1 x9 M10 L))))
set_option maxHeartbeats 4000000 in
set_option maxRecDepth 100000 in
theorem tX2_workOff (l : Launch) (G : mwG) (ad : Nat → Nat) (fu : Nat) (k : Nat) (a1 : Int32) (M : mwM) (L : mwL) {M0 : mwM} {L0 : mwL} (hD : DX2_workOff fu k a1 M L = some (M0, L0)) (hk0 : isCh k) : Met l yX2_workOff (Cond.code yX2_workOff cX2_workOff 4 (none) :: GT) ({ frames := 5, cells := 0, slots := 0, locals := 121 }) (mw_Pre G ad NF TF FF M L [.ref (ad k), .int a1]) (mw_Qv G ad NF TF FF (mw_eqV M0 L0)) 0 0 (mw_fr G) := by
  refine mw_enter (by decide) (Nat.le_of_ble_eq_true rfl) ?_
  intro p e s m below meth c ls C hr hlocks hnm hw hl
  have hl : lv_has ls 4 [(0, .ref (ad k)), (1, .int a1)] := hl
  have hh47 : ∀ (f : Nat) (v2 : Int32) (v3 : Int32) (M : mwM) (L : mwL) (H : Heap) (locs : List Loc) (ls : Array Slot), fX2_workOff_h47 fu k a1 f (v2, v3, M, L) = some (M0, L0) → mw_W G ad NF TF FF M L H locs → lv_has ls 4 [(0, .ref (ad k)), (1, .int a1), (2, .int v2), (3, .int v3)] → W p l e ({ frames := 5, cells := 0, slots := 0, locals := 121 }) s m [.ref (ad k), .int a1].toArray below meth c H locs 0 0 (MQ below (mw_Qv G ad NF TF FF (mw_eqV M0 L0)) [.ref (ad k), .int a1].toArray s 0 0 (mw_fr G)) (F0 m 47 ls []) := by
    intro f
    induction f with
    | zero => intro v2 v3 M L H locs ls hD; cases hD
    | succ f47 ih47 =>
      intro v2 v3 M L H locs ls hD hw hl
      replace hD : fX2_workOff_i47 fu k a1 (fX2_workOff_h47 fu k a1 f47) v2 v3 M L = some (M0, L0) := hD
      have hb76 : ∀ (v2 : Int32) (v3 : Int32) (M : mwM) (L : mwL) (H : Heap) (locs : List Loc) (ls : Array Slot), fX2_workOff_b76 fu k a1 (fX2_workOff_h47 fu k a1 f47) v2 v3 M L = some (M0, L0) → mw_W G ad NF TF FF M L H locs → lv_has ls 4 [(0, .ref (ad k)), (1, .int a1), (2, .int v2), (3, .int v3)] → W p l e ({ frames := 5, cells := 0, slots := 0, locals := 121 }) s m [.ref (ad k), .int a1].toArray below meth c H locs 0 0 (MQ below (mw_Qv G ad NF TF FF (mw_eqV M0 L0)) [.ref (ad k), .int a1].toArray s 0 0 (mw_fr G)) (F0 m 76 ls []) := by
        intro v2 v3 M L H locs ls hD hw hl
        unfold fX2_workOff_b76 at hD
        obtain ⟨x8, ex8, hD⟩ := g_let hD
        refine lv_iinc (v := x8) (lv' := [(3, .int x8), (0, .ref (ad k)), (1, .int a1), (2, .int v2)]) C.1.1 C.1.2.1 dX2_workOff_76 hl (k := 3) rfl (by rw [ex8]; rfl) (by decide) rfl (fun ls hl => ?_)
        refine lv_goto (tgt := 47) C.1.1 C.1.2.1 dX2_workOff_79 (by decide) ?_
        exact ih47 v2 x8 M L _ _ ls hD hw (lv_sub hl [1, 2, 3, 0] rfl)
      unfold fX2_workOff_i47 at hD
      refine lv_iload_n C.1.1 C.1.2.1 dX2_workOff_47 rfl (lv_at hl 3 rfl) ?_
      refine lv_iload_n C.1.1 C.1.2.1 dX2_workOff_48 rfl (lv_at hl 2 rfl) ?_
      refine lv_icmp_ge (tgt := 82) C.1.1 C.1.2.1 dX2_workOff_49 (by decide) (fun c1 => ?_) (fun c1 => ?_)
      · replace hD := g_pos c1 hD
        exact mr_vret C hr hlocks hw (Option.some.inj hD) dX2_workOff_82
      · replace hD := g_neg c1 hD
        refine lv_aload_n C.1.1 C.1.2.1 dX2_workOff_52 rfl (lv_at hl 0 rfl) ?_
        refine lv_aload_n C.1.1 C.1.2.1 dX2_workOff_53 rfl (lv_at hl 0 rfl) ?_
        refine mr_getR C hw kc_2 4 (Ch_N0 hk0) (Ch_T0 hk0) (Ch_F0_4 hk0) wd_452 dX2_workOff_54 (by decide) rfl ?_
        refine lv_iload_n C.1.1 C.1.2.1 dX2_workOff_57 rfl (lv_at hl 3 rfl) ?_
        obtain ⟨q2, hD⟩ := g_ck hD
        refine mr_iald C hw (Ch_N35 hk0) (Ch_T35 hk0) q2 dX2_workOff_58 ?_
        refine lv_iload_n C.1.1 C.1.2.1 dX2_workOff_59 rfl (lv_at hl 1 rfl) ?_
        obtain ⟨r5, M3, L4, h1, hD⟩ := g_b3 hD
        refine md_cvI (As := [.int (M (k + 35) v3.toNatClampNeg), .int a1]) (rest := []) C hw (tX2_happen l G ad fu k (M (k + 35) v3.toNatClampNeg) a1 M L h1 hk0) kc_2 (Ch_N0 hk0) (Ch_T0 hk0) wd_1651 cwX2_happen ⟨Nat.le_of_ble_eq_true rfl, Nat.le_of_ble_eq_true rfl⟩ rfl hl.1 (Nat.le_of_ble_eq_true rfl) dX2_workOff_60 rfl rfl ⟨Nat.zero_le _, Nat.zero_le _⟩ rfl (fun H locs hw => ?_)
        refine lv_if_ne (tgt := 76) C.1.1 C.1.2.1 dX2_workOff_63 (by decide) (fun c6 => ?_) (fun c6 => ?_)
        · replace hD := g_neg c6 hD
          exact hb76 v2 v3 M3 L4 _ _ ls hD hw (lv_sub hl [0, 1, 2, 3] rfl)
        · replace hD := g_pos c6 hD
          refine lv_aload_n C.1.1 C.1.2.1 dX2_workOff_66 rfl (lv_at hl 0 rfl) ?_
          refine lv_dup C.1.1 C.1.2.1 dX2_workOff_67 rfl ?_
          refine mr_getI C hw kc_2 13 (Ch_N0 hk0) (Ch_T0 hk0) wd_467 dX2_workOff_68 (by decide) rfl ?_
          refine lv_iconst (v := 1) C.1.1 C.1.2.1 dX2_workOff_71 (by decide) ?_
          refine lv_iadd C.1.1 C.1.2.1 dX2_workOff_72 ?_
          obtain ⟨M7, eM7, hD⟩ := g_let hD
          refine mr_putI C hw kc_2 13 (Ch_N0 hk0) (Ch_T0 hk0) wd_467 dX2_workOff_73 (by decide) rfl rfl rfl rfl (fun H locs hw => ?_)
          replace hw : mw_W G ad NF TF FF M7 L4 H locs := by rw [eM7]; exact hw
          exact hb76 v2 v3 M7 L4 _ _ ls hD hw (lv_sub hl [0, 1, 2, 3] rfl)
  have hb45 : ∀ (v2 : Int32) (M : mwM) (L : mwL) (H : Heap) (locs : List Loc) (ls : Array Slot), fX2_workOff_b45 fu k a1 v2 M L = some (M0, L0) → mw_W G ad NF TF FF M L H locs → lv_has ls 4 [(0, .ref (ad k)), (1, .int a1), (2, .int v2)] → W p l e ({ frames := 5, cells := 0, slots := 0, locals := 121 }) s m [.ref (ad k), .int a1].toArray below meth c H locs 0 0 (MQ below (mw_Qv G ad NF TF FF (mw_eqV M0 L0)) [.ref (ad k), .int a1].toArray s 0 0 (mw_fr G)) (F0 m 45 ls []) := by
    intro v2 M L H locs ls hD hw hl
    unfold fX2_workOff_b45 at hD
    refine lv_iconst (v := 0) C.1.1 C.1.2.1 dX2_workOff_45 (by decide) ?_
    refine lv_istore_n (lv' := [(3, .int 0), (0, .ref (ad k)), (1, .int a1), (2, .int v2)]) C.1.1 C.1.2.1 dX2_workOff_46 rfl hl (by decide) rfl (fun ls hl => ?_)
    exact hh47 fu v2 0 M L _ _ ls hD hw (lv_sub hl [1, 2, 3, 0] rfl)
  unfold DX2_workOff at hD
  refine lv_aload_n C.1.1 C.1.2.1 dX2_workOff_0 rfl (lv_at hl 0 rfl) ?_
  refine mr_getI C hw kc_2 11 (Ch_N0 hk0) (Ch_T0 hk0) wd_464 dX2_workOff_1 (by decide) rfl ?_
  obtain ⟨x9, ex9, hD⟩ := g_let hD
  refine W.eq (g2 := F0 m 4 ls (.int x9 :: [])) (by rw [ex9]) ?_
  refine lv_istore_n (lv' := [(2, .int x9), (0, .ref (ad k)), (1, .int a1)]) C.1.1 C.1.2.1 dX2_workOff_4 rfl hl (by decide) rfl (fun ls hl => ?_)
  refine lv_aload_n C.1.1 C.1.2.1 dX2_workOff_5 rfl (lv_at hl 1 rfl) ?_
  refine lv_iconst (v := 0) C.1.1 C.1.2.1 dX2_workOff_6 (by decide) ?_
  obtain ⟨M10, eM10, hD⟩ := g_let hD
  refine mr_putI C hw kc_2 11 (Ch_N0 hk0) (Ch_T0 hk0) wd_464 dX2_workOff_7 (by decide) rfl rfl rfl rfl (fun H locs hw => ?_)
  replace hw : mw_W G ad NF TF FF M10 L H locs := by rw [eM10]; exact hw
  refine lv_aload_n C.1.1 C.1.2.1 dX2_workOff_10 rfl (lv_at hl 1 rfl) ?_
  refine mr_getR C hw kc_2 0 (Ch_N0 hk0) (Ch_T0 hk0) (Ch_F0_0 hk0) wd_444 dX2_workOff_11 (by decide) rfl ?_
  refine lv_iconst (v := 4) C.1.1 C.1.2.1 dX2_workOff_14 (by decide) ?_
  refine mr_aald C hw (Ch_N1 hk0) (Ch_T1 hk0) (by decide) (by decide) rfl rfl (show vp_in 4 18 from by unfold vp_in; decide) (Ch_R1 hk0 _ (by decide : 4 < 18)).1 dX2_workOff_15 ?_
  refine lv_iconst (v := 0) C.1.1 C.1.2.1 dX2_workOff_16 (by decide) ?_
  refine mr_iald C hw (Ch_N6 hk0) (Ch_T6 hk0) (show vp_in 0 201 from by unfold vp_in; decide) dX2_workOff_17 ?_
  refine lv_if_ne (tgt := 22) C.1.1 C.1.2.1 dX2_workOff_18 (by decide) (fun c13 => ?_) (fun c13 => ?_)
  · replace hD := g_neg c13 hD
    refine lv_iload_n C.1.1 C.1.2.1 dX2_workOff_22 rfl (lv_at hl 0 rfl) ?_
    refine lv_if_ne (tgt := 45) C.1.1 C.1.2.1 dX2_workOff_23 (by decide) (fun c14 => ?_) (fun c14 => ?_)
    · replace hD := g_neg c14 hD
      exact hb45 x9 M10 L _ _ ls hD hw (lv_sub hl [1, 2, 0] rfl)
    · replace hD := g_pos c14 hD
      refine lv_aload_n C.1.1 C.1.2.1 dX2_workOff_26 rfl (lv_at hl 1 rfl) ?_
      refine lv_iconst (v := 0) C.1.1 C.1.2.1 dX2_workOff_27 (by decide) ?_
      refine lv_iload_n C.1.1 C.1.2.1 dX2_workOff_28 rfl (lv_at hl 2 rfl) ?_
      obtain ⟨r17, M15, L16, h1, hD⟩ := g_b3 hD
      refine md_cvI (As := [.int 0, .int a1]) (rest := []) C hw (tX2_happen l G ad fu k 0 a1 M10 L h1 hk0) kc_2 (Ch_N0 hk0) (Ch_T0 hk0) wd_1651 cwX2_happen ⟨Nat.le_of_ble_eq_true rfl, Nat.le_of_ble_eq_true rfl⟩ rfl hl.1 (Nat.le_of_ble_eq_true rfl) dX2_workOff_29 rfl rfl ⟨Nat.zero_le _, Nat.zero_le _⟩ rfl (fun H locs hw => ?_)
      refine lv_if_ne (tgt := 45) C.1.1 C.1.2.1 dX2_workOff_32 (by decide) (fun c18 => ?_) (fun c18 => ?_)
      · replace hD := g_neg c18 hD
        exact hb45 x9 M15 L16 _ _ ls hD hw (lv_sub hl [1, 2, 0] rfl)
      · replace hD := g_pos c18 hD
        refine lv_aload_n C.1.1 C.1.2.1 dX2_workOff_35 rfl (lv_at hl 1 rfl) ?_
        refine lv_dup C.1.1 C.1.2.1 dX2_workOff_36 rfl ?_
        refine mr_getI C hw kc_2 13 (Ch_N0 hk0) (Ch_T0 hk0) wd_467 dX2_workOff_37 (by decide) rfl ?_
        refine lv_iconst (v := 1) C.1.1 C.1.2.1 dX2_workOff_40 (by decide) ?_
        refine lv_iadd C.1.1 C.1.2.1 dX2_workOff_41 ?_
        obtain ⟨M19, eM19, hD⟩ := g_let hD
        refine mr_putI C hw kc_2 13 (Ch_N0 hk0) (Ch_T0 hk0) wd_467 dX2_workOff_42 (by decide) rfl rfl rfl rfl (fun H locs hw => ?_)
        replace hw : mw_W G ad NF TF FF M19 L16 H locs := by rw [eM19]; exact hw
        exact hb45 x9 M19 L16 _ _ ls hD hw (lv_sub hl [1, 2, 0] rfl)
  · replace hD := g_pos c13 hD
    exact mr_vret C hr hlocks hw (Option.some.inj hD) dX2_workOff_21

theorem dX2_innermost_0 : decode cX2_innermost 0 = .ok (.iload_n 1, 1) := by decide +kernel
theorem dX2_innermost_1 : decode cX2_innermost 1 = .ok (.ifCond .eq 16, 3) := by decide +kernel
theorem dX2_innermost_4 : decode cX2_innermost 4 = .ok (.aload_n 0, 1) := by decide +kernel
theorem dX2_innermost_5 : decode cX2_innermost 5 = .ok (.getfield 13, 3) := by decide +kernel
theorem dX2_innermost_8 : decode cX2_innermost 8 = .ok (.iconst 5, 1) := by decide +kernel
theorem dX2_innermost_9 : decode cX2_innermost 9 = .ok (.aaload, 1) := by decide +kernel
theorem dX2_innermost_10 : decode cX2_innermost 10 = .ok (.iload_n 1, 1) := by decide +kernel
theorem dX2_innermost_11 : decode cX2_innermost 11 = .ok (.iaload, 1) := by decide +kernel
theorem dX2_innermost_12 : decode cX2_innermost 12 = .ok (.ifCond .ne 5, 3) := by decide +kernel
theorem dX2_innermost_15 : decode cX2_innermost 15 = .ok (.iconst 0, 1) := by decide +kernel
theorem dX2_innermost_16 : decode cX2_innermost 16 = .ok (.ireturn, 1) := by decide +kernel
theorem dX2_innermost_17 : decode cX2_innermost 17 = .ok (.iload_n 1, 1) := by decide +kernel
theorem dX2_innermost_18 : decode cX2_innermost 18 = .ok (.istore_n 2, 1) := by decide +kernel
theorem dX2_innermost_19 : decode cX2_innermost 19 = .ok (.iconst 0, 1) := by decide +kernel
theorem dX2_innermost_20 : decode cX2_innermost 20 = .ok (.istore_n 3, 1) := by decide +kernel
theorem dX2_innermost_21 : decode cX2_innermost 21 = .ok (.iload_n 3, 1) := by decide +kernel
theorem dX2_innermost_22 : decode cX2_innermost 22 = .ok (.bipush 40, 2) := by decide +kernel
theorem dX2_innermost_24 : decode cX2_innermost 24 = .ok (.if_icmp .gt 31, 3) := by decide +kernel
theorem dX2_innermost_27 : decode cX2_innermost 27 = .ok (.aload_n 0, 1) := by decide +kernel
theorem dX2_innermost_28 : decode cX2_innermost 28 = .ok (.getfield 13, 3) := by decide +kernel
theorem dX2_innermost_31 : decode cX2_innermost 31 = .ok (.bipush 6, 2) := by decide +kernel
theorem dX2_innermost_33 : decode cX2_innermost 33 = .ok (.aaload, 1) := by decide +kernel
theorem dX2_innermost_34 : decode cX2_innermost 34 = .ok (.iload_n 2, 1) := by decide +kernel
theorem dX2_innermost_35 : decode cX2_innermost 35 = .ok (.iaload, 1) := by decide +kernel
theorem dX2_innermost_36 : decode cX2_innermost 36 = .ok (.ifCond .eq 19, 3) := by decide +kernel
theorem dX2_innermost_39 : decode cX2_innermost 39 = .ok (.aload_n 0, 1) := by decide +kernel
theorem dX2_innermost_40 : decode cX2_innermost 40 = .ok (.getfield 13, 3) := by decide +kernel
theorem dX2_innermost_43 : decode cX2_innermost 43 = .ok (.bipush 6, 2) := by decide +kernel
theorem dX2_innermost_45 : decode cX2_innermost 45 = .ok (.aaload, 1) := by decide +kernel
theorem dX2_innermost_46 : decode cX2_innermost 46 = .ok (.iload_n 2, 1) := by decide +kernel
theorem dX2_innermost_47 : decode cX2_innermost 47 = .ok (.iaload, 1) := by decide +kernel
theorem dX2_innermost_48 : decode cX2_innermost 48 = .ok (.istore_n 2, 1) := by decide +kernel
theorem dX2_innermost_49 : decode cX2_innermost 49 = .ok (.iinc 3 1, 3) := by decide +kernel
theorem dX2_innermost_52 : decode cX2_innermost 52 = .ok (.goto (-31), 3) := by decide +kernel
theorem dX2_innermost_55 : decode cX2_innermost 55 = .ok (.iload_n 2, 1) := by decide +kernel
theorem dX2_innermost_56 : decode cX2_innermost 56 = .ok (.ireturn, 1) := by decide +kernel
theorem cwX2_innermost : mw_cwV yX2_innermost cX2_innermost 4 ((some .int)) 1 := ⟨⟨wd_12, wd_1867, by decide +kernel⟩, wd_1865, wd_1866⟩
noncomputable def fX2_innermost_b55 (fu : Nat) (k : Nat) (a1 : Int32) (v2 : Int32) (M : mwM) (L : mwL) : Option (Int32 × mwM × mwL) :=
  some (v2, M, L)
noncomputable def fX2_innermost_i21 (fu : Nat) (k : Nat) (a1 : Int32) (r21 : (Int32 × Int32 × mwM × mwL) → Option (Int32 × mwM × mwL)) (v2 : Int32) (v3 : Int32) (M : mwM) (L : mwL) : Option (Int32 × mwM × mwL) :=
  (if 40 < v3 then fX2_innermost_b55 fu k a1 v2 M L else mck v2 201 ((if (M (k + 8) v2.toNatClampNeg) = 0 then fX2_innermost_b55 fu k a1 v2 M L else mck v2 201 (mlet (M (k + 8) v2.toNatClampNeg) (fun x7 => mlet (v3 + 1) (fun x8 => r21 (x7, x8, M, L)))))))
noncomputable def fX2_innermost_h21 (fu : Nat) (k : Nat) (a1 : Int32) : Nat → (Int32 × Int32 × mwM × mwL) → Option (Int32 × mwM × mwL) := mloop (fun r21 s => fX2_innermost_i21 fu k a1 r21 s.1 s.2.1 s.2.2.1 s.2.2.2)
noncomputable def fX2_innermost_b17 (fu : Nat) (k : Nat) (a1 : Int32) (M : mwM) (L : mwL) : Option (Int32 × mwM × mwL) :=
  fX2_innermost_h21 fu k a1 fu (a1, 0, M, L)
noncomputable def DX2_innermost (fu : Nat) (k : Nat) (a1 : Int32) (M : mwM) (L : mwL) : Option (Int32 × mwM × mwL) :=
  (if a1 = 0 then fX2_innermost_b17 fu k a1 M L else mck a1 201 ((if (M (k + 7) a1.toNatClampNeg) = 0 then some (0, M, L) else fX2_innermost_b17 fu k a1 M L)))
set_option maxHeartbeats 4000000 in
set_option maxRecDepth 100000 in
theorem tX2_innermost (l : Launch) (G : mwG) (ad : Nat → Nat) (fu : Nat) (k : Nat) (a1 : Int32) (M : mwM) (L : mwL) {r0 : Int32} {M0 : mwM} {L0 : mwL} (hD : DX2_innermost fu k a1 M L = some (r0, M0, L0)) (hk0 : isCh k) : Met l yX2_innermost (Cond.code yX2_innermost cX2_innermost 4 ((some .int)) :: GT) ({ frames := 0, cells := 0, slots := 0, locals := 0 }) (mw_Pre G ad NF TF FF M L [.ref (ad k), .int a1]) (mw_Qi G ad NF TF FF (mw_eqI r0 M0 L0)) 0 0 (mw_fr G) := by
  refine mw_enter (by decide) (Nat.le_of_ble_eq_true rfl) ?_
  intro p e s m below meth c ls C hr hlocks hnm hw hl
  have hl : lv_has ls 4 [(0, .ref (ad k)), (1, .int a1)] := hl
  have hb55 : ∀ (v2 : Int32) (M : mwM) (L : mwL) (H : Heap) (locs : List Loc) (ls : Array Slot), fX2_innermost_b55 fu k a1 v2 M L = some (r0, M0, L0) → mw_W G ad NF TF FF M L H locs → lv_has ls 4 [(2, .int v2)] → W p l e ({ frames := 0, cells := 0, slots := 0, locals := 0 }) s m [.ref (ad k), .int a1].toArray below meth c H locs 0 0 (MQ below (mw_Qi G ad NF TF FF (mw_eqI r0 M0 L0)) [.ref (ad k), .int a1].toArray s 0 0 (mw_fr G)) (F0 m 55 ls []) := by
    intro v2 M L H locs ls hD hw hl
    unfold fX2_innermost_b55 at hD
    refine lv_iload_n C.1.1 C.1.2.1 dX2_innermost_55 rfl (lv_at hl 0 rfl) ?_
    exact mr_iret C hr hlocks hw rfl (Option.some.inj hD) dX2_innermost_56
  have hh21 : ∀ (f : Nat) (v2 : Int32) (v3 : Int32) (M : mwM) (L : mwL) (H : Heap) (locs : List Loc) (ls : Array Slot), fX2_innermost_h21 fu k a1 f (v2, v3, M, L) = some (r0, M0, L0) → mw_W G ad NF TF FF M L H locs → lv_has ls 4 [(0, .ref (ad k)), (2, .int v2), (3, .int v3)] → W p l e ({ frames := 0, cells := 0, slots := 0, locals := 0 }) s m [.ref (ad k), .int a1].toArray below meth c H locs 0 0 (MQ below (mw_Qi G ad NF TF FF (mw_eqI r0 M0 L0)) [.ref (ad k), .int a1].toArray s 0 0 (mw_fr G)) (F0 m 21 ls []) := by
    intro f
    induction f with
    | zero => intro v2 v3 M L H locs ls hD; cases hD
    | succ f21 ih21 =>
      intro v2 v3 M L H locs ls hD hw hl
      replace hD : fX2_innermost_i21 fu k a1 (fX2_innermost_h21 fu k a1 f21) v2 v3 M L = some (r0, M0, L0) := hD
      unfold fX2_innermost_i21 at hD
      refine lv_iload_n C.1.1 C.1.2.1 dX2_innermost_21 rfl (lv_at hl 2 rfl) ?_
      refine lv_bipush (v := 40) C.1.1 C.1.2.1 dX2_innermost_22 (by decide) ?_
      refine lv_icmp_gt (tgt := 55) C.1.1 C.1.2.1 dX2_innermost_24 (by decide) (fun c1 => ?_) (fun c1 => ?_)
      · replace hD := g_pos c1 hD
        exact hb55 v2 M L _ _ ls hD hw (lv_sub hl [1] rfl)
      · replace hD := g_neg c1 hD
        refine lv_aload_n C.1.1 C.1.2.1 dX2_innermost_27 rfl (lv_at hl 0 rfl) ?_
        refine mr_getR C hw kc_2 0 (Ch_N0 hk0) (Ch_T0 hk0) (Ch_F0_0 hk0) wd_444 dX2_innermost_28 (by decide) rfl ?_
        refine lv_bipush (v := 6) C.1.1 C.1.2.1 dX2_innermost_31 (by decide) ?_
        refine mr_aald C hw (Ch_N1 hk0) (Ch_T1 hk0) (by decide) (by decide) rfl rfl (show vp_in 6 18 from by unfold vp_in; decide) (Ch_R1 hk0 _ (by decide : 6 < 18)).1 dX2_innermost_33 ?_
        refine lv_iload_n C.1.1 C.1.2.1 dX2_innermost_34 rfl (lv_at hl 1 rfl) ?_
        obtain ⟨q3, hD⟩ := g_ck hD
        refine mr_iald C hw (Ch_N8 hk0) (Ch_T8 hk0) q3 dX2_innermost_35 ?_
        refine lv_if_eq (tgt := 55) C.1.1 C.1.2.1 dX2_innermost_36 (by decide) (fun c4 => ?_) (fun c4 => ?_)
        · replace hD := g_pos c4 hD
          exact hb55 v2 M L _ _ ls hD hw (lv_sub hl [1] rfl)
        · replace hD := g_neg c4 hD
          refine lv_aload_n C.1.1 C.1.2.1 dX2_innermost_39 rfl (lv_at hl 0 rfl) ?_
          refine mr_getR C hw kc_2 0 (Ch_N0 hk0) (Ch_T0 hk0) (Ch_F0_0 hk0) wd_444 dX2_innermost_40 (by decide) rfl ?_
          refine lv_bipush (v := 6) C.1.1 C.1.2.1 dX2_innermost_43 (by decide) ?_
          refine mr_aald C hw (Ch_N1 hk0) (Ch_T1 hk0) (by decide) (by decide) rfl rfl (show vp_in 6 18 from by unfold vp_in; decide) (Ch_R1 hk0 _ (by decide : 6 < 18)).1 dX2_innermost_45 ?_
          refine lv_iload_n C.1.1 C.1.2.1 dX2_innermost_46 rfl (lv_at hl 1 rfl) ?_
          obtain ⟨q6, hD⟩ := g_ck hD
          refine mr_iald C hw (Ch_N8 hk0) (Ch_T8 hk0) q6 dX2_innermost_47 ?_
          obtain ⟨x7, ex7, hD⟩ := g_let hD
          refine W.eq (g2 := F0 m 48 ls (.int x7 :: [])) (by rw [ex7]) ?_
          refine lv_istore_n (lv' := [(2, .int x7), (0, .ref (ad k)), (3, .int v3)]) C.1.1 C.1.2.1 dX2_innermost_48 rfl hl (by decide) rfl (fun ls hl => ?_)
          obtain ⟨x8, ex8, hD⟩ := g_let hD
          refine lv_iinc (v := x8) (lv' := [(3, .int x8), (2, .int x7), (0, .ref (ad k))]) C.1.1 C.1.2.1 dX2_innermost_49 hl (k := 2) rfl (by rw [ex8]; rfl) (by decide) rfl (fun ls hl => ?_)
          refine lv_goto (tgt := 21) C.1.1 C.1.2.1 dX2_innermost_52 (by decide) ?_
          exact ih21 x7 x8 M L _ _ ls hD hw (lv_sub hl [2, 1, 0] rfl)
  have hb17 : ∀ (M : mwM) (L : mwL) (H : Heap) (locs : List Loc) (ls : Array Slot), fX2_innermost_b17 fu k a1 M L = some (r0, M0, L0) → mw_W G ad NF TF FF M L H locs → lv_has ls 4 [(0, .ref (ad k)), (1, .int a1)] → W p l e ({ frames := 0, cells := 0, slots := 0, locals := 0 }) s m [.ref (ad k), .int a1].toArray below meth c H locs 0 0 (MQ below (mw_Qi G ad NF TF FF (mw_eqI r0 M0 L0)) [.ref (ad k), .int a1].toArray s 0 0 (mw_fr G)) (F0 m 17 ls []) := by
    intro M L H locs ls hD hw hl
    unfold fX2_innermost_b17 at hD
    refine lv_iload_n C.1.1 C.1.2.1 dX2_innermost_17 rfl (lv_at hl 1 rfl) ?_
    refine lv_istore_n (lv' := [(2, .int a1), (0, .ref (ad k)), (1, .int a1)]) C.1.1 C.1.2.1 dX2_innermost_18 rfl hl (by decide) rfl (fun ls hl => ?_)
    refine lv_iconst (v := 0) C.1.1 C.1.2.1 dX2_innermost_19 (by decide) ?_
    refine lv_istore_n (lv' := [(3, .int 0), (2, .int a1), (0, .ref (ad k)), (1, .int a1)]) C.1.1 C.1.2.1 dX2_innermost_20 rfl hl (by decide) rfl (fun ls hl => ?_)
    exact hh21 fu a1 0 M L _ _ ls hD hw (lv_sub hl [2, 1, 0] rfl)
  unfold DX2_innermost at hD
  refine lv_iload_n C.1.1 C.1.2.1 dX2_innermost_0 rfl (lv_at hl 1 rfl) ?_
  refine lv_if_eq (tgt := 17) C.1.1 C.1.2.1 dX2_innermost_1 (by decide) (fun c9 => ?_) (fun c9 => ?_)
  · replace hD := g_pos c9 hD
    exact hb17 M L _ _ ls hD hw (lv_sub hl [0, 1] rfl)
  · replace hD := g_neg c9 hD
    refine lv_aload_n C.1.1 C.1.2.1 dX2_innermost_4 rfl (lv_at hl 0 rfl) ?_
    refine mr_getR C hw kc_2 0 (Ch_N0 hk0) (Ch_T0 hk0) (Ch_F0_0 hk0) wd_444 dX2_innermost_5 (by decide) rfl ?_
    refine lv_iconst (v := 5) C.1.1 C.1.2.1 dX2_innermost_8 (by decide) ?_
    refine mr_aald C hw (Ch_N1 hk0) (Ch_T1 hk0) (by decide) (by decide) rfl rfl (show vp_in 5 18 from by unfold vp_in; decide) (Ch_R1 hk0 _ (by decide : 5 < 18)).1 dX2_innermost_9 ?_
    refine lv_iload_n C.1.1 C.1.2.1 dX2_innermost_10 rfl (lv_at hl 1 rfl) ?_
    obtain ⟨q11, hD⟩ := g_ck hD
    refine mr_iald C hw (Ch_N7 hk0) (Ch_T7 hk0) q11 dX2_innermost_11 ?_
    refine lv_if_ne (tgt := 17) C.1.1 C.1.2.1 dX2_innermost_12 (by decide) (fun c12 => ?_) (fun c12 => ?_)
    · replace hD := g_neg c12 hD
      exact hb17 M L _ _ ls hD hw (lv_sub hl [0, 1] rfl)
    · replace hD := g_pos c12 hD
      refine lv_iconst (v := 0) C.1.1 C.1.2.1 dX2_innermost_15 (by decide) ?_
      exact mr_iret C hr hlocks hw rfl (Option.some.inj hD) dX2_innermost_16

theorem dX2_covered_0 : decode cX2_covered 0 = .ok (.iconst 0, 1) := by decide +kernel
theorem dX2_covered_1 : decode cX2_covered 1 = .ok (.istore_n 2, 1) := by decide +kernel
theorem dX2_covered_2 : decode cX2_covered 2 = .ok (.iload_n 1, 1) := by decide +kernel
theorem dX2_covered_3 : decode cX2_covered 3 = .ok (.ifCond .ne 33, 3) := by decide +kernel
theorem dX2_covered_6 : decode cX2_covered 6 = .ok (.iconst 1, 1) := by decide +kernel
theorem dX2_covered_7 : decode cX2_covered 7 = .ok (.istore_n 3, 1) := by decide +kernel
theorem dX2_covered_8 : decode cX2_covered 8 = .ok (.iload_n 3, 1) := by decide +kernel
theorem dX2_covered_9 : decode cX2_covered 9 = .ok (.aload_n 0, 1) := by decide +kernel
theorem dX2_covered_10 : decode cX2_covered 10 = .ok (.getfield 37, 3) := by decide +kernel
theorem dX2_covered_13 : decode cX2_covered 13 = .ok (.if_icmp .gt 21, 3) := by decide +kernel
theorem dX2_covered_16 : decode cX2_covered 16 = .ok (.iload_n 2, 1) := by decide +kernel
theorem dX2_covered_17 : decode cX2_covered 17 = .ok (.aload_n 0, 1) := by decide +kernel
theorem dX2_covered_18 : decode cX2_covered 18 = .ok (.getfield 13, 3) := by decide +kernel
theorem dX2_covered_21 : decode cX2_covered 21 = .ok (.bipush 15, 2) := by decide +kernel
theorem dX2_covered_23 : decode cX2_covered 23 = .ok (.aaload, 1) := by decide +kernel
theorem dX2_covered_24 : decode cX2_covered 24 = .ok (.iload_n 3, 1) := by decide +kernel
theorem dX2_covered_25 : decode cX2_covered 25 = .ok (.iaload, 1) := by decide +kernel
theorem dX2_covered_26 : decode cX2_covered 26 = .ok (.iadd, 1) := by decide +kernel
theorem dX2_covered_27 : decode cX2_covered 27 = .ok (.istore_n 2, 1) := by decide +kernel
theorem dX2_covered_28 : decode cX2_covered 28 = .ok (.iinc 3 1, 3) := by decide +kernel
theorem dX2_covered_31 : decode cX2_covered 31 = .ok (.goto (-23), 3) := by decide +kernel
theorem dX2_covered_34 : decode cX2_covered 34 = .ok (.iload_n 2, 1) := by decide +kernel
theorem dX2_covered_35 : decode cX2_covered 35 = .ok (.ireturn, 1) := by decide +kernel
theorem dX2_covered_36 : decode cX2_covered 36 = .ok (.iload_n 1, 1) := by decide +kernel
theorem dX2_covered_37 : decode cX2_covered 37 = .ok (.iconst 4, 1) := by decide +kernel
theorem dX2_covered_38 : decode cX2_covered 38 = .ok (.if_icmp .ne 8, 3) := by decide +kernel
theorem dX2_covered_41 : decode cX2_covered 41 = .ok (.aload_n 0, 1) := by decide +kernel
theorem dX2_covered_42 : decode cX2_covered 42 = .ok (.getfield 61, 3) := by decide +kernel
theorem dX2_covered_45 : decode cX2_covered 45 = .ok (.ireturn, 1) := by decide +kernel
theorem dX2_covered_46 : decode cX2_covered 46 = .ok (.iload_n 1, 1) := by decide +kernel
theorem dX2_covered_47 : decode cX2_covered 47 = .ok (.iconst 1, 1) := by decide +kernel
theorem dX2_covered_48 : decode cX2_covered 48 = .ok (.if_icmp .ne 7, 3) := by decide +kernel
theorem dX2_covered_51 : decode cX2_covered 51 = .ok (.iconst 1, 1) := by decide +kernel
theorem dX2_covered_52 : decode cX2_covered 52 = .ok (.goto 13, 3) := by decide +kernel
theorem dX2_covered_55 : decode cX2_covered 55 = .ok (.iload_n 1, 1) := by decide +kernel
theorem dX2_covered_56 : decode cX2_covered 56 = .ok (.iconst 2, 1) := by decide +kernel
theorem dX2_covered_57 : decode cX2_covered 57 = .ok (.if_icmp .ne 7, 3) := by decide +kernel
theorem dX2_covered_60 : decode cX2_covered 60 = .ok (.iconst 2, 1) := by decide +kernel
theorem dX2_covered_61 : decode cX2_covered 61 = .ok (.goto 4, 3) := by decide +kernel
theorem dX2_covered_64 : decode cX2_covered 64 = .ok (.iconst 4, 1) := by decide +kernel
theorem dX2_covered_65 : decode cX2_covered 65 = .ok (.istore_n 3, 1) := by decide +kernel
theorem dX2_covered_66 : decode cX2_covered 66 = .ok (.iconst 1, 1) := by decide +kernel
theorem dX2_covered_67 : decode cX2_covered 67 = .ok (.istore 4, 2) := by decide +kernel
theorem dX2_covered_69 : decode cX2_covered 69 = .ok (.iload 4, 2) := by decide +kernel
theorem dX2_covered_71 : decode cX2_covered 71 = .ok (.aload_n 0, 1) := by decide +kernel
theorem dX2_covered_72 : decode cX2_covered 72 = .ok (.getfield 40, 3) := by decide +kernel
theorem dX2_covered_75 : decode cX2_covered 75 = .ok (.if_icmp .gt 31, 3) := by decide +kernel
theorem dX2_covered_78 : decode cX2_covered 78 = .ok (.iload_n 2, 1) := by decide +kernel
theorem dX2_covered_79 : decode cX2_covered 79 = .ok (.aload_n 0, 1) := by decide +kernel
theorem dX2_covered_80 : decode cX2_covered 80 = .ok (.getfield 16, 3) := by decide +kernel
theorem dX2_covered_83 : decode cX2_covered 83 = .ok (.iconst 5, 1) := by decide +kernel
theorem dX2_covered_84 : decode cX2_covered 84 = .ok (.aaload, 1) := by decide +kernel
theorem dX2_covered_85 : decode cX2_covered 85 = .ok (.iload 4, 2) := by decide +kernel
theorem dX2_covered_87 : decode cX2_covered 87 = .ok (.iaload, 1) := by decide +kernel
theorem dX2_covered_88 : decode cX2_covered 88 = .ok (.iload_n 3, 1) := by decide +kernel
theorem dX2_covered_89 : decode cX2_covered 89 = .ok (.iand, 1) := by decide +kernel
theorem dX2_covered_90 : decode cX2_covered 90 = .ok (.ifCond .eq 7, 3) := by decide +kernel
theorem dX2_covered_93 : decode cX2_covered 93 = .ok (.iconst 1, 1) := by decide +kernel
theorem dX2_covered_94 : decode cX2_covered 94 = .ok (.goto 4, 3) := by decide +kernel
theorem dX2_covered_97 : decode cX2_covered 97 = .ok (.iconst 0, 1) := by decide +kernel
theorem dX2_covered_98 : decode cX2_covered 98 = .ok (.iadd, 1) := by decide +kernel
theorem dX2_covered_99 : decode cX2_covered 99 = .ok (.istore_n 2, 1) := by decide +kernel
theorem dX2_covered_100 : decode cX2_covered 100 = .ok (.iinc 4 1, 3) := by decide +kernel
theorem dX2_covered_103 : decode cX2_covered 103 = .ok (.goto (-34), 3) := by decide +kernel
theorem dX2_covered_106 : decode cX2_covered 106 = .ok (.iload_n 2, 1) := by decide +kernel
theorem dX2_covered_107 : decode cX2_covered 107 = .ok (.ireturn, 1) := by decide +kernel
theorem cwX2_covered : mw_cwV yX2_covered cX2_covered 5 ((some .int)) 1 := ⟨⟨wd_12, wd_1888, by decide +kernel⟩, wd_1886, wd_1887⟩
noncomputable def fX2_covered_i8 (fu : Nat) (k : Nat) (a1 : Int32) (r8 : (Int32 × Int32 × mwM × mwL) → Option (Int32 × mwM × mwL)) (v2 : Int32) (v3 : Int32) (M : mwM) (L : mwL) : Option (Int32 × mwM × mwL) :=
  (if (M k 7) < v3 then some (v2, M, L) else mck v3 201 (mlet (v2 + (M (k + 17) v3.toNatClampNeg)) (fun x4 => mlet (v3 + 1) (fun x5 => r8 (x4, x5, M, L)))))
noncomputable def fX2_covered_h8 (fu : Nat) (k : Nat) (a1 : Int32) : Nat → (Int32 × Int32 × mwM × mwL) → Option (Int32 × mwM × mwL) := mloop (fun r8 s => fX2_covered_i8 fu k a1 r8 s.1 s.2.1 s.2.2.1 s.2.2.2)
noncomputable def fX2_covered_b98 (fu : Nat) (k : Nat) (a1 : Int32) (r69 : (Int32 × Int32 × Int32 × mwM × mwL) → Option (Int32 × mwM × mwL)) (v3 : Int32) (v4 : Int32) (s0 : Int32) (s1 : Int32) (M : mwM) (L : mwL) : Option (Int32 × mwM × mwL) :=
  mlet (s0 + s1) (fun x10 => mlet (v4 + 1) (fun x11 => r69 (x10, v3, x11, M, L)))
noncomputable def fX2_covered_i69 (fu : Nat) (k : Nat) (a1 : Int32) (r69 : (Int32 × Int32 × Int32 × mwM × mwL) → Option (Int32 × mwM × mwL)) (v2 : Int32) (v3 : Int32) (v4 : Int32) (M : mwM) (L : mwL) : Option (Int32 × mwM × mwL) :=
  (if (M k 8) < v4 then some (v2, M, L) else mck v4 401 ((if ((M (k + 26) v4.toNatClampNeg) &&& v3) = 0 then fX2_covered_b98 fu k a1 r69 v3 v4 v2 0 M L else fX2_covered_b98 fu k a1 r69 v3 v4 v2 1 M L)))
noncomputable def fX2_covered_h69 (fu : Nat) (k : Nat) (a1 : Int32) : Nat → (Int32 × Int32 × Int32 × mwM × mwL) → Option (Int32 × mwM × mwL) := mloop (fun r69 s => fX2_covered_i69 fu k a1 r69 s.1 s.2.1 s.2.2.1 s.2.2.2.1 s.2.2.2.2)
noncomputable def fX2_covered_b65 (fu : Nat) (k : Nat) (a1 : Int32) (v2 : Int32) (s0 : Int32) (M : mwM) (L : mwL) : Option (Int32 × mwM × mwL) :=
  fX2_covered_h69 fu k a1 fu (v2, s0, 1, M, L)
noncomputable def DX2_covered (fu : Nat) (k : Nat) (a1 : Int32) (M : mwM) (L : mwL) : Option (Int32 × mwM × mwL) :=
  (if a1 = 0 then fX2_covered_h8 fu k a1 fu (0, 1, M, L) else (if a1 = 4 then some (M k 15, M, L) else (if a1 = 1 then fX2_covered_b65 fu k a1 0 1 M L else (if a1 = 2 then fX2_covered_b65 fu k a1 0 2 M L else fX2_covered_b65 fu k a1 0 4 M L))))
set_option maxHeartbeats 4000000 in
set_option maxRecDepth 100000 in
theorem tX2_covered (l : Launch) (G : mwG) (ad : Nat → Nat) (fu : Nat) (k : Nat) (a1 : Int32) (M : mwM) (L : mwL) {r0 : Int32} {M0 : mwM} {L0 : mwL} (hD : DX2_covered fu k a1 M L = some (r0, M0, L0)) (hk0 : isCh k) : Met l yX2_covered (Cond.code yX2_covered cX2_covered 5 ((some .int)) :: GT) ({ frames := 0, cells := 0, slots := 0, locals := 0 }) (mw_Pre G ad NF TF FF M L [.ref (ad k), .int a1]) (mw_Qi G ad NF TF FF (mw_eqI r0 M0 L0)) 0 0 (mw_fr G) := by
  refine mw_enter (by decide) (Nat.le_of_ble_eq_true rfl) ?_
  intro p e s m below meth c ls C hr hlocks hnm hw hl
  have hl : lv_has ls 5 [(0, .ref (ad k)), (1, .int a1)] := hl
  have hh8 : ∀ (f : Nat) (v2 : Int32) (v3 : Int32) (M : mwM) (L : mwL) (H : Heap) (locs : List Loc) (ls : Array Slot), fX2_covered_h8 fu k a1 f (v2, v3, M, L) = some (r0, M0, L0) → mw_W G ad NF TF FF M L H locs → lv_has ls 5 [(0, .ref (ad k)), (2, .int v2), (3, .int v3)] → W p l e ({ frames := 0, cells := 0, slots := 0, locals := 0 }) s m [.ref (ad k), .int a1].toArray below meth c H locs 0 0 (MQ below (mw_Qi G ad NF TF FF (mw_eqI r0 M0 L0)) [.ref (ad k), .int a1].toArray s 0 0 (mw_fr G)) (F0 m 8 ls []) := by
    intro f
    induction f with
    | zero => intro v2 v3 M L H locs ls hD; cases hD
    | succ f8 ih8 =>
      intro v2 v3 M L H locs ls hD hw hl
      replace hD : fX2_covered_i8 fu k a1 (fX2_covered_h8 fu k a1 f8) v2 v3 M L = some (r0, M0, L0) := hD
      unfold fX2_covered_i8 at hD
      refine lv_iload_n C.1.1 C.1.2.1 dX2_covered_8 rfl (lv_at hl 2 rfl) ?_
      refine lv_aload_n C.1.1 C.1.2.1 dX2_covered_9 rfl (lv_at hl 0 rfl) ?_
      refine mr_getI C hw kc_2 7 (Ch_N0 hk0) (Ch_T0 hk0) wd_458 dX2_covered_10 (by decide) rfl ?_
      refine lv_icmp_gt (tgt := 34) C.1.1 C.1.2.1 dX2_covered_13 (by decide) (fun c1 => ?_) (fun c1 => ?_)
      · replace hD := g_pos c1 hD
        refine lv_iload_n C.1.1 C.1.2.1 dX2_covered_34 rfl (lv_at hl 1 rfl) ?_
        exact mr_iret C hr hlocks hw rfl (Option.some.inj hD) dX2_covered_35
      · replace hD := g_neg c1 hD
        refine lv_iload_n C.1.1 C.1.2.1 dX2_covered_16 rfl (lv_at hl 1 rfl) ?_
        refine lv_aload_n C.1.1 C.1.2.1 dX2_covered_17 rfl (lv_at hl 0 rfl) ?_
        refine mr_getR C hw kc_2 0 (Ch_N0 hk0) (Ch_T0 hk0) (Ch_F0_0 hk0) wd_444 dX2_covered_18 (by decide) rfl ?_
        refine lv_bipush (v := 15) C.1.1 C.1.2.1 dX2_covered_21 (by decide) ?_
        refine mr_aald C hw (Ch_N1 hk0) (Ch_T1 hk0) (by decide) (by decide) rfl rfl (show vp_in 15 18 from by unfold vp_in; decide) (Ch_R1 hk0 _ (by decide : 15 < 18)).1 dX2_covered_23 ?_
        refine lv_iload_n C.1.1 C.1.2.1 dX2_covered_24 rfl (lv_at hl 2 rfl) ?_
        obtain ⟨q3, hD⟩ := g_ck hD
        refine mr_iald C hw (Ch_N17 hk0) (Ch_T17 hk0) q3 dX2_covered_25 ?_
        refine lv_iadd C.1.1 C.1.2.1 dX2_covered_26 ?_
        obtain ⟨x4, ex4, hD⟩ := g_let hD
        refine W.eq (g2 := F0 m 27 ls (.int x4 :: [])) (by rw [ex4]) ?_
        refine lv_istore_n (lv' := [(2, .int x4), (0, .ref (ad k)), (3, .int v3)]) C.1.1 C.1.2.1 dX2_covered_27 rfl hl (by decide) rfl (fun ls hl => ?_)
        obtain ⟨x5, ex5, hD⟩ := g_let hD
        refine lv_iinc (v := x5) (lv' := [(3, .int x5), (2, .int x4), (0, .ref (ad k))]) C.1.1 C.1.2.1 dX2_covered_28 hl (k := 2) rfl (by rw [ex5]; rfl) (by decide) rfl (fun ls hl => ?_)
        refine lv_goto (tgt := 8) C.1.1 C.1.2.1 dX2_covered_31 (by decide) ?_
        exact ih8 x4 x5 M L _ _ ls hD hw (lv_sub hl [2, 1, 0] rfl)
  have hh69 : ∀ (f : Nat) (v2 : Int32) (v3 : Int32) (v4 : Int32) (M : mwM) (L : mwL) (H : Heap) (locs : List Loc) (ls : Array Slot), fX2_covered_h69 fu k a1 f (v2, v3, v4, M, L) = some (r0, M0, L0) → mw_W G ad NF TF FF M L H locs → lv_has ls 5 [(0, .ref (ad k)), (2, .int v2), (3, .int v3), (4, .int v4)] → W p l e ({ frames := 0, cells := 0, slots := 0, locals := 0 }) s m [.ref (ad k), .int a1].toArray below meth c H locs 0 0 (MQ below (mw_Qi G ad NF TF FF (mw_eqI r0 M0 L0)) [.ref (ad k), .int a1].toArray s 0 0 (mw_fr G)) (F0 m 69 ls []) := by
    intro f
    induction f with
    | zero => intro v2 v3 v4 M L H locs ls hD; cases hD
    | succ f69 ih69 =>
      intro v2 v3 v4 M L H locs ls hD hw hl
      replace hD : fX2_covered_i69 fu k a1 (fX2_covered_h69 fu k a1 f69) v2 v3 v4 M L = some (r0, M0, L0) := hD
      have hb98 : ∀ (v3 : Int32) (v4 : Int32) (s0 : Int32) (s1 : Int32) (M : mwM) (L : mwL) (H : Heap) (locs : List Loc) (ls : Array Slot), fX2_covered_b98 fu k a1 (fX2_covered_h69 fu k a1 f69) v3 v4 s0 s1 M L = some (r0, M0, L0) → mw_W G ad NF TF FF M L H locs → lv_has ls 5 [(0, .ref (ad k)), (3, .int v3), (4, .int v4)] → W p l e ({ frames := 0, cells := 0, slots := 0, locals := 0 }) s m [.ref (ad k), .int a1].toArray below meth c H locs 0 0 (MQ below (mw_Qi G ad NF TF FF (mw_eqI r0 M0 L0)) [.ref (ad k), .int a1].toArray s 0 0 (mw_fr G)) (F0 m 98 ls [.int s1, .int s0]) := by
        intro v3 v4 s0 s1 M L H locs ls hD hw hl
        unfold fX2_covered_b98 at hD
        refine lv_iadd C.1.1 C.1.2.1 dX2_covered_98 ?_
        obtain ⟨x10, ex10, hD⟩ := g_let hD
        refine W.eq (g2 := F0 m 99 ls (.int x10 :: [])) (by rw [ex10]) ?_
        refine lv_istore_n (lv' := [(2, .int x10), (0, .ref (ad k)), (3, .int v3), (4, .int v4)]) C.1.1 C.1.2.1 dX2_covered_99 rfl hl (by decide) rfl (fun ls hl => ?_)
        obtain ⟨x11, ex11, hD⟩ := g_let hD
        refine lv_iinc (v := x11) (lv' := [(4, .int x11), (2, .int x10), (0, .ref (ad k)), (3, .int v3)]) C.1.1 C.1.2.1 dX2_covered_100 hl (k := 3) rfl (by rw [ex11]; rfl) (by decide) rfl (fun ls hl => ?_)
        refine lv_goto (tgt := 69) C.1.1 C.1.2.1 dX2_covered_103 (by decide) ?_
        exact ih69 x10 v3 x11 M L _ _ ls hD hw (lv_sub hl [2, 1, 3, 0] rfl)
      unfold fX2_covered_i69 at hD
      refine lv_iload C.1.1 C.1.2.1 dX2_covered_69 (lv_at hl 3 rfl) ?_
      refine lv_aload_n C.1.1 C.1.2.1 dX2_covered_71 rfl (lv_at hl 0 rfl) ?_
      refine mr_getI C hw kc_2 8 (Ch_N0 hk0) (Ch_T0 hk0) wd_460 dX2_covered_72 (by decide) rfl ?_
      refine lv_icmp_gt (tgt := 106) C.1.1 C.1.2.1 dX2_covered_75 (by decide) (fun c6 => ?_) (fun c6 => ?_)
      · replace hD := g_pos c6 hD
        refine lv_iload_n C.1.1 C.1.2.1 dX2_covered_106 rfl (lv_at hl 1 rfl) ?_
        exact mr_iret C hr hlocks hw rfl (Option.some.inj hD) dX2_covered_107
      · replace hD := g_neg c6 hD
        refine lv_iload_n C.1.1 C.1.2.1 dX2_covered_78 rfl (lv_at hl 1 rfl) ?_
        refine lv_aload_n C.1.1 C.1.2.1 dX2_covered_79 rfl (lv_at hl 0 rfl) ?_
        refine mr_getR C hw kc_2 1 (Ch_N0 hk0) (Ch_T0 hk0) (Ch_F0_1 hk0) wd_445 dX2_covered_80 (by decide) rfl ?_
        refine lv_iconst (v := 5) C.1.1 C.1.2.1 dX2_covered_83 (by decide) ?_
        refine mr_aald C hw (Ch_N20 hk0) (Ch_T20 hk0) (by decide) (by decide) rfl rfl (show vp_in 5 7 from by unfold vp_in; decide) (Ch_R20 hk0 _ (by decide : 5 < 7)).1 dX2_covered_84 ?_
        refine lv_iload C.1.1 C.1.2.1 dX2_covered_85 (lv_at hl 3 rfl) ?_
        obtain ⟨q8, hD⟩ := g_ck hD
        refine mr_iald C hw (Ch_N26 hk0) (Ch_T26 hk0) q8 dX2_covered_87 ?_
        refine lv_iload_n C.1.1 C.1.2.1 dX2_covered_88 rfl (lv_at hl 2 rfl) ?_
        refine lv_iand C.1.1 C.1.2.1 dX2_covered_89 ?_
        refine lv_if_eq (tgt := 97) C.1.1 C.1.2.1 dX2_covered_90 (by decide) (fun c9 => ?_) (fun c9 => ?_)
        · replace hD := g_pos c9 hD
          refine lv_iconst (v := 0) C.1.1 C.1.2.1 dX2_covered_97 (by decide) ?_
          exact hb98 v3 v4 v2 0 M L _ _ ls hD hw (lv_sub hl [0, 2, 3] rfl)
        · replace hD := g_neg c9 hD
          refine lv_iconst (v := 1) C.1.1 C.1.2.1 dX2_covered_93 (by decide) ?_
          refine lv_goto (tgt := 98) C.1.1 C.1.2.1 dX2_covered_94 (by decide) ?_
          exact hb98 v3 v4 v2 1 M L _ _ ls hD hw (lv_sub hl [0, 2, 3] rfl)
  have hb65 : ∀ (v2 : Int32) (s0 : Int32) (M : mwM) (L : mwL) (H : Heap) (locs : List Loc) (ls : Array Slot), fX2_covered_b65 fu k a1 v2 s0 M L = some (r0, M0, L0) → mw_W G ad NF TF FF M L H locs → lv_has ls 5 [(0, .ref (ad k)), (2, .int v2)] → W p l e ({ frames := 0, cells := 0, slots := 0, locals := 0 }) s m [.ref (ad k), .int a1].toArray below meth c H locs 0 0 (MQ below (mw_Qi G ad NF TF FF (mw_eqI r0 M0 L0)) [.ref (ad k), .int a1].toArray s 0 0 (mw_fr G)) (F0 m 65 ls [.int s0]) := by
    intro v2 s0 M L H locs ls hD hw hl
    unfold fX2_covered_b65 at hD
    refine lv_istore_n (lv' := [(3, .int s0), (0, .ref (ad k)), (2, .int v2)]) C.1.1 C.1.2.1 dX2_covered_65 rfl hl (by decide) rfl (fun ls hl => ?_)
    refine lv_iconst (v := 1) C.1.1 C.1.2.1 dX2_covered_66 (by decide) ?_
    refine lv_istore (lv' := [(4, .int 1), (3, .int s0), (0, .ref (ad k)), (2, .int v2)]) C.1.1 C.1.2.1 dX2_covered_67 hl (by decide) rfl (fun ls hl => ?_)
    exact hh69 fu v2 s0 1 M L _ _ ls hD hw (lv_sub hl [2, 3, 1, 0] rfl)
  unfold DX2_covered at hD
  refine lv_iconst (v := 0) C.1.1 C.1.2.1 dX2_covered_0 (by decide) ?_
  refine lv_istore_n (lv' := [(2, .int 0), (0, .ref (ad k)), (1, .int a1)]) C.1.1 C.1.2.1 dX2_covered_1 rfl hl (by decide) rfl (fun ls hl => ?_)
  refine lv_iload_n C.1.1 C.1.2.1 dX2_covered_2 rfl (lv_at hl 2 rfl) ?_
  refine lv_if_ne (tgt := 36) C.1.1 C.1.2.1 dX2_covered_3 (by decide) (fun c12 => ?_) (fun c12 => ?_)
  · replace hD := g_neg c12 hD
    refine lv_iload_n C.1.1 C.1.2.1 dX2_covered_36 rfl (lv_at hl 2 rfl) ?_
    refine lv_iconst (v := 4) C.1.1 C.1.2.1 dX2_covered_37 (by decide) ?_
    refine lv_icmp_ne (tgt := 46) C.1.1 C.1.2.1 dX2_covered_38 (by decide) (fun c13 => ?_) (fun c13 => ?_)
    · replace hD := g_neg c13 hD
      refine lv_iload_n C.1.1 C.1.2.1 dX2_covered_46 rfl (lv_at hl 2 rfl) ?_
      refine lv_iconst (v := 1) C.1.1 C.1.2.1 dX2_covered_47 (by decide) ?_
      refine lv_icmp_ne (tgt := 55) C.1.1 C.1.2.1 dX2_covered_48 (by decide) (fun c14 => ?_) (fun c14 => ?_)
      · replace hD := g_neg c14 hD
        refine lv_iload_n C.1.1 C.1.2.1 dX2_covered_55 rfl (lv_at hl 2 rfl) ?_
        refine lv_iconst (v := 2) C.1.1 C.1.2.1 dX2_covered_56 (by decide) ?_
        refine lv_icmp_ne (tgt := 64) C.1.1 C.1.2.1 dX2_covered_57 (by decide) (fun c15 => ?_) (fun c15 => ?_)
        · replace hD := g_neg c15 hD
          refine lv_iconst (v := 4) C.1.1 C.1.2.1 dX2_covered_64 (by decide) ?_
          exact hb65 0 4 M L _ _ ls hD hw (lv_sub hl [1, 0] rfl)
        · replace hD := g_pos c15 hD
          refine lv_iconst (v := 2) C.1.1 C.1.2.1 dX2_covered_60 (by decide) ?_
          refine lv_goto (tgt := 65) C.1.1 C.1.2.1 dX2_covered_61 (by decide) ?_
          exact hb65 0 2 M L _ _ ls hD hw (lv_sub hl [1, 0] rfl)
      · replace hD := g_pos c14 hD
        refine lv_iconst (v := 1) C.1.1 C.1.2.1 dX2_covered_51 (by decide) ?_
        refine lv_goto (tgt := 65) C.1.1 C.1.2.1 dX2_covered_52 (by decide) ?_
        exact hb65 0 1 M L _ _ ls hD hw (lv_sub hl [1, 0] rfl)
    · replace hD := g_pos c13 hD
      refine lv_aload_n C.1.1 C.1.2.1 dX2_covered_41 rfl (lv_at hl 1 rfl) ?_
      refine mr_getI C hw kc_2 15 (Ch_N0 hk0) (Ch_T0 hk0) wd_471 dX2_covered_42 (by decide) rfl ?_
      exact mr_iret C hr hlocks hw rfl (Option.some.inj hD) dX2_covered_45
  · replace hD := g_pos c12 hD
    refine lv_iconst (v := 1) C.1.1 C.1.2.1 dX2_covered_6 (by decide) ?_
    refine lv_istore_n (lv' := [(3, .int 1), (2, .int 0), (0, .ref (ad k)), (1, .int a1)]) C.1.1 C.1.2.1 dX2_covered_7 rfl hl (by decide) rfl (fun ls hl => ?_)
    exact hh8 fu 0 1 M L _ _ ls hD hw (lv_sub hl [2, 1, 0] rfl)
