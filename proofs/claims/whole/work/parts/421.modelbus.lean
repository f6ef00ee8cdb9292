theorem dX12_body_0 : decode cX12_body 0 = .ok (.aload_n 0, 1) := by decide +kernel
theorem dX12_body_1 : decode cX12_body 1 = .ok (.getfield 114, 3) := by decide +kernel
theorem dX12_body_4 : decode cX12_body 4 = .ok (.aload_n 0, 1) := by decide +kernel
theorem dX12_body_5 : decode cX12_body 5 = .ok (.getfield 58, 3) := by decide +kernel
theorem dX12_body_8 : decode cX12_body 8 = .ok (.iload_n 1, 1) := by decide +kernel
theorem dX12_body_9 : decode cX12_body 9 = .ok (.iaload, 1) := by decide +kernel
theorem dX12_body_10 : decode cX12_body 10 = .ok (.if_icmp .ne 7, 3) := by decide +kernel
theorem dX12_body_13 : decode cX12_body 13 = .ok (.iconst 1, 1) := by decide +kernel
theorem dX12_body_14 : decode cX12_body 14 = .ok (.goto 4, 3) := by decide +kernel
theorem dX12_body_17 : decode cX12_body 17 = .ok (.iconst 0, 1) := by decide +kernel
theorem dX12_body_18 : decode cX12_body 18 = .ok (.istore_n 2, 1) := by decide +kernel
theorem dX12_body_19 : decode cX12_body 19 = .ok (.iconst 0, 1) := by decide +kernel
theorem dX12_body_20 : decode cX12_body 20 = .ok (.istore_n 3, 1) := by decide +kernel
theorem dX12_body_21 : decode cX12_body 21 = .ok (.iload_n 3, 1) := by decide +kernel
theorem dX12_body_22 : decode cX12_body 22 = .ok (.aload_n 0, 1) := by decide +kernel
theorem dX12_body_23 : decode cX12_body 23 = .ok (.getfield 114, 3) := by decide +kernel
theorem dX12_body_26 : decode cX12_body 26 = .ok (.if_icmp .ge 40, 3) := by decide +kernel
theorem dX12_body_29 : decode cX12_body 29 = .ok (.iload_n 2, 1) := by decide +kernel
theorem dX12_body_30 : decode cX12_body 30 = .ok (.ifCond .eq 36, 3) := by decide +kernel
theorem dX12_body_33 : decode cX12_body 33 = .ok (.aload_n 0, 1) := by decide +kernel
theorem dX12_body_34 : decode cX12_body 34 = .ok (.getfield 111, 3) := by decide +kernel
theorem dX12_body_37 : decode cX12_body 37 = .ok (.iload_n 3, 1) := by decide +kernel
theorem dX12_body_38 : decode cX12_body 38 = .ok (.baload, 1) := by decide +kernel
theorem dX12_body_39 : decode cX12_body 39 = .ok (.aload_n 0, 1) := by decide +kernel
theorem dX12_body_40 : decode cX12_body 40 = .ok (.getfield 61, 3) := by decide +kernel
theorem dX12_body_43 : decode cX12_body 43 = .ok (.sipush 1200, 3) := by decide +kernel
theorem dX12_body_46 : decode cX12_body 46 = .ok (.iload_n 1, 1) := by decide +kernel
theorem dX12_body_47 : decode cX12_body 47 = .ok (.imul, 1) := by decide +kernel
theorem dX12_body_48 : decode cX12_body 48 = .ok (.iload_n 3, 1) := by decide +kernel
theorem dX12_body_49 : decode cX12_body 49 = .ok (.iadd, 1) := by decide +kernel
theorem dX12_body_50 : decode cX12_body 50 = .ok (.baload, 1) := by decide +kernel
theorem dX12_body_51 : decode cX12_body 51 = .ok (.if_icmp .ne 7, 3) := by decide +kernel
theorem dX12_body_54 : decode cX12_body 54 = .ok (.iconst 1, 1) := by decide +kernel
theorem dX12_body_55 : decode cX12_body 55 = .ok (.goto 4, 3) := by decide +kernel
theorem dX12_body_58 : decode cX12_body 58 = .ok (.iconst 0, 1) := by decide +kernel
theorem dX12_body_59 : decode cX12_body 59 = .ok (.istore_n 2, 1) := by decide +kernel
theorem dX12_body_60 : decode cX12_body 60 = .ok (.iinc 3 1, 3) := by decide +kernel
theorem dX12_body_63 : decode cX12_body 63 = .ok (.goto (-42), 3) := by decide +kernel
theorem dX12_body_66 : decode cX12_body 66 = .ok (.iload_n 2, 1) := by decide +kernel
theorem dX12_body_67 : decode cX12_body 67 = .ok (.ifCond .eq 8, 3) := by decide +kernel
theorem dX12_body_70 : decode cX12_body 70 = .ok (.aload_n 0, 1) := by decide +kernel
theorem dX12_body_71 : decode cX12_body 71 = .ok (.getfield 203, 3) := by decide +kernel
theorem dX12_body_74 : decode cX12_body 74 = .ok (.ireturn, 1) := by decide +kernel
theorem dX12_body_75 : decode cX12_body 75 = .ok (.aload_n 0, 1) := by decide +kernel
theorem dX12_body_76 : decode cX12_body 76 = .ok (.aload_n 0, 1) := by decide +kernel
theorem dX12_body_77 : decode cX12_body 77 = .ok (.iload_n 1, 1) := by decide +kernel
theorem dX12_body_78 : decode cX12_body 78 = .ok (.invokevirtual 206, 3) := by decide +kernel
theorem dX12_body_81 : decode cX12_body 81 = .ok (.putfield 203, 3) := by decide +kernel
theorem dX12_body_84 : decode cX12_body 84 = .ok (.aload_n 0, 1) := by decide +kernel
theorem dX12_body_85 : decode cX12_body 85 = .ok (.aload_n 0, 1) := by decide +kernel
theorem dX12_body_86 : decode cX12_body 86 = .ok (.getfield 58, 3) := by decide +kernel
theorem dX12_body_89 : decode cX12_body 89 = .ok (.iload_n 1, 1) := by decide +kernel
theorem dX12_body_90 : decode cX12_body 90 = .ok (.iaload, 1) := by decide +kernel
theorem dX12_body_91 : decode cX12_body 91 = .ok (.putfield 114, 3) := by decide +kernel
theorem dX12_body_94 : decode cX12_body 94 = .ok (.iconst 0, 1) := by decide +kernel
theorem dX12_body_95 : decode cX12_body 95 = .ok (.istore_n 3, 1) := by decide +kernel
theorem dX12_body_96 : decode cX12_body 96 = .ok (.iload_n 3, 1) := by decide +kernel
theorem dX12_body_97 : decode cX12_body 97 = .ok (.aload_n 0, 1) := by decide +kernel
theorem dX12_body_98 : decode cX12_body 98 = .ok (.getfield 114, 3) := by decide +kernel
theorem dX12_body_101 : decode cX12_body 101 = .ok (.if_icmp .ge 27, 3) := by decide +kernel
theorem dX12_body_104 : decode cX12_body 104 = .ok (.aload_n 0, 1) := by decide +kernel
theorem dX12_body_105 : decode cX12_body 105 = .ok (.getfield 111, 3) := by decide +kernel
theorem dX12_body_108 : decode cX12_body 108 = .ok (.iload_n 3, 1) := by decide +kernel
theorem dX12_body_109 : decode cX12_body 109 = .ok (.aload_n 0, 1) := by decide +kernel
theorem dX12_body_110 : decode cX12_body 110 = .ok (.getfield 61, 3) := by decide +kernel
theorem dX12_body_113 : decode cX12_body 113 = .ok (.sipush 1200, 3) := by decide +kernel
theorem dX12_body_116 : decode cX12_body 116 = .ok (.iload_n 1, 1) := by decide +kernel
theorem dX12_body_117 : decode cX12_body 117 = .ok (.imul, 1) := by decide +kernel
theorem dX12_body_118 : decode cX12_body 118 = .ok (.iload_n 3, 1) := by decide +kernel
theorem dX12_body_119 : decode cX12_body 119 = .ok (.iadd, 1) := by decide +kernel
theorem dX12_body_120 : decode cX12_body 120 = .ok (.baload, 1) := by decide +kernel
theorem dX12_body_121 : decode cX12_body 121 = .ok (.bastore, 1) := by decide +kernel
theorem dX12_body_122 : decode cX12_body 122 = .ok (.iinc 3 1, 3) := by decide +kernel
theorem dX12_body_125 : decode cX12_body 125 = .ok (.goto (-29), 3) := by decide +kernel
theorem dX12_body_128 : decode cX12_body 128 = .ok (.aload_n 0, 1) := by decide +kernel
theorem dX12_body_129 : decode cX12_body 129 = .ok (.getfield 203, 3) := by decide +kernel
theorem dX12_body_132 : decode cX12_body 132 = .ok (.ireturn, 1) := by decide +kernel
theorem cwX12_body : mw_cwV yX12_body cX12_body 4 ((some .int)) 1 := ⟨⟨wd_15, wd_3706, by decide +kernel⟩, wd_3705, sl_242⟩
set_option maxHeartbeats 4000000 in
set_option maxRecDepth 100000 in
theorem tX12_body (l : Launch) (G : mwG) (ad : Nat → Nat) (fu : Nat) (a1 : Int32) (M : mwM) (L : mwL) {r0 : Int32} {M0 : mwM} {L0 : mwL} (hD : DX12_body fu a1 M L = some (r0, M0, L0)) : Met l yX12_body (Cond.code yX12_body cX12_body 4 ((some .int)) :: GT) ({ frames := 3, cells := 0, slots := 0, locals := 80 }) (mw_Pre G ad NF TF FF M L [.ref (ad 821), .int a1]) (mw_Qi G ad NF TF FF (mw_eqI r0 M0 L0)) 0 0 (mw_fr G) := by
  refine mw_enter (by decide) (Nat.le_of_ble_eq_true rfl) ?_
  intro p e s m below meth c ls C hr hlocks hnm hw hl
  have hl : lv_has ls 4 [(0, .ref (ad 821)), (1, .int a1)] := hl
  have hh96 : ∀ (f : Nat) (v3 : Int32) (M : mwM) (L : mwL) (H : Heap) (locs : List Loc) (ls : Array Slot), fX12_body_h96 fu a1 f (v3, M, L) = some (r0, M0, L0) → mw_W G ad NF TF FF M L H locs → lv_has ls 4 [(0, .ref (ad 821)), (1, .int a1), (3, .int v3)] → W p l e ({ frames := 3, cells := 0, slots := 0, locals := 80 }) s m [.ref (ad 821), .int a1].toArray below meth c H locs 0 0 (MQ below (mw_Qi G ad NF TF FF (mw_eqI r0 M0 L0)) [.ref (ad 821), .int a1].toArray s 0 0 (mw_fr G)) (F0 m 96 ls []) := by
    intro f
    induction f with
    | zero => intro v3 M L H locs ls hD; cases hD
    | succ f96 ih96 =>
      intro v3 M L H locs ls hD hw hl
      replace hD : fX12_body_i96 fu a1 (fX12_body_h96 fu a1 f96) v3 M L = some (r0, M0, L0) := hD
      unfold fX12_body_i96 at hD
      refine lv_iload_n C.1.1 C.1.2.1 dX12_body_96 rfl (lv_at hl 2 rfl) ?_
      refine lv_aload_n C.1.1 C.1.2.1 dX12_body_97 rfl (lv_at hl 0 rfl) ?_
      refine mr_getI C hw kc_12 48 (by decide) tf_821 wd_2148 dX12_body_98 (by decide) rfl ?_
      refine lv_icmp_ge (tgt := 128) C.1.1 C.1.2.1 dX12_body_101 (by decide) (fun c14 => ?_) (fun c14 => ?_)
      · replace hD := g_pos c14 hD
        refine lv_aload_n C.1.1 C.1.2.1 dX12_body_128 rfl (lv_at hl 0 rfl) ?_
        refine mr_getI C hw kc_12 49 (by decide) tf_821 wd_2149 dX12_body_129 (by decide) rfl ?_
        exact mr_iret C hr hlocks hw rfl (Option.some.inj hD) dX12_body_132
      · replace hD := g_neg c14 hD
        refine lv_aload_n C.1.1 C.1.2.1 dX12_body_104 rfl (lv_at hl 0 rfl) ?_
        refine mr_getR C hw kc_12 47 (by decide) tf_821 ff_821_47 wd_2147 dX12_body_105 (by decide) rfl ?_
        refine lv_iload_n C.1.1 C.1.2.1 dX12_body_108 rfl (lv_at hl 2 rfl) ?_
        refine lv_aload_n C.1.1 C.1.2.1 dX12_body_109 rfl (lv_at hl 0 rfl) ?_
        refine mr_getR C hw kc_12 20 (by decide) tf_821 ff_821_20 wd_2120 dX12_body_110 (by decide) rfl ?_
        refine lv_sipush (v := 1200) C.1.1 C.1.2.1 dX12_body_113 (by decide) ?_
        refine lv_iload_n C.1.1 C.1.2.1 dX12_body_116 rfl (lv_at hl 1 rfl) ?_
        refine lv_imul C.1.1 C.1.2.1 dX12_body_117 ?_
        refine lv_iload_n C.1.1 C.1.2.1 dX12_body_118 rfl (lv_at hl 2 rfl) ?_
        refine lv_iadd C.1.1 C.1.2.1 dX12_body_119 ?_
        obtain ⟨q15, hD⟩ := g_ck hD
        refine mr_bald C hw (by decide) tf_837 q15 dX12_body_120 ?_
        obtain ⟨q16, hD⟩ := g_ck hD
        obtain ⟨M17, eM17, hD⟩ := g_let hD
        refine mr_bast C hw (by decide) tf_853 q16 dX12_body_121 (fun H locs hw => ?_)
        replace hw : mw_W G ad NF TF FF M17 L H locs := by rw [eM17]; exact hw
        obtain ⟨x18, ex18, hD⟩ := g_let hD
        refine lv_iinc (v := x18) (lv' := [(3, .int x18), (0, .ref (ad 821)), (1, .int a1)]) C.1.1 C.1.2.1 dX12_body_122 hl (k := 2) rfl (by rw [ex18]; rfl) (by decide) rfl (fun ls hl => ?_)
        refine lv_goto (tgt := 96) C.1.1 C.1.2.1 dX12_body_125 (by decide) ?_
        exact ih96 x18 M17 L _ _ ls hD hw (lv_sub hl [1, 2, 0] rfl)
  have hb66 : ∀ (v2 : Int32) (M : mwM) (L : mwL) (H : Heap) (locs : List Loc) (ls : Array Slot), fX12_body_b66 fu a1 v2 M L = some (r0, M0, L0) → mw_W G ad NF TF FF M L H locs → lv_has ls 4 [(0, .ref (ad 821)), (1, .int a1), (2, .int v2)] → W p l e ({ frames := 3, cells := 0, slots := 0, locals := 80 }) s m [.ref (ad 821), .int a1].toArray below meth c H locs 0 0 (MQ below (mw_Qi G ad NF TF FF (mw_eqI r0 M0 L0)) [.ref (ad 821), .int a1].toArray s 0 0 (mw_fr G)) (F0 m 66 ls []) := by
    intro v2 M L H locs ls hD hw hl
    unfold fX12_body_b66 at hD
    refine lv_iload_n C.1.1 C.1.2.1 dX12_body_66 rfl (lv_at hl 2 rfl) ?_
    refine lv_if_eq (tgt := 75) C.1.1 C.1.2.1 dX12_body_67 (by decide) (fun c7 => ?_) (fun c7 => ?_)
    · replace hD := g_pos c7 hD
      refine lv_aload_n C.1.1 C.1.2.1 dX12_body_75 rfl (lv_at hl 0 rfl) ?_
      refine lv_aload_n C.1.1 C.1.2.1 dX12_body_76 rfl (lv_at hl 0 rfl) ?_
      refine lv_iload_n C.1.1 C.1.2.1 dX12_body_77 rfl (lv_at hl 1 rfl) ?_
      obtain ⟨r10, M8, L9, h1, hD⟩ := g_b3 hD
      refine md_cvI (As := [.int a1]) (rest := [.ref (ad 821)]) C hw (tX12_bodyAnew l G ad fu a1 M L h1) kc_12 (by decide) tf_821 wd_3707 cwX12_bodyAnew ⟨Nat.le_of_ble_eq_true rfl, Nat.le_of_ble_eq_true rfl⟩ rfl hl.1 (Nat.le_of_ble_eq_true rfl) dX12_body_78 rfl rfl ⟨Nat.zero_le _, Nat.zero_le _⟩ rfl (fun H locs hw => ?_)
      obtain ⟨M11, eM11, hD⟩ := g_let hD
      refine mr_putI C hw kc_12 49 (by decide) tf_821 wd_2149 dX12_body_81 (by decide) rfl rfl rfl rfl (fun H locs hw => ?_)
      replace hw : mw_W G ad NF TF FF M11 L9 H locs := by rw [eM11]; exact hw
      refine lv_aload_n C.1.1 C.1.2.1 dX12_body_84 rfl (lv_at hl 0 rfl) ?_
      refine lv_aload_n C.1.1 C.1.2.1 dX12_body_85 rfl (lv_at hl 0 rfl) ?_
      refine mr_getR C hw kc_12 19 (by decide) tf_821 ff_821_19 wd_2119 dX12_body_86 (by decide) rfl ?_
      refine lv_iload_n C.1.1 C.1.2.1 dX12_body_89 rfl (lv_at hl 1 rfl) ?_
      obtain ⟨q12, hD⟩ := g_ck hD
      refine mr_iald C hw (by decide) tf_836 q12 dX12_body_90 ?_
      obtain ⟨M13, eM13, hD⟩ := g_let hD
      refine mr_putI C hw kc_12 48 (by decide) tf_821 wd_2148 dX12_body_91 (by decide) rfl rfl rfl rfl (fun H locs hw => ?_)
      replace hw : mw_W G ad NF TF FF M13 L9 H locs := by rw [eM13]; exact hw
      refine lv_iconst (v := 0) C.1.1 C.1.2.1 dX12_body_94 (by decide) ?_
      refine lv_istore_n (lv' := [(3, .int 0), (0, .ref (ad 821)), (1, .int a1), (2, .int v2)]) C.1.1 C.1.2.1 dX12_body_95 rfl hl (by decide) rfl (fun ls hl => ?_)
      exact hh96 fu 0 M13 L9 _ _ ls hD hw (lv_sub hl [1, 2, 0] rfl)
    · replace hD := g_neg c7 hD
      refine lv_aload_n C.1.1 C.1.2.1 dX12_body_70 rfl (lv_at hl 0 rfl) ?_
      refine mr_getI C hw kc_12 49 (by decide) tf_821 wd_2149 dX12_body_71 (by decide) rfl ?_
      exact mr_iret C hr hlocks hw rfl (Option.some.inj hD) dX12_body_74
  have hh21 : ∀ (f : Nat) (v2 : Int32) (v3 : Int32) (M : mwM) (L : mwL) (H : Heap) (locs : List Loc) (ls : Array Slot), fX12_body_h21 fu a1 f (v2, v3, M, L) = some (r0, M0, L0) → mw_W G ad NF TF FF M L H locs → lv_has ls 4 [(0, .ref (ad 821)), (1, .int a1), (2, .int v2), (3, .int v3)] → W p l e ({ frames := 3, cells := 0, slots := 0, locals := 80 }) s m [.ref (ad 821), .int a1].toArray below meth c H locs 0 0 (MQ below (mw_Qi G ad NF TF FF (mw_eqI r0 M0 L0)) [.ref (ad 821), .int a1].toArray s 0 0 (mw_fr G)) (F0 m 21 ls []) := by
    intro f
    induction f with
    | zero => intro v2 v3 M L H locs ls hD; cases hD
    | succ f21 ih21 =>
      intro v2 v3 M L H locs ls hD hw hl
      replace hD : fX12_body_i21 fu a1 (fX12_body_h21 fu a1 f21) v2 v3 M L = some (r0, M0, L0) := hD
      have hb59 : ∀ (v3 : Int32) (s0 : Int32) (M : mwM) (L : mwL) (H : Heap) (locs : List Loc) (ls : Array Slot), fX12_body_b59 fu a1 (fX12_body_h21 fu a1 f21) v3 s0 M L = some (r0, M0, L0) → mw_W G ad NF TF FF M L H locs → lv_has ls 4 [(0, .ref (ad 821)), (1, .int a1), (3, .int v3)] → W p l e ({ frames := 3, cells := 0, slots := 0, locals := 80 }) s m [.ref (ad 821), .int a1].toArray below meth c H locs 0 0 (MQ below (mw_Qi G ad NF TF FF (mw_eqI r0 M0 L0)) [.ref (ad 821), .int a1].toArray s 0 0 (mw_fr G)) (F0 m 59 ls [.int s0]) := by
        intro v3 s0 M L H locs ls hD hw hl
        unfold fX12_body_b59 at hD
        refine lv_istore_n (lv' := [(2, .int s0), (0, .ref (ad 821)), (1, .int a1), (3, .int v3)]) C.1.1 C.1.2.1 dX12_body_59 rfl hl (by decide) rfl (fun ls hl => ?_)
        obtain ⟨x6, ex6, hD⟩ := g_let hD
        refine lv_iinc (v := x6) (lv' := [(3, .int x6), (2, .int s0), (0, .ref (ad 821)), (1, .int a1)]) C.1.1 C.1.2.1 dX12_body_60 hl (k := 3) rfl (by rw [ex6]; rfl) (by decide) rfl (fun ls hl => ?_)
        refine lv_goto (tgt := 21) C.1.1 C.1.2.1 dX12_body_63 (by decide) ?_
        exact ih21 s0 x6 M L _ _ ls hD hw (lv_sub hl [2, 3, 1, 0] rfl)
      unfold fX12_body_i21 at hD
      refine lv_iload_n C.1.1 C.1.2.1 dX12_body_21 rfl (lv_at hl 3 rfl) ?_
      refine lv_aload_n C.1.1 C.1.2.1 dX12_body_22 rfl (lv_at hl 0 rfl) ?_
      refine mr_getI C hw kc_12 48 (by decide) tf_821 wd_2148 dX12_body_23 (by decide) rfl ?_
      refine lv_icmp_ge (tgt := 66) C.1.1 C.1.2.1 dX12_body_26 (by decide) (fun c1 => ?_) (fun c1 => ?_)
      · replace hD := g_pos c1 hD
        exact hb66 v2 M L _ _ ls hD hw (lv_sub hl [0, 1, 2] rfl)
      · replace hD := g_neg c1 hD
        refine lv_iload_n C.1.1 C.1.2.1 dX12_body_29 rfl (lv_at hl 2 rfl) ?_
        refine lv_if_eq (tgt := 66) C.1.1 C.1.2.1 dX12_body_30 (by decide) (fun c2 => ?_) (fun c2 => ?_)
        · replace hD := g_pos c2 hD
          exact hb66 v2 M L _ _ ls hD hw (lv_sub hl [0, 1, 2] rfl)
        · replace hD := g_neg c2 hD
          refine lv_aload_n C.1.1 C.1.2.1 dX12_body_33 rfl (lv_at hl 0 rfl) ?_
          refine mr_getR C hw kc_12 47 (by decide) tf_821 ff_821_47 wd_2147 dX12_body_34 (by decide) rfl ?_
          refine lv_iload_n C.1.1 C.1.2.1 dX12_body_37 rfl (lv_at hl 3 rfl) ?_
          obtain ⟨q3, hD⟩ := g_ck hD
          refine mr_bald C hw (by decide) tf_853 q3 dX12_body_38 ?_
          refine lv_aload_n C.1.1 C.1.2.1 dX12_body_39 rfl (lv_at hl 0 rfl) ?_
          refine mr_getR C hw kc_12 20 (by decide) tf_821 ff_821_20 wd_2120 dX12_body_40 (by decide) rfl ?_
          refine lv_sipush (v := 1200) C.1.1 C.1.2.1 dX12_body_43 (by decide) ?_
          refine lv_iload_n C.1.1 C.1.2.1 dX12_body_46 rfl (lv_at hl 1 rfl) ?_
          refine lv_imul C.1.1 C.1.2.1 dX12_body_47 ?_
          refine lv_iload_n C.1.1 C.1.2.1 dX12_body_48 rfl (lv_at hl 3 rfl) ?_
          refine lv_iadd C.1.1 C.1.2.1 dX12_body_49 ?_
          obtain ⟨q4, hD⟩ := g_ck hD
          refine mr_bald C hw (by decide) tf_837 q4 dX12_body_50 ?_
          refine lv_icmp_ne (tgt := 58) C.1.1 C.1.2.1 dX12_body_51 (by decide) (fun c5 => ?_) (fun c5 => ?_)
          · replace hD := g_neg c5 hD
            refine lv_iconst (v := 0) C.1.1 C.1.2.1 dX12_body_58 (by decide) ?_
            exact hb59 v3 0 M L _ _ ls hD hw (lv_sub hl [0, 1, 3] rfl)
          · replace hD := g_pos c5 hD
            refine lv_iconst (v := 1) C.1.1 C.1.2.1 dX12_body_54 (by decide) ?_
            refine lv_goto (tgt := 59) C.1.1 C.1.2.1 dX12_body_55 (by decide) ?_
            exact hb59 v3 1 M L _ _ ls hD hw (lv_sub hl [0, 1, 3] rfl)
  have hb18 : ∀ (s0 : Int32) (M : mwM) (L : mwL) (H : Heap) (locs : List Loc) (ls : Array Slot), fX12_body_b18 fu a1 s0 M L = some (r0, M0, L0) → mw_W G ad NF TF FF M L H locs → lv_has ls 4 [(0, .ref (ad 821)), (1, .int a1)] → W p l e ({ frames := 3, cells := 0, slots := 0, locals := 80 }) s m [.ref (ad 821), .int a1].toArray below meth c H locs 0 0 (MQ below (mw_Qi G ad NF TF FF (mw_eqI r0 M0 L0)) [.ref (ad 821), .int a1].toArray s 0 0 (mw_fr G)) (F0 m 18 ls [.int s0]) := by
    intro s0 M L H locs ls hD hw hl
    unfold fX12_body_b18 at hD
    refine lv_istore_n (lv' := [(2, .int s0), (0, .ref (ad 821)), (1, .int a1)]) C.1.1 C.1.2.1 dX12_body_18 rfl hl (by decide) rfl (fun ls hl => ?_)
    refine lv_iconst (v := 0) C.1.1 C.1.2.1 dX12_body_19 (by decide) ?_
    refine lv_istore_n (lv' := [(3, .int 0), (2, .int s0), (0, .ref (ad 821)), (1, .int a1)]) C.1.1 C.1.2.1 dX12_body_20 rfl hl (by decide) rfl (fun ls hl => ?_)
    exact hh21 fu s0 0 M L _ _ ls hD hw (lv_sub hl [2, 3, 1, 0] rfl)
  unfold DX12_body at hD
  refine lv_aload_n C.1.1 C.1.2.1 dX12_body_0 rfl (lv_at hl 0 rfl) ?_
  refine mr_getI C hw kc_12 48 (by decide) tf_821 wd_2148 dX12_body_1 (by decide) rfl ?_
  refine lv_aload_n C.1.1 C.1.2.1 dX12_body_4 rfl (lv_at hl 0 rfl) ?_
  refine mr_getR C hw kc_12 19 (by decide) tf_821 ff_821_19 wd_2119 dX12_body_5 (by decide) rfl ?_
  refine lv_iload_n C.1.1 C.1.2.1 dX12_body_8 rfl (lv_at hl 1 rfl) ?_
  obtain ⟨q19, hD⟩ := g_ck hD
  refine mr_iald C hw (by decide) tf_836 q19 dX12_body_9 ?_
  refine lv_icmp_ne (tgt := 17) C.1.1 C.1.2.1 dX12_body_10 (by decide) (fun c20 => ?_) (fun c20 => ?_)
  · replace hD := g_neg c20 hD
    refine lv_iconst (v := 0) C.1.1 C.1.2.1 dX12_body_17 (by decide) ?_
    exact hb18 0 M L _ _ ls hD hw (lv_sub hl [0, 1] rfl)
  · replace hD := g_pos c20 hD
    refine lv_iconst (v := 1) C.1.1 C.1.2.1 dX12_body_13 (by decide) ?_
    refine lv_goto (tgt := 18) C.1.1 C.1.2.1 dX12_body_14 (by decide) ?_
    exact hb18 1 M L _ _ ls hD hw (lv_sub hl [0, 1] rfl)

theorem dX12_width_0 : decode cX12_width 0 = .ok (.aload_n 0, 1) := by decide +kernel
theorem dX12_width_1 : decode cX12_width 1 = .ok (.getfield 222, 3) := by decide +kernel
theorem dX12_width_4 : decode cX12_width 4 = .ok (.iconst 2, 1) := by decide +kernel
theorem dX12_width_5 : decode cX12_width 5 = .ok (.if_icmp .eq 16, 3) := by decide +kernel
theorem dX12_width_8 : decode cX12_width 8 = .ok (.aload_n 0, 1) := by decide +kernel
theorem dX12_width_9 : decode cX12_width 9 = .ok (.getfield 222, 3) := by decide +kernel
theorem dX12_width_12 : decode cX12_width 12 = .ok (.iconst 3, 1) := by decide +kernel
theorem dX12_width_13 : decode cX12_width 13 = .ok (.if_icmp .eq 8, 3) := by decide +kernel
theorem dX12_width_16 : decode cX12_width 16 = .ok (.bipush 15, 2) := by decide +kernel
theorem dX12_width_18 : decode cX12_width 18 = .ok (.goto 26, 3) := by decide +kernel
theorem dX12_width_21 : decode cX12_width 21 = .ok (.aload_n 0, 1) := by decide +kernel
theorem dX12_width_22 : decode cX12_width 22 = .ok (.getfield 222, 3) := by decide +kernel
theorem dX12_width_25 : decode cX12_width 25 = .ok (.aload_n 0, 1) := by decide +kernel
theorem dX12_width_26 : decode cX12_width 26 = .ok (.getfield 225, 3) := by decide +kernel
theorem dX12_width_29 : decode cX12_width 29 = .ok (.invokestatic 146, 3) := by decide +kernel
theorem dX12_width_32 : decode cX12_width 32 = .ok (.bipush 16, 2) := by decide +kernel
theorem dX12_width_34 : decode cX12_width 34 = .ok (.if_icmp .le 8, 3) := by decide +kernel
theorem dX12_width_37 : decode cX12_width 37 = .ok (.bipush 21, 2) := by decide +kernel
theorem dX12_width_39 : decode cX12_width 39 = .ok (.goto 5, 3) := by decide +kernel
theorem dX12_width_42 : decode cX12_width 42 = .ok (.bipush 17, 2) := by decide +kernel
theorem dX12_width_44 : decode cX12_width 44 = .ok (.ireturn, 1) := by decide +kernel
theorem cwX12_width : mw_cwV yX12_width cX12_width 1 ((some .int)) 0 := ⟨⟨wd_15, wd_3731, by decide +kernel⟩, wd_3730, sl_248⟩
set_option maxHeartbeats 4000000 in
set_option maxRecDepth 100000 in
theorem tX12_width (l : Launch) (G : mwG) (ad : Nat → Nat) (fu : Nat) (M : mwM) (L : mwL) {r0 : Int32} {M0 : mwM} {L0 : mwL} (hD : DX12_width fu M L = some (r0, M0, L0)) : Met l yX12_width (Cond.code yX12_width cX12_width 1 ((some .int)) :: GT) ({ frames := 1, cells := 0, slots := 0, locals := 21 }) (mw_Pre G ad NF TF FF M L [.ref (ad 821)]) (mw_Qi G ad NF TF FF (mw_eqI r0 M0 L0)) 0 0 (mw_fr G) := by
  refine mw_enter (by decide) (Nat.le_of_ble_eq_true rfl) ?_
  intro p e s m below meth c ls C hr hlocks hnm hw hl
  have hl : lv_has ls 1 [(0, .ref (ad 821))] := hl
  have hb44 : ∀ (s0 : Int32) (M : mwM) (L : mwL) (H : Heap) (locs : List Loc) (ls : Array Slot), fX12_width_b44 fu s0 M L = some (r0, M0, L0) → mw_W G ad NF TF FF M L H locs → lv_has ls 1 [] → W p l e ({ frames := 1, cells := 0, slots := 0, locals := 21 }) s m [.ref (ad 821)].toArray below meth c H locs 0 0 (MQ below (mw_Qi G ad NF TF FF (mw_eqI r0 M0 L0)) [.ref (ad 821)].toArray s 0 0 (mw_fr G)) (F0 m 44 ls [.int s0]) := by
    intro s0 M L H locs ls hD hw hl
    unfold fX12_width_b44 at hD
    exact mr_iret C hr hlocks hw rfl (Option.some.inj hD) dX12_width_44
  have hb21 : ∀ (M : mwM) (L : mwL) (H : Heap) (locs : List Loc) (ls : Array Slot), fX12_width_b21 fu M L = some (r0, M0, L0) → mw_W G ad NF TF FF M L H locs → lv_has ls 1 [(0, .ref (ad 821))] → W p l e ({ frames := 1, cells := 0, slots := 0, locals := 21 }) s m [.ref (ad 821)].toArray below meth c H locs 0 0 (MQ below (mw_Qi G ad NF TF FF (mw_eqI r0 M0 L0)) [.ref (ad 821)].toArray s 0 0 (mw_fr G)) (F0 m 21 ls []) := by
    intro M L H locs ls hD hw hl
    unfold fX12_width_b21 at hD
    refine lv_aload_n C.1.1 C.1.2.1 dX12_width_21 rfl (lv_at hl 0 rfl) ?_
    refine mr_getI C hw kc_12 42 (by decide) tf_821 wd_2142 dX12_width_22 (by decide) rfl ?_
    refine lv_aload_n C.1.1 C.1.2.1 dX12_width_25 rfl (lv_at hl 0 rfl) ?_
    refine mr_getI C hw kc_12 43 (by decide) tf_821 wd_2143 dX12_width_26 (by decide) rfl ?_
    obtain ⟨r3, M1, L2, h1, hD⟩ := g_b3 hD
    refine md_csI (As := [.int (M 821 42), .int (M 821 43)]) (rest := []) C hw (tX12_octetsOf l G ad fu (M 821 42) (M 821 43) M L h1) wd_3639 cwX12_octetsOf ⟨Nat.le_of_ble_eq_true rfl, Nat.le_of_ble_eq_true rfl⟩ rfl hl.1 (Nat.le_of_ble_eq_true rfl) dX12_width_29 rfl rfl ⟨Nat.zero_le _, Nat.zero_le _⟩ rfl (fun H locs hw => ?_)
    refine lv_bipush (v := 16) C.1.1 C.1.2.1 dX12_width_32 (by decide) ?_
    refine lv_icmp_le (tgt := 42) C.1.1 C.1.2.1 dX12_width_34 (by decide) (fun c4 => ?_) (fun c4 => ?_)
    · replace hD := g_pos c4 hD
      refine lv_bipush (v := 17) C.1.1 C.1.2.1 dX12_width_42 (by decide) ?_
      exact hb44 17 M1 L2 _ _ ls hD hw (lv_sub hl [] rfl)
    · replace hD := g_neg c4 hD
      refine lv_bipush (v := 21) C.1.1 C.1.2.1 dX12_width_37 (by decide) ?_
      refine lv_goto (tgt := 44) C.1.1 C.1.2.1 dX12_width_39 (by decide) ?_
      exact hb44 21 M1 L2 _ _ ls hD hw (lv_sub hl [] rfl)
  unfold DX12_width at hD
  refine lv_aload_n C.1.1 C.1.2.1 dX12_width_0 rfl (lv_at hl 0 rfl) ?_
  refine mr_getI C hw kc_12 42 (by decide) tf_821 wd_2142 dX12_width_1 (by decide) rfl ?_
  refine lv_iconst (v := 2) C.1.1 C.1.2.1 dX12_width_4 (by decide) ?_
  refine lv_icmp_eq (tgt := 21) C.1.1 C.1.2.1 dX12_width_5 (by decide) (fun c5 => ?_) (fun c5 => ?_)
  · replace hD := g_pos c5 hD
    exact hb21 M L _ _ ls hD hw (lv_sub hl [0] rfl)
  · replace hD := g_neg c5 hD
    refine lv_aload_n C.1.1 C.1.2.1 dX12_width_8 rfl (lv_at hl 0 rfl) ?_
    refine mr_getI C hw kc_12 42 (by decide) tf_821 wd_2142 dX12_width_9 (by decide) rfl ?_
    refine lv_iconst (v := 3) C.1.1 C.1.2.1 dX12_width_12 (by decide) ?_
    refine lv_icmp_eq (tgt := 21) C.1.1 C.1.2.1 dX12_width_13 (by decide) (fun c6 => ?_) (fun c6 => ?_)
    · replace hD := g_pos c6 hD
      exact hb21 M L _ _ ls hD hw (lv_sub hl [0] rfl)
    · replace hD := g_neg c6 hD
      refine lv_bipush (v := 15) C.1.1 C.1.2.1 dX12_width_16 (by decide) ?_
      refine lv_goto (tgt := 44) C.1.1 C.1.2.1 dX12_width_18 (by decide) ?_
      exact hb44 15 M L _ _ ls hD hw (lv_sub hl [] rfl)

theorem dX12_tail_0 : decode cX12_tail 0 = .ok (.aload_n 0, 1) := by decide +kernel
theorem dX12_tail_1 : decode cX12_tail 1 = .ok (.getfield 222, 3) := by decide +kernel
theorem dX12_tail_4 : decode cX12_tail 4 = .ok (.iconst 2, 1) := by decide +kernel
theorem dX12_tail_5 : decode cX12_tail 5 = .ok (.if_icmp .eq 13, 3) := by decide +kernel
theorem dX12_tail_8 : decode cX12_tail 8 = .ok (.aload_n 0, 1) := by decide +kernel
theorem dX12_tail_9 : decode cX12_tail 9 = .ok (.getfield 222, 3) := by decide +kernel
theorem dX12_tail_12 : decode cX12_tail 12 = .ok (.iconst 3, 1) := by decide +kernel
theorem dX12_tail_13 : decode cX12_tail 13 = .ok (.if_icmp .eq 5, 3) := by decide +kernel
theorem dX12_tail_16 : decode cX12_tail 16 = .ok (.iconst 0, 1) := by decide +kernel
theorem dX12_tail_17 : decode cX12_tail 17 = .ok (.ireturn, 1) := by decide +kernel
theorem dX12_tail_18 : decode cX12_tail 18 = .ok (.iconst 4, 1) := by decide +kernel
theorem dX12_tail_19 : decode cX12_tail 19 = .ok (.aload_n 0, 1) := by decide +kernel
theorem dX12_tail_20 : decode cX12_tail 20 = .ok (.invokevirtual 235, 3) := by decide +kernel
theorem dX12_tail_23 : decode cX12_tail 23 = .ok (.iadd, 1) := by decide +kernel
theorem dX12_tail_24 : decode cX12_tail 24 = .ok (.istore_n 1, 1) := by decide +kernel
theorem dX12_tail_25 : decode cX12_tail 25 = .ok (.iload_n 1, 1) := by decide +kernel
theorem dX12_tail_26 : decode cX12_tail 26 = .ok (.iload_n 1, 1) := by decide +kernel
theorem dX12_tail_27 : decode cX12_tail 27 = .ok (.iconst 3, 1) := by decide +kernel
theorem dX12_tail_28 : decode cX12_tail 28 = .ok (.iadd, 1) := by decide +kernel
theorem dX12_tail_29 : decode cX12_tail 29 = .ok (.iconst 4, 1) := by decide +kernel
theorem dX12_tail_30 : decode cX12_tail 30 = .ok (.idiv, 1) := by decide +kernel
theorem dX12_tail_31 : decode cX12_tail 31 = .ok (.iadd, 1) := by decide +kernel
theorem dX12_tail_32 : decode cX12_tail 32 = .ok (.ireturn, 1) := by decide +kernel
theorem cwX12_tail : mw_cwV yX12_tail cX12_tail 2 ((some .int)) 0 := ⟨⟨wd_15, wd_3727, by decide +kernel⟩, wd_3726, sl_247⟩
set_option maxHeartbeats 4000000 in
set_option maxRecDepth 100000 in
theorem tX12_tail (l : Launch) (G : mwG) (ad : Nat → Nat) (fu : Nat) (M : mwM) (L : mwL) {r0 : Int32} {M0 : mwM} {L0 : mwL} (hD : DX12_tail fu M L = some (r0, M0, L0)) : Met l yX12_tail (Cond.code yX12_tail cX12_tail 2 ((some .int)) :: GT) ({ frames := 2, cells := 0, slots := 0, locals := 41 }) (mw_Pre G ad NF TF FF M L [.ref (ad 821)]) (mw_Qi G ad NF TF FF (mw_eqI r0 M0 L0)) 0 0 (mw_fr G) := by
  refine mw_enter (by decide) (Nat.le_of_ble_eq_true rfl) ?_
  intro p e s m below meth c ls C hr hlocks hnm hw hl
  have hl : lv_has ls 2 [(0, .ref (ad 821))] := hl
  have hb18 : ∀ (M : mwM) (L : mwL) (H : Heap) (locs : List Loc) (ls : Array Slot), fX12_tail_b18 fu M L = some (r0, M0, L0) → mw_W G ad NF TF FF M L H locs → lv_has ls 2 [(0, .ref (ad 821))] → W p l e ({ frames := 2, cells := 0, slots := 0, locals := 41 }) s m [.ref (ad 821)].toArray below meth c H locs 0 0 (MQ below (mw_Qi G ad NF TF FF (mw_eqI r0 M0 L0)) [.ref (ad 821)].toArray s 0 0 (mw_fr G)) (F0 m 18 ls []) := by
    intro M L H locs ls hD hw hl
    unfold fX12_tail_b18 at hD
    refine lv_iconst (v := 4) C.1.1 C.1.2.1 dX12_tail_18 (by decide) ?_
    refine lv_aload_n C.1.1 C.1.2.1 dX12_tail_19 rfl (lv_at hl 0 rfl) ?_
    obtain ⟨r3, M1, L2, h1, hD⟩ := g_b3 hD
    refine md_cvI (As := []) (rest := [.int 4]) C hw (tX12_width l G ad fu M L h1) kc_12 (by decide) tf_821 wd_3728 cwX12_width ⟨Nat.le_of_ble_eq_true rfl, Nat.le_of_ble_eq_true rfl⟩ rfl hl.1 (Nat.le_of_ble_eq_true rfl) dX12_tail_20 rfl rfl ⟨Nat.zero_le _, Nat.zero_le _⟩ rfl (fun H locs hw => ?_)
    refine lv_iadd C.1.1 C.1.2.1 dX12_tail_23 ?_
    obtain ⟨x4, ex4, hD⟩ := g_let hD
    refine W.eq (g2 := F0 m 24 ls (.int x4 :: [])) (by rw [ex4]) ?_
    refine lv_istore_n (lv' := [(1, .int x4), (0, .ref (ad 821))]) C.1.1 C.1.2.1 dX12_tail_24 rfl hl (by decide) rfl (fun ls hl => ?_)
    refine lv_iload_n C.1.1 C.1.2.1 dX12_tail_25 rfl (lv_at hl 0 rfl) ?_
    refine lv_iload_n C.1.1 C.1.2.1 dX12_tail_26 rfl (lv_at hl 0 rfl) ?_
    refine lv_iconst (v := 3) C.1.1 C.1.2.1 dX12_tail_27 (by decide) ?_
    refine lv_iadd C.1.1 C.1.2.1 dX12_tail_28 ?_
    refine lv_iconst (v := 4) C.1.1 C.1.2.1 dX12_tail_29 (by decide) ?_
    refine lv_idiv C.1.1 C.1.2.1 dX12_tail_30 (by decide) ?_
    refine lv_iadd C.1.1 C.1.2.1 dX12_tail_31 ?_
    exact mr_iret C hr hlocks hw rfl (Option.some.inj hD) dX12_tail_32
  unfold DX12_tail at hD
  refine lv_aload_n C.1.1 C.1.2.1 dX12_tail_0 rfl (lv_at hl 0 rfl) ?_
  refine mr_getI C hw kc_12 42 (by decide) tf_821 wd_2142 dX12_tail_1 (by decide) rfl ?_
  refine lv_iconst (v := 2) C.1.1 C.1.2.1 dX12_tail_4 (by decide) ?_
  refine lv_icmp_eq (tgt := 18) C.1.1 C.1.2.1 dX12_tail_5 (by decide) (fun c6 => ?_) (fun c6 => ?_)
  · replace hD := g_pos c6 hD
    exact hb18 M L _ _ ls hD hw (lv_sub hl [0] rfl)
  · replace hD := g_neg c6 hD
    refine lv_aload_n C.1.1 C.1.2.1 dX12_tail_8 rfl (lv_at hl 0 rfl) ?_
    refine mr_getI C hw kc_12 42 (by decide) tf_821 wd_2142 dX12_tail_9 (by decide) rfl ?_
    refine lv_iconst (v := 3) C.1.1 C.1.2.1 dX12_tail_12 (by decide) ?_
    refine lv_icmp_eq (tgt := 18) C.1.1 C.1.2.1 dX12_tail_13 (by decide) (fun c7 => ?_) (fun c7 => ?_)
    · replace hD := g_pos c7 hD
      exact hb18 M L _ _ ls hD hw (lv_sub hl [0] rfl)
    · replace hD := g_neg c7 hD
      refine lv_iconst (v := 0) C.1.1 C.1.2.1 dX12_tail_16 (by decide) ?_
      exact mr_iret C hr hlocks hw rfl (Option.some.inj hD) dX12_tail_17

theorem dX12_right_0 : decode cX12_right 0 = .ok (.aload_n 0, 1) := by decide +kernel
theorem dX12_right_1 : decode cX12_right 1 = .ok (.invokevirtual 235, 3) := by decide +kernel
theorem dX12_right_4 : decode cX12_right 4 = .ok (.istore_n 2, 1) := by decide +kernel
theorem dX12_right_5 : decode cX12_right 5 = .ok (.iconst 0, 1) := by decide +kernel
theorem dX12_right_6 : decode cX12_right 6 = .ok (.istore_n 3, 1) := by decide +kernel
theorem dX12_right_7 : decode cX12_right 7 = .ok (.aload_n 0, 1) := by decide +kernel
theorem dX12_right_8 : decode cX12_right 8 = .ok (.invokevirtual 239, 3) := by decide +kernel
theorem dX12_right_11 : decode cX12_right 11 = .ok (.ifCond .le 8, 3) := by decide +kernel
theorem dX12_right_14 : decode cX12_right 14 = .ok (.aload_n 0, 1) := by decide +kernel
theorem dX12_right_15 : decode cX12_right 15 = .ok (.iconst (-1), 1) := by decide +kernel
theorem dX12_right_16 : decode cX12_right 16 = .ok (.putfield 114, 3) := by decide +kernel
theorem dX12_right_19 : decode cX12_right 19 = .ok (.aload_n 0, 1) := by decide +kernel
theorem dX12_right_20 : decode cX12_right 20 = .ok (.invokevirtual 239, 3) := by decide +kernel
theorem dX12_right_23 : decode cX12_right 23 = .ok (.ifCond .ne 70, 3) := by decide +kernel
theorem dX12_right_26 : decode cX12_right 26 = .ok (.aload_n 0, 1) := by decide +kernel
theorem dX12_right_27 : decode cX12_right 27 = .ok (.aload_n 0, 1) := by decide +kernel
theorem dX12_right_28 : decode cX12_right 28 = .ok (.getfield 150, 3) := by decide +kernel
theorem dX12_right_31 : decode cX12_right 31 = .ok (.bipush 15, 2) := by decide +kernel
theorem dX12_right_33 : decode cX12_right 33 = .ok (.isub, 1) := by decide +kernel
theorem dX12_right_34 : decode cX12_right 34 = .ok (.bipush 15, 2) := by decide +kernel
theorem dX12_right_36 : decode cX12_right 36 = .ok (.invokevirtual 228, 3) := by decide +kernel
theorem dX12_right_39 : decode cX12_right 39 = .ok (.istore_n 3, 1) := by decide +kernel
theorem dX12_right_40 : decode cX12_right 40 = .ok (.aload_n 0, 1) := by decide +kernel
theorem dX12_right_41 : decode cX12_right 41 = .ok (.iconst 0, 1) := by decide +kernel
theorem dX12_right_42 : decode cX12_right 42 = .ok (.putfield 160, 3) := by decide +kernel
theorem dX12_right_45 : decode cX12_right 45 = .ok (.iconst 0, 1) := by decide +kernel
theorem dX12_right_46 : decode cX12_right 46 = .ok (.istore 4, 2) := by decide +kernel
theorem dX12_right_48 : decode cX12_right 48 = .ok (.iload 4, 2) := by decide +kernel
theorem dX12_right_50 : decode cX12_right 50 = .ok (.aload_n 0, 1) := by decide +kernel
theorem dX12_right_51 : decode cX12_right 51 = .ok (.getfield 150, 3) := by decide +kernel
theorem dX12_right_54 : decode cX12_right 54 = .ok (.bipush 15, 2) := by decide +kernel
theorem dX12_right_56 : decode cX12_right 56 = .ok (.isub, 1) := by decide +kernel
theorem dX12_right_57 : decode cX12_right 57 = .ok (.if_icmp .ge 20, 3) := by decide +kernel
theorem dX12_right_60 : decode cX12_right 60 = .ok (.aload_n 0, 1) := by decide +kernel
theorem dX12_right_61 : decode cX12_right 61 = .ok (.aload_n 0, 1) := by decide +kernel
theorem dX12_right_62 : decode cX12_right 62 = .ok (.getfield 96, 3) := by decide +kernel
theorem dX12_right_65 : decode cX12_right 65 = .ok (.iload 4, 2) := by decide +kernel
theorem dX12_right_67 : decode cX12_right 67 = .ok (.baload, 1) := by decide +kernel
theorem dX12_right_68 : decode cX12_right 68 = .ok (.invokevirtual 177, 3) := by decide +kernel
theorem dX12_right_71 : decode cX12_right 71 = .ok (.iinc 4 1, 3) := by decide +kernel
theorem dX12_right_74 : decode cX12_right 74 = .ok (.goto (-26), 3) := by decide +kernel
theorem dX12_right_77 : decode cX12_right 77 = .ok (.iload_n 3, 1) := by decide +kernel
theorem dX12_right_78 : decode cX12_right 78 = .ok (.aload_n 0, 1) := by decide +kernel
theorem dX12_right_79 : decode cX12_right 79 = .ok (.bipush 15, 2) := by decide +kernel
theorem dX12_right_81 : decode cX12_right 81 = .ok (.invokevirtual 180, 3) := by decide +kernel
theorem dX12_right_84 : decode cX12_right 84 = .ok (.if_icmp .ne 7, 3) := by decide +kernel
theorem dX12_right_87 : decode cX12_right 87 = .ok (.iconst 1, 1) := by decide +kernel
theorem dX12_right_88 : decode cX12_right 88 = .ok (.goto 4, 3) := by decide +kernel
theorem dX12_right_91 : decode cX12_right 91 = .ok (.iconst 0, 1) := by decide +kernel
theorem dX12_right_92 : decode cX12_right 92 = .ok (.ireturn, 1) := by decide +kernel
theorem dX12_right_93 : decode cX12_right 93 = .ok (.iconst 0, 1) := by decide +kernel
theorem dX12_right_94 : decode cX12_right 94 = .ok (.istore 4, 2) := by decide +kernel
theorem dX12_right_96 : decode cX12_right 96 = .ok (.iconst 0, 1) := by decide +kernel
theorem dX12_right_97 : decode cX12_right 97 = .ok (.istore 5, 2) := by decide +kernel
theorem dX12_right_99 : decode cX12_right 99 = .ok (.iload 5, 2) := by decide +kernel
theorem dX12_right_101 : decode cX12_right 101 = .ok (.aload_n 0, 1) := by decide +kernel
theorem dX12_right_102 : decode cX12_right 102 = .ok (.invokevirtual 239, 3) := by decide +kernel
theorem dX12_right_105 : decode cX12_right 105 = .ok (.if_icmp .ge 58, 3) := by decide +kernel
theorem dX12_right_108 : decode cX12_right 108 = .ok (.iload 5, 2) := by decide +kernel
theorem dX12_right_110 : decode cX12_right 110 = .ok (.iconst 5, 1) := by decide +kernel
theorem dX12_right_111 : decode cX12_right 111 = .ok (.irem, 1) := by decide +kernel
theorem dX12_right_112 : decode cX12_right 112 = .ok (.ifCond .ne 6, 3) := by decide +kernel
theorem dX12_right_115 : decode cX12_right 115 = .ok (.goto 42, 3) := by decide +kernel
theorem dX12_right_118 : decode cX12_right 118 = .ok (.aload_n 0, 1) := by decide +kernel
theorem dX12_right_119 : decode cX12_right 119 = .ok (.iload_n 1, 1) := by decide +kernel
theorem dX12_right_120 : decode cX12_right 120 = .ok (.aload_n 0, 1) := by decide +kernel
theorem dX12_right_121 : decode cX12_right 121 = .ok (.getfield 209, 3) := by decide +kernel
theorem dX12_right_124 : decode cX12_right 124 = .ok (.iload 5, 2) := by decide +kernel
theorem dX12_right_126 : decode cX12_right 126 = .ok (.iadd, 1) := by decide +kernel
theorem dX12_right_127 : decode cX12_right 127 = .ok (.invokevirtual 215, 3) := by decide +kernel
theorem dX12_right_130 : decode cX12_right 130 = .ok (.istore 6, 2) := by decide +kernel
theorem dX12_right_132 : decode cX12_right 132 = .ok (.iload 4, 2) := by decide +kernel
theorem dX12_right_134 : decode cX12_right 134 = .ok (.iconst 4, 1) := by decide +kernel
theorem dX12_right_135 : decode cX12_right 135 = .ok (.if_icmp .ge 12, 3) := by decide +kernel
theorem dX12_right_138 : decode cX12_right 138 = .ok (.aload_n 0, 1) := by decide +kernel
theorem dX12_right_139 : decode cX12_right 139 = .ok (.iload 6, 2) := by decide +kernel
theorem dX12_right_141 : decode cX12_right 141 = .ok (.invokevirtual 177, 3) := by decide +kernel
theorem dX12_right_144 : decode cX12_right 144 = .ok (.goto 10, 3) := by decide +kernel
theorem dX12_right_147 : decode cX12_right 147 = .ok (.iconst 2, 1) := by decide +kernel
theorem dX12_right_148 : decode cX12_right 148 = .ok (.iload_n 3, 1) := by decide +kernel
theorem dX12_right_149 : decode cX12_right 149 = .ok (.imul, 1) := by decide +kernel
theorem dX12_right_150 : decode cX12_right 150 = .ok (.iload 6, 2) := by decide +kernel
theorem dX12_right_152 : decode cX12_right 152 = .ok (.iadd, 1) := by decide +kernel
theorem dX12_right_153 : decode cX12_right 153 = .ok (.istore_n 3, 1) := by decide +kernel
theorem dX12_right_154 : decode cX12_right 154 = .ok (.iinc 4 1, 3) := by decide +kernel
theorem dX12_right_157 : decode cX12_right 157 = .ok (.iinc 5 1, 3) := by decide +kernel
theorem dX12_right_160 : decode cX12_right 160 = .ok (.goto (-61), 3) := by decide +kernel
theorem dX12_right_163 : decode cX12_right 163 = .ok (.iload_n 3, 1) := by decide +kernel
theorem dX12_right_164 : decode cX12_right 164 = .ok (.aload_n 0, 1) := by decide +kernel
theorem dX12_right_165 : decode cX12_right 165 = .ok (.iload_n 2, 1) := by decide +kernel
theorem dX12_right_166 : decode cX12_right 166 = .ok (.invokevirtual 180, 3) := by decide +kernel
theorem dX12_right_169 : decode cX12_right 169 = .ok (.if_icmp .ne 7, 3) := by decide +kernel
theorem dX12_right_172 : decode cX12_right 172 = .ok (.iconst 1, 1) := by decide +kernel
theorem dX12_right_173 : decode cX12_right 173 = .ok (.goto 4, 3) := by decide +kernel
theorem dX12_right_176 : decode cX12_right 176 = .ok (.iconst 0, 1) := by decide +kernel
theorem dX12_right_177 : decode cX12_right 177 = .ok (.ireturn, 1) := by decide +kernel
theorem cwX12_right : mw_cwV yX12_right cX12_right 7 ((some .boolean)) 1 := ⟨⟨wd_15, wd_3735, by decide +kernel⟩, wd_3734, sl_249⟩
set_option maxHeartbeats 4000000 in
set_option maxRecDepth 100000 in
theorem tX12_right (l : Launch) (G : mwG) (ad : Nat → Nat) (fu : Nat) (a1 : Int32) (M : mwM) (L : mwL) {r0 : Int32} {M0 : mwM} {L0 : mwL} (hD : DX12_right fu a1 M L = some (r0, M0, L0)) : Met l yX12_right (Cond.code yX12_right cX12_right 7 ((some .boolean)) :: GT) ({ frames := 3, cells := 0, slots := 0, locals := 62 }) (mw_Pre G ad NF TF FF M L [.ref (ad 821), .int a1]) (mw_Qi G ad NF TF FF (mw_eqI r0 M0 L0)) 0 0 (mw_fr G) := by
  refine mw_enter (by decide) (Nat.le_of_ble_eq_true rfl) ?_
  intro p e s m below meth c ls C hr hlocks hnm hw hl
  have hl : lv_has ls 7 [(0, .ref (ad 821)), (1, .int a1)] := hl
  have hb92 : ∀ (s0 : Int32) (M : mwM) (L : mwL) (H : Heap) (locs : List Loc) (ls : Array Slot), fX12_right_b92 fu a1 s0 M L = some (r0, M0, L0) → mw_W G ad NF TF FF M L H locs → lv_has ls 7 [] → W p l e ({ frames := 3, cells := 0, slots := 0, locals := 62 }) s m [.ref (ad 821), .int a1].toArray below meth c H locs 0 0 (MQ below (mw_Qi G ad NF TF FF (mw_eqI r0 M0 L0)) [.ref (ad 821), .int a1].toArray s 0 0 (mw_fr G)) (F0 m 92 ls [.int s0]) := by
    intro s0 M L H locs ls hD hw hl
    unfold fX12_right_b92 at hD
    obtain ⟨z18, hD⟩ := g_zz hD
    exact mr_iret C hr hlocks hw (nz_zz z18) (Option.some.inj hD) dX12_right_92
  have hh48 : ∀ (f : Nat) (v3 : Int32) (v4 : Int32) (M : mwM) (L : mwL) (H : Heap) (locs : List Loc) (ls : Array Slot), fX12_right_h48 fu a1 f (v3, v4, M, L) = some (r0, M0, L0) → mw_W G ad NF TF FF M L H locs → lv_has ls 7 [(0, .ref (ad 821)), (3, .int v3), (4, .int v4)] → W p l e ({ frames := 3, cells := 0, slots := 0, locals := 62 }) s m [.ref (ad 821), .int a1].toArray below meth c H locs 0 0 (MQ below (mw_Qi G ad NF TF FF (mw_eqI r0 M0 L0)) [.ref (ad 821), .int a1].toArray s 0 0 (mw_fr G)) (F0 m 48 ls []) := by
    intro f
    induction f with
    | zero => intro v3 v4 M L H locs ls hD; cases hD
    | succ f48 ih48 =>
      intro v3 v4 M L H locs ls hD hw hl
      replace hD : fX12_right_i48 fu a1 (fX12_right_h48 fu a1 f48) v3 v4 M L = some (r0, M0, L0) := hD
      unfold fX12_right_i48 at hD
      refine lv_iload C.1.1 C.1.2.1 dX12_right_48 (lv_at hl 2 rfl) ?_
      refine lv_aload_n C.1.1 C.1.2.1 dX12_right_50 rfl (lv_at hl 0 rfl) ?_
      refine mr_getI C hw kc_12 34 (by decide) tf_821 wd_2134 dX12_right_51 (by decide) rfl ?_
      refine lv_bipush (v := 15) C.1.1 C.1.2.1 dX12_right_54 (by decide) ?_
      refine lv_isub C.1.1 C.1.2.1 dX12_right_56 ?_
      refine lv_icmp_ge (tgt := 77) C.1.1 C.1.2.1 dX12_right_57 (by decide) (fun c9 => ?_) (fun c9 => ?_)
      · replace hD := g_pos c9 hD
        refine lv_iload_n C.1.1 C.1.2.1 dX12_right_77 rfl (lv_at hl 1 rfl) ?_
        refine lv_aload_n C.1.1 C.1.2.1 dX12_right_78 rfl (lv_at hl 0 rfl) ?_
        refine lv_bipush (v := 15) C.1.1 C.1.2.1 dX12_right_79 (by decide) ?_
        obtain ⟨r12, M10, L11, h1, hD⟩ := g_b3 hD
        refine md_cvI (As := [.int 15]) (rest := [.int v3]) C hw (tX12_checkOf l G ad fu 15 M L h1) kc_12 (by decide) tf_821 wd_3675 cwX12_checkOf ⟨Nat.le_of_ble_eq_true rfl, Nat.le_of_ble_eq_true rfl⟩ rfl hl.1 (Nat.le_of_ble_eq_true rfl) dX12_right_81 rfl rfl ⟨Nat.zero_le _, Nat.zero_le _⟩ rfl (fun H locs hw => ?_)
        refine lv_icmp_ne (tgt := 91) C.1.1 C.1.2.1 dX12_right_84 (by decide) (fun c13 => ?_) (fun c13 => ?_)
        · replace hD := g_neg c13 hD
          refine lv_iconst (v := 0) C.1.1 C.1.2.1 dX12_right_91 (by decide) ?_
          exact hb92 0 M10 L11 _ _ ls hD hw (lv_sub hl [] rfl)
        · replace hD := g_pos c13 hD
          refine lv_iconst (v := 1) C.1.1 C.1.2.1 dX12_right_87 (by decide) ?_
          refine lv_goto (tgt := 92) C.1.1 C.1.2.1 dX12_right_88 (by decide) ?_
          exact hb92 1 M10 L11 _ _ ls hD hw (lv_sub hl [] rfl)
      · replace hD := g_neg c9 hD
        refine lv_aload_n C.1.1 C.1.2.1 dX12_right_60 rfl (lv_at hl 0 rfl) ?_
        refine lv_aload_n C.1.1 C.1.2.1 dX12_right_61 rfl (lv_at hl 0 rfl) ?_
        refine mr_getR C hw kc_12 33 (by decide) tf_821 ff_821_33 wd_2133 dX12_right_62 (by decide) rfl ?_
        refine lv_iload C.1.1 C.1.2.1 dX12_right_65 (lv_at hl 2 rfl) ?_
        obtain ⟨q14, hD⟩ := g_ck hD
        refine mr_bald C hw (by decide) tf_848 q14 dX12_right_67 ?_
        obtain ⟨M15, L16, h1, hD⟩ := g_b2 hD
        refine md_cvV (As := [.int (M 848 v4.toNatClampNeg)]) (rest := []) C hw (tX12_check l G ad fu (M 848 v4.toNatClampNeg) M L h1) kc_12 (by decide) tf_821 wd_3671 cwX12_check ⟨Nat.le_of_ble_eq_true rfl, Nat.le_of_ble_eq_true rfl⟩ rfl hl.1 (Nat.le_of_ble_eq_true rfl) dX12_right_68 rfl rfl ⟨Nat.zero_le _, Nat.zero_le _⟩ rfl (fun H locs hw => ?_)
        obtain ⟨x17, ex17, hD⟩ := g_let hD
        refine lv_iinc (v := x17) (lv' := [(4, .int x17), (0, .ref (ad 821)), (3, .int v3)]) C.1.1 C.1.2.1 dX12_right_71 hl (k := 2) rfl (by rw [ex17]; rfl) (by decide) rfl (fun ls hl => ?_)
        refine lv_goto (tgt := 48) C.1.1 C.1.2.1 dX12_right_74 (by decide) ?_
        exact ih48 v3 x17 M15 L16 _ _ ls hD hw (lv_sub hl [1, 2, 0] rfl)
  have hb177 : ∀ (s0 : Int32) (M : mwM) (L : mwL) (H : Heap) (locs : List Loc) (ls : Array Slot), fX12_right_b177 fu a1 s0 M L = some (r0, M0, L0) → mw_W G ad NF TF FF M L H locs → lv_has ls 7 [] → W p l e ({ frames := 3, cells := 0, slots := 0, locals := 62 }) s m [.ref (ad 821), .int a1].toArray below meth c H locs 0 0 (MQ below (mw_Qi G ad NF TF FF (mw_eqI r0 M0 L0)) [.ref (ad 821), .int a1].toArray s 0 0 (mw_fr G)) (F0 m 177 ls [.int s0]) := by
    intro s0 M L H locs ls hD hw hl
    unfold fX12_right_b177 at hD
    obtain ⟨z38, hD⟩ := g_zz hD
    exact mr_iret C hr hlocks hw (nz_zz z38) (Option.some.inj hD) dX12_right_177
  have hh99 : ∀ (f : Nat) (v2 : Int32) (v3 : Int32) (v4 : Int32) (v5 : Int32) (M : mwM) (L : mwL) (H : Heap) (locs : List Loc) (ls : Array Slot), fX12_right_h99 fu a1 f (v2, v3, v4, v5, M, L) = some (r0, M0, L0) → mw_W G ad NF TF FF M L H locs → lv_has ls 7 [(0, .ref (ad 821)), (1, .int a1), (2, .int v2), (3, .int v3), (4, .int v4), (5, .int v5)] → W p l e ({ frames := 3, cells := 0, slots := 0, locals := 62 }) s m [.ref (ad 821), .int a1].toArray below meth c H locs 0 0 (MQ below (mw_Qi G ad NF TF FF (mw_eqI r0 M0 L0)) [.ref (ad 821), .int a1].toArray s 0 0 (mw_fr G)) (F0 m 99 ls []) := by
    intro f
    induction f with
    | zero => intro v2 v3 v4 v5 M L H locs ls hD; cases hD
    | succ f99 ih99 =>
      intro v2 v3 v4 v5 M L H locs ls hD hw hl
      replace hD : fX12_right_i99 fu a1 (fX12_right_h99 fu a1 f99) v2 v3 v4 v5 M L = some (r0, M0, L0) := hD
      have hb157 : ∀ (v2 : Int32) (v3 : Int32) (v4 : Int32) (v5 : Int32) (M : mwM) (L : mwL) (H : Heap) (locs : List Loc) (ls : Array Slot), fX12_right_b157 fu a1 (fX12_right_h99 fu a1 f99) v2 v3 v4 v5 M L = some (r0, M0, L0) → mw_W G ad NF TF FF M L H locs → lv_has ls 7 [(0, .ref (ad 821)), (1, .int a1), (2, .int v2), (3, .int v3), (4, .int v4), (5, .int v5)] → W p l e ({ frames := 3, cells := 0, slots := 0, locals := 62 }) s m [.ref (ad 821), .int a1].toArray below meth c H locs 0 0 (MQ below (mw_Qi G ad NF TF FF (mw_eqI r0 M0 L0)) [.ref (ad 821), .int a1].toArray s 0 0 (mw_fr G)) (F0 m 157 ls []) := by
        intro v2 v3 v4 v5 M L H locs ls hD hw hl
        unfold fX12_right_b157 at hD
        obtain ⟨x37, ex37, hD⟩ := g_let hD
        refine lv_iinc (v := x37) (lv' := [(5, .int x37), (0, .ref (ad 821)), (1, .int a1), (2, .int v2), (3, .int v3), (4, .int v4)]) C.1.1 C.1.2.1 dX12_right_157 hl (k := 5) rfl (by rw [ex37]; rfl) (by decide) rfl (fun ls hl => ?_)
        refine lv_goto (tgt := 99) C.1.1 C.1.2.1 dX12_right_160 (by decide) ?_
        exact ih99 v2 v3 v4 x37 M L _ _ ls hD hw (lv_sub hl [1, 2, 3, 4, 5, 0] rfl)
      have hb154 : ∀ (v2 : Int32) (v3 : Int32) (v4 : Int32) (v5 : Int32) (M : mwM) (L : mwL) (H : Heap) (locs : List Loc) (ls : Array Slot), fX12_right_b154 fu a1 (fX12_right_h99 fu a1 f99) v2 v3 v4 v5 M L = some (r0, M0, L0) → mw_W G ad NF TF FF M L H locs → lv_has ls 7 [(0, .ref (ad 821)), (1, .int a1), (2, .int v2), (3, .int v3), (4, .int v4), (5, .int v5)] → W p l e ({ frames := 3, cells := 0, slots := 0, locals := 62 }) s m [.ref (ad 821), .int a1].toArray below meth c H locs 0 0 (MQ below (mw_Qi G ad NF TF FF (mw_eqI r0 M0 L0)) [.ref (ad 821), .int a1].toArray s 0 0 (mw_fr G)) (F0 m 154 ls []) := by
        intro v2 v3 v4 v5 M L H locs ls hD hw hl
        unfold fX12_right_b154 at hD
        obtain ⟨x36, ex36, hD⟩ := g_let hD
        refine lv_iinc (v := x36) (lv' := [(4, .int x36), (0, .ref (ad 821)), (1, .int a1), (2, .int v2), (3, .int v3), (5, .int v5)]) C.1.1 C.1.2.1 dX12_right_154 hl (k := 4) rfl (by rw [ex36]; rfl) (by decide) rfl (fun ls hl => ?_)
        exact hb157 v2 v3 x36 v5 M L _ _ ls hD hw (lv_sub hl [1, 2, 3, 4, 0, 5] rfl)
      unfold fX12_right_i99 at hD
      refine lv_iload C.1.1 C.1.2.1 dX12_right_99 (lv_at hl 5 rfl) ?_
      refine lv_aload_n C.1.1 C.1.2.1 dX12_right_101 rfl (lv_at hl 0 rfl) ?_
      obtain ⟨r21, M19, L20, h1, hD⟩ := g_b3 hD
      refine md_cvI (As := []) (rest := [.int v5]) C hw (tX12_tail l G ad fu M L h1) kc_12 (by decide) tf_821 wd_3724 cwX12_tail ⟨Nat.le_of_ble_eq_true rfl, Nat.le_of_ble_eq_true rfl⟩ rfl hl.1 (Nat.le_of_ble_eq_true rfl) dX12_right_102 rfl rfl ⟨Nat.zero_le _, Nat.zero_le _⟩ rfl (fun H locs hw => ?_)
      refine lv_icmp_ge (tgt := 163) C.1.1 C.1.2.1 dX12_right_105 (by decide) (fun c22 => ?_) (fun c22 => ?_)
      · replace hD := g_pos c22 hD
        refine lv_iload_n C.1.1 C.1.2.1 dX12_right_163 rfl (lv_at hl 3 rfl) ?_
        refine lv_aload_n C.1.1 C.1.2.1 dX12_right_164 rfl (lv_at hl 0 rfl) ?_
        refine lv_iload_n C.1.1 C.1.2.1 dX12_right_165 rfl (lv_at hl 2 rfl) ?_
        obtain ⟨r25, M23, L24, h1, hD⟩ := g_b3 hD
        refine md_cvI (As := [.int v2]) (rest := [.int v3]) C hw (tX12_checkOf l G ad fu v2 M19 L20 h1) kc_12 (by decide) tf_821 wd_3675 cwX12_checkOf ⟨Nat.le_of_ble_eq_true rfl, Nat.le_of_ble_eq_true rfl⟩ rfl hl.1 (Nat.le_of_ble_eq_true rfl) dX12_right_166 rfl rfl ⟨Nat.zero_le _, Nat.zero_le _⟩ rfl (fun H locs hw => ?_)
        refine lv_icmp_ne (tgt := 176) C.1.1 C.1.2.1 dX12_right_169 (by decide) (fun c26 => ?_) (fun c26 => ?_)
        · replace hD := g_neg c26 hD
          refine lv_iconst (v := 0) C.1.1 C.1.2.1 dX12_right_176 (by decide) ?_
          exact hb177 0 M23 L24 _ _ ls hD hw (lv_sub hl [] rfl)
        · replace hD := g_pos c26 hD
          refine lv_iconst (v := 1) C.1.1 C.1.2.1 dX12_right_172 (by decide) ?_
          refine lv_goto (tgt := 177) C.1.1 C.1.2.1 dX12_right_173 (by decide) ?_
          exact hb177 1 M23 L24 _ _ ls hD hw (lv_sub hl [] rfl)
      · replace hD := g_neg c22 hD
        refine lv_iload C.1.1 C.1.2.1 dX12_right_108 (lv_at hl 5 rfl) ?_
        refine lv_iconst (v := 5) C.1.1 C.1.2.1 dX12_right_110 (by decide) ?_
        refine lv_irem C.1.1 C.1.2.1 dX12_right_111 (by decide) ?_
        refine lv_if_ne (tgt := 118) C.1.1 C.1.2.1 dX12_right_112 (by decide) (fun c28 => ?_) (fun c28 => ?_)
        · replace hD := g_neg c28 hD
          refine lv_aload_n C.1.1 C.1.2.1 dX12_right_118 rfl (lv_at hl 0 rfl) ?_
          refine lv_iload_n C.1.1 C.1.2.1 dX12_right_119 rfl (lv_at hl 1 rfl) ?_
          refine lv_aload_n C.1.1 C.1.2.1 dX12_right_120 rfl (lv_at hl 0 rfl) ?_
          refine mr_getI C hw kc_12 45 (by decide) tf_821 wd_2145 dX12_right_121 (by decide) rfl ?_
          refine lv_iload C.1.1 C.1.2.1 dX12_right_124 (lv_at hl 5 rfl) ?_
          refine lv_iadd C.1.1 C.1.2.1 dX12_right_126 ?_
          obtain ⟨r31, M29, L30, h1, hD⟩ := g_b3 hD
          refine md_cvI (As := [.int a1, .int ((M19 821 45) + v5)]) (rest := []) C hw (tX12_bitAt l G ad fu a1 ((M19 821 45) + v5) M19 L20 h1) kc_12 (by decide) tf_821 wd_3711 cwX12_bitAt ⟨Nat.le_of_ble_eq_true rfl, Nat.le_of_ble_eq_true rfl⟩ rfl hl.1 (Nat.le_of_ble_eq_true rfl) dX12_right_127 rfl rfl ⟨Nat.zero_le _, Nat.zero_le _⟩ rfl (fun H locs hw => ?_)
          refine lv_istore (lv' := [(6, .int r31), (0, .ref (ad 821)), (1, .int a1), (2, .int v2), (3, .int v3), (4, .int v4), (5, .int v5)]) C.1.1 C.1.2.1 dX12_right_130 hl (by decide) rfl (fun ls hl => ?_)
          refine lv_iload C.1.1 C.1.2.1 dX12_right_132 (lv_at hl 5 rfl) ?_
          refine lv_iconst (v := 4) C.1.1 C.1.2.1 dX12_right_134 (by decide) ?_
          refine lv_icmp_ge (tgt := 147) C.1.1 C.1.2.1 dX12_right_135 (by decide) (fun c32 => ?_) (fun c32 => ?_)
          · replace hD := g_pos c32 hD
            refine lv_iconst (v := 2) C.1.1 C.1.2.1 dX12_right_147 (by decide) ?_
            refine lv_iload_n C.1.1 C.1.2.1 dX12_right_148 rfl (lv_at hl 4 rfl) ?_
            refine lv_imul C.1.1 C.1.2.1 dX12_right_149 ?_
            refine lv_iload C.1.1 C.1.2.1 dX12_right_150 (lv_at hl 0 rfl) ?_
            refine lv_iadd C.1.1 C.1.2.1 dX12_right_152 ?_
            obtain ⟨x33, ex33, hD⟩ := g_let hD
            refine W.eq (g2 := F0 m 153 ls (.int x33 :: [])) (by rw [ex33]) ?_
            refine lv_istore_n (lv' := [(3, .int x33), (6, .int r31), (0, .ref (ad 821)), (1, .int a1), (2, .int v2), (4, .int v4), (5, .int v5)]) C.1.1 C.1.2.1 dX12_right_153 rfl hl (by decide) rfl (fun ls hl => ?_)
            exact hb154 v2 x33 v4 v5 M29 L30 _ _ ls hD hw (lv_sub hl [2, 3, 4, 0, 5, 6] rfl)
          · replace hD := g_neg c32 hD
            refine lv_aload_n C.1.1 C.1.2.1 dX12_right_138 rfl (lv_at hl 1 rfl) ?_
            refine lv_iload C.1.1 C.1.2.1 dX12_right_139 (lv_at hl 0 rfl) ?_
            obtain ⟨M34, L35, h1, hD⟩ := g_b2 hD
            refine md_cvV (As := [.int r31]) (rest := []) C hw (tX12_check l G ad fu r31 M29 L30 h1) kc_12 (by decide) tf_821 wd_3671 cwX12_check ⟨Nat.le_of_ble_eq_true rfl, Nat.le_of_ble_eq_true rfl⟩ rfl hl.1 (Nat.le_of_ble_eq_true rfl) dX12_right_141 rfl rfl ⟨Nat.zero_le _, Nat.zero_le _⟩ rfl (fun H locs hw => ?_)
            refine lv_goto (tgt := 154) C.1.1 C.1.2.1 dX12_right_144 (by decide) ?_
            exact hb154 v2 v3 v4 v5 M34 L35 _ _ ls hD hw (lv_sub hl [1, 2, 3, 4, 5, 6] rfl)
        · replace hD := g_pos c28 hD
          refine lv_goto (tgt := 157) C.1.1 C.1.2.1 dX12_right_115 (by decide) ?_
          exact hb157 v2 v3 v4 v5 M19 L20 _ _ ls hD hw (lv_sub hl [0, 1, 2, 3, 4, 5] rfl)
  have hb19 : ∀ (v2 : Int32) (v3 : Int32) (M : mwM) (L : mwL) (H : Heap) (locs : List Loc) (ls : Array Slot), fX12_right_b19 fu a1 v2 v3 M L = some (r0, M0, L0) → mw_W G ad NF TF FF M L H locs → lv_has ls 7 [(0, .ref (ad 821)), (1, .int a1), (2, .int v2), (3, .int v3)] → W p l e ({ frames := 3, cells := 0, slots := 0, locals := 62 }) s m [.ref (ad 821), .int a1].toArray below meth c H locs 0 0 (MQ below (mw_Qi G ad NF TF FF (mw_eqI r0 M0 L0)) [.ref (ad 821), .int a1].toArray s 0 0 (mw_fr G)) (F0 m 19 ls []) := by
    intro v2 v3 M L H locs ls hD hw hl
    unfold fX12_right_b19 at hD
    refine lv_aload_n C.1.1 C.1.2.1 dX12_right_19 rfl (lv_at hl 0 rfl) ?_
    obtain ⟨r3, M1, L2, h1, hD⟩ := g_b3 hD
    refine md_cvI (As := []) (rest := []) C hw (tX12_tail l G ad fu M L h1) kc_12 (by decide) tf_821 wd_3724 cwX12_tail ⟨Nat.le_of_ble_eq_true rfl, Nat.le_of_ble_eq_true rfl⟩ rfl hl.1 (Nat.le_of_ble_eq_true rfl) dX12_right_20 rfl rfl ⟨Nat.zero_le _, Nat.zero_le _⟩ rfl (fun H locs hw => ?_)
    refine lv_if_ne (tgt := 93) C.1.1 C.1.2.1 dX12_right_23 (by decide) (fun c4 => ?_) (fun c4 => ?_)
    · replace hD := g_neg c4 hD
      refine lv_iconst (v := 0) C.1.1 C.1.2.1 dX12_right_93 (by decide) ?_
      refine lv_istore (lv' := [(4, .int 0), (0, .ref (ad 821)), (1, .int a1), (2, .int v2), (3, .int v3)]) C.1.1 C.1.2.1 dX12_right_94 hl (by decide) rfl (fun ls hl => ?_)
      refine lv_iconst (v := 0) C.1.1 C.1.2.1 dX12_right_96 (by decide) ?_
      refine lv_istore (lv' := [(5, .int 0), (4, .int 0), (0, .ref (ad 821)), (1, .int a1), (2, .int v2), (3, .int v3)]) C.1.1 C.1.2.1 dX12_right_97 hl (by decide) rfl (fun ls hl => ?_)
      exact hh99 fu v2 v3 0 0 M1 L2 _ _ ls hD hw (lv_sub hl [2, 3, 4, 5, 1, 0] rfl)
    · replace hD := g_pos c4 hD
      refine lv_aload_n C.1.1 C.1.2.1 dX12_right_26 rfl (lv_at hl 0 rfl) ?_
      refine lv_aload_n C.1.1 C.1.2.1 dX12_right_27 rfl (lv_at hl 0 rfl) ?_
      refine mr_getI C hw kc_12 34 (by decide) tf_821 wd_2134 dX12_right_28 (by decide) rfl ?_
      refine lv_bipush (v := 15) C.1.1 C.1.2.1 dX12_right_31 (by decide) ?_
      refine lv_isub C.1.1 C.1.2.1 dX12_right_33 ?_
      refine lv_bipush (v := 15) C.1.1 C.1.2.1 dX12_right_34 (by decide) ?_
      obtain ⟨r7, M5, L6, h1, hD⟩ := g_b3 hD
      refine md_cvI (As := [.int ((M1 821 34) - 15), .int 15]) (rest := []) C hw (tX12_number l G ad fu ((M1 821 34) - 15) 15 M1 L2 h1) kc_12 (by decide) tf_821 wd_3719 cwX12_number ⟨Nat.le_of_ble_eq_true rfl, Nat.le_of_ble_eq_true rfl⟩ rfl hl.1 (Nat.le_of_ble_eq_true rfl) dX12_right_36 rfl rfl ⟨Nat.zero_le _, Nat.zero_le _⟩ rfl (fun H locs hw => ?_)
      refine lv_istore_n (lv' := [(3, .int r7), (0, .ref (ad 821)), (1, .int a1), (2, .int v2)]) C.1.1 C.1.2.1 dX12_right_39 rfl hl (by decide) rfl (fun ls hl => ?_)
      refine lv_aload_n C.1.1 C.1.2.1 dX12_right_40 rfl (lv_at hl 1 rfl) ?_
      refine lv_iconst (v := 0) C.1.1 C.1.2.1 dX12_right_41 (by decide) ?_
      obtain ⟨M8, eM8, hD⟩ := g_let hD
      refine mr_putI C hw kc_12 41 (by decide) tf_821 wd_2141 dX12_right_42 (by decide) rfl rfl rfl rfl (fun H locs hw => ?_)
      replace hw : mw_W G ad NF TF FF M8 L6 H locs := by rw [eM8]; exact hw
      refine lv_iconst (v := 0) C.1.1 C.1.2.1 dX12_right_45 (by decide) ?_
      refine lv_istore (lv' := [(4, .int 0), (3, .int r7), (0, .ref (ad 821)), (1, .int a1), (2, .int v2)]) C.1.1 C.1.2.1 dX12_right_46 hl (by decide) rfl (fun ls hl => ?_)
      exact hh48 fu r7 0 M8 L6 _ _ ls hD hw (lv_sub hl [2, 1, 0] rfl)
  unfold DX12_right at hD
  refine lv_aload_n C.1.1 C.1.2.1 dX12_right_0 rfl (lv_at hl 0 rfl) ?_
  obtain ⟨r41, M39, L40, h1, hD⟩ := g_b3 hD
  refine md_cvI (As := []) (rest := []) C hw (tX12_width l G ad fu M L h1) kc_12 (by decide) tf_821 wd_3728 cwX12_width ⟨Nat.le_of_ble_eq_true rfl, Nat.le_of_ble_eq_true rfl⟩ rfl hl.1 (Nat.le_of_ble_eq_true rfl) dX12_right_1 rfl rfl ⟨Nat.zero_le _, Nat.zero_le _⟩ rfl (fun H locs hw => ?_)
  refine lv_istore_n (lv' := [(2, .int r41), (0, .ref (ad 821)), (1, .int a1)]) C.1.1 C.1.2.1 dX12_right_4 rfl hl (by decide) rfl (fun ls hl => ?_)
  refine lv_iconst (v := 0) C.1.1 C.1.2.1 dX12_right_5 (by decide) ?_
  refine lv_istore_n (lv' := [(3, .int 0), (2, .int r41), (0, .ref (ad 821)), (1, .int a1)]) C.1.1 C.1.2.1 dX12_right_6 rfl hl (by decide) rfl (fun ls hl => ?_)
  refine lv_aload_n C.1.1 C.1.2.1 dX12_right_7 rfl (lv_at hl 2 rfl) ?_
  obtain ⟨r44, M42, L43, h1, hD⟩ := g_b3 hD
  refine md_cvI (As := []) (rest := []) C hw (tX12_tail l G ad fu M39 L40 h1) kc_12 (by decide) tf_821 wd_3724 cwX12_tail ⟨Nat.le_of_ble_eq_true rfl, Nat.le_of_ble_eq_true rfl⟩ rfl hl.1 (Nat.le_of_ble_eq_true rfl) dX12_right_8 rfl rfl ⟨Nat.zero_le _, Nat.zero_le _⟩ rfl (fun H locs hw => ?_)
  refine lv_if_le (tgt := 19) C.1.1 C.1.2.1 dX12_right_11 (by decide) (fun c45 => ?_) (fun c45 => ?_)
  · replace hD := g_pos c45 hD
    exact hb19 r41 0 M42 L43 _ _ ls hD hw (lv_sub hl [2, 3, 1, 0] rfl)
  · replace hD := g_neg c45 hD
    refine lv_aload_n C.1.1 C.1.2.1 dX12_right_14 rfl (lv_at hl 2 rfl) ?_
    refine lv_iconst (v := (-1)) C.1.1 C.1.2.1 dX12_right_15 (by decide) ?_
    obtain ⟨M46, eM46, hD⟩ := g_let hD
    refine mr_putI C hw kc_12 48 (by decide) tf_821 wd_2148 dX12_right_16 (by decide) rfl rfl rfl rfl (fun H locs hw => ?_)
    replace hw : mw_W G ad NF TF FF M46 L43 H locs := by rw [eM46]; exact hw
    exact hb19 r41 0 M46 L43 _ _ ls hD hw (lv_sub hl [2, 3, 1, 0] rfl)

theorem dX12_read_0 : decode cX12_read 0 = .ok (.aload_n 0, 1) := by decide +kernel
theorem dX12_read_1 : decode cX12_read 1 = .ok (.iload_n 1, 1) := by decide +kernel
theorem dX12_read_2 : decode cX12_read 2 = .ok (.invokevirtual 242, 3) := by decide +kernel
theorem dX12_read_5 : decode cX12_read 5 = .ok (.istore_n 2, 1) := by decide +kernel
theorem dX12_read_6 : decode cX12_read 6 = .ok (.iload_n 2, 1) := by decide +kernel
theorem dX12_read_7 : decode cX12_read 7 = .ok (.iconst (-1), 1) := by decide +kernel
theorem dX12_read_8 : decode cX12_read 8 = .ok (.if_icmp .ne 11, 3) := by decide +kernel
theorem dX12_read_11 : decode cX12_read 11 = .ok (.aload_n 0, 1) := by decide +kernel
theorem dX12_read_12 : decode cX12_read 12 = .ok (.getfield 209, 3) := by decide +kernel
theorem dX12_read_15 : decode cX12_read 15 = .ok (.iconst (-1), 1) := by decide +kernel
theorem dX12_read_16 : decode cX12_read 16 = .ok (.if_icmp .ne 5, 3) := by decide +kernel
theorem dX12_read_19 : decode cX12_read 19 = .ok (.iload_n 2, 1) := by decide +kernel
theorem dX12_read_20 : decode cX12_read 20 = .ok (.ireturn, 1) := by decide +kernel
theorem dX12_read_21 : decode cX12_read 21 = .ok (.aload_n 0, 1) := by decide +kernel
theorem dX12_read_22 : decode cX12_read 22 = .ok (.getfield 58, 3) := by decide +kernel
theorem dX12_read_25 : decode cX12_read 25 = .ok (.iload_n 1, 1) := by decide +kernel
theorem dX12_read_26 : decode cX12_read 26 = .ok (.iaload, 1) := by decide +kernel
theorem dX12_read_27 : decode cX12_read 27 = .ok (.iconst 1, 1) := by decide +kernel
theorem dX12_read_28 : decode cX12_read 28 = .ok (.isub, 1) := by decide +kernel
theorem dX12_read_29 : decode cX12_read 29 = .ok (.istore_n 3, 1) := by decide +kernel
theorem dX12_read_30 : decode cX12_read 30 = .ok (.aload_n 0, 1) := by decide +kernel
theorem dX12_read_31 : decode cX12_read 31 = .ok (.iload_n 1, 1) := by decide +kernel
theorem dX12_read_32 : decode cX12_read 32 = .ok (.iload_n 3, 1) := by decide +kernel
theorem dX12_read_33 : decode cX12_read 33 = .ok (.invokevirtual 215, 3) := by decide +kernel
theorem dX12_read_36 : decode cX12_read 36 = .ok (.istore 4, 2) := by decide +kernel
theorem dX12_read_38 : decode cX12_read 38 = .ok (.iload_n 3, 1) := by decide +kernel
theorem dX12_read_39 : decode cX12_read 39 = .ok (.aload_n 0, 1) := by decide +kernel
theorem dX12_read_40 : decode cX12_read 40 = .ok (.getfield 209, 3) := by decide +kernel
theorem dX12_read_43 : decode cX12_read 43 = .ok (.isub, 1) := by decide +kernel
theorem dX12_read_44 : decode cX12_read 44 = .ok (.istore 5, 2) := by decide +kernel
theorem dX12_read_46 : decode cX12_read 46 = .ok (.iload 5, 2) := by decide +kernel
theorem dX12_read_48 : decode cX12_read 48 = .ok (.ifCond .ge 5, 3) := by decide +kernel
theorem dX12_read_51 : decode cX12_read 51 = .ok (.iconst (-1), 1) := by decide +kernel
theorem dX12_read_52 : decode cX12_read 52 = .ok (.ireturn, 1) := by decide +kernel
theorem dX12_read_53 : decode cX12_read 53 = .ok (.iload 5, 2) := by decide +kernel
theorem dX12_read_55 : decode cX12_read 55 = .ok (.aload_n 0, 1) := by decide +kernel
theorem dX12_read_56 : decode cX12_read 56 = .ok (.invokevirtual 239, 3) := by decide +kernel
theorem dX12_read_59 : decode cX12_read 59 = .ok (.if_icmp .ge 96, 3) := by decide +kernel
theorem dX12_read_62 : decode cX12_read 62 = .ok (.iload 5, 2) := by decide +kernel
theorem dX12_read_64 : decode cX12_read 64 = .ok (.iconst 5, 1) := by decide +kernel
theorem dX12_read_65 : decode cX12_read 65 = .ok (.irem, 1) := by decide +kernel
theorem dX12_read_66 : decode cX12_read 66 = .ok (.ifCond .ne 22, 3) := by decide +kernel
theorem dX12_read_69 : decode cX12_read 69 = .ok (.iload 4, 2) := by decide +kernel
theorem dX12_read_71 : decode cX12_read 71 = .ok (.aload_n 0, 1) := by decide +kernel
theorem dX12_read_72 : decode cX12_read 72 = .ok (.iload_n 1, 1) := by decide +kernel
theorem dX12_read_73 : decode cX12_read 73 = .ok (.iload_n 3, 1) := by decide +kernel
theorem dX12_read_74 : decode cX12_read 74 = .ok (.iconst 1, 1) := by decide +kernel
theorem dX12_read_75 : decode cX12_read 75 = .ok (.isub, 1) := by decide +kernel
theorem dX12_read_76 : decode cX12_read 76 = .ok (.invokevirtual 215, 3) := by decide +kernel
theorem dX12_read_79 : decode cX12_read 79 = .ok (.if_icmp .ne 7, 3) := by decide +kernel
theorem dX12_read_82 : decode cX12_read 82 = .ok (.iconst 1, 1) := by decide +kernel
theorem dX12_read_83 : decode cX12_read 83 = .ok (.goto 4, 3) := by decide +kernel
theorem dX12_read_86 : decode cX12_read 86 = .ok (.iconst (-1), 1) := by decide +kernel
theorem dX12_read_87 : decode cX12_read 87 = .ok (.ireturn, 1) := by decide +kernel
theorem dX12_read_88 : decode cX12_read 88 = .ok (.iconst 0, 1) := by decide +kernel
theorem dX12_read_89 : decode cX12_read 89 = .ok (.istore 6, 2) := by decide +kernel
theorem dX12_read_91 : decode cX12_read 91 = .ok (.iconst 1, 1) := by decide +kernel
theorem dX12_read_92 : decode cX12_read 92 = .ok (.istore 7, 2) := by decide +kernel
theorem dX12_read_94 : decode cX12_read 94 = .ok (.iload 7, 2) := by decide +kernel
theorem dX12_read_96 : decode cX12_read 96 = .ok (.iconst 5, 1) := by decide +kernel
theorem dX12_read_97 : decode cX12_read 97 = .ok (.if_icmp .ge 34, 3) := by decide +kernel
theorem dX12_read_100 : decode cX12_read 100 = .ok (.iload 5, 2) := by decide +kernel
theorem dX12_read_102 : decode cX12_read 102 = .ok (.iconst 4, 1) := by decide +kernel
theorem dX12_read_103 : decode cX12_read 103 = .ok (.if_icmp .ne 28, 3) := by decide +kernel
theorem dX12_read_106 : decode cX12_read 106 = .ok (.iconst 2, 1) := by decide +kernel
theorem dX12_read_107 : decode cX12_read 107 = .ok (.iload 6, 2) := by decide +kernel
theorem dX12_read_109 : decode cX12_read 109 = .ok (.imul, 1) := by decide +kernel
theorem dX12_read_110 : decode cX12_read 110 = .ok (.aload_n 0, 1) := by decide +kernel
theorem dX12_read_111 : decode cX12_read 111 = .ok (.iload_n 1, 1) := by decide +kernel
theorem dX12_read_112 : decode cX12_read 112 = .ok (.aload_n 0, 1) := by decide +kernel
theorem dX12_read_113 : decode cX12_read 113 = .ok (.getfield 209, 3) := by decide +kernel
theorem dX12_read_116 : decode cX12_read 116 = .ok (.iload 7, 2) := by decide +kernel
theorem dX12_read_118 : decode cX12_read 118 = .ok (.iadd, 1) := by decide +kernel
theorem dX12_read_119 : decode cX12_read 119 = .ok (.invokevirtual 215, 3) := by decide +kernel
theorem dX12_read_122 : decode cX12_read 122 = .ok (.iadd, 1) := by decide +kernel
theorem dX12_read_123 : decode cX12_read 123 = .ok (.istore 6, 2) := by decide +kernel
theorem dX12_read_125 : decode cX12_read 125 = .ok (.iinc 7 1, 3) := by decide +kernel
theorem dX12_read_128 : decode cX12_read 128 = .ok (.goto (-34), 3) := by decide +kernel
theorem dX12_read_131 : decode cX12_read 131 = .ok (.iload 5, 2) := by decide +kernel
theorem dX12_read_133 : decode cX12_read 133 = .ok (.iconst 4, 1) := by decide +kernel
theorem dX12_read_134 : decode cX12_read 134 = .ok (.if_icmp .ne 19, 3) := by decide +kernel
theorem dX12_read_137 : decode cX12_read 137 = .ok (.iload 6, 2) := by decide +kernel
theorem dX12_read_139 : decode cX12_read 139 = .ok (.aload_n 0, 1) := by decide +kernel
theorem dX12_read_140 : decode cX12_read 140 = .ok (.getfield 212, 3) := by decide +kernel
theorem dX12_read_143 : decode cX12_read 143 = .ok (.invokestatic 194, 3) := by decide +kernel
theorem dX12_read_146 : decode cX12_read 146 = .ok (.if_icmp .eq 7, 3) := by decide +kernel
theorem dX12_read_149 : decode cX12_read 149 = .ok (.iconst 1, 1) := by decide +kernel
theorem dX12_read_150 : decode cX12_read 150 = .ok (.goto 4, 3) := by decide +kernel
theorem dX12_read_153 : decode cX12_read 153 = .ok (.iconst (-1), 1) := by decide +kernel
theorem dX12_read_154 : decode cX12_read 154 = .ok (.ireturn, 1) := by decide +kernel
theorem dX12_read_155 : decode cX12_read 155 = .ok (.iload 5, 2) := by decide +kernel
theorem dX12_read_157 : decode cX12_read 157 = .ok (.aload_n 0, 1) := by decide +kernel
theorem dX12_read_158 : decode cX12_read 158 = .ok (.invokevirtual 239, 3) := by decide +kernel
theorem dX12_read_161 : decode cX12_read 161 = .ok (.isub, 1) := by decide +kernel
theorem dX12_read_162 : decode cX12_read 162 = .ok (.istore 5, 2) := by decide +kernel
theorem dX12_read_164 : decode cX12_read 164 = .ok (.iload 5, 2) := by decide +kernel
theorem dX12_read_166 : decode cX12_read 166 = .ok (.iconst 1, 1) := by decide +kernel
theorem dX12_read_167 : decode cX12_read 167 = .ok (.if_icmp .ne 5, 3) := by decide +kernel
theorem dX12_read_170 : decode cX12_read 170 = .ok (.iconst (-1), 1) := by decide +kernel
theorem dX12_read_171 : decode cX12_read 171 = .ok (.ireturn, 1) := by decide +kernel
theorem dX12_read_172 : decode cX12_read 172 = .ok (.iload 5, 2) := by decide +kernel
theorem dX12_read_174 : decode cX12_read 174 = .ok (.bipush 9, 2) := by decide +kernel
theorem dX12_read_176 : decode cX12_read 176 = .ok (.if_icmp .ne 16, 3) := by decide +kernel
theorem dX12_read_179 : decode cX12_read 179 = .ok (.iload 4, 2) := by decide +kernel
theorem dX12_read_181 : decode cX12_read 181 = .ok (.iconst 1, 1) := by decide +kernel
theorem dX12_read_182 : decode cX12_read 182 = .ok (.if_icmp .ne 8, 3) := by decide +kernel
theorem dX12_read_185 : decode cX12_read 185 = .ok (.bipush 11, 2) := by decide +kernel
theorem dX12_read_187 : decode cX12_read 187 = .ok (.goto 4, 3) := by decide +kernel
theorem dX12_read_190 : decode cX12_read 190 = .ok (.iconst 5, 1) := by decide +kernel
theorem dX12_read_191 : decode cX12_read 191 = .ok (.ireturn, 1) := by decide +kernel
theorem dX12_read_192 : decode cX12_read 192 = .ok (.iload 4, 2) := by decide +kernel
theorem dX12_read_194 : decode cX12_read 194 = .ok (.ifCond .ne 5, 3) := by decide +kernel
theorem dX12_read_197 : decode cX12_read 197 = .ok (.iconst 2, 1) := by decide +kernel
theorem dX12_read_198 : decode cX12_read 198 = .ok (.ireturn, 1) := by decide +kernel
theorem dX12_read_199 : decode cX12_read 199 = .ok (.iload 5, 2) := by decide +kernel
theorem dX12_read_201 : decode cX12_read 201 = .ok (.iconst 2, 1) := by decide +kernel
theorem dX12_read_202 : decode cX12_read 202 = .ok (.if_icmp .ne 17, 3) := by decide +kernel
theorem dX12_read_205 : decode cX12_read 205 = .ok (.aload_n 0, 1) := by decide +kernel
theorem dX12_read_206 : decode cX12_read 206 = .ok (.iload_n 1, 1) := by decide +kernel
theorem dX12_read_207 : decode cX12_read 207 = .ok (.invokevirtual 245, 3) := by decide +kernel
theorem dX12_read_210 : decode cX12_read 210 = .ok (.ifCond .eq 7, 3) := by decide +kernel
theorem dX12_read_213 : decode cX12_read 213 = .ok (.iconst (-1), 1) := by decide +kernel
theorem dX12_read_214 : decode cX12_read 214 = .ok (.goto 4, 3) := by decide +kernel
theorem dX12_read_217 : decode cX12_read 217 = .ok (.iconst 3, 1) := by decide +kernel
theorem dX12_read_218 : decode cX12_read 218 = .ok (.ireturn, 1) := by decide +kernel
theorem dX12_read_219 : decode cX12_read 219 = .ok (.iload 5, 2) := by decide +kernel
theorem dX12_read_221 : decode cX12_read 221 = .ok (.bipush 8, 2) := by decide +kernel
theorem dX12_read_223 : decode cX12_read 223 = .ok (.if_icmp .ne 8, 3) := by decide +kernel
theorem dX12_read_226 : decode cX12_read 226 = .ok (.bipush 10, 2) := by decide +kernel
theorem dX12_read_228 : decode cX12_read 228 = .ok (.goto 4, 3) := by decide +kernel
theorem dX12_read_231 : decode cX12_read 231 = .ok (.iconst (-1), 1) := by decide +kernel
theorem dX12_read_232 : decode cX12_read 232 = .ok (.ireturn, 1) := by decide +kernel
theorem cwX12_read : mw_cwV yX12_read cX12_read 8 ((some .int)) 1 := ⟨⟨wd_15, wd_3759, by decide +kernel⟩, wd_3758, sl_255⟩
set_option maxHeartbeats 4000000 in
set_option maxRecDepth 100000 in
theorem tX12_read (l : Launch) (G : mwG) (ad : Nat → Nat) (fu : Nat) (a1 : Int32) (M : mwM) (L : mwL) {r0 : Int32} {M0 : mwM} {L0 : mwL} (hD : DX12_read fu a1 M L = some (r0, M0, L0)) : Met l yX12_read (Cond.code yX12_read cX12_read 8 ((some .int)) :: GT) ({ frames := 4, cells := 0, slots := 0, locals := 103 }) (mw_Pre G ad NF TF FF M L [.ref (ad 821), .int a1]) (mw_Qi G ad NF TF FF (mw_eqI r0 M0 L0)) 0 0 (mw_fr G) := by
  refine mw_enter (by decide) (Nat.le_of_ble_eq_true rfl) ?_
  intro p e s m below meth c ls C hr hlocks hnm hw hl
  have hl : lv_has ls 8 [(0, .ref (ad 821)), (1, .int a1)] := hl
  have hb19 : ∀ (v2 : Int32) (M : mwM) (L : mwL) (H : Heap) (locs : List Loc) (ls : Array Slot), fX12_read_b19 fu a1 v2 M L = some (r0, M0, L0) → mw_W G ad NF TF FF M L H locs → lv_has ls 8 [(2, .int v2)] → W p l e ({ frames := 4, cells := 0, slots := 0, locals := 103 }) s m [.ref (ad 821), .int a1].toArray below meth c H locs 0 0 (MQ below (mw_Qi G ad NF TF FF (mw_eqI r0 M0 L0)) [.ref (ad 821), .int a1].toArray s 0 0 (mw_fr G)) (F0 m 19 ls []) := by
    intro v2 M L H locs ls hD hw hl
    unfold fX12_read_b19 at hD
    refine lv_iload_n C.1.1 C.1.2.1 dX12_read_19 rfl (lv_at hl 0 rfl) ?_
    exact mr_iret C hr hlocks hw rfl (Option.some.inj hD) dX12_read_20
  have hb87 : ∀ (s0 : Int32) (M : mwM) (L : mwL) (H : Heap) (locs : List Loc) (ls : Array Slot), fX12_read_b87 fu a1 s0 M L = some (r0, M0, L0) → mw_W G ad NF TF FF M L H locs → lv_has ls 8 [] → W p l e ({ frames := 4, cells := 0, slots := 0, locals := 103 }) s m [.ref (ad 821), .int a1].toArray below meth c H locs 0 0 (MQ below (mw_Qi G ad NF TF FF (mw_eqI r0 M0 L0)) [.ref (ad 821), .int a1].toArray s 0 0 (mw_fr G)) (F0 m 87 ls [.int s0]) := by
    intro s0 M L H locs ls hD hw hl
    unfold fX12_read_b87 at hD
    exact mr_iret C hr hlocks hw rfl (Option.some.inj hD) dX12_read_87
  have hb154 : ∀ (s0 : Int32) (M : mwM) (L : mwL) (H : Heap) (locs : List Loc) (ls : Array Slot), fX12_read_b154 fu a1 s0 M L = some (r0, M0, L0) → mw_W G ad NF TF FF M L H locs → lv_has ls 8 [] → W p l e ({ frames := 4, cells := 0, slots := 0, locals := 103 }) s m [.ref (ad 821), .int a1].toArray below meth c H locs 0 0 (MQ below (mw_Qi G ad NF TF FF (mw_eqI r0 M0 L0)) [.ref (ad 821), .int a1].toArray s 0 0 (mw_fr G)) (F0 m 154 ls [.int s0]) := by
    intro s0 M L H locs ls hD hw hl
    unfold fX12_read_b154 at hD
    exact mr_iret C hr hlocks hw rfl (Option.some.inj hD) dX12_read_154
  have hb153 : ∀ (M : mwM) (L : mwL) (H : Heap) (locs : List Loc) (ls : Array Slot), fX12_read_b153 fu a1 M L = some (r0, M0, L0) → mw_W G ad NF TF FF M L H locs → lv_has ls 8 [] → W p l e ({ frames := 4, cells := 0, slots := 0, locals := 103 }) s m [.ref (ad 821), .int a1].toArray below meth c H locs 0 0 (MQ below (mw_Qi G ad NF TF FF (mw_eqI r0 M0 L0)) [.ref (ad 821), .int a1].toArray s 0 0 (mw_fr G)) (F0 m 153 ls []) := by
    intro M L H locs ls hD hw hl
    unfold fX12_read_b153 at hD
    refine lv_iconst (v := (-1)) C.1.1 C.1.2.1 dX12_read_153 (by decide) ?_
    exact hb154 ((-1)) M L _ _ ls hD hw (lv_sub hl [] rfl)
  have hb131 : ∀ (v5 : Int32) (v6 : Int32) (M : mwM) (L : mwL) (H : Heap) (locs : List Loc) (ls : Array Slot), fX12_read_b131 fu a1 v5 v6 M L = some (r0, M0, L0) → mw_W G ad NF TF FF M L H locs → lv_has ls 8 [(0, .ref (ad 821)), (5, .int v5), (6, .int v6)] → W p l e ({ frames := 4, cells := 0, slots := 0, locals := 103 }) s m [.ref (ad 821), .int a1].toArray below meth c H locs 0 0 (MQ below (mw_Qi G ad NF TF FF (mw_eqI r0 M0 L0)) [.ref (ad 821), .int a1].toArray s 0 0 (mw_fr G)) (F0 m 131 ls []) := by
    intro v5 v6 M L H locs ls hD hw hl
    unfold fX12_read_b131 at hD
    refine lv_iload C.1.1 C.1.2.1 dX12_read_131 (lv_at hl 1 rfl) ?_
    refine lv_iconst (v := 4) C.1.1 C.1.2.1 dX12_read_133 (by decide) ?_
    refine lv_icmp_ne (tgt := 153) C.1.1 C.1.2.1 dX12_read_134 (by decide) (fun c8 => ?_) (fun c8 => ?_)
    · replace hD := g_neg c8 hD
      exact hb153 M L _ _ ls hD hw (lv_sub hl [] rfl)
    · replace hD := g_pos c8 hD
      refine lv_iload C.1.1 C.1.2.1 dX12_read_137 (lv_at hl 2 rfl) ?_
      refine lv_aload_n C.1.1 C.1.2.1 dX12_read_139 rfl (lv_at hl 0 rfl) ?_
      refine mr_getI C hw kc_12 46 (by decide) tf_821 wd_2146 dX12_read_140 (by decide) rfl ?_
      obtain ⟨r11, M9, L10, h1, hD⟩ := g_b3 hD
      refine md_csI (As := [.int (M 821 46)]) (rest := [.int v6]) C hw (tX12_countOf l G ad fu (M 821 46) M L h1) wd_3689 cwX12_countOf ⟨Nat.le_of_ble_eq_true rfl, Nat.le_of_ble_eq_true rfl⟩ rfl hl.1 (Nat.le_of_ble_eq_true rfl) dX12_read_143 rfl rfl ⟨Nat.zero_le _, Nat.zero_le _⟩ rfl (fun H locs hw => ?_)
      refine lv_icmp_eq (tgt := 153) C.1.1 C.1.2.1 dX12_read_146 (by decide) (fun c12 => ?_) (fun c12 => ?_)
      · replace hD := g_pos c12 hD
        exact hb153 M9 L10 _ _ ls hD hw (lv_sub hl [] rfl)
      · replace hD := g_neg c12 hD
        refine lv_iconst (v := 1) C.1.1 C.1.2.1 dX12_read_149 (by decide) ?_
        refine lv_goto (tgt := 154) C.1.1 C.1.2.1 dX12_read_150 (by decide) ?_
        exact hb154 1 M9 L10 _ _ ls hD hw (lv_sub hl [] rfl)
  have hh94 : ∀ (f : Nat) (v5 : Int32) (v6 : Int32) (v7 : Int32) (M : mwM) (L : mwL) (H : Heap) (locs : List Loc) (ls : Array Slot), fX12_read_h94 fu a1 f (v5, v6, v7, M, L) = some (r0, M0, L0) → mw_W G ad NF TF FF M L H locs → lv_has ls 8 [(0, .ref (ad 821)), (1, .int a1), (5, .int v5), (6, .int v6), (7, .int v7)] → W p l e ({ frames := 4, cells := 0, slots := 0, locals := 103 }) s m [.ref (ad 821), .int a1].toArray below meth c H locs 0 0 (MQ below (mw_Qi G ad NF TF FF (mw_eqI r0 M0 L0)) [.ref (ad 821), .int a1].toArray s 0 0 (mw_fr G)) (F0 m 94 ls []) := by
    intro f
    induction f with
    | zero => intro v5 v6 v7 M L H locs ls hD; cases hD
    | succ f94 ih94 =>
      intro v5 v6 v7 M L H locs ls hD hw hl
      replace hD : fX12_read_i94 fu a1 (fX12_read_h94 fu a1 f94) v5 v6 v7 M L = some (r0, M0, L0) := hD
      unfold fX12_read_i94 at hD
      refine lv_iload C.1.1 C.1.2.1 dX12_read_94 (lv_at hl 4 rfl) ?_
      refine lv_iconst (v := 5) C.1.1 C.1.2.1 dX12_read_96 (by decide) ?_
      refine lv_icmp_ge (tgt := 131) C.1.1 C.1.2.1 dX12_read_97 (by decide) (fun c1 => ?_) (fun c1 => ?_)
      · replace hD := g_pos c1 hD
        exact hb131 v5 v6 M L _ _ ls hD hw (lv_sub hl [0, 2, 3] rfl)
      · replace hD := g_neg c1 hD
        refine lv_iload C.1.1 C.1.2.1 dX12_read_100 (lv_at hl 2 rfl) ?_
        refine lv_iconst (v := 4) C.1.1 C.1.2.1 dX12_read_102 (by decide) ?_
        refine lv_icmp_ne (tgt := 131) C.1.1 C.1.2.1 dX12_read_103 (by decide) (fun c2 => ?_) (fun c2 => ?_)
        · replace hD := g_neg c2 hD
          exact hb131 v5 v6 M L _ _ ls hD hw (lv_sub hl [0, 2, 3] rfl)
        · replace hD := g_pos c2 hD
          refine lv_iconst (v := 2) C.1.1 C.1.2.1 dX12_read_106 (by decide) ?_
          refine lv_iload C.1.1 C.1.2.1 dX12_read_107 (lv_at hl 3 rfl) ?_
          refine lv_imul C.1.1 C.1.2.1 dX12_read_109 ?_
          refine lv_aload_n C.1.1 C.1.2.1 dX12_read_110 rfl (lv_at hl 0 rfl) ?_
          refine lv_iload_n C.1.1 C.1.2.1 dX12_read_111 rfl (lv_at hl 1 rfl) ?_
          refine lv_aload_n C.1.1 C.1.2.1 dX12_read_112 rfl (lv_at hl 0 rfl) ?_
          refine mr_getI C hw kc_12 45 (by decide) tf_821 wd_2145 dX12_read_113 (by decide) rfl ?_
          refine lv_iload C.1.1 C.1.2.1 dX12_read_116 (lv_at hl 4 rfl) ?_
          refine lv_iadd C.1.1 C.1.2.1 dX12_read_118 ?_
          obtain ⟨r5, M3, L4, h1, hD⟩ := g_b3 hD
          refine md_cvI (As := [.int a1, .int ((M 821 45) + v7)]) (rest := [.int (2 * v6)]) C hw (tX12_bitAt l G ad fu a1 ((M 821 45) + v7) M L h1) kc_12 (by decide) tf_821 wd_3711 cwX12_bitAt ⟨Nat.le_of_ble_eq_true rfl, Nat.le_of_ble_eq_true rfl⟩ rfl hl.1 (Nat.le_of_ble_eq_true rfl) dX12_read_119 rfl rfl ⟨Nat.zero_le _, Nat.zero_le _⟩ rfl (fun H locs hw => ?_)
          refine lv_iadd C.1.1 C.1.2.1 dX12_read_122 ?_
          obtain ⟨x6, ex6, hD⟩ := g_let hD
          refine W.eq (g2 := F0 m 123 ls (.int x6 :: [])) (by rw [ex6]) ?_
          refine lv_istore (lv' := [(6, .int x6), (0, .ref (ad 821)), (1, .int a1), (5, .int v5), (7, .int v7)]) C.1.1 C.1.2.1 dX12_read_123 hl (by decide) rfl (fun ls hl => ?_)
          obtain ⟨x7, ex7, hD⟩ := g_let hD
          refine lv_iinc (v := x7) (lv' := [(7, .int x7), (6, .int x6), (0, .ref (ad 821)), (1, .int a1), (5, .int v5)]) C.1.1 C.1.2.1 dX12_read_125 hl (k := 4) rfl (by rw [ex7]; rfl) (by decide) rfl (fun ls hl => ?_)
          refine lv_goto (tgt := 94) C.1.1 C.1.2.1 dX12_read_128 (by decide) ?_
          exact ih94 v5 x6 x7 M3 L4 _ _ ls hD hw (lv_sub hl [2, 3, 4, 1, 0] rfl)
  have hb191 : ∀ (s0 : Int32) (M : mwM) (L : mwL) (H : Heap) (locs : List Loc) (ls : Array Slot), fX12_read_b191 fu a1 s0 M L = some (r0, M0, L0) → mw_W G ad NF TF FF M L H locs → lv_has ls 8 [] → W p l e ({ frames := 4, cells := 0, slots := 0, locals := 103 }) s m [.ref (ad 821), .int a1].toArray below meth c H locs 0 0 (MQ below (mw_Qi G ad NF TF FF (mw_eqI r0 M0 L0)) [.ref (ad 821), .int a1].toArray s 0 0 (mw_fr G)) (F0 m 191 ls [.int s0]) := by
    intro s0 M L H locs ls hD hw hl
    unfold fX12_read_b191 at hD
    exact mr_iret C hr hlocks hw rfl (Option.some.inj hD) dX12_read_191
  have hb218 : ∀ (s0 : Int32) (M : mwM) (L : mwL) (H : Heap) (locs : List Loc) (ls : Array Slot), fX12_read_b218 fu a1 s0 M L = some (r0, M0, L0) → mw_W G ad NF TF FF M L H locs → lv_has ls 8 [] → W p l e ({ frames := 4, cells := 0, slots := 0, locals := 103 }) s m [.ref (ad 821), .int a1].toArray below meth c H locs 0 0 (MQ below (mw_Qi G ad NF TF FF (mw_eqI r0 M0 L0)) [.ref (ad 821), .int a1].toArray s 0 0 (mw_fr G)) (F0 m 218 ls [.int s0]) := by
    intro s0 M L H locs ls hD hw hl
    unfold fX12_read_b218 at hD
    exact mr_iret C hr hlocks hw rfl (Option.some.inj hD) dX12_read_218
  have hb232 : ∀ (s0 : Int32) (M : mwM) (L : mwL) (H : Heap) (locs : List Loc) (ls : Array Slot), fX12_read_b232 fu a1 s0 M L = some (r0, M0, L0) → mw_W G ad NF TF FF M L H locs → lv_has ls 8 [] → W p l e ({ frames := 4, cells := 0, slots := 0, locals := 103 }) s m [.ref (ad 821), .int a1].toArray below meth c H locs 0 0 (MQ below (mw_Qi G ad NF TF FF (mw_eqI r0 M0 L0)) [.ref (ad 821), .int a1].toArray s 0 0 (mw_fr G)) (F0 m 232 ls [.int s0]) := by
    intro s0 M L H locs ls hD hw hl
    unfold fX12_read_b232 at hD
    exact mr_iret C hr hlocks hw rfl (Option.some.inj hD) dX12_read_232
  unfold DX12_read at hD
  refine lv_aload_n C.1.1 C.1.2.1 dX12_read_0 rfl (lv_at hl 0 rfl) ?_
  refine lv_iload_n C.1.1 C.1.2.1 dX12_read_1 rfl (lv_at hl 1 rfl) ?_
  obtain ⟨r15, M13, L14, h1, hD⟩ := g_b3 hD
  refine md_cvI (As := [.int a1]) (rest := []) C hw (tX12_body l G ad fu a1 M L h1) kc_12 (by decide) tf_821 wd_3703 cwX12_body ⟨Nat.le_of_ble_eq_true rfl, Nat.le_of_ble_eq_true rfl⟩ rfl hl.1 (Nat.le_of_ble_eq_true rfl) dX12_read_2 rfl rfl ⟨Nat.zero_le _, Nat.zero_le _⟩ rfl (fun H locs hw => ?_)
  refine lv_istore_n (lv' := [(2, .int r15), (0, .ref (ad 821)), (1, .int a1)]) C.1.1 C.1.2.1 dX12_read_5 rfl hl (by decide) rfl (fun ls hl => ?_)
  refine lv_iload_n C.1.1 C.1.2.1 dX12_read_6 rfl (lv_at hl 0 rfl) ?_
  refine lv_iconst (v := (-1)) C.1.1 C.1.2.1 dX12_read_7 (by decide) ?_
  refine lv_icmp_ne (tgt := 19) C.1.1 C.1.2.1 dX12_read_8 (by decide) (fun c16 => ?_) (fun c16 => ?_)
  · replace hD := g_neg c16 hD
    exact hb19 r15 M13 L14 _ _ ls hD hw (lv_sub hl [0] rfl)
  · replace hD := g_pos c16 hD
    refine lv_aload_n C.1.1 C.1.2.1 dX12_read_11 rfl (lv_at hl 1 rfl) ?_
    refine mr_getI C hw kc_12 45 (by decide) tf_821 wd_2145 dX12_read_12 (by decide) rfl ?_
    refine lv_iconst (v := (-1)) C.1.1 C.1.2.1 dX12_read_15 (by decide) ?_
    refine lv_icmp_ne (tgt := 21) C.1.1 C.1.2.1 dX12_read_16 (by decide) (fun c17 => ?_) (fun c17 => ?_)
    · replace hD := g_neg c17 hD
      refine lv_aload_n C.1.1 C.1.2.1 dX12_read_21 rfl (lv_at hl 1 rfl) ?_
      refine mr_getR C hw kc_12 19 (by decide) tf_821 ff_821_19 wd_2119 dX12_read_22 (by decide) rfl ?_
      refine lv_iload_n C.1.1 C.1.2.1 dX12_read_25 rfl (lv_at hl 2 rfl) ?_
      obtain ⟨q18, hD⟩ := g_ck hD
      refine mr_iald C hw (by decide) tf_836 q18 dX12_read_26 ?_
      refine lv_iconst (v := 1) C.1.1 C.1.2.1 dX12_read_27 (by decide) ?_
      refine lv_isub C.1.1 C.1.2.1 dX12_read_28 ?_
      obtain ⟨x19, ex19, hD⟩ := g_let hD
      refine W.eq (g2 := F0 m 29 ls (.int x19 :: [])) (by rw [ex19]) ?_
      refine lv_istore_n (lv' := [(3, .int x19), (2, .int r15), (0, .ref (ad 821)), (1, .int a1)]) C.1.1 C.1.2.1 dX12_read_29 rfl hl (by decide) rfl (fun ls hl => ?_)
      refine lv_aload_n C.1.1 C.1.2.1 dX12_read_30 rfl (lv_at hl 2 rfl) ?_
      refine lv_iload_n C.1.1 C.1.2.1 dX12_read_31 rfl (lv_at hl 3 rfl) ?_
      refine lv_iload_n C.1.1 C.1.2.1 dX12_read_32 rfl (lv_at hl 0 rfl) ?_
      obtain ⟨r22, M20, L21, h1, hD⟩ := g_b3 hD
      refine md_cvI (As := [.int a1, .int x19]) (rest := []) C hw (tX12_bitAt l G ad fu a1 x19 M13 L14 h1) kc_12 (by decide) tf_821 wd_3711 cwX12_bitAt ⟨Nat.le_of_ble_eq_true rfl, Nat.le_of_ble_eq_true rfl⟩ rfl hl.1 (Nat.le_of_ble_eq_true rfl) dX12_read_33 rfl rfl ⟨Nat.zero_le _, Nat.zero_le _⟩ rfl (fun H locs hw => ?_)
      refine lv_istore (lv' := [(4, .int r22), (3, .int x19), (2, .int r15), (0, .ref (ad 821)), (1, .int a1)]) C.1.1 C.1.2.1 dX12_read_36 hl (by decide) rfl (fun ls hl => ?_)
      refine lv_iload_n C.1.1 C.1.2.1 dX12_read_38 rfl (lv_at hl 1 rfl) ?_
      refine lv_aload_n C.1.1 C.1.2.1 dX12_read_39 rfl (lv_at hl 3 rfl) ?_
      refine mr_getI C hw kc_12 45 (by decide) tf_821 wd_2145 dX12_read_40 (by decide) rfl ?_
      refine lv_isub C.1.1 C.1.2.1 dX12_read_43 ?_
      obtain ⟨x23, ex23, hD⟩ := g_let hD
      refine W.eq (g2 := F0 m 44 ls (.int x23 :: [])) (by rw [ex23]) ?_
      refine lv_istore (lv' := [(5, .int x23), (4, .int r22), (3, .int x19), (2, .int r15), (0, .ref (ad 821)), (1, .int a1)]) C.1.1 C.1.2.1 dX12_read_44 hl (by decide) rfl (fun ls hl => ?_)
      refine lv_iload C.1.1 C.1.2.1 dX12_read_46 (lv_at hl 0 rfl) ?_
      refine lv_if_ge (tgt := 53) C.1.1 C.1.2.1 dX12_read_48 (by decide) (fun c24 => ?_) (fun c24 => ?_)
      · replace hD := g_pos c24 hD
        refine lv_iload C.1.1 C.1.2.1 dX12_read_53 (lv_at hl 0 rfl) ?_
        refine lv_aload_n C.1.1 C.1.2.1 dX12_read_55 rfl (lv_at hl 4 rfl) ?_
        obtain ⟨r27, M25, L26, h1, hD⟩ := g_b3 hD
        refine md_cvI (As := []) (rest := [.int x23]) C hw (tX12_tail l G ad fu M20 L21 h1) kc_12 (by decide) tf_821 wd_3724 cwX12_tail ⟨Nat.le_of_ble_eq_true rfl, Nat.le_of_ble_eq_true rfl⟩ rfl hl.1 (Nat.le_of_ble_eq_true rfl) dX12_read_56 rfl rfl ⟨Nat.zero_le _, Nat.zero_le _⟩ rfl (fun H locs hw => ?_)
        refine lv_icmp_ge (tgt := 155) C.1.1 C.1.2.1 dX12_read_59 (by decide) (fun c28 => ?_) (fun c28 => ?_)
        · replace hD := g_pos c28 hD
          refine lv_iload C.1.1 C.1.2.1 dX12_read_155 (lv_at hl 0 rfl) ?_
          refine lv_aload_n C.1.1 C.1.2.1 dX12_read_157 rfl (lv_at hl 4 rfl) ?_
          obtain ⟨r31, M29, L30, h1, hD⟩ := g_b3 hD
          refine md_cvI (As := []) (rest := [.int x23]) C hw (tX12_tail l G ad fu M25 L26 h1) kc_12 (by decide) tf_821 wd_3724 cwX12_tail ⟨Nat.le_of_ble_eq_true rfl, Nat.le_of_ble_eq_true rfl⟩ rfl hl.1 (Nat.le_of_ble_eq_true rfl) dX12_read_158 rfl rfl ⟨Nat.zero_le _, Nat.zero_le _⟩ rfl (fun H locs hw => ?_)
          refine lv_isub C.1.1 C.1.2.1 dX12_read_161 ?_
          obtain ⟨x32, ex32, hD⟩ := g_let hD
          refine W.eq (g2 := F0 m 162 ls (.int x32 :: [])) (by rw [ex32]) ?_
          refine lv_istore (lv' := [(5, .int x32), (4, .int r22), (3, .int x19), (2, .int r15), (0, .ref (ad 821)), (1, .int a1)]) C.1.1 C.1.2.1 dX12_read_162 hl (by decide) rfl (fun ls hl => ?_)
          refine lv_iload C.1.1 C.1.2.1 dX12_read_164 (lv_at hl 0 rfl) ?_
          refine lv_iconst (v := 1) C.1.1 C.1.2.1 dX12_read_166 (by decide) ?_
          refine lv_icmp_ne (tgt := 172) C.1.1 C.1.2.1 dX12_read_167 (by decide) (fun c33 => ?_) (fun c33 => ?_)
          · replace hD := g_neg c33 hD
            refine lv_iload C.1.1 C.1.2.1 dX12_read_172 (lv_at hl 0 rfl) ?_
            refine lv_bipush (v := 9) C.1.1 C.1.2.1 dX12_read_174 (by decide) ?_
            refine lv_icmp_ne (tgt := 192) C.1.1 C.1.2.1 dX12_read_176 (by decide) (fun c34 => ?_) (fun c34 => ?_)
            · replace hD := g_neg c34 hD
              refine lv_iload C.1.1 C.1.2.1 dX12_read_192 (lv_at hl 1 rfl) ?_
              refine lv_if_ne (tgt := 199) C.1.1 C.1.2.1 dX12_read_194 (by decide) (fun c35 => ?_) (fun c35 => ?_)
              · replace hD := g_neg c35 hD
                refine lv_iload C.1.1 C.1.2.1 dX12_read_199 (lv_at hl 0 rfl) ?_
                refine lv_iconst (v := 2) C.1.1 C.1.2.1 dX12_read_201 (by decide) ?_
                refine lv_icmp_ne (tgt := 219) C.1.1 C.1.2.1 dX12_read_202 (by decide) (fun c36 => ?_) (fun c36 => ?_)
                · replace hD := g_neg c36 hD
                  refine lv_iload C.1.1 C.1.2.1 dX12_read_219 (lv_at hl 0 rfl) ?_
                  refine lv_bipush (v := 8) C.1.1 C.1.2.1 dX12_read_221 (by decide) ?_
                  refine lv_icmp_ne (tgt := 231) C.1.1 C.1.2.1 dX12_read_223 (by decide) (fun c37 => ?_) (fun c37 => ?_)
                  · replace hD := g_neg c37 hD
                    refine lv_iconst (v := (-1)) C.1.1 C.1.2.1 dX12_read_231 (by decide) ?_
                    exact hb232 ((-1)) M29 L30 _ _ ls hD hw (lv_sub hl [] rfl)
                  · replace hD := g_pos c37 hD
                    refine lv_bipush (v := 10) C.1.1 C.1.2.1 dX12_read_226 (by decide) ?_
                    refine lv_goto (tgt := 232) C.1.1 C.1.2.1 dX12_read_228 (by decide) ?_
                    exact hb232 10 M29 L30 _ _ ls hD hw (lv_sub hl [] rfl)
                · replace hD := g_pos c36 hD
                  refine lv_aload_n C.1.1 C.1.2.1 dX12_read_205 rfl (lv_at hl 4 rfl) ?_
                  refine lv_iload_n C.1.1 C.1.2.1 dX12_read_206 rfl (lv_at hl 5 rfl) ?_
                  obtain ⟨r40, M38, L39, h1, hD⟩ := g_b3 hD
                  refine md_cvI (As := [.int a1]) (rest := []) C hw (tX12_right l G ad fu a1 M29 L30 h1) kc_12 (by decide) tf_821 wd_3732 cwX12_right ⟨Nat.le_of_ble_eq_true rfl, Nat.le_of_ble_eq_true rfl⟩ rfl hl.1 (Nat.le_of_ble_eq_true rfl) dX12_read_207 rfl rfl ⟨Nat.zero_le _, Nat.zero_le _⟩ rfl (fun H locs hw => ?_)
                  refine lv_if_eq (tgt := 217) C.1.1 C.1.2.1 dX12_read_210 (by decide) (fun c41 => ?_) (fun c41 => ?_)
                  · replace hD := g_pos c41 hD
                    refine lv_iconst (v := 3) C.1.1 C.1.2.1 dX12_read_217 (by decide) ?_
                    exact hb218 3 M38 L39 _ _ ls hD hw (lv_sub hl [] rfl)
                  · replace hD := g_neg c41 hD
                    refine lv_iconst (v := (-1)) C.1.1 C.1.2.1 dX12_read_213 (by decide) ?_
                    refine lv_goto (tgt := 218) C.1.1 C.1.2.1 dX12_read_214 (by decide) ?_
                    exact hb218 ((-1)) M38 L39 _ _ ls hD hw (lv_sub hl [] rfl)
              · replace hD := g_pos c35 hD
                refine lv_iconst (v := 2) C.1.1 C.1.2.1 dX12_read_197 (by decide) ?_
                exact mr_iret C hr hlocks hw rfl (Option.some.inj hD) dX12_read_198
            · replace hD := g_pos c34 hD
              refine lv_iload C.1.1 C.1.2.1 dX12_read_179 (lv_at hl 1 rfl) ?_
              refine lv_iconst (v := 1) C.1.1 C.1.2.1 dX12_read_181 (by decide) ?_
              refine lv_icmp_ne (tgt := 190) C.1.1 C.1.2.1 dX12_read_182 (by decide) (fun c42 => ?_) (fun c42 => ?_)
              · replace hD := g_neg c42 hD
                refine lv_iconst (v := 5) C.1.1 C.1.2.1 dX12_read_190 (by decide) ?_
                exact hb191 5 M29 L30 _ _ ls hD hw (lv_sub hl [] rfl)
              · replace hD := g_pos c42 hD
                refine lv_bipush (v := 11) C.1.1 C.1.2.1 dX12_read_185 (by decide) ?_
                refine lv_goto (tgt := 191) C.1.1 C.1.2.1 dX12_read_187 (by decide) ?_
                exact hb191 11 M29 L30 _ _ ls hD hw (lv_sub hl [] rfl)
          · replace hD := g_pos c33 hD
            refine lv_iconst (v := (-1)) C.1.1 C.1.2.1 dX12_read_170 (by decide) ?_
            exact mr_iret C hr hlocks hw rfl (Option.some.inj hD) dX12_read_171
        · replace hD := g_neg c28 hD
          refine lv_iload C.1.1 C.1.2.1 dX12_read_62 (lv_at hl 0 rfl) ?_
          refine lv_iconst (v := 5) C.1.1 C.1.2.1 dX12_read_64 (by decide) ?_
          refine lv_irem C.1.1 C.1.2.1 dX12_read_65 (by decide) ?_
          refine lv_if_ne (tgt := 88) C.1.1 C.1.2.1 dX12_read_66 (by decide) (fun c44 => ?_) (fun c44 => ?_)
          · replace hD := g_neg c44 hD
            refine lv_iconst (v := 0) C.1.1 C.1.2.1 dX12_read_88 (by decide) ?_
            refine lv_istore (lv' := [(6, .int 0), (5, .int x23), (4, .int r22), (3, .int x19), (2, .int r15), (0, .ref (ad 821)), (1, .int a1)]) C.1.1 C.1.2.1 dX12_read_89 hl (by decide) rfl (fun ls hl => ?_)
            refine lv_iconst (v := 1) C.1.1 C.1.2.1 dX12_read_91 (by decide) ?_
            refine lv_istore (lv' := [(7, .int 1), (6, .int 0), (5, .int x23), (4, .int r22), (3, .int x19), (2, .int r15), (0, .ref (ad 821)), (1, .int a1)]) C.1.1 C.1.2.1 dX12_read_92 hl (by decide) rfl (fun ls hl => ?_)
            exact hh94 fu x23 0 1 M25 L26 _ _ ls hD hw (lv_sub hl [6, 7, 2, 1, 0] rfl)
          · replace hD := g_pos c44 hD
            refine lv_iload C.1.1 C.1.2.1 dX12_read_69 (lv_at hl 1 rfl) ?_
            refine lv_aload_n C.1.1 C.1.2.1 dX12_read_71 rfl (lv_at hl 4 rfl) ?_
            refine lv_iload_n C.1.1 C.1.2.1 dX12_read_72 rfl (lv_at hl 5 rfl) ?_
            refine lv_iload_n C.1.1 C.1.2.1 dX12_read_73 rfl (lv_at hl 2 rfl) ?_
            refine lv_iconst (v := 1) C.1.1 C.1.2.1 dX12_read_74 (by decide) ?_
            refine lv_isub C.1.1 C.1.2.1 dX12_read_75 ?_
            obtain ⟨r47, M45, L46, h1, hD⟩ := g_b3 hD
            refine md_cvI (As := [.int a1, .int (x19 - 1)]) (rest := [.int r22]) C hw (tX12_bitAt l G ad fu a1 (x19 - 1) M25 L26 h1) kc_12 (by decide) tf_821 wd_3711 cwX12_bitAt ⟨Nat.le_of_ble_eq_true rfl, Nat.le_of_ble_eq_true rfl⟩ rfl hl.1 (Nat.le_of_ble_eq_true rfl) dX12_read_76 rfl rfl ⟨Nat.zero_le _, Nat.zero_le _⟩ rfl (fun H locs hw => ?_)
            refine lv_icmp_ne (tgt := 86) C.1.1 C.1.2.1 dX12_read_79 (by decide) (fun c48 => ?_) (fun c48 => ?_)
            · replace hD := g_neg c48 hD
              refine lv_iconst (v := (-1)) C.1.1 C.1.2.1 dX12_read_86 (by decide) ?_
              exact hb87 ((-1)) M45 L46 _ _ ls hD hw (lv_sub hl [] rfl)
            · replace hD := g_pos c48 hD
              refine lv_iconst (v := 1) C.1.1 C.1.2.1 dX12_read_82 (by decide) ?_
              refine lv_goto (tgt := 87) C.1.1 C.1.2.1 dX12_read_83 (by decide) ?_
              exact hb87 1 M45 L46 _ _ ls hD hw (lv_sub hl [] rfl)
      · replace hD := g_neg c24 hD
        refine lv_iconst (v := (-1)) C.1.1 C.1.2.1 dX12_read_51 (by decide) ?_
        exact mr_iret C hr hlocks hw rfl (Option.some.inj hD) dX12_read_52
    · replace hD := g_pos c17 hD
      exact hb19 r15 M13 L14 _ _ ls hD hw (lv_sub hl [0] rfl)

theorem dX12_answers_0 : decode cX12_answers 0 = .ok (.aload_n 0, 1) := by decide +kernel
theorem dX12_answers_1 : decode cX12_answers 1 = .ok (.iload_n 1, 1) := by decide +kernel
theorem dX12_answers_2 : decode cX12_answers 2 = .ok (.invokevirtual 242, 3) := by decide +kernel
theorem dX12_answers_5 : decode cX12_answers 5 = .ok (.istore_n 2, 1) := by decide +kernel
theorem dX12_answers_6 : decode cX12_answers 6 = .ok (.iload_n 2, 1) := by decide +kernel
theorem dX12_answers_7 : decode cX12_answers 7 = .ok (.iconst (-1), 1) := by decide +kernel
theorem dX12_answers_8 : decode cX12_answers 8 = .ok (.if_icmp .ne 43, 3) := by decide +kernel
theorem dX12_answers_11 : decode cX12_answers 11 = .ok (.aload_n 0, 1) := by decide +kernel
theorem dX12_answers_12 : decode cX12_answers 12 = .ok (.getfield 209, 3) := by decide +kernel
theorem dX12_answers_15 : decode cX12_answers 15 = .ok (.iconst (-1), 1) := by decide +kernel
theorem dX12_answers_16 : decode cX12_answers 16 = .ok (.if_icmp .eq 35, 3) := by decide +kernel
theorem dX12_answers_19 : decode cX12_answers 19 = .ok (.aload_n 0, 1) := by decide +kernel
theorem dX12_answers_20 : decode cX12_answers 20 = .ok (.getfield 58, 3) := by decide +kernel
theorem dX12_answers_23 : decode cX12_answers 23 = .ok (.iload_n 1, 1) := by decide +kernel
theorem dX12_answers_24 : decode cX12_answers 24 = .ok (.iaload, 1) := by decide +kernel
theorem dX12_answers_25 : decode cX12_answers 25 = .ok (.aload_n 0, 1) := by decide +kernel
theorem dX12_answers_26 : decode cX12_answers 26 = .ok (.getfield 209, 3) := by decide +kernel
theorem dX12_answers_29 : decode cX12_answers 29 = .ok (.aload_n 0, 1) := by decide +kernel
theorem dX12_answers_30 : decode cX12_answers 30 = .ok (.invokevirtual 239, 3) := by decide +kernel
theorem dX12_answers_33 : decode cX12_answers 33 = .ok (.iadd, 1) := by decide +kernel
theorem dX12_answers_34 : decode cX12_answers 34 = .ok (.iconst 1, 1) := by decide +kernel
theorem dX12_answers_35 : decode cX12_answers 35 = .ok (.iadd, 1) := by decide +kernel
theorem dX12_answers_36 : decode cX12_answers 36 = .ok (.if_icmp .ne 15, 3) := by decide +kernel
theorem dX12_answers_39 : decode cX12_answers 39 = .ok (.aload_n 0, 1) := by decide +kernel
theorem dX12_answers_40 : decode cX12_answers 40 = .ok (.iload_n 1, 1) := by decide +kernel
theorem dX12_answers_41 : decode cX12_answers 41 = .ok (.invokevirtual 245, 3) := by decide +kernel
theorem dX12_answers_44 : decode cX12_answers 44 = .ok (.ifCond .eq 7, 3) := by decide +kernel
theorem dX12_answers_47 : decode cX12_answers 47 = .ok (.iconst 1, 1) := by decide +kernel
theorem dX12_answers_48 : decode cX12_answers 48 = .ok (.goto 4, 3) := by decide +kernel
theorem dX12_answers_51 : decode cX12_answers 51 = .ok (.iconst 0, 1) := by decide +kernel
theorem dX12_answers_52 : decode cX12_answers 52 = .ok (.ireturn, 1) := by decide +kernel
theorem cwX12_answers : mw_cwV yX12_answers cX12_answers 3 ((some .boolean)) 1 := ⟨⟨wd_15, wd_3702, by decide +kernel⟩, wd_3701, sl_241⟩
set_option maxHeartbeats 4000000 in
set_option maxRecDepth 100000 in
theorem tX12_answers (l : Launch) (G : mwG) (ad : Nat → Nat) (fu : Nat) (a1 : Int32) (M : mwM) (L : mwL) {r0 : Int32} {M0 : mwM} {L0 : mwL} (hD : DX12_answers fu a1 M L = some (r0, M0, L0)) : Met l yX12_answers (Cond.code yX12_answers cX12_answers 3 ((some .boolean)) :: GT) ({ frames := 4, cells := 0, slots := 0, locals := 103 }) (mw_Pre G ad NF TF FF M L [.ref (ad 821), .int a1]) (mw_Qi G ad NF TF FF (mw_eqI r0 M0 L0)) 0 0 (mw_fr G) := by
  refine mw_enter (by decide) (Nat.le_of_ble_eq_true rfl) ?_
  intro p e s m below meth c ls C hr hlocks hnm hw hl
  have hl : lv_has ls 3 [(0, .ref (ad 821)), (1, .int a1)] := hl
  have hb52 : ∀ (s0 : Int32) (M : mwM) (L : mwL) (H : Heap) (locs : List Loc) (ls : Array Slot), fX12_answers_b52 fu a1 s0 M L = some (r0, M0, L0) → mw_W G ad NF TF FF M L H locs → lv_has ls 3 [] → W p l e ({ frames := 4, cells := 0, slots := 0, locals := 103 }) s m [.ref (ad 821), .int a1].toArray below meth c H locs 0 0 (MQ below (mw_Qi G ad NF TF FF (mw_eqI r0 M0 L0)) [.ref (ad 821), .int a1].toArray s 0 0 (mw_fr G)) (F0 m 52 ls [.int s0]) := by
    intro s0 M L H locs ls hD hw hl
    unfold fX12_answers_b52 at hD
    obtain ⟨z1, hD⟩ := g_zz hD
    exact mr_iret C hr hlocks hw (nz_zz z1) (Option.some.inj hD) dX12_answers_52
  have hb51 : ∀ (M : mwM) (L : mwL) (H : Heap) (locs : List Loc) (ls : Array Slot), fX12_answers_b51 fu a1 M L = some (r0, M0, L0) → mw_W G ad NF TF FF M L H locs → lv_has ls 3 [] → W p l e ({ frames := 4, cells := 0, slots := 0, locals := 103 }) s m [.ref (ad 821), .int a1].toArray below meth c H locs 0 0 (MQ below (mw_Qi G ad NF TF FF (mw_eqI r0 M0 L0)) [.ref (ad 821), .int a1].toArray s 0 0 (mw_fr G)) (F0 m 51 ls []) := by
    intro M L H locs ls hD hw hl
    unfold fX12_answers_b51 at hD
    refine lv_iconst (v := 0) C.1.1 C.1.2.1 dX12_answers_51 (by decide) ?_
    exact hb52 0 M L _ _ ls hD hw (lv_sub hl [] rfl)
  unfold DX12_answers at hD
  refine lv_aload_n C.1.1 C.1.2.1 dX12_answers_0 rfl (lv_at hl 0 rfl) ?_
  refine lv_iload_n C.1.1 C.1.2.1 dX12_answers_1 rfl (lv_at hl 1 rfl) ?_
  obtain ⟨r4, M2, L3, h1, hD⟩ := g_b3 hD
  refine md_cvI (As := [.int a1]) (rest := []) C hw (tX12_body l G ad fu a1 M L h1) kc_12 (by decide) tf_821 wd_3703 cwX12_body ⟨Nat.le_of_ble_eq_true rfl, Nat.le_of_ble_eq_true rfl⟩ rfl hl.1 (Nat.le_of_ble_eq_true rfl) dX12_answers_2 rfl rfl ⟨Nat.zero_le _, Nat.zero_le _⟩ rfl (fun H locs hw => ?_)
  refine lv_istore_n (lv' := [(2, .int r4), (0, .ref (ad 821)), (1, .int a1)]) C.1.1 C.1.2.1 dX12_answers_5 rfl hl (by decide) rfl (fun ls hl => ?_)
  refine lv_iload_n C.1.1 C.1.2.1 dX12_answers_6 rfl (lv_at hl 0 rfl) ?_
  refine lv_iconst (v := (-1)) C.1.1 C.1.2.1 dX12_answers_7 (by decide) ?_
  refine lv_icmp_ne (tgt := 51) C.1.1 C.1.2.1 dX12_answers_8 (by decide) (fun c5 => ?_) (fun c5 => ?_)
  · replace hD := g_neg c5 hD
    exact hb51 M2 L3 _ _ ls hD hw (lv_sub hl [] rfl)
  · replace hD := g_pos c5 hD
    refine lv_aload_n C.1.1 C.1.2.1 dX12_answers_11 rfl (lv_at hl 1 rfl) ?_
    refine mr_getI C hw kc_12 45 (by decide) tf_821 wd_2145 dX12_answers_12 (by decide) rfl ?_
    refine lv_iconst (v := (-1)) C.1.1 C.1.2.1 dX12_answers_15 (by decide) ?_
    refine lv_icmp_eq (tgt := 51) C.1.1 C.1.2.1 dX12_answers_16 (by decide) (fun c6 => ?_) (fun c6 => ?_)
    · replace hD := g_pos c6 hD
      exact hb51 M2 L3 _ _ ls hD hw (lv_sub hl [] rfl)
    · replace hD := g_neg c6 hD
      refine lv_aload_n C.1.1 C.1.2.1 dX12_answers_19 rfl (lv_at hl 1 rfl) ?_
      refine mr_getR C hw kc_12 19 (by decide) tf_821 ff_821_19 wd_2119 dX12_answers_20 (by decide) rfl ?_
      refine lv_iload_n C.1.1 C.1.2.1 dX12_answers_23 rfl (lv_at hl 2 rfl) ?_
      obtain ⟨q7, hD⟩ := g_ck hD
      refine mr_iald C hw (by decide) tf_836 q7 dX12_answers_24 ?_
      refine lv_aload_n C.1.1 C.1.2.1 dX12_answers_25 rfl (lv_at hl 1 rfl) ?_
      refine mr_getI C hw kc_12 45 (by decide) tf_821 wd_2145 dX12_answers_26 (by decide) rfl ?_
      refine lv_aload_n C.1.1 C.1.2.1 dX12_answers_29 rfl (lv_at hl 1 rfl) ?_
      obtain ⟨r10, M8, L9, h1, hD⟩ := g_b3 hD
      refine md_cvI (As := []) (rest := [.int (M2 821 45), .int (M2 836 a1.toNatClampNeg)]) C hw (tX12_tail l G ad fu M2 L3 h1) kc_12 (by decide) tf_821 wd_3724 cwX12_tail ⟨Nat.le_of_ble_eq_true rfl, Nat.le_of_ble_eq_true rfl⟩ rfl hl.1 (Nat.le_of_ble_eq_true rfl) dX12_answers_30 rfl rfl ⟨Nat.zero_le _, Nat.zero_le _⟩ rfl (fun H locs hw => ?_)
      refine lv_iadd C.1.1 C.1.2.1 dX12_answers_33 ?_
      refine lv_iconst (v := 1) C.1.1 C.1.2.1 dX12_answers_34 (by decide) ?_
      refine lv_iadd C.1.1 C.1.2.1 dX12_answers_35 ?_
      refine lv_icmp_ne (tgt := 51) C.1.1 C.1.2.1 dX12_answers_36 (by decide) (fun c11 => ?_) (fun c11 => ?_)
      · replace hD := g_neg c11 hD
        exact hb51 M8 L9 _ _ ls hD hw (lv_sub hl [] rfl)
      · replace hD := g_pos c11 hD
        refine lv_aload_n C.1.1 C.1.2.1 dX12_answers_39 rfl (lv_at hl 1 rfl) ?_
        refine lv_iload_n C.1.1 C.1.2.1 dX12_answers_40 rfl (lv_at hl 2 rfl) ?_
        obtain ⟨r14, M12, L13, h1, hD⟩ := g_b3 hD
        refine md_cvI (As := [.int a1]) (rest := []) C hw (tX12_right l G ad fu a1 M8 L9 h1) kc_12 (by decide) tf_821 wd_3732 cwX12_right ⟨Nat.le_of_ble_eq_true rfl, Nat.le_of_ble_eq_true rfl⟩ rfl hl.1 (Nat.le_of_ble_eq_true rfl) dX12_answers_41 rfl rfl ⟨Nat.zero_le _, Nat.zero_le _⟩ rfl (fun H locs hw => ?_)
        refine lv_if_eq (tgt := 51) C.1.1 C.1.2.1 dX12_answers_44 (by decide) (fun c15 => ?_) (fun c15 => ?_)
        · replace hD := g_pos c15 hD
          exact hb51 M12 L13 _ _ ls hD hw (lv_sub hl [] rfl)
        · replace hD := g_neg c15 hD
          refine lv_iconst (v := 1) C.1.1 C.1.2.1 dX12_answers_47 (by decide) ?_
          refine lv_goto (tgt := 52) C.1.1 C.1.2.1 dX12_answers_48 (by decide) ?_
          exact hb52 1 M12 L13 _ _ ls hD hw (lv_sub hl [] rfl)

theorem dX12_take_0 : decode cX12_take 0 = .ok (.aload_n 0, 1) := by decide +kernel
theorem dX12_take_1 : decode cX12_take 1 = .ok (.iload_n 1, 1) := by decide +kernel
theorem dX12_take_2 : decode cX12_take 2 = .ok (.invokevirtual 242, 3) := by decide +kernel
theorem dX12_take_5 : decode cX12_take 5 = .ok (.istore_n 2, 1) := by decide +kernel
theorem dX12_take_6 : decode cX12_take 6 = .ok (.aload_n 0, 1) := by decide +kernel
theorem dX12_take_7 : decode cX12_take 7 = .ok (.getfield 231, 3) := by decide +kernel
theorem dX12_take_10 : decode cX12_take 10 = .ok (.aload_n 0, 1) := by decide +kernel
theorem dX12_take_11 : decode cX12_take 11 = .ok (.getfield 52, 3) := by decide +kernel
theorem dX12_take_14 : decode cX12_take 14 = .ok (.iload_n 1, 1) := by decide +kernel
theorem dX12_take_15 : decode cX12_take 15 = .ok (.iaload, 1) := by decide +kernel
theorem dX12_take_16 : decode cX12_take 16 = .ok (.iand, 1) := by decide +kernel
theorem dX12_take_17 : decode cX12_take 17 = .ok (.aload_n 0, 1) := by decide +kernel
theorem dX12_take_18 : decode cX12_take 18 = .ok (.getfield 55, 3) := by decide +kernel
theorem dX12_take_21 : decode cX12_take 21 = .ok (.iload_n 1, 1) := by decide +kernel
theorem dX12_take_22 : decode cX12_take 22 = .ok (.iaload, 1) := by decide +kernel
theorem dX12_take_23 : decode cX12_take 23 = .ok (.if_icmp .eq 4, 3) := by decide +kernel
theorem dX12_take_26 : decode cX12_take 26 = .ok (.return_, 1) := by decide +kernel
theorem dX12_take_27 : decode cX12_take 27 = .ok (.aload_n 0, 1) := by decide +kernel
theorem dX12_take_28 : decode cX12_take 28 = .ok (.getfield 68, 3) := by decide +kernel
theorem dX12_take_31 : decode cX12_take 31 = .ok (.aload_n 0, 1) := by decide +kernel
theorem dX12_take_32 : decode cX12_take 32 = .ok (.getfield 132, 3) := by decide +kernel
theorem dX12_take_35 : decode cX12_take 35 = .ok (.iload_n 1, 1) := by decide +kernel
theorem dX12_take_36 : decode cX12_take 36 = .ok (.iastore, 1) := by decide +kernel
theorem dX12_take_37 : decode cX12_take 37 = .ok (.aload_n 0, 1) := by decide +kernel
theorem dX12_take_38 : decode cX12_take 38 = .ok (.getfield 71, 3) := by decide +kernel
theorem dX12_take_41 : decode cX12_take 41 = .ok (.aload_n 0, 1) := by decide +kernel
theorem dX12_take_42 : decode cX12_take 42 = .ok (.getfield 132, 3) := by decide +kernel
theorem dX12_take_45 : decode cX12_take 45 = .ok (.aload_n 0, 1) := by decide +kernel
theorem dX12_take_46 : decode cX12_take 46 = .ok (.getfield 231, 3) := by decide +kernel
theorem dX12_take_49 : decode cX12_take 49 = .ok (.iastore, 1) := by decide +kernel
theorem dX12_take_50 : decode cX12_take 50 = .ok (.aload_n 0, 1) := by decide +kernel
theorem dX12_take_51 : decode cX12_take 51 = .ok (.getfield 74, 3) := by decide +kernel
theorem dX12_take_54 : decode cX12_take 54 = .ok (.aload_n 0, 1) := by decide +kernel
theorem dX12_take_55 : decode cX12_take 55 = .ok (.getfield 132, 3) := by decide +kernel
theorem dX12_take_58 : decode cX12_take 58 = .ok (.aload_n 0, 1) := by decide +kernel
theorem dX12_take_59 : decode cX12_take 59 = .ok (.getfield 222, 3) := by decide +kernel
theorem dX12_take_62 : decode cX12_take 62 = .ok (.i2b, 1) := by decide +kernel
theorem dX12_take_63 : decode cX12_take 63 = .ok (.bastore, 1) := by decide +kernel
theorem dX12_take_64 : decode cX12_take 64 = .ok (.aload_n 0, 1) := by decide +kernel
theorem dX12_take_65 : decode cX12_take 65 = .ok (.getfield 77, 3) := by decide +kernel
theorem dX12_take_68 : decode cX12_take 68 = .ok (.aload_n 0, 1) := by decide +kernel
theorem dX12_take_69 : decode cX12_take 69 = .ok (.getfield 132, 3) := by decide +kernel
theorem dX12_take_72 : decode cX12_take 72 = .ok (.aload_n 0, 1) := by decide +kernel
theorem dX12_take_73 : decode cX12_take 73 = .ok (.getfield 225, 3) := by decide +kernel
theorem dX12_take_76 : decode cX12_take 76 = .ok (.i2b, 1) := by decide +kernel
theorem dX12_take_77 : decode cX12_take 77 = .ok (.bastore, 1) := by decide +kernel
theorem dX12_take_78 : decode cX12_take 78 = .ok (.aload_n 0, 1) := by decide +kernel
theorem dX12_take_79 : decode cX12_take 79 = .ok (.getfield 80, 3) := by decide +kernel
theorem dX12_take_82 : decode cX12_take 82 = .ok (.aload_n 0, 1) := by decide +kernel
theorem dX12_take_83 : decode cX12_take 83 = .ok (.getfield 132, 3) := by decide +kernel
theorem dX12_take_86 : decode cX12_take 86 = .ok (.aload_n 0, 1) := by decide +kernel
theorem dX12_take_87 : decode cX12_take 87 = .ok (.getfield 123, 3) := by decide +kernel
theorem dX12_take_90 : decode cX12_take 90 = .ok (.iastore, 1) := by decide +kernel
theorem dX12_take_91 : decode cX12_take 91 = .ok (.aload_n 0, 1) := by decide +kernel
theorem dX12_take_92 : decode cX12_take 92 = .ok (.getfield 222, 3) := by decide +kernel
theorem dX12_take_95 : decode cX12_take 95 = .ok (.aload_n 0, 1) := by decide +kernel
theorem dX12_take_96 : decode cX12_take 96 = .ok (.getfield 225, 3) := by decide +kernel
theorem dX12_take_99 : decode cX12_take 99 = .ok (.invokestatic 146, 3) := by decide +kernel
theorem dX12_take_102 : decode cX12_take 102 = .ok (.istore_n 3, 1) := by decide +kernel
theorem dX12_take_103 : decode cX12_take 103 = .ok (.aload_n 0, 1) := by decide +kernel
theorem dX12_take_104 : decode cX12_take 104 = .ok (.getfield 222, 3) := by decide +kernel
theorem dX12_take_107 : decode cX12_take 107 = .ok (.iconst 2, 1) := by decide +kernel
theorem dX12_take_108 : decode cX12_take 108 = .ok (.if_icmp .ne 8, 3) := by decide +kernel
theorem dX12_take_111 : decode cX12_take 111 = .ok (.bipush 22, 2) := by decide +kernel
theorem dX12_take_113 : decode cX12_take 113 = .ok (.goto 33, 3) := by decide +kernel
theorem dX12_take_116 : decode cX12_take 116 = .ok (.aload_n 0, 1) := by decide +kernel
theorem dX12_take_117 : decode cX12_take 117 = .ok (.getfield 222, 3) := by decide +kernel
theorem dX12_take_120 : decode cX12_take 120 = .ok (.iconst 3, 1) := by decide +kernel
theorem dX12_take_121 : decode cX12_take 121 = .ok (.if_icmp .ne 8, 3) := by decide +kernel
theorem dX12_take_124 : decode cX12_take 124 = .ok (.bipush 41, 2) := by decide +kernel
theorem dX12_take_126 : decode cX12_take 126 = .ok (.goto 20, 3) := by decide +kernel
theorem dX12_take_129 : decode cX12_take 129 = .ok (.aload_n 0, 1) := by decide +kernel
theorem dX12_take_130 : decode cX12_take 130 = .ok (.getfield 222, 3) := by decide +kernel
theorem dX12_take_133 : decode cX12_take 133 = .ok (.iconst 2, 1) := by decide +kernel
theorem dX12_take_134 : decode cX12_take 134 = .ok (.irem, 1) := by decide +kernel
theorem dX12_take_135 : decode cX12_take 135 = .ok (.iconst 1, 1) := by decide +kernel
theorem dX12_take_136 : decode cX12_take 136 = .ok (.if_icmp .ne 8, 3) := by decide +kernel
theorem dX12_take_139 : decode cX12_take 139 = .ok (.bipush 39, 2) := by decide +kernel
theorem dX12_take_141 : decode cX12_take 141 = .ok (.goto 5, 3) := by decide +kernel
theorem dX12_take_144 : decode cX12_take 144 = .ok (.bipush 19, 2) := by decide +kernel
theorem dX12_take_146 : decode cX12_take 146 = .ok (.istore 4, 2) := by decide +kernel
theorem dX12_take_148 : decode cX12_take 148 = .ok (.iconst 0, 1) := by decide +kernel
theorem dX12_take_149 : decode cX12_take 149 = .ok (.istore 5, 2) := by decide +kernel
theorem dX12_take_151 : decode cX12_take 151 = .ok (.iload 5, 2) := by decide +kernel
theorem dX12_take_153 : decode cX12_take 153 = .ok (.iload_n 3, 1) := by decide +kernel
theorem dX12_take_154 : decode cX12_take 154 = .ok (.if_icmp .ge 39, 3) := by decide +kernel
theorem dX12_take_157 : decode cX12_take 157 = .ok (.aload_n 0, 1) := by decide +kernel
theorem dX12_take_158 : decode cX12_take 158 = .ok (.getfield 84, 3) := by decide +kernel
theorem dX12_take_161 : decode cX12_take 161 = .ok (.bipush 64, 2) := by decide +kernel
theorem dX12_take_163 : decode cX12_take 163 = .ok (.aload_n 0, 1) := by decide +kernel
theorem dX12_take_164 : decode cX12_take 164 = .ok (.getfield 132, 3) := by decide +kernel
theorem dX12_take_167 : decode cX12_take 167 = .ok (.imul, 1) := by decide +kernel
theorem dX12_take_168 : decode cX12_take 168 = .ok (.iload 5, 2) := by decide +kernel
theorem dX12_take_170 : decode cX12_take 170 = .ok (.iadd, 1) := by decide +kernel
theorem dX12_take_171 : decode cX12_take 171 = .ok (.aload_n 0, 1) := by decide +kernel
theorem dX12_take_172 : decode cX12_take 172 = .ok (.iload 4, 2) := by decide +kernel
theorem dX12_take_174 : decode cX12_take 174 = .ok (.bipush 8, 2) := by decide +kernel
theorem dX12_take_176 : decode cX12_take 176 = .ok (.iload 5, 2) := by decide +kernel
theorem dX12_take_178 : decode cX12_take 178 = .ok (.imul, 1) := by decide +kernel
theorem dX12_take_179 : decode cX12_take 179 = .ok (.iadd, 1) := by decide +kernel
theorem dX12_take_180 : decode cX12_take 180 = .ok (.bipush 8, 2) := by decide +kernel
theorem dX12_take_182 : decode cX12_take 182 = .ok (.invokevirtual 228, 3) := by decide +kernel
theorem dX12_take_185 : decode cX12_take 185 = .ok (.i2b, 1) := by decide +kernel
theorem dX12_take_186 : decode cX12_take 186 = .ok (.bastore, 1) := by decide +kernel
theorem dX12_take_187 : decode cX12_take 187 = .ok (.iinc 5 1, 3) := by decide +kernel
theorem dX12_take_190 : decode cX12_take 190 = .ok (.goto (-39), 3) := by decide +kernel
theorem dX12_take_193 : decode cX12_take 193 = .ok (.aload_n 0, 1) := by decide +kernel
theorem dX12_take_194 : decode cX12_take 194 = .ok (.dup, 1) := by decide +kernel
theorem dX12_take_195 : decode cX12_take 195 = .ok (.getfield 132, 3) := by decide +kernel
theorem dX12_take_198 : decode cX12_take 198 = .ok (.iconst 1, 1) := by decide +kernel
theorem dX12_take_199 : decode cX12_take 199 = .ok (.iadd, 1) := by decide +kernel
theorem dX12_take_200 : decode cX12_take 200 = .ok (.putfield 132, 3) := by decide +kernel
theorem dX12_take_203 : decode cX12_take 203 = .ok (.return_, 1) := by decide +kernel
theorem cwX12_take : mw_cwV yX12_take cX12_take 6 (none) 1 := ⟨⟨wd_15, wd_3763, by decide +kernel⟩, wd_3762, sl_256⟩
set_option maxHeartbeats 4000000 in
set_option maxRecDepth 100000 in
theorem tX12_take (l : Launch) (G : mwG) (ad : Nat → Nat) (fu : Nat) (a1 : Int32) (M : mwM) (L : mwL) {M0 : mwM} {L0 : mwL} (hD : DX12_take fu a1 M L = some (M0, L0)) : Met l yX12_take (Cond.code yX12_take cX12_take 6 (none) :: GT) ({ frames := 4, cells := 0, slots := 0, locals := 103 }) (mw_Pre G ad NF TF FF M L [.ref (ad 821), .int a1]) (mw_Qv G ad NF TF FF (mw_eqV M0 L0)) 0 0 (mw_fr G) := by
  refine mw_enter (by decide) (Nat.le_of_ble_eq_true rfl) ?_
  intro p e s m below meth c ls C hr hlocks hnm hw hl
  have hl : lv_has ls 6 [(0, .ref (ad 821)), (1, .int a1)] := hl
  have hh151 : ∀ (f : Nat) (v3 : Int32) (v4 : Int32) (v5 : Int32) (M : mwM) (L : mwL) (H : Heap) (locs : List Loc) (ls : Array Slot), fX12_take_h151 fu a1 f (v3, v4, v5, M, L) = some (M0, L0) → mw_W G ad NF TF FF M L H locs → lv_has ls 6 [(0, .ref (ad 821)), (3, .int v3), (4, .int v4), (5, .int v5)] → W p l e ({ frames := 4, cells := 0, slots := 0, locals := 103 }) s m [.ref (ad 821), .int a1].toArray below meth c H locs 0 0 (MQ below (mw_Qv G ad NF TF FF (mw_eqV M0 L0)) [.ref (ad 821), .int a1].toArray s 0 0 (mw_fr G)) (F0 m 151 ls []) := by
    intro f
    induction f with
    | zero => intro v3 v4 v5 M L H locs ls hD; cases hD
    | succ f151 ih151 =>
      intro v3 v4 v5 M L H locs ls hD hw hl
      replace hD : fX12_take_i151 fu a1 (fX12_take_h151 fu a1 f151) v3 v4 v5 M L = some (M0, L0) := hD
      unfold fX12_take_i151 at hD
      refine lv_iload C.1.1 C.1.2.1 dX12_take_151 (lv_at hl 3 rfl) ?_
      refine lv_iload_n C.1.1 C.1.2.1 dX12_take_153 rfl (lv_at hl 1 rfl) ?_
      refine lv_icmp_ge (tgt := 193) C.1.1 C.1.2.1 dX12_take_154 (by decide) (fun c1 => ?_) (fun c1 => ?_)
      · replace hD := g_pos c1 hD
        refine lv_aload_n C.1.1 C.1.2.1 dX12_take_193 rfl (lv_at hl 0 rfl) ?_
        refine lv_dup C.1.1 C.1.2.1 dX12_take_194 rfl ?_
        refine mr_getI C hw kc_12 22 (by decide) tf_821 wd_2122 dX12_take_195 (by decide) rfl ?_
        refine lv_iconst (v := 1) C.1.1 C.1.2.1 dX12_take_198 (by decide) ?_
        refine lv_iadd C.1.1 C.1.2.1 dX12_take_199 ?_
        obtain ⟨M2, eM2, hD⟩ := g_let hD
        refine mr_putI C hw kc_12 22 (by decide) tf_821 wd_2122 dX12_take_200 (by decide) rfl rfl rfl rfl (fun H locs hw => ?_)
        replace hw : mw_W G ad NF TF FF M2 L H locs := by rw [eM2]; exact hw
        exact mr_vret C hr hlocks hw (Option.some.inj hD) dX12_take_203
      · replace hD := g_neg c1 hD
        refine lv_aload_n C.1.1 C.1.2.1 dX12_take_157 rfl (lv_at hl 0 rfl) ?_
        refine mr_getR C hw kc_12 28 (by decide) tf_821 ff_821_28 wd_2128 dX12_take_158 (by decide) rfl ?_
        refine lv_bipush (v := 64) C.1.1 C.1.2.1 dX12_take_161 (by decide) ?_
        refine lv_aload_n C.1.1 C.1.2.1 dX12_take_163 rfl (lv_at hl 0 rfl) ?_
        refine mr_getI C hw kc_12 22 (by decide) tf_821 wd_2122 dX12_take_164 (by decide) rfl ?_
        refine lv_imul C.1.1 C.1.2.1 dX12_take_167 ?_
        refine lv_iload C.1.1 C.1.2.1 dX12_take_168 (lv_at hl 3 rfl) ?_
        refine lv_iadd C.1.1 C.1.2.1 dX12_take_170 ?_
        refine lv_aload_n C.1.1 C.1.2.1 dX12_take_171 rfl (lv_at hl 0 rfl) ?_
        refine lv_iload C.1.1 C.1.2.1 dX12_take_172 (lv_at hl 2 rfl) ?_
        refine lv_bipush (v := 8) C.1.1 C.1.2.1 dX12_take_174 (by decide) ?_
        refine lv_iload C.1.1 C.1.2.1 dX12_take_176 (lv_at hl 3 rfl) ?_
        refine lv_imul C.1.1 C.1.2.1 dX12_take_178 ?_
        refine lv_iadd C.1.1 C.1.2.1 dX12_take_179 ?_
        refine lv_bipush (v := 8) C.1.1 C.1.2.1 dX12_take_180 (by decide) ?_
        obtain ⟨r5, M3, L4, h1, hD⟩ := g_b3 hD
        refine md_cvI (As := [.int (v4 + (8 * v5)), .int 8]) (rest := [.int ((64 * (M 821 22)) + v5), .ref (ad 844)]) C hw (tX12_number l G ad fu (v4 + (8 * v5)) 8 M L h1) kc_12 (by decide) tf_821 wd_3719 cwX12_number ⟨Nat.le_of_ble_eq_true rfl, Nat.le_of_ble_eq_true rfl⟩ rfl hl.1 (Nat.le_of_ble_eq_true rfl) dX12_take_182 rfl rfl ⟨Nat.zero_le _, Nat.zero_le _⟩ rfl (fun H locs hw => ?_)
        refine lv_i2b C.1.1 C.1.2.1 dX12_take_185 rfl ?_
        obtain ⟨q6, hD⟩ := g_ck hD
        obtain ⟨M7, eM7, hD⟩ := g_let hD
        refine mr_bast C hw (by decide) tf_844 q6 dX12_take_186 (fun H locs hw => ?_)
        replace hw : mw_W G ad NF TF FF M7 L4 H locs := by rw [eM7]; exact hw
        obtain ⟨x8, ex8, hD⟩ := g_let hD
        refine lv_iinc (v := x8) (lv' := [(5, .int x8), (0, .ref (ad 821)), (3, .int v3), (4, .int v4)]) C.1.1 C.1.2.1 dX12_take_187 hl (k := 3) rfl (by rw [ex8]; rfl) (by decide) rfl (fun ls hl => ?_)
        refine lv_goto (tgt := 151) C.1.1 C.1.2.1 dX12_take_190 (by decide) ?_
        exact ih151 v3 v4 x8 M7 L4 _ _ ls hD hw (lv_sub hl [1, 2, 3, 0] rfl)
  have hb146 : ∀ (v3 : Int32) (s0 : Int32) (M : mwM) (L : mwL) (H : Heap) (locs : List Loc) (ls : Array Slot), fX12_take_b146 fu a1 v3 s0 M L = some (M0, L0) → mw_W G ad NF TF FF M L H locs → lv_has ls 6 [(0, .ref (ad 821)), (3, .int v3)] → W p l e ({ frames := 4, cells := 0, slots := 0, locals := 103 }) s m [.ref (ad 821), .int a1].toArray below meth c H locs 0 0 (MQ below (mw_Qv G ad NF TF FF (mw_eqV M0 L0)) [.ref (ad 821), .int a1].toArray s 0 0 (mw_fr G)) (F0 m 146 ls [.int s0]) := by
    intro v3 s0 M L H locs ls hD hw hl
    unfold fX12_take_b146 at hD
    refine lv_istore (lv' := [(4, .int s0), (0, .ref (ad 821)), (3, .int v3)]) C.1.1 C.1.2.1 dX12_take_146 hl (by decide) rfl (fun ls hl => ?_)
    refine lv_iconst (v := 0) C.1.1 C.1.2.1 dX12_take_148 (by decide) ?_
    refine lv_istore (lv' := [(5, .int 0), (4, .int s0), (0, .ref (ad 821)), (3, .int v3)]) C.1.1 C.1.2.1 dX12_take_149 hl (by decide) rfl (fun ls hl => ?_)
    exact hh151 fu v3 s0 0 M L _ _ ls hD hw (lv_sub hl [2, 3, 1, 0] rfl)
  unfold DX12_take at hD
  refine lv_aload_n C.1.1 C.1.2.1 dX12_take_0 rfl (lv_at hl 0 rfl) ?_
  refine lv_iload_n C.1.1 C.1.2.1 dX12_take_1 rfl (lv_at hl 1 rfl) ?_
  obtain ⟨r11, M9, L10, h1, hD⟩ := g_b3 hD
  refine md_cvI (As := [.int a1]) (rest := []) C hw (tX12_body l G ad fu a1 M L h1) kc_12 (by decide) tf_821 wd_3703 cwX12_body ⟨Nat.le_of_ble_eq_true rfl, Nat.le_of_ble_eq_true rfl⟩ rfl hl.1 (Nat.le_of_ble_eq_true rfl) dX12_take_2 rfl rfl ⟨Nat.zero_le _, Nat.zero_le _⟩ rfl (fun H locs hw => ?_)
  refine lv_istore_n (lv' := [(2, .int r11), (0, .ref (ad 821)), (1, .int a1)]) C.1.1 C.1.2.1 dX12_take_5 rfl hl (by decide) rfl (fun ls hl => ?_)
  refine lv_aload_n C.1.1 C.1.2.1 dX12_take_6 rfl (lv_at hl 1 rfl) ?_
  refine mr_getI C hw kc_12 44 (by decide) tf_821 wd_2144 dX12_take_7 (by decide) rfl ?_
  refine lv_aload_n C.1.1 C.1.2.1 dX12_take_10 rfl (lv_at hl 1 rfl) ?_
  refine mr_getR C hw kc_12 17 (by decide) tf_821 ff_821_17 wd_2117 dX12_take_11 (by decide) rfl ?_
  refine lv_iload_n C.1.1 C.1.2.1 dX12_take_14 rfl (lv_at hl 2 rfl) ?_
  obtain ⟨q12, hD⟩ := g_ck hD
  refine mr_iald C hw (by decide) tf_834 q12 dX12_take_15 ?_
  refine lv_iand C.1.1 C.1.2.1 dX12_take_16 ?_
  refine lv_aload_n C.1.1 C.1.2.1 dX12_take_17 rfl (lv_at hl 1 rfl) ?_
  refine mr_getR C hw kc_12 18 (by decide) tf_821 ff_821_18 wd_2118 dX12_take_18 (by decide) rfl ?_
  refine lv_iload_n C.1.1 C.1.2.1 dX12_take_21 rfl (lv_at hl 2 rfl) ?_
  obtain ⟨q13, hD⟩ := g_ck hD
  refine mr_iald C hw (by decide) tf_835 q13 dX12_take_22 ?_
  refine lv_icmp_eq (tgt := 27) C.1.1 C.1.2.1 dX12_take_23 (by decide) (fun c14 => ?_) (fun c14 => ?_)
  · replace hD := g_pos c14 hD
    refine lv_aload_n C.1.1 C.1.2.1 dX12_take_27 rfl (lv_at hl 1 rfl) ?_
    refine mr_getR C hw kc_12 23 (by decide) tf_821 ff_821_23 wd_2123 dX12_take_28 (by decide) rfl ?_
    refine lv_aload_n C.1.1 C.1.2.1 dX12_take_31 rfl (lv_at hl 1 rfl) ?_
    refine mr_getI C hw kc_12 22 (by decide) tf_821 wd_2122 dX12_take_32 (by decide) rfl ?_
    refine lv_iload_n C.1.1 C.1.2.1 dX12_take_35 rfl (lv_at hl 2 rfl) ?_
    obtain ⟨q15, hD⟩ := g_ck hD
    obtain ⟨M16, eM16, hD⟩ := g_let hD
    refine mr_iast C hw (by decide) tf_839 q15 dX12_take_36 (fun H locs hw => ?_)
    replace hw : mw_W G ad NF TF FF M16 L10 H locs := by rw [eM16]; exact hw
    refine lv_aload_n C.1.1 C.1.2.1 dX12_take_37 rfl (lv_at hl 1 rfl) ?_
    refine mr_getR C hw kc_12 24 (by decide) tf_821 ff_821_24 wd_2124 dX12_take_38 (by decide) rfl ?_
    refine lv_aload_n C.1.1 C.1.2.1 dX12_take_41 rfl (lv_at hl 1 rfl) ?_
    refine mr_getI C hw kc_12 22 (by decide) tf_821 wd_2122 dX12_take_42 (by decide) rfl ?_
    refine lv_aload_n C.1.1 C.1.2.1 dX12_take_45 rfl (lv_at hl 1 rfl) ?_
    refine mr_getI C hw kc_12 44 (by decide) tf_821 wd_2144 dX12_take_46 (by decide) rfl ?_
    obtain ⟨q17, hD⟩ := g_ck hD
    obtain ⟨M18, eM18, hD⟩ := g_let hD
    refine mr_iast C hw (by decide) tf_840 q17 dX12_take_49 (fun H locs hw => ?_)
    replace hw : mw_W G ad NF TF FF M18 L10 H locs := by rw [eM18]; exact hw
    refine lv_aload_n C.1.1 C.1.2.1 dX12_take_50 rfl (lv_at hl 1 rfl) ?_
    refine mr_getR C hw kc_12 25 (by decide) tf_821 ff_821_25 wd_2125 dX12_take_51 (by decide) rfl ?_
    refine lv_aload_n C.1.1 C.1.2.1 dX12_take_54 rfl (lv_at hl 1 rfl) ?_
    refine mr_getI C hw kc_12 22 (by decide) tf_821 wd_2122 dX12_take_55 (by decide) rfl ?_
    refine lv_aload_n C.1.1 C.1.2.1 dX12_take_58 rfl (lv_at hl 1 rfl) ?_
    refine mr_getI C hw kc_12 42 (by decide) tf_821 wd_2142 dX12_take_59 (by decide) rfl ?_
    refine lv_i2b C.1.1 C.1.2.1 dX12_take_62 rfl ?_
    obtain ⟨q19, hD⟩ := g_ck hD
    obtain ⟨M20, eM20, hD⟩ := g_let hD
    refine mr_bast C hw (by decide) tf_841 q19 dX12_take_63 (fun H locs hw => ?_)
    replace hw : mw_W G ad NF TF FF M20 L10 H locs := by rw [eM20]; exact hw
    refine lv_aload_n C.1.1 C.1.2.1 dX12_take_64 rfl (lv_at hl 1 rfl) ?_
    refine mr_getR C hw kc_12 26 (by decide) tf_821 ff_821_26 wd_2126 dX12_take_65 (by decide) rfl ?_
    refine lv_aload_n C.1.1 C.1.2.1 dX12_take_68 rfl (lv_at hl 1 rfl) ?_
    refine mr_getI C hw kc_12 22 (by decide) tf_821 wd_2122 dX12_take_69 (by decide) rfl ?_
    refine lv_aload_n C.1.1 C.1.2.1 dX12_take_72 rfl (lv_at hl 1 rfl) ?_
    refine mr_getI C hw kc_12 43 (by decide) tf_821 wd_2143 dX12_take_73 (by decide) rfl ?_
    refine lv_i2b C.1.1 C.1.2.1 dX12_take_76 rfl ?_
    obtain ⟨q21, hD⟩ := g_ck hD
    obtain ⟨M22, eM22, hD⟩ := g_let hD
    refine mr_bast C hw (by decide) tf_842 q21 dX12_take_77 (fun H locs hw => ?_)
    replace hw : mw_W G ad NF TF FF M22 L10 H locs := by rw [eM22]; exact hw
    refine lv_aload_n C.1.1 C.1.2.1 dX12_take_78 rfl (lv_at hl 1 rfl) ?_
    refine mr_getR C hw kc_12 27 (by decide) tf_821 ff_821_27 wd_2127 dX12_take_79 (by decide) rfl ?_
    refine lv_aload_n C.1.1 C.1.2.1 dX12_take_82 rfl (lv_at hl 1 rfl) ?_
    refine mr_getI C hw kc_12 22 (by decide) tf_821 wd_2122 dX12_take_83 (by decide) rfl ?_
    refine lv_aload_n C.1.1 C.1.2.1 dX12_take_86 rfl (lv_at hl 1 rfl) ?_
    refine mr_getI C hw kc_12 2 (by decide) tf_821 wd_2102 dX12_take_87 (by decide) rfl ?_
    obtain ⟨q23, hD⟩ := g_ck hD
    obtain ⟨M24, eM24, hD⟩ := g_let hD
    refine mr_iast C hw (by decide) tf_843 q23 dX12_take_90 (fun H locs hw => ?_)
    replace hw : mw_W G ad NF TF FF M24 L10 H locs := by rw [eM24]; exact hw
    refine lv_aload_n C.1.1 C.1.2.1 dX12_take_91 rfl (lv_at hl 1 rfl) ?_
    refine mr_getI C hw kc_12 42 (by decide) tf_821 wd_2142 dX12_take_92 (by decide) rfl ?_
    refine lv_aload_n C.1.1 C.1.2.1 dX12_take_95 rfl (lv_at hl 1 rfl) ?_
    refine mr_getI C hw kc_12 43 (by decide) tf_821 wd_2143 dX12_take_96 (by decide) rfl ?_
    obtain ⟨r27, M25, L26, h1, hD⟩ := g_b3 hD
    refine md_csI (As := [.int (M24 821 42), .int (M24 821 43)]) (rest := []) C hw (tX12_octetsOf l G ad fu (M24 821 42) (M24 821 43) M24 L10 h1) wd_3639 cwX12_octetsOf ⟨Nat.le_of_ble_eq_true rfl, Nat.le_of_ble_eq_true rfl⟩ rfl hl.1 (Nat.le_of_ble_eq_true rfl) dX12_take_99 rfl rfl ⟨Nat.zero_le _, Nat.zero_le _⟩ rfl (fun H locs hw => ?_)
    refine lv_istore_n (lv' := [(3, .int r27), (2, .int r11), (0, .ref (ad 821)), (1, .int a1)]) C.1.1 C.1.2.1 dX12_take_102 rfl hl (by decide) rfl (fun ls hl => ?_)
    refine lv_aload_n C.1.1 C.1.2.1 dX12_take_103 rfl (lv_at hl 2 rfl) ?_
    refine mr_getI C hw kc_12 42 (by decide) tf_821 wd_2142 dX12_take_104 (by decide) rfl ?_
    refine lv_iconst (v := 2) C.1.1 C.1.2.1 dX12_take_107 (by decide) ?_
    refine lv_icmp_ne (tgt := 116) C.1.1 C.1.2.1 dX12_take_108 (by decide) (fun c28 => ?_) (fun c28 => ?_)
    · replace hD := g_neg c28 hD
      refine lv_aload_n C.1.1 C.1.2.1 dX12_take_116 rfl (lv_at hl 2 rfl) ?_
      refine mr_getI C hw kc_12 42 (by decide) tf_821 wd_2142 dX12_take_117 (by decide) rfl ?_
      refine lv_iconst (v := 3) C.1.1 C.1.2.1 dX12_take_120 (by decide) ?_
      refine lv_icmp_ne (tgt := 129) C.1.1 C.1.2.1 dX12_take_121 (by decide) (fun c29 => ?_) (fun c29 => ?_)
      · replace hD := g_neg c29 hD
        refine lv_aload_n C.1.1 C.1.2.1 dX12_take_129 rfl (lv_at hl 2 rfl) ?_
        refine mr_getI C hw kc_12 42 (by decide) tf_821 wd_2142 dX12_take_130 (by decide) rfl ?_
        refine lv_iconst (v := 2) C.1.1 C.1.2.1 dX12_take_133 (by decide) ?_
        refine lv_irem C.1.1 C.1.2.1 dX12_take_134 (by decide) ?_
        refine lv_iconst (v := 1) C.1.1 C.1.2.1 dX12_take_135 (by decide) ?_
        refine lv_icmp_ne (tgt := 144) C.1.1 C.1.2.1 dX12_take_136 (by decide) (fun c31 => ?_) (fun c31 => ?_)
        · replace hD := g_neg c31 hD
          refine lv_bipush (v := 19) C.1.1 C.1.2.1 dX12_take_144 (by decide) ?_
          exact hb146 r27 19 M25 L26 _ _ ls hD hw (lv_sub hl [2, 0] rfl)
        · replace hD := g_pos c31 hD
          refine lv_bipush (v := 39) C.1.1 C.1.2.1 dX12_take_139 (by decide) ?_
          refine lv_goto (tgt := 146) C.1.1 C.1.2.1 dX12_take_141 (by decide) ?_
          exact hb146 r27 39 M25 L26 _ _ ls hD hw (lv_sub hl [2, 0] rfl)
      · replace hD := g_pos c29 hD
        refine lv_bipush (v := 41) C.1.1 C.1.2.1 dX12_take_124 (by decide) ?_
        refine lv_goto (tgt := 146) C.1.1 C.1.2.1 dX12_take_126 (by decide) ?_
        exact hb146 r27 41 M25 L26 _ _ ls hD hw (lv_sub hl [2, 0] rfl)
    · replace hD := g_pos c28 hD
      refine lv_bipush (v := 22) C.1.1 C.1.2.1 dX12_take_111 (by decide) ?_
      refine lv_goto (tgt := 146) C.1.1 C.1.2.1 dX12_take_113 (by decide) ?_
      exact hb146 r27 22 M25 L26 _ _ ls hD hw (lv_sub hl [2, 0] rfl)
  · replace hD := g_neg c14 hD
    exact mr_vret C hr hlocks hw (Option.some.inj hD) dX12_take_26

theorem dX12_puts_0 : decode cX12_puts 0 = .ok (.aload_n 0, 1) := by decide +kernel
theorem dX12_puts_1 : decode cX12_puts 1 = .ok (.getfield 43, 3) := by decide +kernel
theorem dX12_puts_4 : decode cX12_puts 4 = .ok (.iload_n 1, 1) := by decide +kernel
theorem dX12_puts_5 : decode cX12_puts 5 = .ok (.iaload, 1) := by decide +kernel
theorem dX12_puts_6 : decode cX12_puts 6 = .ok (.ifCond .ne 18, 3) := by decide +kernel
theorem dX12_puts_9 : decode cX12_puts 9 = .ok (.aload_n 0, 1) := by decide +kernel
theorem dX12_puts_10 : decode cX12_puts 10 = .ok (.iload_n 1, 1) := by decide +kernel
theorem dX12_puts_11 : decode cX12_puts 11 = .ok (.invokevirtual 248, 3) := by decide +kernel
theorem dX12_puts_14 : decode cX12_puts 14 = .ok (.iconst (-1), 1) := by decide +kernel
theorem dX12_puts_15 : decode cX12_puts 15 = .ok (.if_icmp .ne 7, 3) := by decide +kernel
theorem dX12_puts_18 : decode cX12_puts 18 = .ok (.iconst 1, 1) := by decide +kernel
theorem dX12_puts_19 : decode cX12_puts 19 = .ok (.goto 4, 3) := by decide +kernel
theorem dX12_puts_22 : decode cX12_puts 22 = .ok (.iconst 0, 1) := by decide +kernel
theorem dX12_puts_23 : decode cX12_puts 23 = .ok (.ireturn, 1) := by decide +kernel
theorem dX12_puts_24 : decode cX12_puts 24 = .ok (.aload_n 0, 1) := by decide +kernel
theorem dX12_puts_25 : decode cX12_puts 25 = .ok (.getfield 43, 3) := by decide +kernel
theorem dX12_puts_28 : decode cX12_puts 28 = .ok (.iload_n 1, 1) := by decide +kernel
theorem dX12_puts_29 : decode cX12_puts 29 = .ok (.iaload, 1) := by decide +kernel
theorem dX12_puts_30 : decode cX12_puts 30 = .ok (.iconst 1, 1) := by decide +kernel
theorem dX12_puts_31 : decode cX12_puts 31 = .ok (.if_icmp .ne 25, 3) := by decide +kernel
theorem dX12_puts_34 : decode cX12_puts 34 = .ok (.aload_n 0, 1) := by decide +kernel
theorem dX12_puts_35 : decode cX12_puts 35 = .ok (.aload_n 0, 1) := by decide +kernel
theorem dX12_puts_36 : decode cX12_puts 36 = .ok (.getfield 49, 3) := by decide +kernel
theorem dX12_puts_39 : decode cX12_puts 39 = .ok (.iload_n 1, 1) := by decide +kernel
theorem dX12_puts_40 : decode cX12_puts 40 = .ok (.iaload, 1) := by decide +kernel
theorem dX12_puts_41 : decode cX12_puts 41 = .ok (.invokevirtual 200, 3) := by decide +kernel
theorem dX12_puts_44 : decode cX12_puts 44 = .ok (.aload_n 0, 1) := by decide +kernel
theorem dX12_puts_45 : decode cX12_puts 45 = .ok (.getfield 99, 3) := by decide +kernel
theorem dX12_puts_48 : decode cX12_puts 48 = .ok (.aload_n 0, 1) := by decide +kernel
theorem dX12_puts_49 : decode cX12_puts 49 = .ok (.getfield 58, 3) := by decide +kernel
theorem dX12_puts_52 : decode cX12_puts 52 = .ok (.iload_n 1, 1) := by decide +kernel
theorem dX12_puts_53 : decode cX12_puts 53 = .ok (.iaload, 1) := by decide +kernel
theorem dX12_puts_54 : decode cX12_puts 54 = .ok (.baload, 1) := by decide +kernel
theorem dX12_puts_55 : decode cX12_puts 55 = .ok (.ireturn, 1) := by decide +kernel
theorem dX12_puts_56 : decode cX12_puts 56 = .ok (.aload_n 0, 1) := by decide +kernel
theorem dX12_puts_57 : decode cX12_puts 57 = .ok (.getfield 43, 3) := by decide +kernel
theorem dX12_puts_60 : decode cX12_puts 60 = .ok (.iload_n 1, 1) := by decide +kernel
theorem dX12_puts_61 : decode cX12_puts 61 = .ok (.iaload, 1) := by decide +kernel
theorem dX12_puts_62 : decode cX12_puts 62 = .ok (.iconst 2, 1) := by decide +kernel
theorem dX12_puts_63 : decode cX12_puts 63 = .ok (.if_icmp .ne 17, 3) := by decide +kernel
theorem dX12_puts_66 : decode cX12_puts 66 = .ok (.aload_n 0, 1) := by decide +kernel
theorem dX12_puts_67 : decode cX12_puts 67 = .ok (.iload_n 1, 1) := by decide +kernel
theorem dX12_puts_68 : decode cX12_puts 68 = .ok (.invokevirtual 251, 3) := by decide +kernel
theorem dX12_puts_71 : decode cX12_puts 71 = .ok (.ifCond .eq 7, 3) := by decide +kernel
theorem dX12_puts_74 : decode cX12_puts 74 = .ok (.iconst 0, 1) := by decide +kernel
theorem dX12_puts_75 : decode cX12_puts 75 = .ok (.goto 4, 3) := by decide +kernel
theorem dX12_puts_78 : decode cX12_puts 78 = .ok (.iconst 1, 1) := by decide +kernel
theorem dX12_puts_79 : decode cX12_puts 79 = .ok (.ireturn, 1) := by decide +kernel
theorem dX12_puts_80 : decode cX12_puts 80 = .ok (.aload_n 0, 1) := by decide +kernel
theorem dX12_puts_81 : decode cX12_puts 81 = .ok (.getfield 43, 3) := by decide +kernel
theorem dX12_puts_84 : decode cX12_puts 84 = .ok (.iload_n 1, 1) := by decide +kernel
theorem dX12_puts_85 : decode cX12_puts 85 = .ok (.iaload, 1) := by decide +kernel
theorem dX12_puts_86 : decode cX12_puts 86 = .ok (.iconst 3, 1) := by decide +kernel
theorem dX12_puts_87 : decode cX12_puts 87 = .ok (.if_icmp .ne 7, 3) := by decide +kernel
theorem dX12_puts_90 : decode cX12_puts 90 = .ok (.iconst 0, 1) := by decide +kernel
theorem dX12_puts_91 : decode cX12_puts 91 = .ok (.goto 4, 3) := by decide +kernel
theorem dX12_puts_94 : decode cX12_puts 94 = .ok (.iconst 1, 1) := by decide +kernel
theorem dX12_puts_95 : decode cX12_puts 95 = .ok (.ireturn, 1) := by decide +kernel
theorem cwX12_puts : mw_cwV yX12_puts cX12_puts 2 ((some .int)) 1 := ⟨⟨wd_15, wd_3649, by decide +kernel⟩, wd_3648, sl_230⟩
set_option maxHeartbeats 4000000 in
set_option maxRecDepth 100000 in
theorem tX12_puts (l : Launch) (G : mwG) (ad : Nat → Nat) (fu : Nat) (a1 : Int32) (M : mwM) (L : mwL) {r0 : Int32} {M0 : mwM} {L0 : mwL} (hD : DX12_puts fu a1 M L = some (r0, M0, L0)) : Met l yX12_puts (Cond.code yX12_puts cX12_puts 2 ((some .int)) :: GT) ({ frames := 5, cells := 0, slots := 0, locals := 125 }) (mw_Pre G ad NF TF FF M L [.ref (ad 821), .int a1]) (mw_Qi G ad NF TF FF (mw_eqI r0 M0 L0)) 0 0 (mw_fr G) := by
  refine mw_enter (by decide) (Nat.le_of_ble_eq_true rfl) ?_
  intro p e s m below meth c ls C hr hlocks hnm hw hl
  have hl : lv_has ls 2 [(0, .ref (ad 821)), (1, .int a1)] := hl
  have hb23 : ∀ (s0 : Int32) (M : mwM) (L : mwL) (H : Heap) (locs : List Loc) (ls : Array Slot), fX12_puts_b23 fu a1 s0 M L = some (r0, M0, L0) → mw_W G ad NF TF FF M L H locs → lv_has ls 2 [] → W p l e ({ frames := 5, cells := 0, slots := 0, locals := 125 }) s m [.ref (ad 821), .int a1].toArray below meth c H locs 0 0 (MQ below (mw_Qi G ad NF TF FF (mw_eqI r0 M0 L0)) [.ref (ad 821), .int a1].toArray s 0 0 (mw_fr G)) (F0 m 23 ls [.int s0]) := by
    intro s0 M L H locs ls hD hw hl
    unfold fX12_puts_b23 at hD
    exact mr_iret C hr hlocks hw rfl (Option.some.inj hD) dX12_puts_23
  have hb79 : ∀ (s0 : Int32) (M : mwM) (L : mwL) (H : Heap) (locs : List Loc) (ls : Array Slot), fX12_puts_b79 fu a1 s0 M L = some (r0, M0, L0) → mw_W G ad NF TF FF M L H locs → lv_has ls 2 [] → W p l e ({ frames := 5, cells := 0, slots := 0, locals := 125 }) s m [.ref (ad 821), .int a1].toArray below meth c H locs 0 0 (MQ below (mw_Qi G ad NF TF FF (mw_eqI r0 M0 L0)) [.ref (ad 821), .int a1].toArray s 0 0 (mw_fr G)) (F0 m 79 ls [.int s0]) := by
    intro s0 M L H locs ls hD hw hl
    unfold fX12_puts_b79 at hD
    exact mr_iret C hr hlocks hw rfl (Option.some.inj hD) dX12_puts_79
  have hb95 : ∀ (s0 : Int32) (M : mwM) (L : mwL) (H : Heap) (locs : List Loc) (ls : Array Slot), fX12_puts_b95 fu a1 s0 M L = some (r0, M0, L0) → mw_W G ad NF TF FF M L H locs → lv_has ls 2 [] → W p l e ({ frames := 5, cells := 0, slots := 0, locals := 125 }) s m [.ref (ad 821), .int a1].toArray below meth c H locs 0 0 (MQ below (mw_Qi G ad NF TF FF (mw_eqI r0 M0 L0)) [.ref (ad 821), .int a1].toArray s 0 0 (mw_fr G)) (F0 m 95 ls [.int s0]) := by
    intro s0 M L H locs ls hD hw hl
    unfold fX12_puts_b95 at hD
    exact mr_iret C hr hlocks hw rfl (Option.some.inj hD) dX12_puts_95
  unfold DX12_puts at hD
  refine lv_aload_n C.1.1 C.1.2.1 dX12_puts_0 rfl (lv_at hl 0 rfl) ?_
  refine mr_getR C hw kc_12 14 (by decide) tf_821 ff_821_14 wd_2114 dX12_puts_1 (by decide) rfl ?_
  refine lv_iload_n C.1.1 C.1.2.1 dX12_puts_4 rfl (lv_at hl 1 rfl) ?_
  obtain ⟨q1, hD⟩ := g_ck hD
  refine mr_iald C hw (by decide) tf_831 q1 dX12_puts_5 ?_
  refine lv_if_ne (tgt := 24) C.1.1 C.1.2.1 dX12_puts_6 (by decide) (fun c2 => ?_) (fun c2 => ?_)
  · replace hD := g_neg c2 hD
    refine lv_aload_n C.1.1 C.1.2.1 dX12_puts_24 rfl (lv_at hl 0 rfl) ?_
    refine mr_getR C hw kc_12 14 (by decide) tf_821 ff_821_14 wd_2114 dX12_puts_25 (by decide) rfl ?_
    refine lv_iload_n C.1.1 C.1.2.1 dX12_puts_28 rfl (lv_at hl 1 rfl) ?_
    obtain ⟨q3, hD⟩ := g_ck hD
    refine mr_iald C hw (by decide) tf_831 q3 dX12_puts_29 ?_
    refine lv_iconst (v := 1) C.1.1 C.1.2.1 dX12_puts_30 (by decide) ?_
    refine lv_icmp_ne (tgt := 56) C.1.1 C.1.2.1 dX12_puts_31 (by decide) (fun c4 => ?_) (fun c4 => ?_)
    · replace hD := g_neg c4 hD
      refine lv_aload_n C.1.1 C.1.2.1 dX12_puts_56 rfl (lv_at hl 0 rfl) ?_
      refine mr_getR C hw kc_12 14 (by decide) tf_821 ff_821_14 wd_2114 dX12_puts_57 (by decide) rfl ?_
      refine lv_iload_n C.1.1 C.1.2.1 dX12_puts_60 rfl (lv_at hl 1 rfl) ?_
      obtain ⟨q5, hD⟩ := g_ck hD
      refine mr_iald C hw (by decide) tf_831 q5 dX12_puts_61 ?_
      refine lv_iconst (v := 2) C.1.1 C.1.2.1 dX12_puts_62 (by decide) ?_
      refine lv_icmp_ne (tgt := 80) C.1.1 C.1.2.1 dX12_puts_63 (by decide) (fun c6 => ?_) (fun c6 => ?_)
      · replace hD := g_neg c6 hD
        refine lv_aload_n C.1.1 C.1.2.1 dX12_puts_80 rfl (lv_at hl 0 rfl) ?_
        refine mr_getR C hw kc_12 14 (by decide) tf_821 ff_821_14 wd_2114 dX12_puts_81 (by decide) rfl ?_
        refine lv_iload_n C.1.1 C.1.2.1 dX12_puts_84 rfl (lv_at hl 1 rfl) ?_
        obtain ⟨q7, hD⟩ := g_ck hD
        refine mr_iald C hw (by decide) tf_831 q7 dX12_puts_85 ?_
        refine lv_iconst (v := 3) C.1.1 C.1.2.1 dX12_puts_86 (by decide) ?_
        refine lv_icmp_ne (tgt := 94) C.1.1 C.1.2.1 dX12_puts_87 (by decide) (fun c8 => ?_) (fun c8 => ?_)
        · replace hD := g_neg c8 hD
          refine lv_iconst (v := 1) C.1.1 C.1.2.1 dX12_puts_94 (by decide) ?_
          exact hb95 1 M L _ _ ls hD hw (lv_sub hl [] rfl)
        · replace hD := g_pos c8 hD
          refine lv_iconst (v := 0) C.1.1 C.1.2.1 dX12_puts_90 (by decide) ?_
          refine lv_goto (tgt := 95) C.1.1 C.1.2.1 dX12_puts_91 (by decide) ?_
          exact hb95 0 M L _ _ ls hD hw (lv_sub hl [] rfl)
      · replace hD := g_pos c6 hD
        refine lv_aload_n C.1.1 C.1.2.1 dX12_puts_66 rfl (lv_at hl 0 rfl) ?_
        refine lv_iload_n C.1.1 C.1.2.1 dX12_puts_67 rfl (lv_at hl 1 rfl) ?_
        obtain ⟨r11, M9, L10, h1, hD⟩ := g_b3 hD
        refine md_cvI (As := [.int a1]) (rest := []) C hw (tX12_answers l G ad fu a1 M L h1) kc_12 (by decide) tf_821 wd_3699 cwX12_answers ⟨Nat.le_of_ble_eq_true rfl, Nat.le_of_ble_eq_true rfl⟩ rfl hl.1 (Nat.le_of_ble_eq_true rfl) dX12_puts_68 rfl rfl ⟨Nat.zero_le _, Nat.zero_le _⟩ rfl (fun H locs hw => ?_)
        refine lv_if_eq (tgt := 78) C.1.1 C.1.2.1 dX12_puts_71 (by decide) (fun c12 => ?_) (fun c12 => ?_)
        · replace hD := g_pos c12 hD
          refine lv_iconst (v := 1) C.1.1 C.1.2.1 dX12_puts_78 (by decide) ?_
          exact hb79 1 M9 L10 _ _ ls hD hw (lv_sub hl [] rfl)
        · replace hD := g_neg c12 hD
          refine lv_iconst (v := 0) C.1.1 C.1.2.1 dX12_puts_74 (by decide) ?_
          refine lv_goto (tgt := 79) C.1.1 C.1.2.1 dX12_puts_75 (by decide) ?_
          exact hb79 0 M9 L10 _ _ ls hD hw (lv_sub hl [] rfl)
    · replace hD := g_pos c4 hD
      refine lv_aload_n C.1.1 C.1.2.1 dX12_puts_34 rfl (lv_at hl 0 rfl) ?_
      refine lv_aload_n C.1.1 C.1.2.1 dX12_puts_35 rfl (lv_at hl 0 rfl) ?_
      refine mr_getR C hw kc_12 16 (by decide) tf_821 ff_821_16 wd_2116 dX12_puts_36 (by decide) rfl ?_
      refine lv_iload_n C.1.1 C.1.2.1 dX12_puts_39 rfl (lv_at hl 1 rfl) ?_
      obtain ⟨q13, hD⟩ := g_ck hD
      refine mr_iald C hw (by decide) tf_833 q13 dX12_puts_40 ?_
      obtain ⟨M14, L15, h1, hD⟩ := g_b2 hD
      refine md_cvV (As := [.int (M 833 a1.toNatClampNeg)]) (rest := []) C hw (tX12_write l G ad fu (M 833 a1.toNatClampNeg) M L h1) kc_12 (by decide) tf_821 wd_3663 cwX12_write ⟨Nat.le_of_ble_eq_true rfl, Nat.le_of_ble_eq_true rfl⟩ rfl hl.1 (Nat.le_of_ble_eq_true rfl) dX12_puts_41 rfl rfl ⟨Nat.zero_le _, Nat.zero_le _⟩ rfl (fun H locs hw => ?_)
      refine lv_aload_n C.1.1 C.1.2.1 dX12_puts_44 rfl (lv_at hl 0 rfl) ?_
      refine mr_getR C hw kc_12 35 (by decide) tf_821 ff_821_35 wd_2135 dX12_puts_45 (by decide) rfl ?_
      refine lv_aload_n C.1.1 C.1.2.1 dX12_puts_48 rfl (lv_at hl 0 rfl) ?_
      refine mr_getR C hw kc_12 19 (by decide) tf_821 ff_821_19 wd_2119 dX12_puts_49 (by decide) rfl ?_
      refine lv_iload_n C.1.1 C.1.2.1 dX12_puts_52 rfl (lv_at hl 1 rfl) ?_
      obtain ⟨q16, hD⟩ := g_ck hD
      refine mr_iald C hw (by decide) tf_836 q16 dX12_puts_53 ?_
      obtain ⟨q17, hD⟩ := g_ck hD
      refine mr_bald C hw (by decide) tf_849 q17 dX12_puts_54 ?_
      exact mr_iret C hr hlocks hw rfl (Option.some.inj hD) dX12_puts_55
  · replace hD := g_pos c2 hD
    refine lv_aload_n C.1.1 C.1.2.1 dX12_puts_9 rfl (lv_at hl 0 rfl) ?_
    refine lv_iload_n C.1.1 C.1.2.1 dX12_puts_10 rfl (lv_at hl 1 rfl) ?_
    obtain ⟨r20, M18, L19, h1, hD⟩ := g_b3 hD
    refine md_cvI (As := [.int a1]) (rest := []) C hw (tX12_first l G ad fu a1 M L h1) kc_12 (by decide) tf_821 wd_3650 cwX12_first ⟨Nat.le_of_ble_eq_true rfl, Nat.le_of_ble_eq_true rfl⟩ rfl hl.1 (Nat.le_of_ble_eq_true rfl) dX12_puts_11 rfl rfl ⟨Nat.zero_le _, Nat.zero_le _⟩ rfl (fun H locs hw => ?_)
    refine lv_iconst (v := (-1)) C.1.1 C.1.2.1 dX12_puts_14 (by decide) ?_
    refine lv_icmp_ne (tgt := 22) C.1.1 C.1.2.1 dX12_puts_15 (by decide) (fun c21 => ?_) (fun c21 => ?_)
    · replace hD := g_neg c21 hD
      refine lv_iconst (v := 0) C.1.1 C.1.2.1 dX12_puts_22 (by decide) ?_
      exact hb23 0 M18 L19 _ _ ls hD hw (lv_sub hl [] rfl)
    · replace hD := g_pos c21 hD
      refine lv_iconst (v := 1) C.1.1 C.1.2.1 dX12_puts_18 (by decide) ?_
      refine lv_goto (tgt := 23) C.1.1 C.1.2.1 dX12_puts_19 (by decide) ?_
      exact hb23 1 M18 L19 _ _ ls hD hw (lv_sub hl [] rfl)

theorem dX12_see_0 : decode cX12_see 0 = .ok (.aload_n 0, 1) := by decide +kernel
theorem dX12_see_1 : decode cX12_see 1 = .ok (.getfield 61, 3) := by decide +kernel
theorem dX12_see_4 : decode cX12_see 4 = .ok (.sipush 1200, 3) := by decide +kernel
theorem dX12_see_7 : decode cX12_see 7 = .ok (.iload_n 1, 1) := by decide +kernel
theorem dX12_see_8 : decode cX12_see 8 = .ok (.imul, 1) := by decide +kernel
theorem dX12_see_9 : decode cX12_see 9 = .ok (.aload_n 0, 1) := by decide +kernel
theorem dX12_see_10 : decode cX12_see 10 = .ok (.getfield 58, 3) := by decide +kernel
theorem dX12_see_13 : decode cX12_see 13 = .ok (.iload_n 1, 1) := by decide +kernel
theorem dX12_see_14 : decode cX12_see 14 = .ok (.iaload, 1) := by decide +kernel
theorem dX12_see_15 : decode cX12_see 15 = .ok (.iadd, 1) := by decide +kernel
theorem dX12_see_16 : decode cX12_see 16 = .ok (.iload_n 2, 1) := by decide +kernel
theorem dX12_see_17 : decode cX12_see 17 = .ok (.i2b, 1) := by decide +kernel
theorem dX12_see_18 : decode cX12_see 18 = .ok (.bastore, 1) := by decide +kernel
theorem dX12_see_19 : decode cX12_see 19 = .ok (.aload_n 0, 1) := by decide +kernel
theorem dX12_see_20 : decode cX12_see 20 = .ok (.getfield 58, 3) := by decide +kernel
theorem dX12_see_23 : decode cX12_see 23 = .ok (.iload_n 1, 1) := by decide +kernel
theorem dX12_see_24 : decode cX12_see 24 = .ok (.dup2, 1) := by decide +kernel
theorem dX12_see_25 : decode cX12_see 25 = .ok (.iaload, 1) := by decide +kernel
theorem dX12_see_26 : decode cX12_see 26 = .ok (.iconst 1, 1) := by decide +kernel
theorem dX12_see_27 : decode cX12_see 27 = .ok (.iadd, 1) := by decide +kernel
theorem dX12_see_28 : decode cX12_see 28 = .ok (.iastore, 1) := by decide +kernel
theorem dX12_see_29 : decode cX12_see 29 = .ok (.return_, 1) := by decide +kernel
theorem cwX12_see : mw_cwV yX12_see cX12_see 3 (none) 2 := ⟨⟨wd_15, wd_3747, by decide +kernel⟩, wd_3746, sl_252⟩
set_option maxHeartbeats 4000000 in
set_option maxRecDepth 100000 in
theorem tX12_see (l : Launch) (G : mwG) (ad : Nat → Nat) (fu : Nat) (a1 : Int32) (a2 : Int32) (M : mwM) (L : mwL) {M0 : mwM} {L0 : mwL} (hD : DX12_see fu a1 a2 M L = some (M0, L0)) : Met l yX12_see (Cond.code yX12_see cX12_see 3 (none) :: GT) ({ frames := 0, cells := 0, slots := 0, locals := 0 }) (mw_Pre G ad NF TF FF M L [.ref (ad 821), .int a1, .int a2]) (mw_Qv G ad NF TF FF (mw_eqV M0 L0)) 0 0 (mw_fr G) := by
  refine mw_enter (by decide) (Nat.le_of_ble_eq_true rfl) ?_
  intro p e s m below meth c ls C hr hlocks hnm hw hl
  have hl : lv_has ls 3 [(0, .ref (ad 821)), (1, .int a1), (2, .int a2)] := hl
  unfold DX12_see at hD
  refine lv_aload_n C.1.1 C.1.2.1 dX12_see_0 rfl (lv_at hl 0 rfl) ?_
  refine mr_getR C hw kc_12 20 (by decide) tf_821 ff_821_20 wd_2120 dX12_see_1 (by decide) rfl ?_
  refine lv_sipush (v := 1200) C.1.1 C.1.2.1 dX12_see_4 (by decide) ?_
  refine lv_iload_n C.1.1 C.1.2.1 dX12_see_7 rfl (lv_at hl 1 rfl) ?_
  refine lv_imul C.1.1 C.1.2.1 dX12_see_8 ?_
  refine lv_aload_n C.1.1 C.1.2.1 dX12_see_9 rfl (lv_at hl 0 rfl) ?_
  refine mr_getR C hw kc_12 19 (by decide) tf_821 ff_821_19 wd_2119 dX12_see_10 (by decide) rfl ?_
  refine lv_iload_n C.1.1 C.1.2.1 dX12_see_13 rfl (lv_at hl 1 rfl) ?_
  obtain ⟨q1, hD⟩ := g_ck hD
  refine mr_iald C hw (by decide) tf_836 q1 dX12_see_14 ?_
  refine lv_iadd C.1.1 C.1.2.1 dX12_see_15 ?_
  refine lv_iload_n C.1.1 C.1.2.1 dX12_see_16 rfl (lv_at hl 2 rfl) ?_
  refine lv_i2b C.1.1 C.1.2.1 dX12_see_17 rfl ?_
  obtain ⟨q2, hD⟩ := g_ck hD
  obtain ⟨M3, eM3, hD⟩ := g_let hD
  refine mr_bast C hw (by decide) tf_837 q2 dX12_see_18 (fun H locs hw => ?_)
  replace hw : mw_W G ad NF TF FF M3 L H locs := by rw [eM3]; exact hw
  refine lv_aload_n C.1.1 C.1.2.1 dX12_see_19 rfl (lv_at hl 0 rfl) ?_
  refine mr_getR C hw kc_12 19 (by decide) tf_821 ff_821_19 wd_2119 dX12_see_20 (by decide) rfl ?_
  refine lv_iload_n C.1.1 C.1.2.1 dX12_see_23 rfl (lv_at hl 1 rfl) ?_
  refine lv_dup2_11 C.1.1 C.1.2.1 dX12_see_24 rfl rfl ?_
  obtain ⟨q4, hD⟩ := g_ck hD
  refine mr_iald C hw (by decide) tf_836 q4 dX12_see_25 ?_
  refine lv_iconst (v := 1) C.1.1 C.1.2.1 dX12_see_26 (by decide) ?_
  refine lv_iadd C.1.1 C.1.2.1 dX12_see_27 ?_
  obtain ⟨q5, hD⟩ := g_ck hD
  obtain ⟨M6, eM6, hD⟩ := g_let hD
  refine mr_iast C hw (by decide) tf_836 q5 dX12_see_28 (fun H locs hw => ?_)
  replace hw : mw_W G ad NF TF FF M6 L H locs := by rw [eM6]; exact hw
  exact mr_vret C hr hlocks hw (Option.some.inj hD) dX12_see_29

theorem dX12_wrong_0 : decode cX12_wrong 0 = .ok (.aload_n 0, 1) := by decide +kernel
theorem dX12_wrong_1 : decode cX12_wrong 1 = .ok (.getfield 87, 3) := by decide +kernel
theorem dX12_wrong_4 : decode cX12_wrong 4 = .ok (.aload_n 0, 1) := by decide +kernel
theorem dX12_wrong_5 : decode cX12_wrong 5 = .ok (.getfield 135, 3) := by decide +kernel
theorem dX12_wrong_8 : decode cX12_wrong 8 = .ok (.iload_n 2, 1) := by decide +kernel
theorem dX12_wrong_9 : decode cX12_wrong 9 = .ok (.i2b, 1) := by decide +kernel
theorem dX12_wrong_10 : decode cX12_wrong 10 = .ok (.bastore, 1) := by decide +kernel
theorem dX12_wrong_11 : decode cX12_wrong 11 = .ok (.aload_n 0, 1) := by decide +kernel
theorem dX12_wrong_12 : decode cX12_wrong 12 = .ok (.getfield 90, 3) := by decide +kernel
theorem dX12_wrong_15 : decode cX12_wrong 15 = .ok (.aload_n 0, 1) := by decide +kernel
theorem dX12_wrong_16 : decode cX12_wrong 16 = .ok (.getfield 135, 3) := by decide +kernel
theorem dX12_wrong_19 : decode cX12_wrong 19 = .ok (.iload_n 1, 1) := by decide +kernel
theorem dX12_wrong_20 : decode cX12_wrong 20 = .ok (.i2b, 1) := by decide +kernel
theorem dX12_wrong_21 : decode cX12_wrong 21 = .ok (.bastore, 1) := by decide +kernel
theorem dX12_wrong_22 : decode cX12_wrong 22 = .ok (.aload_n 0, 1) := by decide +kernel
theorem dX12_wrong_23 : decode cX12_wrong 23 = .ok (.getfield 93, 3) := by decide +kernel
theorem dX12_wrong_26 : decode cX12_wrong 26 = .ok (.aload_n 0, 1) := by decide +kernel
theorem dX12_wrong_27 : decode cX12_wrong 27 = .ok (.getfield 135, 3) := by decide +kernel
theorem dX12_wrong_30 : decode cX12_wrong 30 = .ok (.aload_n 0, 1) := by decide +kernel
theorem dX12_wrong_31 : decode cX12_wrong 31 = .ok (.getfield 123, 3) := by decide +kernel
theorem dX12_wrong_34 : decode cX12_wrong 34 = .ok (.iastore, 1) := by decide +kernel
theorem dX12_wrong_35 : decode cX12_wrong 35 = .ok (.aload_n 0, 1) := by decide +kernel
theorem dX12_wrong_36 : decode cX12_wrong 36 = .ok (.dup, 1) := by decide +kernel
theorem dX12_wrong_37 : decode cX12_wrong 37 = .ok (.getfield 135, 3) := by decide +kernel
theorem dX12_wrong_40 : decode cX12_wrong 40 = .ok (.iconst 1, 1) := by decide +kernel
theorem dX12_wrong_41 : decode cX12_wrong 41 = .ok (.iadd, 1) := by decide +kernel
theorem dX12_wrong_42 : decode cX12_wrong 42 = .ok (.putfield 135, 3) := by decide +kernel
theorem dX12_wrong_45 : decode cX12_wrong 45 = .ok (.aload_n 0, 1) := by decide +kernel
theorem dX12_wrong_46 : decode cX12_wrong 46 = .ok (.getfield 43, 3) := by decide +kernel
theorem dX12_wrong_49 : decode cX12_wrong 49 = .ok (.iload_n 1, 1) := by decide +kernel
theorem dX12_wrong_50 : decode cX12_wrong 50 = .ok (.iconst 3, 1) := by decide +kernel
theorem dX12_wrong_51 : decode cX12_wrong 51 = .ok (.iastore, 1) := by decide +kernel
theorem dX12_wrong_52 : decode cX12_wrong 52 = .ok (.aload_n 0, 1) := by decide +kernel
theorem dX12_wrong_53 : decode cX12_wrong 53 = .ok (.getfield 46, 3) := by decide +kernel
theorem dX12_wrong_56 : decode cX12_wrong 56 = .ok (.iload_n 1, 1) := by decide +kernel
theorem dX12_wrong_57 : decode cX12_wrong 57 = .ok (.bipush 6, 2) := by decide +kernel
theorem dX12_wrong_59 : decode cX12_wrong 59 = .ok (.iastore, 1) := by decide +kernel
theorem dX12_wrong_60 : decode cX12_wrong 60 = .ok (.return_, 1) := by decide +kernel
theorem cwX12_wrong : mw_cwV yX12_wrong cX12_wrong 3 (none) 2 := ⟨⟨wd_15, wd_3751, by decide +kernel⟩, wd_3750, sl_253⟩
set_option maxHeartbeats 4000000 in
set_option maxRecDepth 100000 in
theorem tX12_wrong (l : Launch) (G : mwG) (ad : Nat → Nat) (fu : Nat) (a1 : Int32) (a2 : Int32) (M : mwM) (L : mwL) {M0 : mwM} {L0 : mwL} (hD : DX12_wrong fu a1 a2 M L = some (M0, L0)) : Met l yX12_wrong (Cond.code yX12_wrong cX12_wrong 3 (none) :: GT) ({ frames := 0, cells := 0, slots := 0, locals := 0 }) (mw_Pre G ad NF TF FF M L [.ref (ad 821), .int a1, .int a2]) (mw_Qv G ad NF TF FF (mw_eqV M0 L0)) 0 0 (mw_fr G) := by
  refine mw_enter (by decide) (Nat.le_of_ble_eq_true rfl) ?_
  intro p e s m below meth c ls C hr hlocks hnm hw hl
  have hl : lv_has ls 3 [(0, .ref (ad 821)), (1, .int a1), (2, .int a2)] := hl
  unfold DX12_wrong at hD
  refine lv_aload_n C.1.1 C.1.2.1 dX12_wrong_0 rfl (lv_at hl 0 rfl) ?_
  refine mr_getR C hw kc_12 30 (by decide) tf_821 ff_821_30 wd_2130 dX12_wrong_1 (by decide) rfl ?_
  refine lv_aload_n C.1.1 C.1.2.1 dX12_wrong_4 rfl (lv_at hl 0 rfl) ?_
  refine mr_getI C hw kc_12 29 (by decide) tf_821 wd_2129 dX12_wrong_5 (by decide) rfl ?_
  refine lv_iload_n C.1.1 C.1.2.1 dX12_wrong_8 rfl (lv_at hl 2 rfl) ?_
  refine lv_i2b C.1.1 C.1.2.1 dX12_wrong_9 rfl ?_
  obtain ⟨q1, hD⟩ := g_ck hD
  obtain ⟨M2, eM2, hD⟩ := g_let hD
  refine mr_bast C hw (by decide) tf_845 q1 dX12_wrong_10 (fun H locs hw => ?_)
  replace hw : mw_W G ad NF TF FF M2 L H locs := by rw [eM2]; exact hw
  refine lv_aload_n C.1.1 C.1.2.1 dX12_wrong_11 rfl (lv_at hl 0 rfl) ?_
  refine mr_getR C hw kc_12 31 (by decide) tf_821 ff_821_31 wd_2131 dX12_wrong_12 (by decide) rfl ?_
  refine lv_aload_n C.1.1 C.1.2.1 dX12_wrong_15 rfl (lv_at hl 0 rfl) ?_
  refine mr_getI C hw kc_12 29 (by decide) tf_821 wd_2129 dX12_wrong_16 (by decide) rfl ?_
  refine lv_iload_n C.1.1 C.1.2.1 dX12_wrong_19 rfl (lv_at hl 1 rfl) ?_
  refine lv_i2b C.1.1 C.1.2.1 dX12_wrong_20 rfl ?_
  obtain ⟨q3, hD⟩ := g_ck hD
  obtain ⟨M4, eM4, hD⟩ := g_let hD
  refine mr_bast C hw (by decide) tf_846 q3 dX12_wrong_21 (fun H locs hw => ?_)
  replace hw : mw_W G ad NF TF FF M4 L H locs := by rw [eM4]; exact hw
  refine lv_aload_n C.1.1 C.1.2.1 dX12_wrong_22 rfl (lv_at hl 0 rfl) ?_
  refine mr_getR C hw kc_12 32 (by decide) tf_821 ff_821_32 wd_2132 dX12_wrong_23 (by decide) rfl ?_
  refine lv_aload_n C.1.1 C.1.2.1 dX12_wrong_26 rfl (lv_at hl 0 rfl) ?_
  refine mr_getI C hw kc_12 29 (by decide) tf_821 wd_2129 dX12_wrong_27 (by decide) rfl ?_
  refine lv_aload_n C.1.1 C.1.2.1 dX12_wrong_30 rfl (lv_at hl 0 rfl) ?_
  refine mr_getI C hw kc_12 2 (by decide) tf_821 wd_2102 dX12_wrong_31 (by decide) rfl ?_
  obtain ⟨q5, hD⟩ := g_ck hD
  obtain ⟨M6, eM6, hD⟩ := g_let hD
  refine mr_iast C hw (by decide) tf_847 q5 dX12_wrong_34 (fun H locs hw => ?_)
  replace hw : mw_W G ad NF TF FF M6 L H locs := by rw [eM6]; exact hw
  refine lv_aload_n C.1.1 C.1.2.1 dX12_wrong_35 rfl (lv_at hl 0 rfl) ?_
  refine lv_dup C.1.1 C.1.2.1 dX12_wrong_36 rfl ?_
  refine mr_getI C hw kc_12 29 (by decide) tf_821 wd_2129 dX12_wrong_37 (by decide) rfl ?_
  refine lv_iconst (v := 1) C.1.1 C.1.2.1 dX12_wrong_40 (by decide) ?_
  refine lv_iadd C.1.1 C.1.2.1 dX12_wrong_41 ?_
  obtain ⟨M7, eM7, hD⟩ := g_let hD
  refine mr_putI C hw kc_12 29 (by decide) tf_821 wd_2129 dX12_wrong_42 (by decide) rfl rfl rfl rfl (fun H locs hw => ?_)
  replace hw : mw_W G ad NF TF FF M7 L H locs := by rw [eM7]; exact hw
  refine lv_aload_n C.1.1 C.1.2.1 dX12_wrong_45 rfl (lv_at hl 0 rfl) ?_
  refine mr_getR C hw kc_12 14 (by decide) tf_821 ff_821_14 wd_2114 dX12_wrong_46 (by decide) rfl ?_
  refine lv_iload_n C.1.1 C.1.2.1 dX12_wrong_49 rfl (lv_at hl 1 rfl) ?_
  refine lv_iconst (v := 3) C.1.1 C.1.2.1 dX12_wrong_50 (by decide) ?_
  obtain ⟨q8, hD⟩ := g_ck hD
  obtain ⟨M9, eM9, hD⟩ := g_let hD
  refine mr_iast C hw (by decide) tf_831 q8 dX12_wrong_51 (fun H locs hw => ?_)
  replace hw : mw_W G ad NF TF FF M9 L H locs := by rw [eM9]; exact hw
  refine lv_aload_n C.1.1 C.1.2.1 dX12_wrong_52 rfl (lv_at hl 0 rfl) ?_
  refine mr_getR C hw kc_12 15 (by decide) tf_821 ff_821_15 wd_2115 dX12_wrong_53 (by decide) rfl ?_
  refine lv_iload_n C.1.1 C.1.2.1 dX12_wrong_56 rfl (lv_at hl 1 rfl) ?_
  refine lv_bipush (v := 6) C.1.1 C.1.2.1 dX12_wrong_57 (by decide) ?_
  obtain ⟨q10, hD⟩ := g_ck hD
  obtain ⟨M11, eM11, hD⟩ := g_let hD
  refine mr_iast C hw (by decide) tf_832 q10 dX12_wrong_59 (fun H locs hw => ?_)
  replace hw : mw_W G ad NF TF FF M11 L H locs := by rw [eM11]; exact hw
  exact mr_vret C hr hlocks hw (Option.some.inj hD) dX12_wrong_60

theorem dX12_go_0 : decode cX12_go 0 = .ok (.aload_n 0, 1) := by decide +kernel
theorem dX12_go_1 : decode cX12_go 1 = .ok (.getfield 43, 3) := by decide +kernel
theorem dX12_go_4 : decode cX12_go 4 = .ok (.iload_n 1, 1) := by decide +kernel
theorem dX12_go_5 : decode cX12_go 5 = .ok (.iload_n 2, 1) := by decide +kernel
theorem dX12_go_6 : decode cX12_go 6 = .ok (.iastore, 1) := by decide +kernel
theorem dX12_go_7 : decode cX12_go 7 = .ok (.aload_n 0, 1) := by decide +kernel
theorem dX12_go_8 : decode cX12_go 8 = .ok (.getfield 46, 3) := by decide +kernel
theorem dX12_go_11 : decode cX12_go 11 = .ok (.iload_n 1, 1) := by decide +kernel
theorem dX12_go_12 : decode cX12_go 12 = .ok (.iload_n 3, 1) := by decide +kernel
theorem dX12_go_13 : decode cX12_go 13 = .ok (.iastore, 1) := by decide +kernel
theorem dX12_go_14 : decode cX12_go 14 = .ok (.return_, 1) := by decide +kernel
theorem cwX12_go : mw_cwV yX12_go cX12_go 4 (none) 3 := ⟨⟨wd_15, wd_3755, by decide +kernel⟩, wd_3754, sl_254⟩
set_option maxHeartbeats 4000000 in
set_option maxRecDepth 100000 in
theorem tX12_go (l : Launch) (G : mwG) (ad : Nat → Nat) (fu : Nat) (a1 : Int32) (a2 : Int32) (a3 : Int32) (M : mwM) (L : mwL) {M0 : mwM} {L0 : mwL} (hD : DX12_go fu a1 a2 a3 M L = some (M0, L0)) : Met l yX12_go (Cond.code yX12_go cX12_go 4 (none) :: GT) ({ frames := 0, cells := 0, slots := 0, locals := 0 }) (mw_Pre G ad NF TF FF M L [.ref (ad 821), .int a1, .int a2, .int a3]) (mw_Qv G ad NF TF FF (mw_eqV M0 L0)) 0 0 (mw_fr G) := by
  refine mw_enter (by decide) (Nat.le_of_ble_eq_true rfl) ?_
  intro p e s m below meth c ls C hr hlocks hnm hw hl
  have hl : lv_has ls 4 [(0, .ref (ad 821)), (1, .int a1), (2, .int a2), (3, .int a3)] := hl
  unfold DX12_go at hD
  refine lv_aload_n C.1.1 C.1.2.1 dX12_go_0 rfl (lv_at hl 0 rfl) ?_
  refine mr_getR C hw kc_12 14 (by decide) tf_821 ff_821_14 wd_2114 dX12_go_1 (by decide) rfl ?_
  refine lv_iload_n C.1.1 C.1.2.1 dX12_go_4 rfl (lv_at hl 1 rfl) ?_
  refine lv_iload_n C.1.1 C.1.2.1 dX12_go_5 rfl (lv_at hl 2 rfl) ?_
  obtain ⟨q1, hD⟩ := g_ck hD
  obtain ⟨M2, eM2, hD⟩ := g_let hD
  refine mr_iast C hw (by decide) tf_831 q1 dX12_go_6 (fun H locs hw => ?_)
  replace hw : mw_W G ad NF TF FF M2 L H locs := by rw [eM2]; exact hw
  refine lv_aload_n C.1.1 C.1.2.1 dX12_go_7 rfl (lv_at hl 0 rfl) ?_
  refine mr_getR C hw kc_12 15 (by decide) tf_821 ff_821_15 wd_2115 dX12_go_8 (by decide) rfl ?_
  refine lv_iload_n C.1.1 C.1.2.1 dX12_go_11 rfl (lv_at hl 1 rfl) ?_
  refine lv_iload_n C.1.1 C.1.2.1 dX12_go_12 rfl (lv_at hl 3 rfl) ?_
  obtain ⟨q3, hD⟩ := g_ck hD
  obtain ⟨M4, eM4, hD⟩ := g_let hD
  refine mr_iast C hw (by decide) tf_832 q3 dX12_go_13 (fun H locs hw => ?_)
  replace hw : mw_W G ad NF TF FF M4 L H locs := by rw [eM4]; exact hw
  exact mr_vret C hr hlocks hw (Option.some.inj hD) dX12_go_14

theorem dX12_sent_0 : decode cX12_sent 0 = .ok (.aload_n 0, 1) := by decide +kernel
theorem dX12_sent_1 : decode cX12_sent 1 = .ok (.getfield 49, 3) := by decide +kernel
theorem dX12_sent_4 : decode cX12_sent 4 = .ok (.iload_n 1, 1) := by decide +kernel
theorem dX12_sent_5 : decode cX12_sent 5 = .ok (.iaload, 1) := by decide +kernel
theorem dX12_sent_6 : decode cX12_sent 6 = .ok (.istore_n 3, 1) := by decide +kernel
theorem dX12_sent_7 : decode cX12_sent 7 = .ok (.aload_n 0, 1) := by decide +kernel
theorem dX12_sent_8 : decode cX12_sent 8 = .ok (.iload_n 3, 1) := by decide +kernel
theorem dX12_sent_9 : decode cX12_sent 9 = .ok (.invokevirtual 200, 3) := by decide +kernel
theorem dX12_sent_12 : decode cX12_sent 12 = .ok (.aload_n 0, 1) := by decide +kernel
theorem dX12_sent_13 : decode cX12_sent 13 = .ok (.getfield 58, 3) := by decide +kernel
theorem dX12_sent_16 : decode cX12_sent 16 = .ok (.iload_n 1, 1) := by decide +kernel
theorem dX12_sent_17 : decode cX12_sent 17 = .ok (.iaload, 1) := by decide +kernel
theorem dX12_sent_18 : decode cX12_sent 18 = .ok (.istore 4, 2) := by decide +kernel
theorem dX12_sent_20 : decode cX12_sent 20 = .ok (.aload_n 0, 1) := by decide +kernel
theorem dX12_sent_21 : decode cX12_sent 21 = .ok (.iload_n 1, 1) := by decide +kernel
theorem dX12_sent_22 : decode cX12_sent 22 = .ok (.iload_n 2, 1) := by decide +kernel
theorem dX12_sent_23 : decode cX12_sent 23 = .ok (.invokevirtual 257, 3) := by decide +kernel
theorem dX12_sent_26 : decode cX12_sent 26 = .ok (.iload 4, 2) := by decide +kernel
theorem dX12_sent_28 : decode cX12_sent 28 = .ok (.aload_n 0, 1) := by decide +kernel
theorem dX12_sent_29 : decode cX12_sent 29 = .ok (.getfield 187, 3) := by decide +kernel
theorem dX12_sent_32 : decode cX12_sent 32 = .ok (.if_icmp .ge 32, 3) := by decide +kernel
theorem dX12_sent_35 : decode cX12_sent 35 = .ok (.aload_n 0, 1) := by decide +kernel
theorem dX12_sent_36 : decode cX12_sent 36 = .ok (.getfield 102, 3) := by decide +kernel
theorem dX12_sent_39 : decode cX12_sent 39 = .ok (.iload 4, 2) := by decide +kernel
theorem dX12_sent_41 : decode cX12_sent 41 = .ok (.baload, 1) := by decide +kernel
theorem dX12_sent_42 : decode cX12_sent 42 = .ok (.ifCond .ne 22, 3) := by decide +kernel
theorem dX12_sent_45 : decode cX12_sent 45 = .ok (.aload_n 0, 1) := by decide +kernel
theorem dX12_sent_46 : decode cX12_sent 46 = .ok (.getfield 99, 3) := by decide +kernel
theorem dX12_sent_49 : decode cX12_sent 49 = .ok (.iload 4, 2) := by decide +kernel
theorem dX12_sent_51 : decode cX12_sent 51 = .ok (.baload, 1) := by decide +kernel
theorem dX12_sent_52 : decode cX12_sent 52 = .ok (.iconst 1, 1) := by decide +kernel
theorem dX12_sent_53 : decode cX12_sent 53 = .ok (.if_icmp .ne 11, 3) := by decide +kernel
theorem dX12_sent_56 : decode cX12_sent 56 = .ok (.iload_n 2, 1) := by decide +kernel
theorem dX12_sent_57 : decode cX12_sent 57 = .ok (.ifCond .ne 7, 3) := by decide +kernel
theorem dX12_sent_60 : decode cX12_sent 60 = .ok (.iconst 1, 1) := by decide +kernel
theorem dX12_sent_61 : decode cX12_sent 61 = .ok (.goto 4, 3) := by decide +kernel
theorem dX12_sent_64 : decode cX12_sent 64 = .ok (.iconst 0, 1) := by decide +kernel
theorem dX12_sent_65 : decode cX12_sent 65 = .ok (.istore 5, 2) := by decide +kernel
theorem dX12_sent_67 : decode cX12_sent 67 = .ok (.iload 4, 2) := by decide +kernel
theorem dX12_sent_69 : decode cX12_sent 69 = .ok (.aload_n 0, 1) := by decide +kernel
theorem dX12_sent_70 : decode cX12_sent 70 = .ok (.getfield 163, 3) := by decide +kernel
theorem dX12_sent_73 : decode cX12_sent 73 = .ok (.bipush 9, 2) := by decide +kernel
theorem dX12_sent_75 : decode cX12_sent 75 = .ok (.isub, 1) := by decide +kernel
theorem dX12_sent_76 : decode cX12_sent 76 = .ok (.if_icmp .ne 7, 3) := by decide +kernel
theorem dX12_sent_79 : decode cX12_sent 79 = .ok (.iconst 1, 1) := by decide +kernel
theorem dX12_sent_80 : decode cX12_sent 80 = .ok (.goto 4, 3) := by decide +kernel
theorem dX12_sent_83 : decode cX12_sent 83 = .ok (.iconst 0, 1) := by decide +kernel
theorem dX12_sent_84 : decode cX12_sent 84 = .ok (.istore 6, 2) := by decide +kernel
theorem dX12_sent_86 : decode cX12_sent 86 = .ok (.iload 5, 2) := by decide +kernel
theorem dX12_sent_88 : decode cX12_sent 88 = .ok (.ifCond .eq 13, 3) := by decide +kernel
theorem dX12_sent_91 : decode cX12_sent 91 = .ok (.aload_n 0, 1) := by decide +kernel
theorem dX12_sent_92 : decode cX12_sent 92 = .ok (.getfield 43, 3) := by decide +kernel
theorem dX12_sent_95 : decode cX12_sent 95 = .ok (.iload_n 1, 1) := by decide +kernel
theorem dX12_sent_96 : decode cX12_sent 96 = .ok (.iconst 2, 1) := by decide +kernel
theorem dX12_sent_97 : decode cX12_sent 97 = .ok (.iastore, 1) := by decide +kernel
theorem dX12_sent_98 : decode cX12_sent 98 = .ok (.goto 104, 3) := by decide +kernel
theorem dX12_sent_101 : decode cX12_sent 101 = .ok (.iload 6, 2) := by decide +kernel
theorem dX12_sent_103 : decode cX12_sent 103 = .ok (.ifCond .eq 11, 3) := by decide +kernel
theorem dX12_sent_106 : decode cX12_sent 106 = .ok (.iload_n 2, 1) := by decide +kernel
theorem dX12_sent_107 : decode cX12_sent 107 = .ok (.iconst 1, 1) := by decide +kernel
theorem dX12_sent_108 : decode cX12_sent 108 = .ok (.if_icmp .ne 35, 3) := by decide +kernel
theorem dX12_sent_111 : decode cX12_sent 111 = .ok (.goto 14, 3) := by decide +kernel
theorem dX12_sent_114 : decode cX12_sent 114 = .ok (.iload_n 2, 1) := by decide +kernel
theorem dX12_sent_115 : decode cX12_sent 115 = .ok (.aload_n 0, 1) := by decide +kernel
theorem dX12_sent_116 : decode cX12_sent 116 = .ok (.getfield 99, 3) := by decide +kernel
theorem dX12_sent_119 : decode cX12_sent 119 = .ok (.iload 4, 2) := by decide +kernel
theorem dX12_sent_121 : decode cX12_sent 121 = .ok (.baload, 1) := by decide +kernel
theorem dX12_sent_122 : decode cX12_sent 122 = .ok (.if_icmp .eq 21, 3) := by decide +kernel
theorem dX12_sent_125 : decode cX12_sent 125 = .ok (.aload_n 0, 1) := by decide +kernel
theorem dX12_sent_126 : decode cX12_sent 126 = .ok (.iload_n 1, 1) := by decide +kernel
theorem dX12_sent_127 : decode cX12_sent 127 = .ok (.iload 6, 2) := by decide +kernel
theorem dX12_sent_129 : decode cX12_sent 129 = .ok (.ifCond .eq 7, 3) := by decide +kernel
theorem dX12_sent_132 : decode cX12_sent 132 = .ok (.iconst 4, 1) := by decide +kernel
theorem dX12_sent_133 : decode cX12_sent 133 = .ok (.goto 4, 3) := by decide +kernel
theorem dX12_sent_136 : decode cX12_sent 136 = .ok (.iconst 0, 1) := by decide +kernel
theorem dX12_sent_137 : decode cX12_sent 137 = .ok (.invokevirtual 270, 3) := by decide +kernel
theorem dX12_sent_140 : decode cX12_sent 140 = .ok (.goto 62, 3) := by decide +kernel
theorem dX12_sent_143 : decode cX12_sent 143 = .ok (.iload 4, 2) := by decide +kernel
theorem dX12_sent_145 : decode cX12_sent 145 = .ok (.aload_n 0, 1) := by decide +kernel
theorem dX12_sent_146 : decode cX12_sent 146 = .ok (.getfield 163, 3) := by decide +kernel
theorem dX12_sent_149 : decode cX12_sent 149 = .ok (.iconst 1, 1) := by decide +kernel
theorem dX12_sent_150 : decode cX12_sent 150 = .ok (.isub, 1) := by decide +kernel
theorem dX12_sent_151 : decode cX12_sent 151 = .ok (.if_icmp .ne 51, 3) := by decide +kernel
theorem dX12_sent_154 : decode cX12_sent 154 = .ok (.aload_n 0, 1) := by decide +kernel
theorem dX12_sent_155 : decode cX12_sent 155 = .ok (.getfield 33, 3) := by decide +kernel
theorem dX12_sent_158 : decode cX12_sent 158 = .ok (.iload_n 3, 1) := by decide +kernel
theorem dX12_sent_159 : decode cX12_sent 159 = .ok (.iconst 1, 1) := by decide +kernel
theorem dX12_sent_160 : decode cX12_sent 160 = .ok (.bastore, 1) := by decide +kernel
theorem dX12_sent_161 : decode cX12_sent 161 = .ok (.aload_n 0, 1) := by decide +kernel
theorem dX12_sent_162 : decode cX12_sent 162 = .ok (.getfield 37, 3) := by decide +kernel
theorem dX12_sent_165 : decode cX12_sent 165 = .ok (.aload_n 0, 1) := by decide +kernel
theorem dX12_sent_166 : decode cX12_sent 166 = .ok (.getfield 129, 3) := by decide +kernel
theorem dX12_sent_169 : decode cX12_sent 169 = .ok (.iload_n 3, 1) := by decide +kernel
theorem dX12_sent_170 : decode cX12_sent 170 = .ok (.iastore, 1) := by decide +kernel
theorem dX12_sent_171 : decode cX12_sent 171 = .ok (.aload_n 0, 1) := by decide +kernel
theorem dX12_sent_172 : decode cX12_sent 172 = .ok (.getfield 40, 3) := by decide +kernel
theorem dX12_sent_175 : decode cX12_sent 175 = .ok (.aload_n 0, 1) := by decide +kernel
theorem dX12_sent_176 : decode cX12_sent 176 = .ok (.getfield 129, 3) := by decide +kernel
theorem dX12_sent_179 : decode cX12_sent 179 = .ok (.aload_n 0, 1) := by decide +kernel
theorem dX12_sent_180 : decode cX12_sent 180 = .ok (.getfield 123, 3) := by decide +kernel
theorem dX12_sent_183 : decode cX12_sent 183 = .ok (.iastore, 1) := by decide +kernel
theorem dX12_sent_184 : decode cX12_sent 184 = .ok (.aload_n 0, 1) := by decide +kernel
theorem dX12_sent_185 : decode cX12_sent 185 = .ok (.dup, 1) := by decide +kernel
theorem dX12_sent_186 : decode cX12_sent 186 = .ok (.getfield 129, 3) := by decide +kernel
theorem dX12_sent_189 : decode cX12_sent 189 = .ok (.iconst 1, 1) := by decide +kernel
theorem dX12_sent_190 : decode cX12_sent 190 = .ok (.iadd, 1) := by decide +kernel
theorem dX12_sent_191 : decode cX12_sent 191 = .ok (.putfield 129, 3) := by decide +kernel
theorem dX12_sent_194 : decode cX12_sent 194 = .ok (.aload_n 0, 1) := by decide +kernel
theorem dX12_sent_195 : decode cX12_sent 195 = .ok (.iload_n 1, 1) := by decide +kernel
theorem dX12_sent_196 : decode cX12_sent 196 = .ok (.bipush 6, 2) := by decide +kernel
theorem dX12_sent_198 : decode cX12_sent 198 = .ok (.iconst 3, 1) := by decide +kernel
theorem dX12_sent_199 : decode cX12_sent 199 = .ok (.invokevirtual 266, 3) := by decide +kernel
theorem dX12_sent_202 : decode cX12_sent 202 = .ok (.return_, 1) := by decide +kernel
theorem cwX12_sent : mw_cwV yX12_sent cX12_sent 7 (none) 2 := ⟨⟨wd_15, wd_3743, by decide +kernel⟩, wd_3742, sl_251⟩
set_option maxHeartbeats 4000000 in
set_option maxRecDepth 100000 in
theorem tX12_sent (l : Launch) (G : mwG) (ad : Nat → Nat) (fu : Nat) (a1 : Int32) (a2 : Int32) (M : mwM) (L : mwL) {M0 : mwM} {L0 : mwL} (hD : DX12_sent fu a1 a2 M L = some (M0, L0)) : Met l yX12_sent (Cond.code yX12_sent cX12_sent 7 (none) :: GT) ({ frames := 4, cells := 0, slots := 0, locals := 99 }) (mw_Pre G ad NF TF FF M L [.ref (ad 821), .int a1, .int a2]) (mw_Qv G ad NF TF FF (mw_eqV M0 L0)) 0 0 (mw_fr G) := by
  refine mw_enter (by decide) (Nat.le_of_ble_eq_true rfl) ?_
  intro p e s m below meth c ls C hr hlocks hnm hw hl
  have hl : lv_has ls 7 [(0, .ref (ad 821)), (1, .int a1), (2, .int a2)] := hl
  have hb202 : ∀ (M : mwM) (L : mwL) (H : Heap) (locs : List Loc) (ls : Array Slot), fX12_sent_b202 fu a1 a2 M L = some (M0, L0) → mw_W G ad NF TF FF M L H locs → lv_has ls 7 [] → W p l e ({ frames := 4, cells := 0, slots := 0, locals := 99 }) s m [.ref (ad 821), .int a1, .int a2].toArray below meth c H locs 0 0 (MQ below (mw_Qv G ad NF TF FF (mw_eqV M0 L0)) [.ref (ad 821), .int a1, .int a2].toArray s 0 0 (mw_fr G)) (F0 m 202 ls []) := by
    intro M L H locs ls hD hw hl
    unfold fX12_sent_b202 at hD
    exact mr_vret C hr hlocks hw (Option.some.inj hD) dX12_sent_202
  have hb143 : ∀ (v3 : Int32) (v4 : Int32) (M : mwM) (L : mwL) (H : Heap) (locs : List Loc) (ls : Array Slot), fX12_sent_b143 fu a1 a2 v3 v4 M L = some (M0, L0) → mw_W G ad NF TF FF M L H locs → lv_has ls 7 [(0, .ref (ad 821)), (1, .int a1), (3, .int v3), (4, .int v4)] → W p l e ({ frames := 4, cells := 0, slots := 0, locals := 99 }) s m [.ref (ad 821), .int a1, .int a2].toArray below meth c H locs 0 0 (MQ below (mw_Qv G ad NF TF FF (mw_eqV M0 L0)) [.ref (ad 821), .int a1, .int a2].toArray s 0 0 (mw_fr G)) (F0 m 143 ls []) := by
    intro v3 v4 M L H locs ls hD hw hl
    unfold fX12_sent_b143 at hD
    refine lv_iload C.1.1 C.1.2.1 dX12_sent_143 (lv_at hl 3 rfl) ?_
    refine lv_aload_n C.1.1 C.1.2.1 dX12_sent_145 rfl (lv_at hl 0 rfl) ?_
    refine mr_getI C hw kc_12 37 (by decide) tf_821 wd_2137 dX12_sent_146 (by decide) rfl ?_
    refine lv_iconst (v := 1) C.1.1 C.1.2.1 dX12_sent_149 (by decide) ?_
    refine lv_isub C.1.1 C.1.2.1 dX12_sent_150 ?_
    refine lv_icmp_ne (tgt := 202) C.1.1 C.1.2.1 dX12_sent_151 (by decide) (fun c12 => ?_) (fun c12 => ?_)
    · replace hD := g_neg c12 hD
      exact hb202 M L _ _ ls hD hw (lv_sub hl [] rfl)
    · replace hD := g_pos c12 hD
      refine lv_aload_n C.1.1 C.1.2.1 dX12_sent_154 rfl (lv_at hl 0 rfl) ?_
      refine mr_getR C hw kc_12 10 (by decide) tf_821 ff_821_10 wd_2110 dX12_sent_155 (by decide) rfl ?_
      refine lv_iload_n C.1.1 C.1.2.1 dX12_sent_158 rfl (lv_at hl 2 rfl) ?_
      refine lv_iconst (v := 1) C.1.1 C.1.2.1 dX12_sent_159 (by decide) ?_
      obtain ⟨q13, hD⟩ := g_ck hD
      obtain ⟨M14, eM14, hD⟩ := g_let hD
      refine mr_zast C hw (by decide) tf_828 q13 dX12_sent_160 (fun H locs hw => ?_)
      replace hw : mw_W G ad NF TF FF M14 L H locs := by rw [eM14]; exact hw
      refine lv_aload_n C.1.1 C.1.2.1 dX12_sent_161 rfl (lv_at hl 0 rfl) ?_
      refine mr_getR C hw kc_12 12 (by decide) tf_821 ff_821_12 wd_2112 dX12_sent_162 (by decide) rfl ?_
      refine lv_aload_n C.1.1 C.1.2.1 dX12_sent_165 rfl (lv_at hl 0 rfl) ?_
      refine mr_getI C hw kc_12 11 (by decide) tf_821 wd_2111 dX12_sent_166 (by decide) rfl ?_
      refine lv_iload_n C.1.1 C.1.2.1 dX12_sent_169 rfl (lv_at hl 2 rfl) ?_
      obtain ⟨q15, hD⟩ := g_ck hD
      obtain ⟨M16, eM16, hD⟩ := g_let hD
      refine mr_iast C hw (by decide) tf_829 q15 dX12_sent_170 (fun H locs hw => ?_)
      replace hw : mw_W G ad NF TF FF M16 L H locs := by rw [eM16]; exact hw
      refine lv_aload_n C.1.1 C.1.2.1 dX12_sent_171 rfl (lv_at hl 0 rfl) ?_
      refine mr_getR C hw kc_12 13 (by decide) tf_821 ff_821_13 wd_2113 dX12_sent_172 (by decide) rfl ?_
      refine lv_aload_n C.1.1 C.1.2.1 dX12_sent_175 rfl (lv_at hl 0 rfl) ?_
      refine mr_getI C hw kc_12 11 (by decide) tf_821 wd_2111 dX12_sent_176 (by decide) rfl ?_
      refine lv_aload_n C.1.1 C.1.2.1 dX12_sent_179 rfl (lv_at hl 0 rfl) ?_
      refine mr_getI C hw kc_12 2 (by decide) tf_821 wd_2102 dX12_sent_180 (by decide) rfl ?_
      obtain ⟨q17, hD⟩ := g_ck hD
      obtain ⟨M18, eM18, hD⟩ := g_let hD
      refine mr_iast C hw (by decide) tf_830 q17 dX12_sent_183 (fun H locs hw => ?_)
      replace hw : mw_W G ad NF TF FF M18 L H locs := by rw [eM18]; exact hw
      refine lv_aload_n C.1.1 C.1.2.1 dX12_sent_184 rfl (lv_at hl 0 rfl) ?_
      refine lv_dup C.1.1 C.1.2.1 dX12_sent_185 rfl ?_
      refine mr_getI C hw kc_12 11 (by decide) tf_821 wd_2111 dX12_sent_186 (by decide) rfl ?_
      refine lv_iconst (v := 1) C.1.1 C.1.2.1 dX12_sent_189 (by decide) ?_
      refine lv_iadd C.1.1 C.1.2.1 dX12_sent_190 ?_
      obtain ⟨M19, eM19, hD⟩ := g_let hD
      refine mr_putI C hw kc_12 11 (by decide) tf_821 wd_2111 dX12_sent_191 (by decide) rfl rfl rfl rfl (fun H locs hw => ?_)
      replace hw : mw_W G ad NF TF FF M19 L H locs := by rw [eM19]; exact hw
      refine lv_aload_n C.1.1 C.1.2.1 dX12_sent_194 rfl (lv_at hl 0 rfl) ?_
      refine lv_iload_n C.1.1 C.1.2.1 dX12_sent_195 rfl (lv_at hl 1 rfl) ?_
      refine lv_bipush (v := 6) C.1.1 C.1.2.1 dX12_sent_196 (by decide) ?_
      refine lv_iconst (v := 3) C.1.1 C.1.2.1 dX12_sent_198 (by decide) ?_
      obtain ⟨M20, L21, h1, hD⟩ := g_b2 hD
      refine md_cvV (As := [.int a1, .int 6, .int 3]) (rest := []) C hw (tX12_go l G ad fu a1 6 3 M19 L h1) kc_12 (by decide) tf_821 wd_3752 cwX12_go ⟨Nat.le_of_ble_eq_true rfl, Nat.le_of_ble_eq_true rfl⟩ rfl hl.1 (Nat.le_of_ble_eq_true rfl) dX12_sent_199 rfl rfl ⟨Nat.zero_le _, Nat.zero_le _⟩ rfl (fun H locs hw => ?_)
      exact hb202 M20 L21 _ _ ls hD hw (lv_sub hl [] rfl)
  have hb137 : ∀ (s2 : Int32) (M : mwM) (L : mwL) (H : Heap) (locs : List Loc) (ls : Array Slot), fX12_sent_b137 fu a1 a2 s2 M L = some (M0, L0) → mw_W G ad NF TF FF M L H locs → lv_has ls 7 [] → W p l e ({ frames := 4, cells := 0, slots := 0, locals := 99 }) s m [.ref (ad 821), .int a1, .int a2].toArray below meth c H locs 0 0 (MQ below (mw_Qv G ad NF TF FF (mw_eqV M0 L0)) [.ref (ad 821), .int a1, .int a2].toArray s 0 0 (mw_fr G)) (F0 m 137 ls [.int s2, .int a1, .ref (ad 821)]) := by
    intro s2 M L H locs ls hD hw hl
    unfold fX12_sent_b137 at hD
    obtain ⟨M10, L11, h1, hD⟩ := g_b2 hD
    refine md_cvV (As := [.int a1, .int s2]) (rest := []) C hw (tX12_wrong l G ad fu a1 s2 M L h1) kc_12 (by decide) tf_821 wd_3748 cwX12_wrong ⟨Nat.le_of_ble_eq_true rfl, Nat.le_of_ble_eq_true rfl⟩ rfl hl.1 (Nat.le_of_ble_eq_true rfl) dX12_sent_137 rfl rfl ⟨Nat.zero_le _, Nat.zero_le _⟩ rfl (fun H locs hw => ?_)
    refine lv_goto (tgt := 202) C.1.1 C.1.2.1 dX12_sent_140 (by decide) ?_
    exact hb202 M10 L11 _ _ ls hD hw (lv_sub hl [] rfl)
  have hb125 : ∀ (v6 : Int32) (M : mwM) (L : mwL) (H : Heap) (locs : List Loc) (ls : Array Slot), fX12_sent_b125 fu a1 a2 v6 M L = some (M0, L0) → mw_W G ad NF TF FF M L H locs → lv_has ls 7 [(0, .ref (ad 821)), (1, .int a1), (6, .int v6)] → W p l e ({ frames := 4, cells := 0, slots := 0, locals := 99 }) s m [.ref (ad 821), .int a1, .int a2].toArray below meth c H locs 0 0 (MQ below (mw_Qv G ad NF TF FF (mw_eqV M0 L0)) [.ref (ad 821), .int a1, .int a2].toArray s 0 0 (mw_fr G)) (F0 m 125 ls []) := by
    intro v6 M L H locs ls hD hw hl
    unfold fX12_sent_b125 at hD
    refine lv_aload_n C.1.1 C.1.2.1 dX12_sent_125 rfl (lv_at hl 0 rfl) ?_
    refine lv_iload_n C.1.1 C.1.2.1 dX12_sent_126 rfl (lv_at hl 1 rfl) ?_
    refine lv_iload C.1.1 C.1.2.1 dX12_sent_127 (lv_at hl 2 rfl) ?_
    refine lv_if_eq (tgt := 136) C.1.1 C.1.2.1 dX12_sent_129 (by decide) (fun c9 => ?_) (fun c9 => ?_)
    · replace hD := g_pos c9 hD
      refine lv_iconst (v := 0) C.1.1 C.1.2.1 dX12_sent_136 (by decide) ?_
      exact hb137 0 M L _ _ ls hD hw (lv_sub hl [] rfl)
    · replace hD := g_neg c9 hD
      refine lv_iconst (v := 4) C.1.1 C.1.2.1 dX12_sent_132 (by decide) ?_
      refine lv_goto (tgt := 137) C.1.1 C.1.2.1 dX12_sent_133 (by decide) ?_
      exact hb137 4 M L _ _ ls hD hw (lv_sub hl [] rfl)
  have hb84 : ∀ (v3 : Int32) (v4 : Int32) (v5 : Int32) (s0 : Int32) (M : mwM) (L : mwL) (H : Heap) (locs : List Loc) (ls : Array Slot), fX12_sent_b84 fu a1 a2 v3 v4 v5 s0 M L = some (M0, L0) → mw_W G ad NF TF FF M L H locs → lv_has ls 7 [(0, .ref (ad 821)), (1, .int a1), (2, .int a2), (3, .int v3), (4, .int v4), (5, .int v5)] → W p l e ({ frames := 4, cells := 0, slots := 0, locals := 99 }) s m [.ref (ad 821), .int a1, .int a2].toArray below meth c H locs 0 0 (MQ below (mw_Qv G ad NF TF FF (mw_eqV M0 L0)) [.ref (ad 821), .int a1, .int a2].toArray s 0 0 (mw_fr G)) (F0 m 84 ls [.int s0]) := by
    intro v3 v4 v5 s0 M L H locs ls hD hw hl
    unfold fX12_sent_b84 at hD
    refine lv_istore (lv' := [(6, .int s0), (0, .ref (ad 821)), (1, .int a1), (2, .int a2), (3, .int v3), (4, .int v4), (5, .int v5)]) C.1.1 C.1.2.1 dX12_sent_84 hl (by decide) rfl (fun ls hl => ?_)
    refine lv_iload C.1.1 C.1.2.1 dX12_sent_86 (lv_at hl 6 rfl) ?_
    refine lv_if_eq (tgt := 101) C.1.1 C.1.2.1 dX12_sent_88 (by decide) (fun c2 => ?_) (fun c2 => ?_)
    · replace hD := g_pos c2 hD
      refine lv_iload C.1.1 C.1.2.1 dX12_sent_101 (lv_at hl 0 rfl) ?_
      refine lv_if_eq (tgt := 114) C.1.1 C.1.2.1 dX12_sent_103 (by decide) (fun c3 => ?_) (fun c3 => ?_)
      · replace hD := g_pos c3 hD
        refine lv_iload_n C.1.1 C.1.2.1 dX12_sent_114 rfl (lv_at hl 3 rfl) ?_
        refine lv_aload_n C.1.1 C.1.2.1 dX12_sent_115 rfl (lv_at hl 1 rfl) ?_
        refine mr_getR C hw kc_12 35 (by decide) tf_821 ff_821_35 wd_2135 dX12_sent_116 (by decide) rfl ?_
        refine lv_iload C.1.1 C.1.2.1 dX12_sent_119 (lv_at hl 5 rfl) ?_
        obtain ⟨q4, hD⟩ := g_ck hD
        refine mr_bald C hw (by decide) tf_849 q4 dX12_sent_121 ?_
        refine lv_icmp_eq (tgt := 143) C.1.1 C.1.2.1 dX12_sent_122 (by decide) (fun c5 => ?_) (fun c5 => ?_)
        · replace hD := g_pos c5 hD
          exact hb143 v3 v4 M L _ _ ls hD hw (lv_sub hl [1, 2, 4, 5] rfl)
        · replace hD := g_neg c5 hD
          exact hb125 s0 M L _ _ ls hD hw (lv_sub hl [1, 2, 0] rfl)
      · replace hD := g_neg c3 hD
        refine lv_iload_n C.1.1 C.1.2.1 dX12_sent_106 rfl (lv_at hl 3 rfl) ?_
        refine lv_iconst (v := 1) C.1.1 C.1.2.1 dX12_sent_107 (by decide) ?_
        refine lv_icmp_ne (tgt := 143) C.1.1 C.1.2.1 dX12_sent_108 (by decide) (fun c6 => ?_) (fun c6 => ?_)
        · replace hD := g_neg c6 hD
          exact hb143 v3 v4 M L _ _ ls hD hw (lv_sub hl [1, 2, 4, 5] rfl)
        · replace hD := g_pos c6 hD
          refine lv_goto (tgt := 125) C.1.1 C.1.2.1 dX12_sent_111 (by decide) ?_
          exact hb125 s0 M L _ _ ls hD hw (lv_sub hl [1, 2, 0] rfl)
    · replace hD := g_neg c2 hD
      refine lv_aload_n C.1.1 C.1.2.1 dX12_sent_91 rfl (lv_at hl 1 rfl) ?_
      refine mr_getR C hw kc_12 14 (by decide) tf_821 ff_821_14 wd_2114 dX12_sent_92 (by decide) rfl ?_
      refine lv_iload_n C.1.1 C.1.2.1 dX12_sent_95 rfl (lv_at hl 2 rfl) ?_
      refine lv_iconst (v := 2) C.1.1 C.1.2.1 dX12_sent_96 (by decide) ?_
      obtain ⟨q7, hD⟩ := g_ck hD
      obtain ⟨M8, eM8, hD⟩ := g_let hD
      refine mr_iast C hw (by decide) tf_831 q7 dX12_sent_97 (fun H locs hw => ?_)
      replace hw : mw_W G ad NF TF FF M8 L H locs := by rw [eM8]; exact hw
      refine lv_goto (tgt := 202) C.1.1 C.1.2.1 dX12_sent_98 (by decide) ?_
      exact hb202 M8 L _ _ ls hD hw (lv_sub hl [] rfl)
  have hb65 : ∀ (v3 : Int32) (v4 : Int32) (s0 : Int32) (M : mwM) (L : mwL) (H : Heap) (locs : List Loc) (ls : Array Slot), fX12_sent_b65 fu a1 a2 v3 v4 s0 M L = some (M0, L0) → mw_W G ad NF TF FF M L H locs → lv_has ls 7 [(0, .ref (ad 821)), (1, .int a1), (2, .int a2), (3, .int v3), (4, .int v4)] → W p l e ({ frames := 4, cells := 0, slots := 0, locals := 99 }) s m [.ref (ad 821), .int a1, .int a2].toArray below meth c H locs 0 0 (MQ below (mw_Qv G ad NF TF FF (mw_eqV M0 L0)) [.ref (ad 821), .int a1, .int a2].toArray s 0 0 (mw_fr G)) (F0 m 65 ls [.int s0]) := by
    intro v3 v4 s0 M L H locs ls hD hw hl
    unfold fX12_sent_b65 at hD
    refine lv_istore (lv' := [(5, .int s0), (0, .ref (ad 821)), (1, .int a1), (2, .int a2), (3, .int v3), (4, .int v4)]) C.1.1 C.1.2.1 dX12_sent_65 hl (by decide) rfl (fun ls hl => ?_)
    refine lv_iload C.1.1 C.1.2.1 dX12_sent_67 (lv_at hl 5 rfl) ?_
    refine lv_aload_n C.1.1 C.1.2.1 dX12_sent_69 rfl (lv_at hl 1 rfl) ?_
    refine mr_getI C hw kc_12 37 (by decide) tf_821 wd_2137 dX12_sent_70 (by decide) rfl ?_
    refine lv_bipush (v := 9) C.1.1 C.1.2.1 dX12_sent_73 (by decide) ?_
    refine lv_isub C.1.1 C.1.2.1 dX12_sent_75 ?_
    refine lv_icmp_ne (tgt := 83) C.1.1 C.1.2.1 dX12_sent_76 (by decide) (fun c1 => ?_) (fun c1 => ?_)
    · replace hD := g_neg c1 hD
      refine lv_iconst (v := 0) C.1.1 C.1.2.1 dX12_sent_83 (by decide) ?_
      exact hb84 v3 v4 s0 0 M L _ _ ls hD hw (lv_sub hl [1, 2, 3, 4, 5, 0] rfl)
    · replace hD := g_pos c1 hD
      refine lv_iconst (v := 1) C.1.1 C.1.2.1 dX12_sent_79 (by decide) ?_
      refine lv_goto (tgt := 84) C.1.1 C.1.2.1 dX12_sent_80 (by decide) ?_
      exact hb84 v3 v4 s0 1 M L _ _ ls hD hw (lv_sub hl [1, 2, 3, 4, 5, 0] rfl)
  have hb64 : ∀ (v3 : Int32) (v4 : Int32) (M : mwM) (L : mwL) (H : Heap) (locs : List Loc) (ls : Array Slot), fX12_sent_b64 fu a1 a2 v3 v4 M L = some (M0, L0) → mw_W G ad NF TF FF M L H locs → lv_has ls 7 [(0, .ref (ad 821)), (1, .int a1), (2, .int a2), (3, .int v3), (4, .int v4)] → W p l e ({ frames := 4, cells := 0, slots := 0, locals := 99 }) s m [.ref (ad 821), .int a1, .int a2].toArray below meth c H locs 0 0 (MQ below (mw_Qv G ad NF TF FF (mw_eqV M0 L0)) [.ref (ad 821), .int a1, .int a2].toArray s 0 0 (mw_fr G)) (F0 m 64 ls []) := by
    intro v3 v4 M L H locs ls hD hw hl
    unfold fX12_sent_b64 at hD
    refine lv_iconst (v := 0) C.1.1 C.1.2.1 dX12_sent_64 (by decide) ?_
    exact hb65 v3 v4 0 M L _ _ ls hD hw (lv_sub hl [0, 1, 2, 3, 4] rfl)
  unfold DX12_sent at hD
  refine lv_aload_n C.1.1 C.1.2.1 dX12_sent_0 rfl (lv_at hl 0 rfl) ?_
  refine mr_getR C hw kc_12 16 (by decide) tf_821 ff_821_16 wd_2116 dX12_sent_1 (by decide) rfl ?_
  refine lv_iload_n C.1.1 C.1.2.1 dX12_sent_4 rfl (lv_at hl 1 rfl) ?_
  obtain ⟨q22, hD⟩ := g_ck hD
  refine mr_iald C hw (by decide) tf_833 q22 dX12_sent_5 ?_
  obtain ⟨x23, ex23, hD⟩ := g_let hD
  refine W.eq (g2 := F0 m 6 ls (.int x23 :: [])) (by rw [ex23]) ?_
  refine lv_istore_n (lv' := [(3, .int x23), (0, .ref (ad 821)), (1, .int a1), (2, .int a2)]) C.1.1 C.1.2.1 dX12_sent_6 rfl hl (by decide) rfl (fun ls hl => ?_)
  refine lv_aload_n C.1.1 C.1.2.1 dX12_sent_7 rfl (lv_at hl 1 rfl) ?_
  refine lv_iload_n C.1.1 C.1.2.1 dX12_sent_8 rfl (lv_at hl 0 rfl) ?_
  obtain ⟨M24, L25, h1, hD⟩ := g_b2 hD
  refine md_cvV (As := [.int x23]) (rest := []) C hw (tX12_write l G ad fu x23 M L h1) kc_12 (by decide) tf_821 wd_3663 cwX12_write ⟨Nat.le_of_ble_eq_true rfl, Nat.le_of_ble_eq_true rfl⟩ rfl hl.1 (Nat.le_of_ble_eq_true rfl) dX12_sent_9 rfl rfl ⟨Nat.zero_le _, Nat.zero_le _⟩ rfl (fun H locs hw => ?_)
  refine lv_aload_n C.1.1 C.1.2.1 dX12_sent_12 rfl (lv_at hl 1 rfl) ?_
  refine mr_getR C hw kc_12 19 (by decide) tf_821 ff_821_19 wd_2119 dX12_sent_13 (by decide) rfl ?_
  refine lv_iload_n C.1.1 C.1.2.1 dX12_sent_16 rfl (lv_at hl 2 rfl) ?_
  obtain ⟨q26, hD⟩ := g_ck hD
  refine mr_iald C hw (by decide) tf_836 q26 dX12_sent_17 ?_
  obtain ⟨x27, ex27, hD⟩ := g_let hD
  refine W.eq (g2 := F0 m 18 ls (.int x27 :: [])) (by rw [ex27]) ?_
  refine lv_istore (lv' := [(4, .int x27), (3, .int x23), (0, .ref (ad 821)), (1, .int a1), (2, .int a2)]) C.1.1 C.1.2.1 dX12_sent_18 hl (by decide) rfl (fun ls hl => ?_)
  refine lv_aload_n C.1.1 C.1.2.1 dX12_sent_20 rfl (lv_at hl 2 rfl) ?_
  refine lv_iload_n C.1.1 C.1.2.1 dX12_sent_21 rfl (lv_at hl 3 rfl) ?_
  refine lv_iload_n C.1.1 C.1.2.1 dX12_sent_22 rfl (lv_at hl 4 rfl) ?_
  obtain ⟨M28, L29, h1, hD⟩ := g_b2 hD
  refine md_cvV (As := [.int a1, .int a2]) (rest := []) C hw (tX12_see l G ad fu a1 a2 M24 L25 h1) kc_12 (by decide) tf_821 wd_3744 cwX12_see ⟨Nat.le_of_ble_eq_true rfl, Nat.le_of_ble_eq_true rfl⟩ rfl hl.1 (Nat.le_of_ble_eq_true rfl) dX12_sent_23 rfl rfl ⟨Nat.zero_le _, Nat.zero_le _⟩ rfl (fun H locs hw => ?_)
  refine lv_iload C.1.1 C.1.2.1 dX12_sent_26 (lv_at hl 0 rfl) ?_
  refine lv_aload_n C.1.1 C.1.2.1 dX12_sent_28 rfl (lv_at hl 2 rfl) ?_
  refine mr_getI C hw kc_12 38 (by decide) tf_821 wd_2138 dX12_sent_29 (by decide) rfl ?_
  refine lv_icmp_ge (tgt := 64) C.1.1 C.1.2.1 dX12_sent_32 (by decide) (fun c30 => ?_) (fun c30 => ?_)
  · replace hD := g_pos c30 hD
    exact hb64 x23 x27 M28 L29 _ _ ls hD hw (lv_sub hl [2, 3, 4, 1, 0] rfl)
  · replace hD := g_neg c30 hD
    refine lv_aload_n C.1.1 C.1.2.1 dX12_sent_35 rfl (lv_at hl 2 rfl) ?_
    refine mr_getR C hw kc_12 36 (by decide) tf_821 ff_821_36 wd_2136 dX12_sent_36 (by decide) rfl ?_
    refine lv_iload C.1.1 C.1.2.1 dX12_sent_39 (lv_at hl 0 rfl) ?_
    obtain ⟨q31, hD⟩ := g_ck hD
    refine mr_zald C hw (by decide) tf_850 q31 dX12_sent_41 ?_
    refine lv_if_ne (tgt := 64) C.1.1 C.1.2.1 dX12_sent_42 (by decide) (fun c32 => ?_) (fun c32 => ?_)
    · replace hD := g_neg c32 hD
      exact hb64 x23 x27 M28 L29 _ _ ls hD hw (lv_sub hl [2, 3, 4, 1, 0] rfl)
    · replace hD := g_pos c32 hD
      refine lv_aload_n C.1.1 C.1.2.1 dX12_sent_45 rfl (lv_at hl 2 rfl) ?_
      refine mr_getR C hw kc_12 35 (by decide) tf_821 ff_821_35 wd_2135 dX12_sent_46 (by decide) rfl ?_
      refine lv_iload C.1.1 C.1.2.1 dX12_sent_49 (lv_at hl 0 rfl) ?_
      obtain ⟨q33, hD⟩ := g_ck hD
      refine mr_bald C hw (by decide) tf_849 q33 dX12_sent_51 ?_
      refine lv_iconst (v := 1) C.1.1 C.1.2.1 dX12_sent_52 (by decide) ?_
      refine lv_icmp_ne (tgt := 64) C.1.1 C.1.2.1 dX12_sent_53 (by decide) (fun c34 => ?_) (fun c34 => ?_)
      · replace hD := g_neg c34 hD
        exact hb64 x23 x27 M28 L29 _ _ ls hD hw (lv_sub hl [2, 3, 4, 1, 0] rfl)
      · replace hD := g_pos c34 hD
        refine lv_iload_n C.1.1 C.1.2.1 dX12_sent_56 rfl (lv_at hl 4 rfl) ?_
        refine lv_if_ne (tgt := 64) C.1.1 C.1.2.1 dX12_sent_57 (by decide) (fun c35 => ?_) (fun c35 => ?_)
        · replace hD := g_neg c35 hD
          exact hb64 x23 x27 M28 L29 _ _ ls hD hw (lv_sub hl [2, 3, 4, 1, 0] rfl)
        · replace hD := g_pos c35 hD
          refine lv_iconst (v := 1) C.1.1 C.1.2.1 dX12_sent_60 (by decide) ?_
          refine lv_goto (tgt := 65) C.1.1 C.1.2.1 dX12_sent_61 (by decide) ?_
          exact hb65 x23 x27 1 M28 L29 _ _ ls hD hw (lv_sub hl [2, 3, 4, 1, 0] rfl)

theorem dX12_pauses_0 : decode cX12_pauses 0 = .ok (.iload_n 2, 1) := by decide +kernel
theorem dX12_pauses_1 : decode cX12_pauses 1 = .ok (.ifCond .ne 21, 3) := by decide +kernel
theorem dX12_pauses_4 : decode cX12_pauses 4 = .ok (.aload_n 0, 1) := by decide +kernel
theorem dX12_pauses_5 : decode cX12_pauses 5 = .ok (.getfield 46, 3) := by decide +kernel
theorem dX12_pauses_8 : decode cX12_pauses 8 = .ok (.iload_n 1, 1) := by decide +kernel
theorem dX12_pauses_9 : decode cX12_pauses 9 = .ok (.iaload, 1) := by decide +kernel
theorem dX12_pauses_10 : decode cX12_pauses 10 = .ok (.ifCond .le 12, 3) := by decide +kernel
theorem dX12_pauses_13 : decode cX12_pauses 13 = .ok (.aload_n 0, 1) := by decide +kernel
theorem dX12_pauses_14 : decode cX12_pauses 14 = .ok (.iload_n 1, 1) := by decide +kernel
theorem dX12_pauses_15 : decode cX12_pauses 15 = .ok (.iconst 5, 1) := by decide +kernel
theorem dX12_pauses_16 : decode cX12_pauses 16 = .ok (.invokevirtual 270, 3) := by decide +kernel
theorem dX12_pauses_19 : decode cX12_pauses 19 = .ok (.goto 71, 3) := by decide +kernel
theorem dX12_pauses_22 : decode cX12_pauses 22 = .ok (.iload_n 2, 1) := by decide +kernel
theorem dX12_pauses_23 : decode cX12_pauses 23 = .ok (.ifCond .ne 51, 3) := by decide +kernel
theorem dX12_pauses_26 : decode cX12_pauses 26 = .ok (.aload_n 0, 1) := by decide +kernel
theorem dX12_pauses_27 : decode cX12_pauses 27 = .ok (.getfield 58, 3) := by decide +kernel
theorem dX12_pauses_30 : decode cX12_pauses 30 = .ok (.iload_n 1, 1) := by decide +kernel
theorem dX12_pauses_31 : decode cX12_pauses 31 = .ok (.iconst 0, 1) := by decide +kernel
theorem dX12_pauses_32 : decode cX12_pauses 32 = .ok (.iastore, 1) := by decide +kernel
theorem dX12_pauses_33 : decode cX12_pauses 33 = .ok (.aload_n 0, 1) := by decide +kernel
theorem dX12_pauses_34 : decode cX12_pauses 34 = .ok (.iload_n 1, 1) := by decide +kernel
theorem dX12_pauses_35 : decode cX12_pauses 35 = .ok (.iconst 0, 1) := by decide +kernel
theorem dX12_pauses_36 : decode cX12_pauses 36 = .ok (.invokevirtual 257, 3) := by decide +kernel
theorem dX12_pauses_39 : decode cX12_pauses 39 = .ok (.aload_n 0, 1) := by decide +kernel
theorem dX12_pauses_40 : decode cX12_pauses 40 = .ok (.getfield 49, 3) := by decide +kernel
theorem dX12_pauses_43 : decode cX12_pauses 43 = .ok (.iload_n 1, 1) := by decide +kernel
theorem dX12_pauses_44 : decode cX12_pauses 44 = .ok (.aload_n 0, 1) := by decide +kernel
theorem dX12_pauses_45 : decode cX12_pauses 45 = .ok (.iload_n 1, 1) := by decide +kernel
theorem dX12_pauses_46 : decode cX12_pauses 46 = .ok (.invokevirtual 248, 3) := by decide +kernel
theorem dX12_pauses_49 : decode cX12_pauses 49 = .ok (.iastore, 1) := by decide +kernel
theorem dX12_pauses_50 : decode cX12_pauses 50 = .ok (.aload_n 0, 1) := by decide +kernel
theorem dX12_pauses_51 : decode cX12_pauses 51 = .ok (.getfield 43, 3) := by decide +kernel
theorem dX12_pauses_54 : decode cX12_pauses 54 = .ok (.iload_n 1, 1) := by decide +kernel
theorem dX12_pauses_55 : decode cX12_pauses 55 = .ok (.aload_n 0, 1) := by decide +kernel
theorem dX12_pauses_56 : decode cX12_pauses 56 = .ok (.getfield 49, 3) := by decide +kernel
theorem dX12_pauses_59 : decode cX12_pauses 59 = .ok (.iload_n 1, 1) := by decide +kernel
theorem dX12_pauses_60 : decode cX12_pauses 60 = .ok (.iaload, 1) := by decide +kernel
theorem dX12_pauses_61 : decode cX12_pauses 61 = .ok (.iconst (-1), 1) := by decide +kernel
theorem dX12_pauses_62 : decode cX12_pauses 62 = .ok (.if_icmp .ne 7, 3) := by decide +kernel
theorem dX12_pauses_65 : decode cX12_pauses 65 = .ok (.iconst 2, 1) := by decide +kernel
theorem dX12_pauses_66 : decode cX12_pauses 66 = .ok (.goto 4, 3) := by decide +kernel
theorem dX12_pauses_69 : decode cX12_pauses 69 = .ok (.iconst 1, 1) := by decide +kernel
theorem dX12_pauses_70 : decode cX12_pauses 70 = .ok (.iastore, 1) := by decide +kernel
theorem dX12_pauses_71 : decode cX12_pauses 71 = .ok (.goto 19, 3) := by decide +kernel
theorem dX12_pauses_74 : decode cX12_pauses 74 = .ok (.aload_n 0, 1) := by decide +kernel
theorem dX12_pauses_75 : decode cX12_pauses 75 = .ok (.getfield 46, 3) := by decide +kernel
theorem dX12_pauses_78 : decode cX12_pauses 78 = .ok (.iload_n 1, 1) := by decide +kernel
theorem dX12_pauses_79 : decode cX12_pauses 79 = .ok (.iaload, 1) := by decide +kernel
theorem dX12_pauses_80 : decode cX12_pauses 80 = .ok (.ifCond .ne 10, 3) := by decide +kernel
theorem dX12_pauses_83 : decode cX12_pauses 83 = .ok (.aload_n 0, 1) := by decide +kernel
theorem dX12_pauses_84 : decode cX12_pauses 84 = .ok (.getfield 43, 3) := by decide +kernel
theorem dX12_pauses_87 : decode cX12_pauses 87 = .ok (.iload_n 1, 1) := by decide +kernel
theorem dX12_pauses_88 : decode cX12_pauses 88 = .ok (.iconst 0, 1) := by decide +kernel
theorem dX12_pauses_89 : decode cX12_pauses 89 = .ok (.iastore, 1) := by decide +kernel
theorem dX12_pauses_90 : decode cX12_pauses 90 = .ok (.return_, 1) := by decide +kernel
theorem cwX12_pauses : mw_cwV yX12_pauses cX12_pauses 3 (none) 2 := ⟨⟨wd_15, wd_3767, by decide +kernel⟩, wd_3766, sl_257⟩
set_option maxHeartbeats 4000000 in
set_option maxRecDepth 100000 in
theorem tX12_pauses (l : Launch) (G : mwG) (ad : Nat → Nat) (fu : Nat) (a1 : Int32) (a2 : Int32) (M : mwM) (L : mwL) {M0 : mwM} {L0 : mwL} (hD : DX12_pauses fu a1 a2 M L = some (M0, L0)) : Met l yX12_pauses (Cond.code yX12_pauses cX12_pauses 3 (none) :: GT) ({ frames := 3, cells := 0, slots := 0, locals := 75 }) (mw_Pre G ad NF TF FF M L [.ref (ad 821), .int a1, .int a2]) (mw_Qv G ad NF TF FF (mw_eqV M0 L0)) 0 0 (mw_fr G) := by
  refine mw_enter (by decide) (Nat.le_of_ble_eq_true rfl) ?_
  intro p e s m below meth c ls C hr hlocks hnm hw hl
  have hl : lv_has ls 3 [(0, .ref (ad 821)), (1, .int a1), (2, .int a2)] := hl
  have hb90 : ∀ (M : mwM) (L : mwL) (H : Heap) (locs : List Loc) (ls : Array Slot), fX12_pauses_b90 fu a1 a2 M L = some (M0, L0) → mw_W G ad NF TF FF M L H locs → lv_has ls 3 [] → W p l e ({ frames := 3, cells := 0, slots := 0, locals := 75 }) s m [.ref (ad 821), .int a1, .int a2].toArray below meth c H locs 0 0 (MQ below (mw_Qv G ad NF TF FF (mw_eqV M0 L0)) [.ref (ad 821), .int a1, .int a2].toArray s 0 0 (mw_fr G)) (F0 m 90 ls []) := by
    intro M L H locs ls hD hw hl
    unfold fX12_pauses_b90 at hD
    exact mr_vret C hr hlocks hw (Option.some.inj hD) dX12_pauses_90
  have hb70 : ∀ (s2 : Int32) (M : mwM) (L : mwL) (H : Heap) (locs : List Loc) (ls : Array Slot), fX12_pauses_b70 fu a1 a2 s2 M L = some (M0, L0) → mw_W G ad NF TF FF M L H locs → lv_has ls 3 [] → W p l e ({ frames := 3, cells := 0, slots := 0, locals := 75 }) s m [.ref (ad 821), .int a1, .int a2].toArray below meth c H locs 0 0 (MQ below (mw_Qv G ad NF TF FF (mw_eqV M0 L0)) [.ref (ad 821), .int a1, .int a2].toArray s 0 0 (mw_fr G)) (F0 m 70 ls [.int s2, .int a1, .ref (ad 831)]) := by
    intro s2 M L H locs ls hD hw hl
    unfold fX12_pauses_b70 at hD
    obtain ⟨q17, hD⟩ := g_ck hD
    obtain ⟨M18, eM18, hD⟩ := g_let hD
    refine mr_iast C hw (by decide) tf_831 q17 dX12_pauses_70 (fun H locs hw => ?_)
    replace hw : mw_W G ad NF TF FF M18 L H locs := by rw [eM18]; exact hw
    refine lv_goto (tgt := 90) C.1.1 C.1.2.1 dX12_pauses_71 (by decide) ?_
    exact hb90 M18 L _ _ ls hD hw (lv_sub hl [] rfl)
  have hb22 : ∀ (M : mwM) (L : mwL) (H : Heap) (locs : List Loc) (ls : Array Slot), fX12_pauses_b22 fu a1 a2 M L = some (M0, L0) → mw_W G ad NF TF FF M L H locs → lv_has ls 3 [(0, .ref (ad 821)), (1, .int a1), (2, .int a2)] → W p l e ({ frames := 3, cells := 0, slots := 0, locals := 75 }) s m [.ref (ad 821), .int a1, .int a2].toArray below meth c H locs 0 0 (MQ below (mw_Qv G ad NF TF FF (mw_eqV M0 L0)) [.ref (ad 821), .int a1, .int a2].toArray s 0 0 (mw_fr G)) (F0 m 22 ls []) := by
    intro M L H locs ls hD hw hl
    unfold fX12_pauses_b22 at hD
    refine lv_iload_n C.1.1 C.1.2.1 dX12_pauses_22 rfl (lv_at hl 2 rfl) ?_
    refine lv_if_ne (tgt := 74) C.1.1 C.1.2.1 dX12_pauses_23 (by decide) (fun c1 => ?_) (fun c1 => ?_)
    · replace hD := g_neg c1 hD
      refine lv_aload_n C.1.1 C.1.2.1 dX12_pauses_74 rfl (lv_at hl 0 rfl) ?_
      refine mr_getR C hw kc_12 15 (by decide) tf_821 ff_821_15 wd_2115 dX12_pauses_75 (by decide) rfl ?_
      refine lv_iload_n C.1.1 C.1.2.1 dX12_pauses_78 rfl (lv_at hl 1 rfl) ?_
      obtain ⟨q2, hD⟩ := g_ck hD
      refine mr_iald C hw (by decide) tf_832 q2 dX12_pauses_79 ?_
      refine lv_if_ne (tgt := 90) C.1.1 C.1.2.1 dX12_pauses_80 (by decide) (fun c3 => ?_) (fun c3 => ?_)
      · replace hD := g_neg c3 hD
        exact hb90 M L _ _ ls hD hw (lv_sub hl [] rfl)
      · replace hD := g_pos c3 hD
        refine lv_aload_n C.1.1 C.1.2.1 dX12_pauses_83 rfl (lv_at hl 0 rfl) ?_
        refine mr_getR C hw kc_12 14 (by decide) tf_821 ff_821_14 wd_2114 dX12_pauses_84 (by decide) rfl ?_
        refine lv_iload_n C.1.1 C.1.2.1 dX12_pauses_87 rfl (lv_at hl 1 rfl) ?_
        refine lv_iconst (v := 0) C.1.1 C.1.2.1 dX12_pauses_88 (by decide) ?_
        obtain ⟨q4, hD⟩ := g_ck hD
        obtain ⟨M5, eM5, hD⟩ := g_let hD
        refine mr_iast C hw (by decide) tf_831 q4 dX12_pauses_89 (fun H locs hw => ?_)
        replace hw : mw_W G ad NF TF FF M5 L H locs := by rw [eM5]; exact hw
        exact hb90 M5 L _ _ ls hD hw (lv_sub hl [] rfl)
    · replace hD := g_pos c1 hD
      refine lv_aload_n C.1.1 C.1.2.1 dX12_pauses_26 rfl (lv_at hl 0 rfl) ?_
      refine mr_getR C hw kc_12 19 (by decide) tf_821 ff_821_19 wd_2119 dX12_pauses_27 (by decide) rfl ?_
      refine lv_iload_n C.1.1 C.1.2.1 dX12_pauses_30 rfl (lv_at hl 1 rfl) ?_
      refine lv_iconst (v := 0) C.1.1 C.1.2.1 dX12_pauses_31 (by decide) ?_
      obtain ⟨q6, hD⟩ := g_ck hD
      obtain ⟨M7, eM7, hD⟩ := g_let hD
      refine mr_iast C hw (by decide) tf_836 q6 dX12_pauses_32 (fun H locs hw => ?_)
      replace hw : mw_W G ad NF TF FF M7 L H locs := by rw [eM7]; exact hw
      refine lv_aload_n C.1.1 C.1.2.1 dX12_pauses_33 rfl (lv_at hl 0 rfl) ?_
      refine lv_iload_n C.1.1 C.1.2.1 dX12_pauses_34 rfl (lv_at hl 1 rfl) ?_
      refine lv_iconst (v := 0) C.1.1 C.1.2.1 dX12_pauses_35 (by decide) ?_
      obtain ⟨M8, L9, h1, hD⟩ := g_b2 hD
      refine md_cvV (As := [.int a1, .int 0]) (rest := []) C hw (tX12_see l G ad fu a1 0 M7 L h1) kc_12 (by decide) tf_821 wd_3744 cwX12_see ⟨Nat.le_of_ble_eq_true rfl, Nat.le_of_ble_eq_true rfl⟩ rfl hl.1 (Nat.le_of_ble_eq_true rfl) dX12_pauses_36 rfl rfl ⟨Nat.zero_le _, Nat.zero_le _⟩ rfl (fun H locs hw => ?_)
      refine lv_aload_n C.1.1 C.1.2.1 dX12_pauses_39 rfl (lv_at hl 0 rfl) ?_
      refine mr_getR C hw kc_12 16 (by decide) tf_821 ff_821_16 wd_2116 dX12_pauses_40 (by decide) rfl ?_
      refine lv_iload_n C.1.1 C.1.2.1 dX12_pauses_43 rfl (lv_at hl 1 rfl) ?_
      refine lv_aload_n C.1.1 C.1.2.1 dX12_pauses_44 rfl (lv_at hl 0 rfl) ?_
      refine lv_iload_n C.1.1 C.1.2.1 dX12_pauses_45 rfl (lv_at hl 1 rfl) ?_
      obtain ⟨r12, M10, L11, h1, hD⟩ := g_b3 hD
      refine md_cvI (As := [.int a1]) (rest := [.int a1, .ref (ad 833)]) C hw (tX12_first l G ad fu a1 M8 L9 h1) kc_12 (by decide) tf_821 wd_3650 cwX12_first ⟨Nat.le_of_ble_eq_true rfl, Nat.le_of_ble_eq_true rfl⟩ rfl hl.1 (Nat.le_of_ble_eq_true rfl) dX12_pauses_46 rfl rfl ⟨Nat.zero_le _, Nat.zero_le _⟩ rfl (fun H locs hw => ?_)
      obtain ⟨q13, hD⟩ := g_ck hD
      obtain ⟨M14, eM14, hD⟩ := g_let hD
      refine mr_iast C hw (by decide) tf_833 q13 dX12_pauses_49 (fun H locs hw => ?_)
      replace hw : mw_W G ad NF TF FF M14 L11 H locs := by rw [eM14]; exact hw
      refine lv_aload_n C.1.1 C.1.2.1 dX12_pauses_50 rfl (lv_at hl 0 rfl) ?_
      refine mr_getR C hw kc_12 14 (by decide) tf_821 ff_821_14 wd_2114 dX12_pauses_51 (by decide) rfl ?_
      refine lv_iload_n C.1.1 C.1.2.1 dX12_pauses_54 rfl (lv_at hl 1 rfl) ?_
      refine lv_aload_n C.1.1 C.1.2.1 dX12_pauses_55 rfl (lv_at hl 0 rfl) ?_
      refine mr_getR C hw kc_12 16 (by decide) tf_821 ff_821_16 wd_2116 dX12_pauses_56 (by decide) rfl ?_
      refine lv_iload_n C.1.1 C.1.2.1 dX12_pauses_59 rfl (lv_at hl 1 rfl) ?_
      obtain ⟨q15, hD⟩ := g_ck hD
      refine mr_iald C hw (by decide) tf_833 q15 dX12_pauses_60 ?_
      refine lv_iconst (v := (-1)) C.1.1 C.1.2.1 dX12_pauses_61 (by decide) ?_
      refine lv_icmp_ne (tgt := 69) C.1.1 C.1.2.1 dX12_pauses_62 (by decide) (fun c16 => ?_) (fun c16 => ?_)
      · replace hD := g_neg c16 hD
        refine lv_iconst (v := 1) C.1.1 C.1.2.1 dX12_pauses_69 (by decide) ?_
        exact hb70 1 M14 L11 _ _ ls hD hw (lv_sub hl [] rfl)
      · replace hD := g_pos c16 hD
        refine lv_iconst (v := 2) C.1.1 C.1.2.1 dX12_pauses_65 (by decide) ?_
        refine lv_goto (tgt := 70) C.1.1 C.1.2.1 dX12_pauses_66 (by decide) ?_
        exact hb70 2 M14 L11 _ _ ls hD hw (lv_sub hl [] rfl)
  unfold DX12_pauses at hD
  refine lv_iload_n C.1.1 C.1.2.1 dX12_pauses_0 rfl (lv_at hl 2 rfl) ?_
  refine lv_if_ne (tgt := 22) C.1.1 C.1.2.1 dX12_pauses_1 (by decide) (fun c19 => ?_) (fun c19 => ?_)
  · replace hD := g_neg c19 hD
    exact hb22 M L _ _ ls hD hw (lv_sub hl [0, 1, 2] rfl)
  · replace hD := g_pos c19 hD
    refine lv_aload_n C.1.1 C.1.2.1 dX12_pauses_4 rfl (lv_at hl 0 rfl) ?_
    refine mr_getR C hw kc_12 15 (by decide) tf_821 ff_821_15 wd_2115 dX12_pauses_5 (by decide) rfl ?_
    refine lv_iload_n C.1.1 C.1.2.1 dX12_pauses_8 rfl (lv_at hl 1 rfl) ?_
    obtain ⟨q20, hD⟩ := g_ck hD
    refine mr_iald C hw (by decide) tf_832 q20 dX12_pauses_9 ?_
    refine lv_if_le (tgt := 22) C.1.1 C.1.2.1 dX12_pauses_10 (by decide) (fun c21 => ?_) (fun c21 => ?_)
    · replace hD := g_pos c21 hD
      exact hb22 M L _ _ ls hD hw (lv_sub hl [0, 1, 2] rfl)
    · replace hD := g_neg c21 hD
      refine lv_aload_n C.1.1 C.1.2.1 dX12_pauses_13 rfl (lv_at hl 0 rfl) ?_
      refine lv_iload_n C.1.1 C.1.2.1 dX12_pauses_14 rfl (lv_at hl 1 rfl) ?_
      refine lv_iconst (v := 5) C.1.1 C.1.2.1 dX12_pauses_15 (by decide) ?_
      obtain ⟨M22, L23, h1, hD⟩ := g_b2 hD
      refine md_cvV (As := [.int a1, .int 5]) (rest := []) C hw (tX12_wrong l G ad fu a1 5 M L h1) kc_12 (by decide) tf_821 wd_3748 cwX12_wrong ⟨Nat.le_of_ble_eq_true rfl, Nat.le_of_ble_eq_true rfl⟩ rfl hl.1 (Nat.le_of_ble_eq_true rfl) dX12_pauses_16 rfl rfl ⟨Nat.zero_le _, Nat.zero_le _⟩ rfl (fun H locs hw => ?_)
      refine lv_goto (tgt := 90) C.1.1 C.1.2.1 dX12_pauses_19 (by decide) ?_
      exact hb90 M22 L23 _ _ ls hD hw (lv_sub hl [] rfl)
