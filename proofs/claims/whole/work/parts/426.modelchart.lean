theorem dX13_covered_0 : decode cX13_covered 0 = .ok (.aload_n 0, 1) := by decide +kernel
theorem dX13_covered_1 : decode cX13_covered 1 = .ok (.iconst 0, 1) := by decide +kernel
theorem dX13_covered_2 : decode cX13_covered 2 = .ok (.putfield 132, 3) := by decide +kernel
theorem dX13_covered_5 : decode cX13_covered 5 = .ok (.iload_n 1, 1) := by decide +kernel
theorem dX13_covered_6 : decode cX13_covered 6 = .ok (.ifCond .lt 8, 3) := by decide +kernel
theorem dX13_covered_9 : decode cX13_covered 9 = .ok (.iload_n 1, 1) := by decide +kernel
theorem dX13_covered_10 : decode cX13_covered 10 = .ok (.iconst 4, 1) := by decide +kernel
theorem dX13_covered_11 : decode cX13_covered 11 = .ok (.if_icmp .le 6, 3) := by decide +kernel
theorem dX13_covered_14 : decode cX13_covered 14 = .ok (.bipush (-2), 2) := by decide +kernel
theorem dX13_covered_16 : decode cX13_covered 16 = .ok (.ireturn, 1) := by decide +kernel
theorem dX13_covered_17 : decode cX13_covered 17 = .ok (.iload_n 1, 1) := by decide +kernel
theorem dX13_covered_18 : decode cX13_covered 18 = .ok (.iconst 4, 1) := by decide +kernel
theorem dX13_covered_19 : decode cX13_covered 19 = .ok (.if_icmp .ne 8, 3) := by decide +kernel
theorem dX13_covered_22 : decode cX13_covered 22 = .ok (.aload_n 0, 1) := by decide +kernel
theorem dX13_covered_23 : decode cX13_covered 23 = .ok (.getfield 126, 3) := by decide +kernel
theorem dX13_covered_26 : decode cX13_covered 26 = .ok (.ireturn, 1) := by decide +kernel
theorem dX13_covered_27 : decode cX13_covered 27 = .ok (.iconst 0, 1) := by decide +kernel
theorem dX13_covered_28 : decode cX13_covered 28 = .ok (.istore_n 2, 1) := by decide +kernel
theorem dX13_covered_29 : decode cX13_covered 29 = .ok (.iconst 1, 1) := by decide +kernel
theorem dX13_covered_30 : decode cX13_covered 30 = .ok (.istore_n 3, 1) := by decide +kernel
theorem dX13_covered_31 : decode cX13_covered 31 = .ok (.iload_n 3, 1) := by decide +kernel
theorem dX13_covered_32 : decode cX13_covered 32 = .ok (.aload_n 0, 1) := by decide +kernel
theorem dX13_covered_33 : decode cX13_covered 33 = .ok (.getfield 103, 3) := by decide +kernel
theorem dX13_covered_36 : decode cX13_covered 36 = .ok (.if_icmp .gt 30, 3) := by decide +kernel
theorem dX13_covered_39 : decode cX13_covered 39 = .ok (.iload_n 1, 1) := by decide +kernel
theorem dX13_covered_40 : decode cX13_covered 40 = .ok (.ifCond .ne 26, 3) := by decide +kernel
theorem dX13_covered_43 : decode cX13_covered 43 = .ok (.aload_n 0, 1) := by decide +kernel
theorem dX13_covered_44 : decode cX13_covered 44 = .ok (.getfield 33, 3) := by decide +kernel
theorem dX13_covered_47 : decode cX13_covered 47 = .ok (.iload_n 3, 1) := by decide +kernel
theorem dX13_covered_48 : decode cX13_covered 48 = .ok (.baload, 1) := by decide +kernel
theorem dX13_covered_49 : decode cX13_covered 49 = .ok (.ifCond .eq 9, 3) := by decide +kernel
theorem dX13_covered_52 : decode cX13_covered 52 = .ok (.iload_n 2, 1) := by decide +kernel
theorem dX13_covered_53 : decode cX13_covered 53 = .ok (.iconst 1, 1) := by decide +kernel
theorem dX13_covered_54 : decode cX13_covered 54 = .ok (.iadd, 1) := by decide +kernel
theorem dX13_covered_55 : decode cX13_covered 55 = .ok (.goto 4, 3) := by decide +kernel
theorem dX13_covered_58 : decode cX13_covered 58 = .ok (.iload_n 2, 1) := by decide +kernel
theorem dX13_covered_59 : decode cX13_covered 59 = .ok (.istore_n 2, 1) := by decide +kernel
theorem dX13_covered_60 : decode cX13_covered 60 = .ok (.iinc 3 1, 3) := by decide +kernel
theorem dX13_covered_63 : decode cX13_covered 63 = .ok (.goto (-32), 3) := by decide +kernel
theorem dX13_covered_66 : decode cX13_covered 66 = .ok (.iconst 1, 1) := by decide +kernel
theorem dX13_covered_67 : decode cX13_covered 67 = .ok (.istore_n 3, 1) := by decide +kernel
theorem dX13_covered_68 : decode cX13_covered 68 = .ok (.iload_n 3, 1) := by decide +kernel
theorem dX13_covered_69 : decode cX13_covered 69 = .ok (.aload_n 0, 1) := by decide +kernel
theorem dX13_covered_70 : decode cX13_covered 70 = .ok (.getfield 106, 3) := by decide +kernel
theorem dX13_covered_73 : decode cX13_covered 73 = .ok (.if_icmp .gt 64, 3) := by decide +kernel
theorem dX13_covered_76 : decode cX13_covered 76 = .ok (.iload_n 1, 1) := by decide +kernel
theorem dX13_covered_77 : decode cX13_covered 77 = .ok (.ifCond .le 60, 3) := by decide +kernel
theorem dX13_covered_80 : decode cX13_covered 80 = .ok (.iload_n 1, 1) := by decide +kernel
theorem dX13_covered_81 : decode cX13_covered 81 = .ok (.iconst 1, 1) := by decide +kernel
theorem dX13_covered_82 : decode cX13_covered 82 = .ok (.if_icmp .ne 15, 3) := by decide +kernel
theorem dX13_covered_85 : decode cX13_covered 85 = .ok (.aload_n 0, 1) := by decide +kernel
theorem dX13_covered_86 : decode cX13_covered 86 = .ok (.getfield 51, 3) := by decide +kernel
theorem dX13_covered_89 : decode cX13_covered 89 = .ok (.iload_n 3, 1) := by decide +kernel
theorem dX13_covered_90 : decode cX13_covered 90 = .ok (.baload, 1) := by decide +kernel
theorem dX13_covered_91 : decode cX13_covered 91 = .ok (.ifCond .eq 38, 3) := by decide +kernel
theorem dX13_covered_94 : decode cX13_covered 94 = .ok (.goto 29, 3) := by decide +kernel
theorem dX13_covered_97 : decode cX13_covered 97 = .ok (.iload_n 1, 1) := by decide +kernel
theorem dX13_covered_98 : decode cX13_covered 98 = .ok (.iconst 2, 1) := by decide +kernel
theorem dX13_covered_99 : decode cX13_covered 99 = .ok (.if_icmp .ne 15, 3) := by decide +kernel
theorem dX13_covered_102 : decode cX13_covered 102 = .ok (.aload_n 0, 1) := by decide +kernel
theorem dX13_covered_103 : decode cX13_covered 103 = .ok (.getfield 54, 3) := by decide +kernel
theorem dX13_covered_106 : decode cX13_covered 106 = .ok (.iload_n 3, 1) := by decide +kernel
theorem dX13_covered_107 : decode cX13_covered 107 = .ok (.baload, 1) := by decide +kernel
theorem dX13_covered_108 : decode cX13_covered 108 = .ok (.ifCond .eq 21, 3) := by decide +kernel
theorem dX13_covered_111 : decode cX13_covered 111 = .ok (.goto 12, 3) := by decide +kernel
theorem dX13_covered_114 : decode cX13_covered 114 = .ok (.aload_n 0, 1) := by decide +kernel
theorem dX13_covered_115 : decode cX13_covered 115 = .ok (.getfield 57, 3) := by decide +kernel
theorem dX13_covered_118 : decode cX13_covered 118 = .ok (.iload_n 3, 1) := by decide +kernel
theorem dX13_covered_119 : decode cX13_covered 119 = .ok (.baload, 1) := by decide +kernel
theorem dX13_covered_120 : decode cX13_covered 120 = .ok (.ifCond .eq 9, 3) := by decide +kernel
theorem dX13_covered_123 : decode cX13_covered 123 = .ok (.iload_n 2, 1) := by decide +kernel
theorem dX13_covered_124 : decode cX13_covered 124 = .ok (.iconst 1, 1) := by decide +kernel
theorem dX13_covered_125 : decode cX13_covered 125 = .ok (.iadd, 1) := by decide +kernel
theorem dX13_covered_126 : decode cX13_covered 126 = .ok (.goto 4, 3) := by decide +kernel
theorem dX13_covered_129 : decode cX13_covered 129 = .ok (.iload_n 2, 1) := by decide +kernel
theorem dX13_covered_130 : decode cX13_covered 130 = .ok (.istore_n 2, 1) := by decide +kernel
theorem dX13_covered_131 : decode cX13_covered 131 = .ok (.iinc 3 1, 3) := by decide +kernel
theorem dX13_covered_134 : decode cX13_covered 134 = .ok (.goto (-66), 3) := by decide +kernel
theorem dX13_covered_137 : decode cX13_covered 137 = .ok (.iload_n 2, 1) := by decide +kernel
theorem dX13_covered_138 : decode cX13_covered 138 = .ok (.ireturn, 1) := by decide +kernel
theorem cwX13_covered : mw_cwV yX13_covered cX13_covered 4 ((some .int)) 1 := ⟨⟨wd_20, wd_4293, by decide +kernel⟩, wd_4291, wd_4292⟩
set_option maxHeartbeats 4000000 in
set_option maxRecDepth 100000 in
theorem tX13_covered (l : Launch) (G : mwG) (ad : Nat → Nat) (fu : Nat) (k : Nat) (a1 : Int32) (M : mwM) (L : mwL) {r0 : Int32} {M0 : mwM} {L0 : mwL} (hD : DX13_covered fu k a1 M L = some (r0, M0, L0)) (hk0 : isMc k) : Met l yX13_covered (Cond.code yX13_covered cX13_covered 4 ((some .int)) :: GT) ({ frames := 0, cells := 0, slots := 0, locals := 0 }) (mw_Pre G ad NF TF FF M L [.ref (ad k), .int a1]) (mw_Qi G ad NF TF FF (mw_eqI r0 M0 L0)) 0 0 (mw_fr G) := by
  refine mw_enter (by decide) (Nat.le_of_ble_eq_true rfl) ?_
  intro p e s m below meth c ls C hr hlocks hnm hw hl
  have hl : lv_has ls 4 [(0, .ref (ad k)), (1, .int a1)] := hl
  have hb14 : ∀ (M : mwM) (L : mwL) (H : Heap) (locs : List Loc) (ls : Array Slot), fX13_covered_b14 fu k a1 M L = some (r0, M0, L0) → mw_W G ad NF TF FF M L H locs → lv_has ls 4 [] → W p l e ({ frames := 0, cells := 0, slots := 0, locals := 0 }) s m [.ref (ad k), .int a1].toArray below meth c H locs 0 0 (MQ below (mw_Qi G ad NF TF FF (mw_eqI r0 M0 L0)) [.ref (ad k), .int a1].toArray s 0 0 (mw_fr G)) (F0 m 14 ls []) := by
    intro M L H locs ls hD hw hl
    unfold fX13_covered_b14 at hD
    refine lv_bipush (v := (-2)) C.1.1 C.1.2.1 dX13_covered_14 (by decide) ?_
    exact mr_iret C hr hlocks hw rfl (Option.some.inj hD) dX13_covered_16
  have hb137 : ∀ (v2 : Int32) (M : mwM) (L : mwL) (H : Heap) (locs : List Loc) (ls : Array Slot), fX13_covered_b137 fu k a1 v2 M L = some (r0, M0, L0) → mw_W G ad NF TF FF M L H locs → lv_has ls 4 [(2, .int v2)] → W p l e ({ frames := 0, cells := 0, slots := 0, locals := 0 }) s m [.ref (ad k), .int a1].toArray below meth c H locs 0 0 (MQ below (mw_Qi G ad NF TF FF (mw_eqI r0 M0 L0)) [.ref (ad k), .int a1].toArray s 0 0 (mw_fr G)) (F0 m 137 ls []) := by
    intro v2 M L H locs ls hD hw hl
    unfold fX13_covered_b137 at hD
    refine lv_iload_n C.1.1 C.1.2.1 dX13_covered_137 rfl (lv_at hl 0 rfl) ?_
    exact mr_iret C hr hlocks hw rfl (Option.some.inj hD) dX13_covered_138
  have hh68 : ∀ (f : Nat) (v2 : Int32) (v3 : Int32) (M : mwM) (L : mwL) (H : Heap) (locs : List Loc) (ls : Array Slot), fX13_covered_h68 fu k a1 f (v2, v3, M, L) = some (r0, M0, L0) → mw_W G ad NF TF FF M L H locs → lv_has ls 4 [(0, .ref (ad k)), (1, .int a1), (2, .int v2), (3, .int v3)] → W p l e ({ frames := 0, cells := 0, slots := 0, locals := 0 }) s m [.ref (ad k), .int a1].toArray below meth c H locs 0 0 (MQ below (mw_Qi G ad NF TF FF (mw_eqI r0 M0 L0)) [.ref (ad k), .int a1].toArray s 0 0 (mw_fr G)) (F0 m 68 ls []) := by
    intro f
    induction f with
    | zero => intro v2 v3 M L H locs ls hD; cases hD
    | succ f68 ih68 =>
      intro v2 v3 M L H locs ls hD hw hl
      replace hD : fX13_covered_i68 fu k a1 (fX13_covered_h68 fu k a1 f68) v2 v3 M L = some (r0, M0, L0) := hD
      have hb130 : ∀ (v3 : Int32) (s0 : Int32) (M : mwM) (L : mwL) (H : Heap) (locs : List Loc) (ls : Array Slot), fX13_covered_b130 fu k a1 (fX13_covered_h68 fu k a1 f68) v3 s0 M L = some (r0, M0, L0) → mw_W G ad NF TF FF M L H locs → lv_has ls 4 [(0, .ref (ad k)), (1, .int a1), (3, .int v3)] → W p l e ({ frames := 0, cells := 0, slots := 0, locals := 0 }) s m [.ref (ad k), .int a1].toArray below meth c H locs 0 0 (MQ below (mw_Qi G ad NF TF FF (mw_eqI r0 M0 L0)) [.ref (ad k), .int a1].toArray s 0 0 (mw_fr G)) (F0 m 130 ls [.int s0]) := by
        intro v3 s0 M L H locs ls hD hw hl
        unfold fX13_covered_b130 at hD
        refine lv_istore_n (lv' := [(2, .int s0), (0, .ref (ad k)), (1, .int a1), (3, .int v3)]) C.1.1 C.1.2.1 dX13_covered_130 rfl hl (by decide) rfl (fun ls hl => ?_)
        obtain ⟨x16, ex16, hD⟩ := g_let hD
        refine lv_iinc (v := x16) (lv' := [(3, .int x16), (2, .int s0), (0, .ref (ad k)), (1, .int a1)]) C.1.1 C.1.2.1 dX13_covered_131 hl (k := 3) rfl (by rw [ex16]; rfl) (by decide) rfl (fun ls hl => ?_)
        refine lv_goto (tgt := 68) C.1.1 C.1.2.1 dX13_covered_134 (by decide) ?_
        exact ih68 s0 x16 M L _ _ ls hD hw (lv_sub hl [2, 3, 1, 0] rfl)
      have hb129 : ∀ (v2 : Int32) (v3 : Int32) (M : mwM) (L : mwL) (H : Heap) (locs : List Loc) (ls : Array Slot), fX13_covered_b129 fu k a1 (fX13_covered_h68 fu k a1 f68) v2 v3 M L = some (r0, M0, L0) → mw_W G ad NF TF FF M L H locs → lv_has ls 4 [(0, .ref (ad k)), (1, .int a1), (2, .int v2), (3, .int v3)] → W p l e ({ frames := 0, cells := 0, slots := 0, locals := 0 }) s m [.ref (ad k), .int a1].toArray below meth c H locs 0 0 (MQ below (mw_Qi G ad NF TF FF (mw_eqI r0 M0 L0)) [.ref (ad k), .int a1].toArray s 0 0 (mw_fr G)) (F0 m 129 ls []) := by
        intro v2 v3 M L H locs ls hD hw hl
        unfold fX13_covered_b129 at hD
        refine lv_iload_n C.1.1 C.1.2.1 dX13_covered_129 rfl (lv_at hl 2 rfl) ?_
        exact hb130 v3 v2 M L _ _ ls hD hw (lv_sub hl [0, 1, 3] rfl)
      have hb123 : ∀ (v2 : Int32) (v3 : Int32) (M : mwM) (L : mwL) (H : Heap) (locs : List Loc) (ls : Array Slot), fX13_covered_b123 fu k a1 (fX13_covered_h68 fu k a1 f68) v2 v3 M L = some (r0, M0, L0) → mw_W G ad NF TF FF M L H locs → lv_has ls 4 [(0, .ref (ad k)), (1, .int a1), (2, .int v2), (3, .int v3)] → W p l e ({ frames := 0, cells := 0, slots := 0, locals := 0 }) s m [.ref (ad k), .int a1].toArray below meth c H locs 0 0 (MQ below (mw_Qi G ad NF TF FF (mw_eqI r0 M0 L0)) [.ref (ad k), .int a1].toArray s 0 0 (mw_fr G)) (F0 m 123 ls []) := by
        intro v2 v3 M L H locs ls hD hw hl
        unfold fX13_covered_b123 at hD
        refine lv_iload_n C.1.1 C.1.2.1 dX13_covered_123 rfl (lv_at hl 2 rfl) ?_
        refine lv_iconst (v := 1) C.1.1 C.1.2.1 dX13_covered_124 (by decide) ?_
        refine lv_iadd C.1.1 C.1.2.1 dX13_covered_125 ?_
        refine lv_goto (tgt := 130) C.1.1 C.1.2.1 dX13_covered_126 (by decide) ?_
        exact hb130 v3 (v2 + 1) M L _ _ ls hD hw (lv_sub hl [0, 1, 3] rfl)
      unfold fX13_covered_i68 at hD
      refine lv_iload_n C.1.1 C.1.2.1 dX13_covered_68 rfl (lv_at hl 3 rfl) ?_
      refine lv_aload_n C.1.1 C.1.2.1 dX13_covered_69 rfl (lv_at hl 0 rfl) ?_
      refine mr_getI C hw kc_13 12 (Mc_N0 hk0) (Mc_T0 hk0) wd_2654 dX13_covered_70 (by decide) rfl ?_
      refine lv_icmp_gt (tgt := 137) C.1.1 C.1.2.1 dX13_covered_73 (by decide) (fun c6 => ?_) (fun c6 => ?_)
      · replace hD := g_pos c6 hD
        exact hb137 v2 M L _ _ ls hD hw (lv_sub hl [2] rfl)
      · replace hD := g_neg c6 hD
        refine lv_iload_n C.1.1 C.1.2.1 dX13_covered_76 rfl (lv_at hl 1 rfl) ?_
        refine lv_if_le (tgt := 137) C.1.1 C.1.2.1 dX13_covered_77 (by decide) (fun c7 => ?_) (fun c7 => ?_)
        · replace hD := g_pos c7 hD
          exact hb137 v2 M L _ _ ls hD hw (lv_sub hl [2] rfl)
        · replace hD := g_neg c7 hD
          refine lv_iload_n C.1.1 C.1.2.1 dX13_covered_80 rfl (lv_at hl 1 rfl) ?_
          refine lv_iconst (v := 1) C.1.1 C.1.2.1 dX13_covered_81 (by decide) ?_
          refine lv_icmp_ne (tgt := 97) C.1.1 C.1.2.1 dX13_covered_82 (by decide) (fun c8 => ?_) (fun c8 => ?_)
          · replace hD := g_neg c8 hD
            refine lv_iload_n C.1.1 C.1.2.1 dX13_covered_97 rfl (lv_at hl 1 rfl) ?_
            refine lv_iconst (v := 2) C.1.1 C.1.2.1 dX13_covered_98 (by decide) ?_
            refine lv_icmp_ne (tgt := 114) C.1.1 C.1.2.1 dX13_covered_99 (by decide) (fun c9 => ?_) (fun c9 => ?_)
            · replace hD := g_neg c9 hD
              refine lv_aload_n C.1.1 C.1.2.1 dX13_covered_114 rfl (lv_at hl 0 rfl) ?_
              refine mr_getR C hw kc_13 19 (Mc_N0 hk0) (Mc_T0 hk0) (Mc_F0_19 hk0) wd_2661 dX13_covered_115 (by decide) rfl ?_
              refine lv_iload_n C.1.1 C.1.2.1 dX13_covered_118 rfl (lv_at hl 3 rfl) ?_
              obtain ⟨q10, hD⟩ := g_ck hD
              refine mr_zald C hw (Mc_N16 hk0) (Mc_T16 hk0) q10 dX13_covered_119 ?_
              refine lv_if_eq (tgt := 129) C.1.1 C.1.2.1 dX13_covered_120 (by decide) (fun c11 => ?_) (fun c11 => ?_)
              · replace hD := g_pos c11 hD
                exact hb129 v2 v3 M L _ _ ls hD hw (lv_sub hl [0, 1, 2, 3] rfl)
              · replace hD := g_neg c11 hD
                exact hb123 v2 v3 M L _ _ ls hD hw (lv_sub hl [0, 1, 2, 3] rfl)
            · replace hD := g_pos c9 hD
              refine lv_aload_n C.1.1 C.1.2.1 dX13_covered_102 rfl (lv_at hl 0 rfl) ?_
              refine mr_getR C hw kc_13 18 (Mc_N0 hk0) (Mc_T0 hk0) (Mc_F0_18 hk0) wd_2660 dX13_covered_103 (by decide) rfl ?_
              refine lv_iload_n C.1.1 C.1.2.1 dX13_covered_106 rfl (lv_at hl 3 rfl) ?_
              obtain ⟨q12, hD⟩ := g_ck hD
              refine mr_zald C hw (Mc_N15 hk0) (Mc_T15 hk0) q12 dX13_covered_107 ?_
              refine lv_if_eq (tgt := 129) C.1.1 C.1.2.1 dX13_covered_108 (by decide) (fun c13 => ?_) (fun c13 => ?_)
              · replace hD := g_pos c13 hD
                exact hb129 v2 v3 M L _ _ ls hD hw (lv_sub hl [0, 1, 2, 3] rfl)
              · replace hD := g_neg c13 hD
                refine lv_goto (tgt := 123) C.1.1 C.1.2.1 dX13_covered_111 (by decide) ?_
                exact hb123 v2 v3 M L _ _ ls hD hw (lv_sub hl [0, 1, 2, 3] rfl)
          · replace hD := g_pos c8 hD
            refine lv_aload_n C.1.1 C.1.2.1 dX13_covered_85 rfl (lv_at hl 0 rfl) ?_
            refine mr_getR C hw kc_13 17 (Mc_N0 hk0) (Mc_T0 hk0) (Mc_F0_17 hk0) wd_2659 dX13_covered_86 (by decide) rfl ?_
            refine lv_iload_n C.1.1 C.1.2.1 dX13_covered_89 rfl (lv_at hl 3 rfl) ?_
            obtain ⟨q14, hD⟩ := g_ck hD
            refine mr_zald C hw (Mc_N14 hk0) (Mc_T14 hk0) q14 dX13_covered_90 ?_
            refine lv_if_eq (tgt := 129) C.1.1 C.1.2.1 dX13_covered_91 (by decide) (fun c15 => ?_) (fun c15 => ?_)
            · replace hD := g_pos c15 hD
              exact hb129 v2 v3 M L _ _ ls hD hw (lv_sub hl [0, 1, 2, 3] rfl)
            · replace hD := g_neg c15 hD
              refine lv_goto (tgt := 123) C.1.1 C.1.2.1 dX13_covered_94 (by decide) ?_
              exact hb123 v2 v3 M L _ _ ls hD hw (lv_sub hl [0, 1, 2, 3] rfl)
  have hb66 : ∀ (v2 : Int32) (M : mwM) (L : mwL) (H : Heap) (locs : List Loc) (ls : Array Slot), fX13_covered_b66 fu k a1 v2 M L = some (r0, M0, L0) → mw_W G ad NF TF FF M L H locs → lv_has ls 4 [(0, .ref (ad k)), (1, .int a1), (2, .int v2)] → W p l e ({ frames := 0, cells := 0, slots := 0, locals := 0 }) s m [.ref (ad k), .int a1].toArray below meth c H locs 0 0 (MQ below (mw_Qi G ad NF TF FF (mw_eqI r0 M0 L0)) [.ref (ad k), .int a1].toArray s 0 0 (mw_fr G)) (F0 m 66 ls []) := by
    intro v2 M L H locs ls hD hw hl
    unfold fX13_covered_b66 at hD
    refine lv_iconst (v := 1) C.1.1 C.1.2.1 dX13_covered_66 (by decide) ?_
    refine lv_istore_n (lv' := [(3, .int 1), (0, .ref (ad k)), (1, .int a1), (2, .int v2)]) C.1.1 C.1.2.1 dX13_covered_67 rfl hl (by decide) rfl (fun ls hl => ?_)
    exact hh68 fu v2 1 M L _ _ ls hD hw (lv_sub hl [1, 2, 3, 0] rfl)
  have hh31 : ∀ (f : Nat) (v2 : Int32) (v3 : Int32) (M : mwM) (L : mwL) (H : Heap) (locs : List Loc) (ls : Array Slot), fX13_covered_h31 fu k a1 f (v2, v3, M, L) = some (r0, M0, L0) → mw_W G ad NF TF FF M L H locs → lv_has ls 4 [(0, .ref (ad k)), (1, .int a1), (2, .int v2), (3, .int v3)] → W p l e ({ frames := 0, cells := 0, slots := 0, locals := 0 }) s m [.ref (ad k), .int a1].toArray below meth c H locs 0 0 (MQ below (mw_Qi G ad NF TF FF (mw_eqI r0 M0 L0)) [.ref (ad k), .int a1].toArray s 0 0 (mw_fr G)) (F0 m 31 ls []) := by
    intro f
    induction f with
    | zero => intro v2 v3 M L H locs ls hD; cases hD
    | succ f31 ih31 =>
      intro v2 v3 M L H locs ls hD hw hl
      replace hD : fX13_covered_i31 fu k a1 (fX13_covered_h31 fu k a1 f31) v2 v3 M L = some (r0, M0, L0) := hD
      have hb59 : ∀ (v3 : Int32) (s0 : Int32) (M : mwM) (L : mwL) (H : Heap) (locs : List Loc) (ls : Array Slot), fX13_covered_b59 fu k a1 (fX13_covered_h31 fu k a1 f31) v3 s0 M L = some (r0, M0, L0) → mw_W G ad NF TF FF M L H locs → lv_has ls 4 [(0, .ref (ad k)), (1, .int a1), (3, .int v3)] → W p l e ({ frames := 0, cells := 0, slots := 0, locals := 0 }) s m [.ref (ad k), .int a1].toArray below meth c H locs 0 0 (MQ below (mw_Qi G ad NF TF FF (mw_eqI r0 M0 L0)) [.ref (ad k), .int a1].toArray s 0 0 (mw_fr G)) (F0 m 59 ls [.int s0]) := by
        intro v3 s0 M L H locs ls hD hw hl
        unfold fX13_covered_b59 at hD
        refine lv_istore_n (lv' := [(2, .int s0), (0, .ref (ad k)), (1, .int a1), (3, .int v3)]) C.1.1 C.1.2.1 dX13_covered_59 rfl hl (by decide) rfl (fun ls hl => ?_)
        obtain ⟨x5, ex5, hD⟩ := g_let hD
        refine lv_iinc (v := x5) (lv' := [(3, .int x5), (2, .int s0), (0, .ref (ad k)), (1, .int a1)]) C.1.1 C.1.2.1 dX13_covered_60 hl (k := 3) rfl (by rw [ex5]; rfl) (by decide) rfl (fun ls hl => ?_)
        refine lv_goto (tgt := 31) C.1.1 C.1.2.1 dX13_covered_63 (by decide) ?_
        exact ih31 s0 x5 M L _ _ ls hD hw (lv_sub hl [2, 3, 1, 0] rfl)
      unfold fX13_covered_i31 at hD
      refine lv_iload_n C.1.1 C.1.2.1 dX13_covered_31 rfl (lv_at hl 3 rfl) ?_
      refine lv_aload_n C.1.1 C.1.2.1 dX13_covered_32 rfl (lv_at hl 0 rfl) ?_
      refine mr_getI C hw kc_13 2 (Mc_N0 hk0) (Mc_T0 hk0) wd_2644 dX13_covered_33 (by decide) rfl ?_
      refine lv_icmp_gt (tgt := 66) C.1.1 C.1.2.1 dX13_covered_36 (by decide) (fun c1 => ?_) (fun c1 => ?_)
      · replace hD := g_pos c1 hD
        exact hb66 v2 M L _ _ ls hD hw (lv_sub hl [0, 1, 2] rfl)
      · replace hD := g_neg c1 hD
        refine lv_iload_n C.1.1 C.1.2.1 dX13_covered_39 rfl (lv_at hl 1 rfl) ?_
        refine lv_if_ne (tgt := 66) C.1.1 C.1.2.1 dX13_covered_40 (by decide) (fun c2 => ?_) (fun c2 => ?_)
        · replace hD := g_neg c2 hD
          exact hb66 v2 M L _ _ ls hD hw (lv_sub hl [0, 1, 2] rfl)
        · replace hD := g_pos c2 hD
          refine lv_aload_n C.1.1 C.1.2.1 dX13_covered_43 rfl (lv_at hl 0 rfl) ?_
          refine mr_getR C hw kc_13 10 (Mc_N0 hk0) (Mc_T0 hk0) (Mc_F0_10 hk0) wd_2652 dX13_covered_44 (by decide) rfl ?_
          refine lv_iload_n C.1.1 C.1.2.1 dX13_covered_47 rfl (lv_at hl 3 rfl) ?_
          obtain ⟨q3, hD⟩ := g_ck hD
          refine mr_zald C hw (Mc_N8 hk0) (Mc_T8 hk0) q3 dX13_covered_48 ?_
          refine lv_if_eq (tgt := 58) C.1.1 C.1.2.1 dX13_covered_49 (by decide) (fun c4 => ?_) (fun c4 => ?_)
          · replace hD := g_pos c4 hD
            refine lv_iload_n C.1.1 C.1.2.1 dX13_covered_58 rfl (lv_at hl 2 rfl) ?_
            exact hb59 v3 v2 M L _ _ ls hD hw (lv_sub hl [0, 1, 3] rfl)
          · replace hD := g_neg c4 hD
            refine lv_iload_n C.1.1 C.1.2.1 dX13_covered_52 rfl (lv_at hl 2 rfl) ?_
            refine lv_iconst (v := 1) C.1.1 C.1.2.1 dX13_covered_53 (by decide) ?_
            refine lv_iadd C.1.1 C.1.2.1 dX13_covered_54 ?_
            refine lv_goto (tgt := 59) C.1.1 C.1.2.1 dX13_covered_55 (by decide) ?_
            exact hb59 v3 (v2 + 1) M L _ _ ls hD hw (lv_sub hl [0, 1, 3] rfl)
  unfold DX13_covered at hD
  refine lv_aload_n C.1.1 C.1.2.1 dX13_covered_0 rfl (lv_at hl 0 rfl) ?_
  refine lv_iconst (v := 0) C.1.1 C.1.2.1 dX13_covered_1 (by decide) ?_
  obtain ⟨M17, eM17, hD⟩ := g_let hD
  refine mr_putI C hw kc_13 0 (Mc_N0 hk0) (Mc_T0 hk0) wd_2642 dX13_covered_2 (by decide) rfl rfl rfl rfl (fun H locs hw => ?_)
  replace hw : mw_W G ad NF TF FF M17 L H locs := by rw [eM17]; exact hw
  refine lv_iload_n C.1.1 C.1.2.1 dX13_covered_5 rfl (lv_at hl 1 rfl) ?_
  refine lv_if_lt (tgt := 14) C.1.1 C.1.2.1 dX13_covered_6 (by decide) (fun c18 => ?_) (fun c18 => ?_)
  · replace hD := g_pos c18 hD
    exact hb14 M17 L _ _ ls hD hw (lv_sub hl [] rfl)
  · replace hD := g_neg c18 hD
    refine lv_iload_n C.1.1 C.1.2.1 dX13_covered_9 rfl (lv_at hl 1 rfl) ?_
    refine lv_iconst (v := 4) C.1.1 C.1.2.1 dX13_covered_10 (by decide) ?_
    refine lv_icmp_le (tgt := 17) C.1.1 C.1.2.1 dX13_covered_11 (by decide) (fun c19 => ?_) (fun c19 => ?_)
    · replace hD := g_pos c19 hD
      refine lv_iload_n C.1.1 C.1.2.1 dX13_covered_17 rfl (lv_at hl 1 rfl) ?_
      refine lv_iconst (v := 4) C.1.1 C.1.2.1 dX13_covered_18 (by decide) ?_
      refine lv_icmp_ne (tgt := 27) C.1.1 C.1.2.1 dX13_covered_19 (by decide) (fun c20 => ?_) (fun c20 => ?_)
      · replace hD := g_neg c20 hD
        refine lv_iconst (v := 0) C.1.1 C.1.2.1 dX13_covered_27 (by decide) ?_
        refine lv_istore_n (lv' := [(2, .int 0), (0, .ref (ad k)), (1, .int a1)]) C.1.1 C.1.2.1 dX13_covered_28 rfl hl (by decide) rfl (fun ls hl => ?_)
        refine lv_iconst (v := 1) C.1.1 C.1.2.1 dX13_covered_29 (by decide) ?_
        refine lv_istore_n (lv' := [(3, .int 1), (2, .int 0), (0, .ref (ad k)), (1, .int a1)]) C.1.1 C.1.2.1 dX13_covered_30 rfl hl (by decide) rfl (fun ls hl => ?_)
        exact hh31 fu 0 1 M17 L _ _ ls hD hw (lv_sub hl [2, 3, 1, 0] rfl)
      · replace hD := g_pos c20 hD
        refine lv_aload_n C.1.1 C.1.2.1 dX13_covered_22 rfl (lv_at hl 0 rfl) ?_
        refine mr_getI C hw kc_13 30 (Mc_N0 hk0) (Mc_T0 hk0) wd_2672 dX13_covered_23 (by decide) rfl ?_
        exact mr_iret C hr hlocks hw rfl (Option.some.inj hD) dX13_covered_26
    · replace hD := g_neg c19 hD
      exact hb14 M17 L _ _ ls hD hw (lv_sub hl [] rfl)
