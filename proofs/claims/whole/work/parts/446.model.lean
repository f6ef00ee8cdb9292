theorem dX19_valueOf_0 : decode cX19_valueOf 0 = .ok (.aload_n 0, 1) := by decide +kernel
theorem dX19_valueOf_1 : decode cX19_valueOf 1 = .ok (.getfield 94, 3) := by decide +kernel
theorem dX19_valueOf_4 : decode cX19_valueOf 4 = .ok (.iload_n 1, 1) := by decide +kernel
theorem dX19_valueOf_5 : decode cX19_valueOf 5 = .ok (.iaload, 1) := by decide +kernel
theorem dX19_valueOf_6 : decode cX19_valueOf 6 = .ok (.bipush 7, 2) := by decide +kernel
theorem dX19_valueOf_8 : decode cX19_valueOf 8 = .ok (.iadd, 1) := by decide +kernel
theorem dX19_valueOf_9 : decode cX19_valueOf 9 = .ok (.bipush 8, 2) := by decide +kernel
theorem dX19_valueOf_11 : decode cX19_valueOf 11 = .ok (.idiv, 1) := by decide +kernel
theorem dX19_valueOf_12 : decode cX19_valueOf 12 = .ok (.istore_n 2, 1) := by decide +kernel
theorem dX19_valueOf_13 : decode cX19_valueOf 13 = .ok (.lconst 0, 1) := by decide +kernel
theorem dX19_valueOf_14 : decode cX19_valueOf 14 = .ok (.lstore_n 3, 1) := by decide +kernel
theorem dX19_valueOf_15 : decode cX19_valueOf 15 = .ok (.iconst 0, 1) := by decide +kernel
theorem dX19_valueOf_16 : decode cX19_valueOf 16 = .ok (.istore 5, 2) := by decide +kernel
theorem dX19_valueOf_18 : decode cX19_valueOf 18 = .ok (.iload 5, 2) := by decide +kernel
theorem dX19_valueOf_20 : decode cX19_valueOf 20 = .ok (.aload_n 0, 1) := by decide +kernel
theorem dX19_valueOf_21 : decode cX19_valueOf 21 = .ok (.getfield 94, 3) := by decide +kernel
theorem dX19_valueOf_24 : decode cX19_valueOf 24 = .ok (.iload_n 1, 1) := by decide +kernel
theorem dX19_valueOf_25 : decode cX19_valueOf 25 = .ok (.iaload, 1) := by decide +kernel
theorem dX19_valueOf_26 : decode cX19_valueOf 26 = .ok (.if_icmp .ge 86, 3) := by decide +kernel
theorem dX19_valueOf_29 : decode cX19_valueOf 29 = .ok (.aload_n 0, 1) := by decide +kernel
theorem dX19_valueOf_30 : decode cX19_valueOf 30 = .ok (.getfield 106, 3) := by decide +kernel
theorem dX19_valueOf_33 : decode cX19_valueOf 33 = .ok (.iload_n 1, 1) := by decide +kernel
theorem dX19_valueOf_34 : decode cX19_valueOf 34 = .ok (.baload, 1) := by decide +kernel
theorem dX19_valueOf_35 : decode cX19_valueOf 35 = .ok (.ifCond .eq 31, 3) := by decide +kernel
theorem dX19_valueOf_38 : decode cX19_valueOf 38 = .ok (.aload_n 0, 1) := by decide +kernel
theorem dX19_valueOf_39 : decode cX19_valueOf 39 = .ok (.getfield 116, 3) := by decide +kernel
theorem dX19_valueOf_42 : decode cX19_valueOf 42 = .ok (.iload_n 1, 1) := by decide +kernel
theorem dX19_valueOf_43 : decode cX19_valueOf 43 = .ok (.iaload, 1) := by decide +kernel
theorem dX19_valueOf_44 : decode cX19_valueOf 44 = .ok (.bipush 8, 2) := by decide +kernel
theorem dX19_valueOf_46 : decode cX19_valueOf 46 = .ok (.iload_n 2, 1) := by decide +kernel
theorem dX19_valueOf_47 : decode cX19_valueOf 47 = .ok (.iconst 1, 1) := by decide +kernel
theorem dX19_valueOf_48 : decode cX19_valueOf 48 = .ok (.isub, 1) := by decide +kernel
theorem dX19_valueOf_49 : decode cX19_valueOf 49 = .ok (.iload 5, 2) := by decide +kernel
theorem dX19_valueOf_51 : decode cX19_valueOf 51 = .ok (.bipush 8, 2) := by decide +kernel
theorem dX19_valueOf_53 : decode cX19_valueOf 53 = .ok (.idiv, 1) := by decide +kernel
theorem dX19_valueOf_54 : decode cX19_valueOf 54 = .ok (.isub, 1) := by decide +kernel
theorem dX19_valueOf_55 : decode cX19_valueOf 55 = .ok (.imul, 1) := by decide +kernel
theorem dX19_valueOf_56 : decode cX19_valueOf 56 = .ok (.iadd, 1) := by decide +kernel
theorem dX19_valueOf_57 : decode cX19_valueOf 57 = .ok (.iload 5, 2) := by decide +kernel
theorem dX19_valueOf_59 : decode cX19_valueOf 59 = .ok (.bipush 8, 2) := by decide +kernel
theorem dX19_valueOf_61 : decode cX19_valueOf 61 = .ok (.irem, 1) := by decide +kernel
theorem dX19_valueOf_62 : decode cX19_valueOf 62 = .ok (.iadd, 1) := by decide +kernel
theorem dX19_valueOf_63 : decode cX19_valueOf 63 = .ok (.goto 12, 3) := by decide +kernel
theorem dX19_valueOf_66 : decode cX19_valueOf 66 = .ok (.aload_n 0, 1) := by decide +kernel
theorem dX19_valueOf_67 : decode cX19_valueOf 67 = .ok (.getfield 116, 3) := by decide +kernel
theorem dX19_valueOf_70 : decode cX19_valueOf 70 = .ok (.iload_n 1, 1) := by decide +kernel
theorem dX19_valueOf_71 : decode cX19_valueOf 71 = .ok (.iaload, 1) := by decide +kernel
theorem dX19_valueOf_72 : decode cX19_valueOf 72 = .ok (.iload 5, 2) := by decide +kernel
theorem dX19_valueOf_74 : decode cX19_valueOf 74 = .ok (.iadd, 1) := by decide +kernel
theorem dX19_valueOf_75 : decode cX19_valueOf 75 = .ok (.istore 6, 2) := by decide +kernel
theorem dX19_valueOf_77 : decode cX19_valueOf 77 = .ok (.aload_n 0, 1) := by decide +kernel
theorem dX19_valueOf_78 : decode cX19_valueOf 78 = .ok (.getfield 230, 3) := by decide +kernel
theorem dX19_valueOf_81 : decode cX19_valueOf 81 = .ok (.iload 6, 2) := by decide +kernel
theorem dX19_valueOf_83 : decode cX19_valueOf 83 = .ok (.bipush 8, 2) := by decide +kernel
theorem dX19_valueOf_85 : decode cX19_valueOf 85 = .ok (.idiv, 1) := by decide +kernel
theorem dX19_valueOf_86 : decode cX19_valueOf 86 = .ok (.iaload, 1) := by decide +kernel
theorem dX19_valueOf_87 : decode cX19_valueOf 87 = .ok (.iload 6, 2) := by decide +kernel
theorem dX19_valueOf_89 : decode cX19_valueOf 89 = .ok (.bipush 8, 2) := by decide +kernel
theorem dX19_valueOf_91 : decode cX19_valueOf 91 = .ok (.irem, 1) := by decide +kernel
theorem dX19_valueOf_92 : decode cX19_valueOf 92 = .ok (.ishr, 1) := by decide +kernel
theorem dX19_valueOf_93 : decode cX19_valueOf 93 = .ok (.iconst 1, 1) := by decide +kernel
theorem dX19_valueOf_94 : decode cX19_valueOf 94 = .ok (.iand, 1) := by decide +kernel
theorem dX19_valueOf_95 : decode cX19_valueOf 95 = .ok (.iconst 1, 1) := by decide +kernel
theorem dX19_valueOf_96 : decode cX19_valueOf 96 = .ok (.if_icmp .ne 10, 3) := by decide +kernel
theorem dX19_valueOf_99 : decode cX19_valueOf 99 = .ok (.lload_n 3, 1) := by decide +kernel
theorem dX19_valueOf_100 : decode cX19_valueOf 100 = .ok (.lconst 1, 1) := by decide +kernel
theorem dX19_valueOf_101 : decode cX19_valueOf 101 = .ok (.iload 5, 2) := by decide +kernel
theorem dX19_valueOf_103 : decode cX19_valueOf 103 = .ok (.lshl, 1) := by decide +kernel
theorem dX19_valueOf_104 : decode cX19_valueOf 104 = .ok (.lor, 1) := by decide +kernel
theorem dX19_valueOf_105 : decode cX19_valueOf 105 = .ok (.lstore_n 3, 1) := by decide +kernel
theorem dX19_valueOf_106 : decode cX19_valueOf 106 = .ok (.iinc 5 1, 3) := by decide +kernel
theorem dX19_valueOf_109 : decode cX19_valueOf 109 = .ok (.goto (-91), 3) := by decide +kernel
theorem dX19_valueOf_112 : decode cX19_valueOf 112 = .ok (.lload_n 3, 1) := by decide +kernel
theorem dX19_valueOf_113 : decode cX19_valueOf 113 = .ok (.lreturn, 1) := by decide +kernel
theorem cwX19_valueOf : mw_cwV yX19_valueOf cX19_valueOf 7 ((some .long)) 1 := ⟨⟨wd_13, wd_3923, by decide +kernel⟩, wd_3922, sl_290⟩
noncomputable def fX19_valueOf_b106 (fu : Nat) (a1 : Int32) (r18 : (Int32 × Int64 × Int32 × mwM × mwL) → Option (Int64 × mwM × mwL)) (v2 : Int32) (v3 : Int64) (v5 : Int32) (M : mwM) (L : mwL) : Option (Int64 × mwM × mwL) :=
  mlet (v5 + 1) (fun x14 => r18 (v2, v3, x14, M, L))
noncomputable def fX19_valueOf_b75 (fu : Nat) (a1 : Int32) (r18 : (Int32 × Int64 × Int32 × mwM × mwL) → Option (Int64 × mwM × mwL)) (v2 : Int32) (v3 : Int64) (v5 : Int32) (s0 : Int32) (M : mwM) (L : mwL) : Option (Int64 × mwM × mwL) :=
  mck (s0 / 8) 8 ((if (((M 926 (s0 / 8).toNatClampNeg) >>> ((s0 - s0 / 8 * 8) &&& 31)) &&& 1) = 1 then mlet (v3 ||| (1 <<< (v5.toInt64 &&& 63))) (fun x13 => fX19_valueOf_b106 fu a1 r18 v2 x13 v5 M L) else fX19_valueOf_b106 fu a1 r18 v2 v3 v5 M L))
noncomputable def fX19_valueOf_i18 (fu : Nat) (a1 : Int32) (r18 : (Int32 × Int64 × Int32 × mwM × mwL) → Option (Int64 × mwM × mwL)) (v2 : Int32) (v3 : Int64) (v5 : Int32) (M : mwM) (L : mwL) : Option (Int64 × mwM × mwL) :=
  mck a1 40 ((if (M 761 a1.toNatClampNeg) ≤ v5 then some (v3, M, L) else mck a1 40 ((if (M 765 a1.toNatClampNeg) = 0 then mck a1 40 (fX19_valueOf_b75 fu a1 r18 v2 v3 v5 ((M 768 a1.toNatClampNeg) + v5) M L) else mck a1 40 (fX19_valueOf_b75 fu a1 r18 v2 v3 v5 (((M 768 a1.toNatClampNeg) + (8 * ((v2 - 1) - (v5 / 8)))) + (v5 - v5 / 8 * 8)) M L)))))
noncomputable def fX19_valueOf_h18 (fu : Nat) (a1 : Int32) : Nat → (Int32 × Int64 × Int32 × mwM × mwL) → Option (Int64 × mwM × mwL) := mloop (fun r18 s => fX19_valueOf_i18 fu a1 r18 s.1 s.2.1 s.2.2.1 s.2.2.2.1 s.2.2.2.2)
noncomputable def DX19_valueOf (fu : Nat) (a1 : Int32) (M : mwM) (L : mwL) : Option (Int64 × mwM × mwL) :=
  mck a1 40 (mlet (((M 761 a1.toNatClampNeg) + 7) / 8) (fun x17 => fX19_valueOf_h18 fu a1 fu (x17, 0, 0, M, L)))
set_option maxHeartbeats 4000000 in
set_option maxRecDepth 100000 in
theorem tX19_valueOf (l : Launch) (G : mwG) (ad : Nat → Nat) (fu : Nat) (a1 : Int32) (M : mwM) (L : mwL) {r0 : Int64} {M0 : mwM} {L0 : mwL} (hD : DX19_valueOf fu a1 M L = some (r0, M0, L0)) : Met l yX19_valueOf (Cond.code yX19_valueOf cX19_valueOf 7 ((some .long)) :: GT) ({ frames := 0, cells := 0, slots := 0, locals := 0 }) (mw_Pre G ad NF TF FF M L [.ref (ad 732), .int a1]) (mw_Ql G ad NF TF FF (mw_eqL r0 M0 L0)) 0 0 (mw_fr G) := by
  refine mw_enter (by decide) (Nat.le_of_ble_eq_true rfl) ?_
  intro p e s m below meth c ls C hr hlocks hnm hw hl
  have hl : lv_has ls 7 [(0, .ref (ad 732)), (1, .int a1)] := hl
  have hh18 : ∀ (f : Nat) (v2 : Int32) (v3 : Int64) (v5 : Int32) (M : mwM) (L : mwL) (H : Heap) (locs : List Loc) (ls : Array Slot), fX19_valueOf_h18 fu a1 f (v2, v3, v5, M, L) = some (r0, M0, L0) → mw_W G ad NF TF FF M L H locs → lv_has ls 7 [(0, .ref (ad 732)), (1, .int a1), (2, .int v2), (3, .long v3), (5, .int v5)] → W p l e ({ frames := 0, cells := 0, slots := 0, locals := 0 }) s m [.ref (ad 732), .int a1].toArray below meth c H locs 0 0 (MQ below (mw_Ql G ad NF TF FF (mw_eqL r0 M0 L0)) [.ref (ad 732), .int a1].toArray s 0 0 (mw_fr G)) (F0 m 18 ls []) := by
    intro f
    induction f with
    | zero => intro v2 v3 v5 M L H locs ls hD; cases hD
    | succ f18 ih18 =>
      intro v2 v3 v5 M L H locs ls hD hw hl
      replace hD : fX19_valueOf_i18 fu a1 (fX19_valueOf_h18 fu a1 f18) v2 v3 v5 M L = some (r0, M0, L0) := hD
      have hb106 : ∀ (v2 : Int32) (v3 : Int64) (v5 : Int32) (M : mwM) (L : mwL) (H : Heap) (locs : List Loc) (ls : Array Slot), fX19_valueOf_b106 fu a1 (fX19_valueOf_h18 fu a1 f18) v2 v3 v5 M L = some (r0, M0, L0) → mw_W G ad NF TF FF M L H locs → lv_has ls 7 [(0, .ref (ad 732)), (1, .int a1), (2, .int v2), (3, .long v3), (5, .int v5)] → W p l e ({ frames := 0, cells := 0, slots := 0, locals := 0 }) s m [.ref (ad 732), .int a1].toArray below meth c H locs 0 0 (MQ below (mw_Ql G ad NF TF FF (mw_eqL r0 M0 L0)) [.ref (ad 732), .int a1].toArray s 0 0 (mw_fr G)) (F0 m 106 ls []) := by
        intro v2 v3 v5 M L H locs ls hD hw hl
        unfold fX19_valueOf_b106 at hD
        obtain ⟨x14, ex14, hD⟩ := g_let hD
        refine lv_iinc (v := x14) (lv' := [(5, .int x14), (0, .ref (ad 732)), (1, .int a1), (2, .int v2), (3, .long v3)]) C.1.1 C.1.2.1 dX19_valueOf_106 hl (k := 4) rfl (by rw [ex14]; rfl) (by decide) rfl (fun ls hl => ?_)
        refine lv_goto (tgt := 18) C.1.1 C.1.2.1 dX19_valueOf_109 (by decide) ?_
        exact ih18 v2 v3 x14 M L _ _ ls hD hw (lv_sub hl [1, 2, 3, 4, 0] rfl)
      have hb75 : ∀ (v2 : Int32) (v3 : Int64) (v5 : Int32) (s0 : Int32) (M : mwM) (L : mwL) (H : Heap) (locs : List Loc) (ls : Array Slot), fX19_valueOf_b75 fu a1 (fX19_valueOf_h18 fu a1 f18) v2 v3 v5 s0 M L = some (r0, M0, L0) → mw_W G ad NF TF FF M L H locs → lv_has ls 7 [(0, .ref (ad 732)), (1, .int a1), (2, .int v2), (3, .long v3), (5, .int v5)] → W p l e ({ frames := 0, cells := 0, slots := 0, locals := 0 }) s m [.ref (ad 732), .int a1].toArray below meth c H locs 0 0 (MQ below (mw_Ql G ad NF TF FF (mw_eqL r0 M0 L0)) [.ref (ad 732), .int a1].toArray s 0 0 (mw_fr G)) (F0 m 75 ls [.int s0]) := by
        intro v2 v3 v5 s0 M L H locs ls hD hw hl
        unfold fX19_valueOf_b75 at hD
        refine lv_istore (lv' := [(6, .int s0), (0, .ref (ad 732)), (1, .int a1), (2, .int v2), (3, .long v3), (5, .int v5)]) C.1.1 C.1.2.1 dX19_valueOf_75 hl (by decide) rfl (fun ls hl => ?_)
        refine lv_aload_n C.1.1 C.1.2.1 dX19_valueOf_77 rfl (lv_at hl 1 rfl) ?_
        refine mr_getR C hw kc_19 87 (by decide) tf_732 ff_732_87 wd_2868 dX19_valueOf_78 (by decide) rfl ?_
        refine lv_iload C.1.1 C.1.2.1 dX19_valueOf_81 (lv_at hl 0 rfl) ?_
        refine lv_bipush (v := 8) C.1.1 C.1.2.1 dX19_valueOf_83 (by decide) ?_
        refine lv_idiv C.1.1 C.1.2.1 dX19_valueOf_85 (by decide) ?_
        obtain ⟨q10, hD⟩ := g_ck hD
        refine mr_iald C hw (by decide) tf_926 q10 dX19_valueOf_86 ?_
        refine lv_iload C.1.1 C.1.2.1 dX19_valueOf_87 (lv_at hl 0 rfl) ?_
        refine lv_bipush (v := 8) C.1.1 C.1.2.1 dX19_valueOf_89 (by decide) ?_
        refine lv_irem C.1.1 C.1.2.1 dX19_valueOf_91 (by decide) ?_
        refine lv_ishr C.1.1 C.1.2.1 dX19_valueOf_92 ?_
        refine lv_iconst (v := 1) C.1.1 C.1.2.1 dX19_valueOf_93 (by decide) ?_
        refine lv_iand C.1.1 C.1.2.1 dX19_valueOf_94 ?_
        refine lv_iconst (v := 1) C.1.1 C.1.2.1 dX19_valueOf_95 (by decide) ?_
        refine lv_icmp_ne (tgt := 106) C.1.1 C.1.2.1 dX19_valueOf_96 (by decide) (fun c12 => ?_) (fun c12 => ?_)
        · replace hD := g_neg c12 hD
          exact hb106 v2 v3 v5 M L _ _ ls hD hw (lv_sub hl [1, 2, 3, 4, 5] rfl)
        · replace hD := g_pos c12 hD
          refine lv_lload_n C.1.1 C.1.2.1 dX19_valueOf_99 rfl (lv_at hl 4 rfl) ?_
          refine lv_lconst (v := 1) C.1.1 C.1.2.1 dX19_valueOf_100 (by decide) ?_
          refine lv_iload C.1.1 C.1.2.1 dX19_valueOf_101 (lv_at hl 5 rfl) ?_
          refine lv_lshl C.1.1 C.1.2.1 dX19_valueOf_103 rfl ?_
          refine lv_lor C.1.1 C.1.2.1 dX19_valueOf_104 ?_
          obtain ⟨x13, ex13, hD⟩ := g_let hD
          refine W.eq (g2 := F0 m 105 ls (.long x13 :: [])) (by rw [ex13]) ?_
          refine lv_lstore_n (lv' := [(3, .long x13), (6, .int s0), (0, .ref (ad 732)), (1, .int a1), (2, .int v2), (5, .int v5)]) C.1.1 C.1.2.1 dX19_valueOf_105 rfl hl (by decide) rfl (fun ls hl => ?_)
          exact hb106 v2 x13 v5 M L _ _ ls hD hw (lv_sub hl [2, 3, 4, 0, 5] rfl)
      unfold fX19_valueOf_i18 at hD
      refine lv_iload C.1.1 C.1.2.1 dX19_valueOf_18 (lv_at hl 4 rfl) ?_
      refine lv_aload_n C.1.1 C.1.2.1 dX19_valueOf_20 rfl (lv_at hl 0 rfl) ?_
      refine mr_getR C hw kc_19 47 (by decide) tf_732 ff_732_47 wd_2828 dX19_valueOf_21 (by decide) rfl ?_
      refine lv_iload_n C.1.1 C.1.2.1 dX19_valueOf_24 rfl (lv_at hl 1 rfl) ?_
      obtain ⟨q1, hD⟩ := g_ck hD
      refine mr_iald C hw (by decide) tf_761 q1 dX19_valueOf_25 ?_
      refine lv_icmp_ge (tgt := 112) C.1.1 C.1.2.1 dX19_valueOf_26 (by decide) (fun c2 => ?_) (fun c2 => ?_)
      · replace hD := g_pos c2 hD
        refine lv_lload_n C.1.1 C.1.2.1 dX19_valueOf_112 rfl (lv_at hl 3 rfl) ?_
        exact mr_lret C hr hlocks hw (Option.some.inj hD) dX19_valueOf_113
      · replace hD := g_neg c2 hD
        refine lv_aload_n C.1.1 C.1.2.1 dX19_valueOf_29 rfl (lv_at hl 0 rfl) ?_
        refine mr_getR C hw kc_19 51 (by decide) tf_732 ff_732_51 wd_2832 dX19_valueOf_30 (by decide) rfl ?_
        refine lv_iload_n C.1.1 C.1.2.1 dX19_valueOf_33 rfl (lv_at hl 1 rfl) ?_
        obtain ⟨q3, hD⟩ := g_ck hD
        refine mr_zald C hw (by decide) tf_765 q3 dX19_valueOf_34 ?_
        refine lv_if_eq (tgt := 66) C.1.1 C.1.2.1 dX19_valueOf_35 (by decide) (fun c4 => ?_) (fun c4 => ?_)
        · replace hD := g_pos c4 hD
          refine lv_aload_n C.1.1 C.1.2.1 dX19_valueOf_66 rfl (lv_at hl 0 rfl) ?_
          refine mr_getR C hw kc_19 54 (by decide) tf_732 ff_732_54 wd_2835 dX19_valueOf_67 (by decide) rfl ?_
          refine lv_iload_n C.1.1 C.1.2.1 dX19_valueOf_70 rfl (lv_at hl 1 rfl) ?_
          obtain ⟨q5, hD⟩ := g_ck hD
          refine mr_iald C hw (by decide) tf_768 q5 dX19_valueOf_71 ?_
          refine lv_iload C.1.1 C.1.2.1 dX19_valueOf_72 (lv_at hl 4 rfl) ?_
          refine lv_iadd C.1.1 C.1.2.1 dX19_valueOf_74 ?_
          exact hb75 v2 v3 v5 ((M 768 a1.toNatClampNeg) + v5) M L _ _ ls hD hw (lv_sub hl [0, 1, 2, 3, 4] rfl)
        · replace hD := g_neg c4 hD
          refine lv_aload_n C.1.1 C.1.2.1 dX19_valueOf_38 rfl (lv_at hl 0 rfl) ?_
          refine mr_getR C hw kc_19 54 (by decide) tf_732 ff_732_54 wd_2835 dX19_valueOf_39 (by decide) rfl ?_
          refine lv_iload_n C.1.1 C.1.2.1 dX19_valueOf_42 rfl (lv_at hl 1 rfl) ?_
          obtain ⟨q6, hD⟩ := g_ck hD
          refine mr_iald C hw (by decide) tf_768 q6 dX19_valueOf_43 ?_
          refine lv_bipush (v := 8) C.1.1 C.1.2.1 dX19_valueOf_44 (by decide) ?_
          refine lv_iload_n C.1.1 C.1.2.1 dX19_valueOf_46 rfl (lv_at hl 2 rfl) ?_
          refine lv_iconst (v := 1) C.1.1 C.1.2.1 dX19_valueOf_47 (by decide) ?_
          refine lv_isub C.1.1 C.1.2.1 dX19_valueOf_48 ?_
          refine lv_iload C.1.1 C.1.2.1 dX19_valueOf_49 (lv_at hl 4 rfl) ?_
          refine lv_bipush (v := 8) C.1.1 C.1.2.1 dX19_valueOf_51 (by decide) ?_
          refine lv_idiv C.1.1 C.1.2.1 dX19_valueOf_53 (by decide) ?_
          refine lv_isub C.1.1 C.1.2.1 dX19_valueOf_54 ?_
          refine lv_imul C.1.1 C.1.2.1 dX19_valueOf_55 ?_
          refine lv_iadd C.1.1 C.1.2.1 dX19_valueOf_56 ?_
          refine lv_iload C.1.1 C.1.2.1 dX19_valueOf_57 (lv_at hl 4 rfl) ?_
          refine lv_bipush (v := 8) C.1.1 C.1.2.1 dX19_valueOf_59 (by decide) ?_
          refine lv_irem C.1.1 C.1.2.1 dX19_valueOf_61 (by decide) ?_
          refine lv_iadd C.1.1 C.1.2.1 dX19_valueOf_62 ?_
          refine lv_goto (tgt := 75) C.1.1 C.1.2.1 dX19_valueOf_63 (by decide) ?_
          exact hb75 v2 v3 v5 (((M 768 a1.toNatClampNeg) + (8 * ((v2 - 1) - (v5 / 8)))) + (v5 - v5 / 8 * 8)) M L _ _ ls hD hw (lv_sub hl [0, 1, 2, 3, 4] rfl)
  unfold DX19_valueOf at hD
  refine lv_aload_n C.1.1 C.1.2.1 dX19_valueOf_0 rfl (lv_at hl 0 rfl) ?_
  refine mr_getR C hw kc_19 47 (by decide) tf_732 ff_732_47 wd_2828 dX19_valueOf_1 (by decide) rfl ?_
  refine lv_iload_n C.1.1 C.1.2.1 dX19_valueOf_4 rfl (lv_at hl 1 rfl) ?_
  obtain ⟨q15, hD⟩ := g_ck hD
  refine mr_iald C hw (by decide) tf_761 q15 dX19_valueOf_5 ?_
  refine lv_bipush (v := 7) C.1.1 C.1.2.1 dX19_valueOf_6 (by decide) ?_
  refine lv_iadd C.1.1 C.1.2.1 dX19_valueOf_8 ?_
  refine lv_bipush (v := 8) C.1.1 C.1.2.1 dX19_valueOf_9 (by decide) ?_
  refine lv_idiv C.1.1 C.1.2.1 dX19_valueOf_11 (by decide) ?_
  obtain ⟨x17, ex17, hD⟩ := g_let hD
  refine W.eq (g2 := F0 m 12 ls (.int x17 :: [])) (by rw [ex17]) ?_
  refine lv_istore_n (lv' := [(2, .int x17), (0, .ref (ad 732)), (1, .int a1)]) C.1.1 C.1.2.1 dX19_valueOf_12 rfl hl (by decide) rfl (fun ls hl => ?_)
  refine lv_lconst (v := 0) C.1.1 C.1.2.1 dX19_valueOf_13 (by decide) ?_
  refine lv_lstore_n (lv' := [(3, .long 0), (2, .int x17), (0, .ref (ad 732)), (1, .int a1)]) C.1.1 C.1.2.1 dX19_valueOf_14 rfl hl (by decide) rfl (fun ls hl => ?_)
  refine lv_iconst (v := 0) C.1.1 C.1.2.1 dX19_valueOf_15 (by decide) ?_
  refine lv_istore (lv' := [(5, .int 0), (3, .long 0), (2, .int x17), (0, .ref (ad 732)), (1, .int a1)]) C.1.1 C.1.2.1 dX19_valueOf_16 hl (by decide) rfl (fun ls hl => ?_)
  exact hh18 fu x17 0 0 M L _ _ ls hD hw (lv_sub hl [3, 4, 2, 1, 0] rfl)

theorem dX19_come_0 : decode cX19_come 0 = .ok (.aload_n 0, 1) := by decide +kernel
theorem dX19_come_1 : decode cX19_come 1 = .ok (.iload_n 1, 1) := by decide +kernel
theorem dX19_come_2 : decode cX19_come 2 = .ok (.iload_n 2, 1) := by decide +kernel
theorem dX19_come_3 : decode cX19_come 3 = .ok (.invokevirtual 699, 3) := by decide +kernel
theorem dX19_come_6 : decode cX19_come 6 = .ok (.ifCond .ne 14, 3) := by decide +kernel
theorem dX19_come_9 : decode cX19_come 9 = .ok (.aload_n 0, 1) := by decide +kernel
theorem dX19_come_10 : decode cX19_come 10 = .ok (.getfield 273, 3) := by decide +kernel
theorem dX19_come_13 : decode cX19_come 13 = .ok (.iconst 1, 1) := by decide +kernel
theorem dX19_come_14 : decode cX19_come 14 = .ok (.dup2, 1) := by decide +kernel
theorem dX19_come_15 : decode cX19_come 15 = .ok (.iaload, 1) := by decide +kernel
theorem dX19_come_16 : decode cX19_come 16 = .ok (.iconst 1, 1) := by decide +kernel
theorem dX19_come_17 : decode cX19_come 17 = .ok (.iadd, 1) := by decide +kernel
theorem dX19_come_18 : decode cX19_come 18 = .ok (.iastore, 1) := by decide +kernel
theorem dX19_come_19 : decode cX19_come 19 = .ok (.return_, 1) := by decide +kernel
theorem dX19_come_20 : decode cX19_come 20 = .ok (.iconst 0, 1) := by decide +kernel
theorem dX19_come_21 : decode cX19_come 21 = .ok (.istore_n 3, 1) := by decide +kernel
theorem dX19_come_22 : decode cX19_come 22 = .ok (.iload_n 3, 1) := by decide +kernel
theorem dX19_come_23 : decode cX19_come 23 = .ok (.aload_n 0, 1) := by decide +kernel
theorem dX19_come_24 : decode cX19_come 24 = .ok (.getfield 558, 3) := by decide +kernel
theorem dX19_come_27 : decode cX19_come 27 = .ok (.if_icmp .ge 61, 3) := by decide +kernel
theorem dX19_come_30 : decode cX19_come 30 = .ok (.aload_n 0, 1) := by decide +kernel
theorem dX19_come_31 : decode cX19_come 31 = .ok (.getfield 141, 3) := by decide +kernel
theorem dX19_come_34 : decode cX19_come 34 = .ok (.iload_n 3, 1) := by decide +kernel
theorem dX19_come_35 : decode cX19_come 35 = .ok (.iaload, 1) := by decide +kernel
theorem dX19_come_36 : decode cX19_come 36 = .ok (.iload_n 1, 1) := by decide +kernel
theorem dX19_come_37 : decode cX19_come 37 = .ok (.if_icmp .ne 45, 3) := by decide +kernel
theorem dX19_come_40 : decode cX19_come 40 = .ok (.aload_n 0, 1) := by decide +kernel
theorem dX19_come_41 : decode cX19_come 41 = .ok (.getfield 113, 3) := by decide +kernel
theorem dX19_come_44 : decode cX19_come 44 = .ok (.aload_n 0, 1) := by decide +kernel
theorem dX19_come_45 : decode cX19_come 45 = .ok (.getfield 138, 3) := by decide +kernel
theorem dX19_come_48 : decode cX19_come 48 = .ok (.iload_n 3, 1) := by decide +kernel
theorem dX19_come_49 : decode cX19_come 49 = .ok (.iaload, 1) := by decide +kernel
theorem dX19_come_50 : decode cX19_come 50 = .ok (.iaload, 1) := by decide +kernel
theorem dX19_come_51 : decode cX19_come 51 = .ok (.iload_n 2, 1) := by decide +kernel
theorem dX19_come_52 : decode cX19_come 52 = .ok (.if_icmp .ne 30, 3) := by decide +kernel
theorem dX19_come_55 : decode cX19_come 55 = .ok (.aload_n 0, 1) := by decide +kernel
theorem dX19_come_56 : decode cX19_come 56 = .ok (.getfield 147, 3) := by decide +kernel
theorem dX19_come_59 : decode cX19_come 59 = .ok (.iload_n 3, 1) := by decide +kernel
theorem dX19_come_60 : decode cX19_come 60 = .ok (.aload_n 0, 1) := by decide +kernel
theorem dX19_come_61 : decode cX19_come 61 = .ok (.getfield 600, 3) := by decide +kernel
theorem dX19_come_64 : decode cX19_come 64 = .ok (.i2l, 1) := by decide +kernel
theorem dX19_come_65 : decode cX19_come 65 = .ok (.lastore, 1) := by decide +kernel
theorem dX19_come_66 : decode cX19_come 66 = .ok (.aload_n 0, 1) := by decide +kernel
theorem dX19_come_67 : decode cX19_come 67 = .ok (.getfield 205, 3) := by decide +kernel
theorem dX19_come_70 : decode cX19_come 70 = .ok (.aload_n 0, 1) := by decide +kernel
theorem dX19_come_71 : decode cX19_come 71 = .ok (.getfield 144, 3) := by decide +kernel
theorem dX19_come_74 : decode cX19_come 74 = .ok (.iload_n 3, 1) := by decide +kernel
theorem dX19_come_75 : decode cX19_come 75 = .ok (.iaload, 1) := by decide +kernel
theorem dX19_come_76 : decode cX19_come 76 = .ok (.iconst 0, 1) := by decide +kernel
theorem dX19_come_77 : decode cX19_come 77 = .ok (.invokevirtual 702, 3) := by decide +kernel
theorem dX19_come_80 : decode cX19_come 80 = .ok (.istore 4, 2) := by decide +kernel
theorem dX19_come_82 : decode cX19_come 82 = .ok (.iinc 3 1, 3) := by decide +kernel
theorem dX19_come_85 : decode cX19_come 85 = .ok (.goto (-63), 3) := by decide +kernel
theorem dX19_come_88 : decode cX19_come 88 = .ok (.iconst 0, 1) := by decide +kernel
theorem dX19_come_89 : decode cX19_come 89 = .ok (.istore_n 3, 1) := by decide +kernel
theorem dX19_come_90 : decode cX19_come 90 = .ok (.iload_n 3, 1) := by decide +kernel
theorem dX19_come_91 : decode cX19_come 91 = .ok (.aload_n 0, 1) := by decide +kernel
theorem dX19_come_92 : decode cX19_come 92 = .ok (.getfield 555, 3) := by decide +kernel
theorem dX19_come_95 : decode cX19_come 95 = .ok (.if_icmp .ge 219, 3) := by decide +kernel
theorem dX19_come_98 : decode cX19_come 98 = .ok (.aload_n 0, 1) := by decide +kernel
theorem dX19_come_99 : decode cX19_come 99 = .ok (.getfield 122, 3) := by decide +kernel
theorem dX19_come_102 : decode cX19_come 102 = .ok (.iload_n 3, 1) := by decide +kernel
theorem dX19_come_103 : decode cX19_come 103 = .ok (.iaload, 1) := by decide +kernel
theorem dX19_come_104 : decode cX19_come 104 = .ok (.istore 4, 2) := by decide +kernel
theorem dX19_come_106 : decode cX19_come 106 = .ok (.aload_n 0, 1) := by decide +kernel
theorem dX19_come_107 : decode cX19_come 107 = .ok (.getfield 37, 3) := by decide +kernel
theorem dX19_come_110 : decode cX19_come 110 = .ok (.aload_n 0, 1) := by decide +kernel
theorem dX19_come_111 : decode cX19_come 111 = .ok (.getfield 58, 3) := by decide +kernel
theorem dX19_come_114 : decode cX19_come 114 = .ok (.iload 4, 2) := by decide +kernel
theorem dX19_come_116 : decode cX19_come 116 = .ok (.iaload, 1) := by decide +kernel
theorem dX19_come_117 : decode cX19_come 117 = .ok (.iaload, 1) := by decide +kernel
theorem dX19_come_118 : decode cX19_come 118 = .ok (.iload_n 1, 1) := by decide +kernel
theorem dX19_come_119 : decode cX19_come 119 = .ok (.if_icmp .ne 189, 3) := by decide +kernel
theorem dX19_come_122 : decode cX19_come 122 = .ok (.aload_n 0, 1) := by decide +kernel
theorem dX19_come_123 : decode cX19_come 123 = .ok (.getfield 113, 3) := by decide +kernel
theorem dX19_come_126 : decode cX19_come 126 = .ok (.aload_n 0, 1) := by decide +kernel
theorem dX19_come_127 : decode cX19_come 127 = .ok (.getfield 119, 3) := by decide +kernel
theorem dX19_come_130 : decode cX19_come 130 = .ok (.iload_n 3, 1) := by decide +kernel
theorem dX19_come_131 : decode cX19_come 131 = .ok (.iaload, 1) := by decide +kernel
theorem dX19_come_132 : decode cX19_come 132 = .ok (.iaload, 1) := by decide +kernel
theorem dX19_come_133 : decode cX19_come 133 = .ok (.iload_n 2, 1) := by decide +kernel
theorem dX19_come_134 : decode cX19_come 134 = .ok (.if_icmp .eq 6, 3) := by decide +kernel
theorem dX19_come_137 : decode cX19_come 137 = .ok (.goto 171, 3) := by decide +kernel
theorem dX19_come_140 : decode cX19_come 140 = .ok (.aload_n 0, 1) := by decide +kernel
theorem dX19_come_141 : decode cX19_come 141 = .ok (.aload_n 0, 1) := by decide +kernel
theorem dX19_come_142 : decode cX19_come 142 = .ok (.getfield 119, 3) := by decide +kernel
theorem dX19_come_145 : decode cX19_come 145 = .ok (.iload_n 3, 1) := by decide +kernel
theorem dX19_come_146 : decode cX19_come 146 = .ok (.iaload, 1) := by decide +kernel
theorem dX19_come_147 : decode cX19_come 147 = .ok (.invokevirtual 706, 3) := by decide +kernel
theorem dX19_come_150 : decode cX19_come 150 = .ok (.lstore 5, 2) := by decide +kernel
theorem dX19_come_152 : decode cX19_come 152 = .ok (.aload_n 0, 1) := by decide +kernel
theorem dX19_come_153 : decode cX19_come 153 = .ok (.getfield 131, 3) := by decide +kernel
theorem dX19_come_156 : decode cX19_come 156 = .ok (.iload_n 3, 1) := by decide +kernel
theorem dX19_come_157 : decode cX19_come 157 = .ok (.baload, 1) := by decide +kernel
theorem dX19_come_158 : decode cX19_come 158 = .ok (.ifCond .eq 15, 3) := by decide +kernel
theorem dX19_come_161 : decode cX19_come 161 = .ok (.aload_n 0, 1) := by decide +kernel
theorem dX19_come_162 : decode cX19_come 162 = .ok (.getfield 134, 3) := by decide +kernel
theorem dX19_come_165 : decode cX19_come 165 = .ok (.iload_n 3, 1) := by decide +kernel
theorem dX19_come_166 : decode cX19_come 166 = .ok (.laload, 1) := by decide +kernel
theorem dX19_come_167 : decode cX19_come 167 = .ok (.lload 5, 2) := by decide +kernel
theorem dX19_come_169 : decode cX19_come 169 = .ok (.lcmp, 1) := by decide +kernel
theorem dX19_come_170 : decode cX19_come 170 = .ok (.ifCond .eq 7, 3) := by decide +kernel
theorem dX19_come_173 : decode cX19_come 173 = .ok (.iconst 1, 1) := by decide +kernel
theorem dX19_come_174 : decode cX19_come 174 = .ok (.goto 4, 3) := by decide +kernel
theorem dX19_come_177 : decode cX19_come 177 = .ok (.iconst 0, 1) := by decide +kernel
theorem dX19_come_178 : decode cX19_come 178 = .ok (.istore 7, 2) := by decide +kernel
theorem dX19_come_180 : decode cX19_come 180 = .ok (.aload_n 0, 1) := by decide +kernel
theorem dX19_come_181 : decode cX19_come 181 = .ok (.getfield 131, 3) := by decide +kernel
theorem dX19_come_184 : decode cX19_come 184 = .ok (.iload_n 3, 1) := by decide +kernel
theorem dX19_come_185 : decode cX19_come 185 = .ok (.iconst 1, 1) := by decide +kernel
theorem dX19_come_186 : decode cX19_come 186 = .ok (.bastore, 1) := by decide +kernel
theorem dX19_come_187 : decode cX19_come 187 = .ok (.aload_n 0, 1) := by decide +kernel
theorem dX19_come_188 : decode cX19_come 188 = .ok (.getfield 134, 3) := by decide +kernel
theorem dX19_come_191 : decode cX19_come 191 = .ok (.iload_n 3, 1) := by decide +kernel
theorem dX19_come_192 : decode cX19_come 192 = .ok (.lload 5, 2) := by decide +kernel
theorem dX19_come_194 : decode cX19_come 194 = .ok (.lastore, 1) := by decide +kernel
theorem dX19_come_195 : decode cX19_come 195 = .ok (.iload 7, 2) := by decide +kernel
theorem dX19_come_197 : decode cX19_come 197 = .ok (.ifCond .ne 6, 3) := by decide +kernel
theorem dX19_come_200 : decode cX19_come 200 = .ok (.goto 108, 3) := by decide +kernel
theorem dX19_come_203 : decode cX19_come 203 = .ok (.aload_n 0, 1) := by decide +kernel
theorem dX19_come_204 : decode cX19_come 204 = .ok (.getfield 217, 3) := by decide +kernel
theorem dX19_come_207 : decode cX19_come 207 = .ok (.iload 4, 2) := by decide +kernel
theorem dX19_come_209 : decode cX19_come 209 = .ok (.aaload, 1) := by decide +kernel
theorem dX19_come_210 : decode cX19_come 210 = .ok (.aload_n 0, 1) := by decide +kernel
theorem dX19_come_211 : decode cX19_come 211 = .ok (.getfield 125, 3) := by decide +kernel
theorem dX19_come_214 : decode cX19_come 214 = .ok (.iload_n 3, 1) := by decide +kernel
theorem dX19_come_215 : decode cX19_come 215 = .ok (.iaload, 1) := by decide +kernel
theorem dX19_come_216 : decode cX19_come 216 = .ok (.lload 5, 2) := by decide +kernel
theorem dX19_come_218 : decode cX19_come 218 = .ok (.invokevirtual 709, 3) := by decide +kernel
theorem dX19_come_221 : decode cX19_come 221 = .ok (.aload_n 0, 1) := by decide +kernel
theorem dX19_come_222 : decode cX19_come 222 = .ok (.getfield 128, 3) := by decide +kernel
theorem dX19_come_225 : decode cX19_come 225 = .ok (.iload_n 3, 1) := by decide +kernel
theorem dX19_come_226 : decode cX19_come 226 = .ok (.iaload, 1) := by decide +kernel
theorem dX19_come_227 : decode cX19_come 227 = .ok (.ifCond .le 25, 3) := by decide +kernel
theorem dX19_come_230 : decode cX19_come 230 = .ok (.aload_n 0, 1) := by decide +kernel
theorem dX19_come_231 : decode cX19_come 231 = .ok (.getfield 67, 3) := by decide +kernel
theorem dX19_come_234 : decode cX19_come 234 = .ok (.iload 4, 2) := by decide +kernel
theorem dX19_come_236 : decode cX19_come 236 = .ok (.iaload, 1) := by decide +kernel
theorem dX19_come_237 : decode cX19_come 237 = .ok (.bipush 16, 2) := by decide +kernel
theorem dX19_come_239 : decode cX19_come 239 = .ok (.if_icmp .ne 13, 3) := by decide +kernel
theorem dX19_come_242 : decode cX19_come 242 = .ok (.aload_n 0, 1) := by decide +kernel
theorem dX19_come_243 : decode cX19_come 243 = .ok (.getfield 273, 3) := by decide +kernel
theorem dX19_come_246 : decode cX19_come 246 = .ok (.iconst 2, 1) := by decide +kernel
theorem dX19_come_247 : decode cX19_come 247 = .ok (.dup2, 1) := by decide +kernel
theorem dX19_come_248 : decode cX19_come 248 = .ok (.iaload, 1) := by decide +kernel
theorem dX19_come_249 : decode cX19_come 249 = .ok (.iconst 1, 1) := by decide +kernel
theorem dX19_come_250 : decode cX19_come 250 = .ok (.iadd, 1) := by decide +kernel
theorem dX19_come_251 : decode cX19_come 251 = .ok (.iastore, 1) := by decide +kernel
theorem dX19_come_252 : decode cX19_come 252 = .ok (.aload_n 0, 1) := by decide +kernel
theorem dX19_come_253 : decode cX19_come 253 = .ok (.getfield 128, 3) := by decide +kernel
theorem dX19_come_256 : decode cX19_come 256 = .ok (.iload_n 3, 1) := by decide +kernel
theorem dX19_come_257 : decode cX19_come 257 = .ok (.iaload, 1) := by decide +kernel
theorem dX19_come_258 : decode cX19_come 258 = .ok (.ifCond .le 50, 3) := by decide +kernel
theorem dX19_come_261 : decode cX19_come 261 = .ok (.aload_n 0, 1) := by decide +kernel
theorem dX19_come_262 : decode cX19_come 262 = .ok (.getfield 67, 3) := by decide +kernel
theorem dX19_come_265 : decode cX19_come 265 = .ok (.iload 4, 2) := by decide +kernel
theorem dX19_come_267 : decode cX19_come 267 = .ok (.iaload, 1) := by decide +kernel
theorem dX19_come_268 : decode cX19_come 268 = .ok (.bipush 16, 2) := by decide +kernel
theorem dX19_come_270 : decode cX19_come 270 = .ok (.if_icmp .ge 38, 3) := by decide +kernel
theorem dX19_come_273 : decode cX19_come 273 = .ok (.aload_n 0, 1) := by decide +kernel
theorem dX19_come_274 : decode cX19_come 274 = .ok (.getfield 70, 3) := by decide +kernel
theorem dX19_come_277 : decode cX19_come 277 = .ok (.bipush 16, 2) := by decide +kernel
theorem dX19_come_279 : decode cX19_come 279 = .ok (.iload 4, 2) := by decide +kernel
theorem dX19_come_281 : decode cX19_come 281 = .ok (.imul, 1) := by decide +kernel
theorem dX19_come_282 : decode cX19_come 282 = .ok (.aload_n 0, 1) := by decide +kernel
theorem dX19_come_283 : decode cX19_come 283 = .ok (.getfield 67, 3) := by decide +kernel
theorem dX19_come_286 : decode cX19_come 286 = .ok (.iload 4, 2) := by decide +kernel
theorem dX19_come_288 : decode cX19_come 288 = .ok (.iaload, 1) := by decide +kernel
theorem dX19_come_289 : decode cX19_come 289 = .ok (.iadd, 1) := by decide +kernel
theorem dX19_come_290 : decode cX19_come 290 = .ok (.aload_n 0, 1) := by decide +kernel
theorem dX19_come_291 : decode cX19_come 291 = .ok (.getfield 128, 3) := by decide +kernel
theorem dX19_come_294 : decode cX19_come 294 = .ok (.iload_n 3, 1) := by decide +kernel
theorem dX19_come_295 : decode cX19_come 295 = .ok (.iaload, 1) := by decide +kernel
theorem dX19_come_296 : decode cX19_come 296 = .ok (.iastore, 1) := by decide +kernel
theorem dX19_come_297 : decode cX19_come 297 = .ok (.aload_n 0, 1) := by decide +kernel
theorem dX19_come_298 : decode cX19_come 298 = .ok (.getfield 67, 3) := by decide +kernel
theorem dX19_come_301 : decode cX19_come 301 = .ok (.iload 4, 2) := by decide +kernel
theorem dX19_come_303 : decode cX19_come 303 = .ok (.dup2, 1) := by decide +kernel
theorem dX19_come_304 : decode cX19_come 304 = .ok (.iaload, 1) := by decide +kernel
theorem dX19_come_305 : decode cX19_come 305 = .ok (.iconst 1, 1) := by decide +kernel
theorem dX19_come_306 : decode cX19_come 306 = .ok (.iadd, 1) := by decide +kernel
theorem dX19_come_307 : decode cX19_come 307 = .ok (.iastore, 1) := by decide +kernel
theorem dX19_come_308 : decode cX19_come 308 = .ok (.iinc 3 1, 3) := by decide +kernel
theorem dX19_come_311 : decode cX19_come 311 = .ok (.goto (-221), 3) := by decide +kernel
theorem dX19_come_314 : decode cX19_come 314 = .ok (.return_, 1) := by decide +kernel
theorem cwX19_come : mw_cwV yX19_come cX19_come 8 (none) 2 := ⟨⟨wd_13, wd_3873, by decide +kernel⟩, wd_3872, sl_279⟩
noncomputable def fX19_come_b308 (fu : Nat) (a1 : Int32) (a2 : Int32) (r90 : (Int32 × mwM × mwL) → Option (mwM × mwL)) (v3 : Int32) (M : mwM) (L : mwL) : Option (mwM × mwL) :=
  mlet (v3 + 1) (fun x58 => r90 (x58, M, L))
noncomputable def fX19_come_b252 (fu : Nat) (a1 : Int32) (a2 : Int32) (r90 : (Int32 × mwM × mwL) → Option (mwM × mwL)) (v3 : Int32) (v4 : Int32) (M : mwM) (L : mwL) : Option (mwM × mwL) :=
  mck v3 60 ((if (M 772 v3.toNatClampNeg) ≤ 0 then fX19_come_b308 fu a1 a2 r90 v3 M L else mck v4 12 ((if 16 ≤ (M 752 v4.toNatClampNeg) then fX19_come_b308 fu a1 a2 r90 v3 M L else mck v4 12 (mck v3 60 (mck ((16 * v4) + (M 752 v4.toNatClampNeg)) 192 (mlet (mset M 753 (((16 * v4) + (M 752 v4.toNatClampNeg)).toNatClampNeg) (M 772 v3.toNatClampNeg)) (fun M54 => mck v4 12 (mck v4 12 (mlet (mset M54 752 (v4.toNatClampNeg) ((M54 752 v4.toNatClampNeg) + 1)) (fun M57 => fX19_come_b308 fu a1 a2 r90 v3 M57 L)))))))))))
noncomputable def fX19_come_b178 (fu : Nat) (a1 : Int32) (a2 : Int32) (r90 : (Int32 × mwM × mwL) → Option (mwM × mwL)) (v3 : Int32) (v4 : Int32) (v5 : Int64) (s0 : Int32) (M : mwM) (L : mwL) : Option (mwM × mwL) :=
  mck v3 60 (mlet (mset M 773 (v3.toNatClampNeg) (vp_nar .boolean 1)) (fun M32 => mck v3 60 (mlet (mset L 774 (v3.toNatClampNeg) v5) (fun L34 => (if s0 = 0 then fX19_come_b308 fu a1 a2 r90 v3 M32 L34 else mck v4 12 (mck v3 60 (mb2 (DX13_put fu ((964 + 53 * v4.toNatClampNeg)) (M32 771 v3.toNatClampNeg) v5 M32 L34) (fun M38 L39 => mck v3 60 ((if (M38 772 v3.toNatClampNeg) ≤ 0 then fX19_come_b252 fu a1 a2 r90 v3 v4 M38 L39 else mck v4 12 ((if (M38 752 v4.toNatClampNeg) = 16 then mlet (mset M38 939 ((2 : Int32).toNatClampNeg) ((M38 939 (2 : Int32).toNatClampNeg) + 1)) (fun M46 => fX19_come_b252 fu a1 a2 r90 v3 v4 M46 L39) else fX19_come_b252 fu a1 a2 r90 v3 v4 M38 L39))))))))))))
noncomputable def fX19_come_b173 (fu : Nat) (a1 : Int32) (a2 : Int32) (r90 : (Int32 × mwM × mwL) → Option (mwM × mwL)) (v3 : Int32) (v4 : Int32) (v5 : Int64) (M : mwM) (L : mwL) : Option (mwM × mwL) :=
  fX19_come_b178 fu a1 a2 r90 v3 v4 v5 1 M L
noncomputable def fX19_come_i90 (fu : Nat) (a1 : Int32) (a2 : Int32) (r90 : (Int32 × mwM × mwL) → Option (mwM × mwL)) (v3 : Int32) (M : mwM) (L : mwL) : Option (mwM × mwL) :=
  (if (M 732 55) ≤ v3 then some (M, L) else mck v3 60 (mlet (M 770 v3.toNatClampNeg) (fun x16 => mck x16 12 (mck (M 749 x16.toNatClampNeg) 12 ((if (M 742 (M 749 x16.toNatClampNeg).toNatClampNeg) = a1 then mck v3 60 (mck (M 769 v3.toNatClampNeg) 40 ((if (M 767 (M 769 v3.toNatClampNeg).toNatClampNeg) = a2 then mck v3 60 (mb3 (DX19_valueOf fu (M 769 v3.toNatClampNeg) M L) (fun r26 M24 L25 => mck v3 60 ((if (M24 773 v3.toNatClampNeg) = 0 then fX19_come_b173 fu a1 a2 r90 v3 x16 r26 M24 L25 else mck v3 60 ((if (lg_cmp (L25 774 v3.toNatClampNeg) r26) = 0 then fX19_come_b178 fu a1 a2 r90 v3 x16 r26 0 M24 L25 else fX19_come_b173 fu a1 a2 r90 v3 x16 r26 M24 L25)))))) else fX19_come_b308 fu a1 a2 r90 v3 M L))) else fX19_come_b308 fu a1 a2 r90 v3 M L))))))
noncomputable def fX19_come_h90 (fu : Nat) (a1 : Int32) (a2 : Int32) : Nat → (Int32 × mwM × mwL) → Option (mwM × mwL) := mloop (fun r90 s => fX19_come_i90 fu a1 a2 r90 s.1 s.2.1 s.2.2)
noncomputable def fX19_come_b82 (fu : Nat) (a1 : Int32) (a2 : Int32) (r22 : (Int32 × mwM × mwL) → Option (mwM × mwL)) (v3 : Int32) (M : mwM) (L : mwL) : Option (mwM × mwL) :=
  mlet (v3 + 1) (fun x13 => r22 (x13, M, L))
noncomputable def fX19_come_i22 (fu : Nat) (a1 : Int32) (a2 : Int32) (r22 : (Int32 × mwM × mwL) → Option (mwM × mwL)) (v3 : Int32) (M : mwM) (L : mwL) : Option (mwM × mwL) :=
  (if (M 732 62) ≤ v3 then fX19_come_h90 fu a1 a2 fu (0, M, L) else mck v3 30 ((if (M 776 v3.toNatClampNeg) = a1 then mck v3 30 (mck (M 775 v3.toNatClampNeg) 40 ((if (M 767 (M 775 v3.toNatClampNeg).toNatClampNeg) = a2 then mck v3 30 (mlet (mset L 778 (v3.toNatClampNeg) ((M 732 83).toInt64)) (fun L8 => mck v3 30 (mb3 (DX18_event fu (M 777 v3.toNatClampNeg) 0 M L8) (fun r12 M10 L11 => fX19_come_b82 fu a1 a2 r22 v3 M10 L11)))) else fX19_come_b82 fu a1 a2 r22 v3 M L))) else fX19_come_b82 fu a1 a2 r22 v3 M L)))
noncomputable def fX19_come_h22 (fu : Nat) (a1 : Int32) (a2 : Int32) : Nat → (Int32 × mwM × mwL) → Option (mwM × mwL) := mloop (fun r22 s => fX19_come_i22 fu a1 a2 r22 s.1 s.2.1 s.2.2)
noncomputable def DX19_come (fu : Nat) (a1 : Int32) (a2 : Int32) (M : mwM) (L : mwL) : Option (mwM × mwL) :=
  mb3 (DX19_right fu a1 a2 M L) (fun r61 M59 L60 => (if r61 = 0 then mlet (mset M59 939 ((1 : Int32).toNatClampNeg) ((M59 939 (1 : Int32).toNatClampNeg) + 1)) (fun M65 => some (M65, L60)) else fX19_come_h22 fu a1 a2 fu (0, M59, L60)))
set_option maxHeartbeats 4000000 in
set_option maxRecDepth 100000 in
theorem tX19_come (l : Launch) (G : mwG) (ad : Nat → Nat) (fu : Nat) (a1 : Int32) (a2 : Int32) (M : mwM) (L : mwL) {M0 : mwM} {L0 : mwL} (hD : DX19_come fu a1 a2 M L = some (M0, L0)) : Met l yX19_come (Cond.code yX19_come cX19_come 8 (none) :: GT) ({ frames := 7, cells := 0, slots := 0, locals := 177 }) (mw_Pre G ad NF TF FF M L [.ref (ad 732), .int a1, .int a2]) (mw_Qv G ad NF TF FF (mw_eqV M0 L0)) 0 0 (mw_fr G) := by
  refine mw_enter (by decide) (Nat.le_of_ble_eq_true rfl) ?_
  intro p e s m below meth c ls C hr hlocks hnm hw hl
  have hl : lv_has ls 8 [(0, .ref (ad 732)), (1, .int a1), (2, .int a2)] := hl
  have hh90 : ∀ (f : Nat) (v3 : Int32) (M : mwM) (L : mwL) (H : Heap) (locs : List Loc) (ls : Array Slot), fX19_come_h90 fu a1 a2 f (v3, M, L) = some (M0, L0) → mw_W G ad NF TF FF M L H locs → lv_has ls 8 [(0, .ref (ad 732)), (1, .int a1), (2, .int a2), (3, .int v3)] → W p l e ({ frames := 7, cells := 0, slots := 0, locals := 177 }) s m [.ref (ad 732), .int a1, .int a2].toArray below meth c H locs 0 0 (MQ below (mw_Qv G ad NF TF FF (mw_eqV M0 L0)) [.ref (ad 732), .int a1, .int a2].toArray s 0 0 (mw_fr G)) (F0 m 90 ls []) := by
    intro f
    induction f with
    | zero => intro v3 M L H locs ls hD; cases hD
    | succ f90 ih90 =>
      intro v3 M L H locs ls hD hw hl
      replace hD : fX19_come_i90 fu a1 a2 (fX19_come_h90 fu a1 a2 f90) v3 M L = some (M0, L0) := hD
      have hb308 : ∀ (v3 : Int32) (M : mwM) (L : mwL) (H : Heap) (locs : List Loc) (ls : Array Slot), fX19_come_b308 fu a1 a2 (fX19_come_h90 fu a1 a2 f90) v3 M L = some (M0, L0) → mw_W G ad NF TF FF M L H locs → lv_has ls 8 [(0, .ref (ad 732)), (1, .int a1), (2, .int a2), (3, .int v3)] → W p l e ({ frames := 7, cells := 0, slots := 0, locals := 177 }) s m [.ref (ad 732), .int a1, .int a2].toArray below meth c H locs 0 0 (MQ below (mw_Qv G ad NF TF FF (mw_eqV M0 L0)) [.ref (ad 732), .int a1, .int a2].toArray s 0 0 (mw_fr G)) (F0 m 308 ls []) := by
        intro v3 M L H locs ls hD hw hl
        unfold fX19_come_b308 at hD
        obtain ⟨x58, ex58, hD⟩ := g_let hD
        refine lv_iinc (v := x58) (lv' := [(3, .int x58), (0, .ref (ad 732)), (1, .int a1), (2, .int a2)]) C.1.1 C.1.2.1 dX19_come_308 hl (k := 3) rfl (by rw [ex58]; rfl) (by decide) rfl (fun ls hl => ?_)
        refine lv_goto (tgt := 90) C.1.1 C.1.2.1 dX19_come_311 (by decide) ?_
        exact ih90 x58 M L _ _ ls hD hw (lv_sub hl [1, 2, 3, 0] rfl)
      have hb252 : ∀ (v3 : Int32) (v4 : Int32) (M : mwM) (L : mwL) (H : Heap) (locs : List Loc) (ls : Array Slot), fX19_come_b252 fu a1 a2 (fX19_come_h90 fu a1 a2 f90) v3 v4 M L = some (M0, L0) → mw_W G ad NF TF FF M L H locs → lv_has ls 8 [(0, .ref (ad 732)), (1, .int a1), (2, .int a2), (3, .int v3), (4, .int v4)] → W p l e ({ frames := 7, cells := 0, slots := 0, locals := 177 }) s m [.ref (ad 732), .int a1, .int a2].toArray below meth c H locs 0 0 (MQ below (mw_Qv G ad NF TF FF (mw_eqV M0 L0)) [.ref (ad 732), .int a1, .int a2].toArray s 0 0 (mw_fr G)) (F0 m 252 ls []) := by
        intro v3 v4 M L H locs ls hD hw hl
        unfold fX19_come_b252 at hD
        refine lv_aload_n C.1.1 C.1.2.1 dX19_come_252 rfl (lv_at hl 0 rfl) ?_
        refine mr_getR C hw kc_19 59 (by decide) tf_732 ff_732_59 wd_2840 dX19_come_253 (by decide) rfl ?_
        refine lv_iload_n C.1.1 C.1.2.1 dX19_come_256 rfl (lv_at hl 3 rfl) ?_
        obtain ⟨q47, hD⟩ := g_ck hD
        refine mr_iald C hw (by decide) tf_772 q47 dX19_come_257 ?_
        refine lv_if_le (tgt := 308) C.1.1 C.1.2.1 dX19_come_258 (by decide) (fun c48 => ?_) (fun c48 => ?_)
        · replace hD := g_pos c48 hD
          exact hb308 v3 M L _ _ ls hD hw (lv_sub hl [0, 1, 2, 3] rfl)
        · replace hD := g_neg c48 hD
          refine lv_aload_n C.1.1 C.1.2.1 dX19_come_261 rfl (lv_at hl 0 rfl) ?_
          refine mr_getR C hw kc_19 37 (by decide) tf_732 ff_732_37 wd_2818 dX19_come_262 (by decide) rfl ?_
          refine lv_iload C.1.1 C.1.2.1 dX19_come_265 (lv_at hl 4 rfl) ?_
          obtain ⟨q49, hD⟩ := g_ck hD
          refine mr_iald C hw (by decide) tf_752 q49 dX19_come_267 ?_
          refine lv_bipush (v := 16) C.1.1 C.1.2.1 dX19_come_268 (by decide) ?_
          refine lv_icmp_ge (tgt := 308) C.1.1 C.1.2.1 dX19_come_270 (by decide) (fun c50 => ?_) (fun c50 => ?_)
          · replace hD := g_pos c50 hD
            exact hb308 v3 M L _ _ ls hD hw (lv_sub hl [0, 1, 2, 3] rfl)
          · replace hD := g_neg c50 hD
            refine lv_aload_n C.1.1 C.1.2.1 dX19_come_273 rfl (lv_at hl 0 rfl) ?_
            refine mr_getR C hw kc_19 38 (by decide) tf_732 ff_732_38 wd_2819 dX19_come_274 (by decide) rfl ?_
            refine lv_bipush (v := 16) C.1.1 C.1.2.1 dX19_come_277 (by decide) ?_
            refine lv_iload C.1.1 C.1.2.1 dX19_come_279 (lv_at hl 4 rfl) ?_
            refine lv_imul C.1.1 C.1.2.1 dX19_come_281 ?_
            refine lv_aload_n C.1.1 C.1.2.1 dX19_come_282 rfl (lv_at hl 0 rfl) ?_
            refine mr_getR C hw kc_19 37 (by decide) tf_732 ff_732_37 wd_2818 dX19_come_283 (by decide) rfl ?_
            refine lv_iload C.1.1 C.1.2.1 dX19_come_286 (lv_at hl 4 rfl) ?_
            obtain ⟨q51, hD⟩ := g_ck hD
            refine mr_iald C hw (by decide) tf_752 q51 dX19_come_288 ?_
            refine lv_iadd C.1.1 C.1.2.1 dX19_come_289 ?_
            refine lv_aload_n C.1.1 C.1.2.1 dX19_come_290 rfl (lv_at hl 0 rfl) ?_
            refine mr_getR C hw kc_19 59 (by decide) tf_732 ff_732_59 wd_2840 dX19_come_291 (by decide) rfl ?_
            refine lv_iload_n C.1.1 C.1.2.1 dX19_come_294 rfl (lv_at hl 3 rfl) ?_
            obtain ⟨q52, hD⟩ := g_ck hD
            refine mr_iald C hw (by decide) tf_772 q52 dX19_come_295 ?_
            obtain ⟨q53, hD⟩ := g_ck hD
            obtain ⟨M54, eM54, hD⟩ := g_let hD
            refine mr_iast C hw (by decide) tf_753 q53 dX19_come_296 (fun H locs hw => ?_)
            replace hw : mw_W G ad NF TF FF M54 L H locs := by rw [eM54]; exact hw
            refine lv_aload_n C.1.1 C.1.2.1 dX19_come_297 rfl (lv_at hl 0 rfl) ?_
            refine mr_getR C hw kc_19 37 (by decide) tf_732 ff_732_37 wd_2818 dX19_come_298 (by decide) rfl ?_
            refine lv_iload C.1.1 C.1.2.1 dX19_come_301 (lv_at hl 4 rfl) ?_
            refine lv_dup2_11 C.1.1 C.1.2.1 dX19_come_303 rfl rfl ?_
            obtain ⟨q55, hD⟩ := g_ck hD
            refine mr_iald C hw (by decide) tf_752 q55 dX19_come_304 ?_
            refine lv_iconst (v := 1) C.1.1 C.1.2.1 dX19_come_305 (by decide) ?_
            refine lv_iadd C.1.1 C.1.2.1 dX19_come_306 ?_
            obtain ⟨q56, hD⟩ := g_ck hD
            obtain ⟨M57, eM57, hD⟩ := g_let hD
            refine mr_iast C hw (by decide) tf_752 q56 dX19_come_307 (fun H locs hw => ?_)
            replace hw : mw_W G ad NF TF FF M57 L H locs := by rw [eM57]; exact hw
            exact hb308 v3 M57 L _ _ ls hD hw (lv_sub hl [0, 1, 2, 3] rfl)
      have hb178 : ∀ (v3 : Int32) (v4 : Int32) (v5 : Int64) (s0 : Int32) (M : mwM) (L : mwL) (H : Heap) (locs : List Loc) (ls : Array Slot), fX19_come_b178 fu a1 a2 (fX19_come_h90 fu a1 a2 f90) v3 v4 v5 s0 M L = some (M0, L0) → mw_W G ad NF TF FF M L H locs → lv_has ls 8 [(0, .ref (ad 732)), (1, .int a1), (2, .int a2), (3, .int v3), (4, .int v4), (5, .long v5)] → W p l e ({ frames := 7, cells := 0, slots := 0, locals := 177 }) s m [.ref (ad 732), .int a1, .int a2].toArray below meth c H locs 0 0 (MQ below (mw_Qv G ad NF TF FF (mw_eqV M0 L0)) [.ref (ad 732), .int a1, .int a2].toArray s 0 0 (mw_fr G)) (F0 m 178 ls [.int s0]) := by
        intro v3 v4 v5 s0 M L H locs ls hD hw hl
        unfold fX19_come_b178 at hD
        refine lv_istore (lv' := [(7, .int s0), (0, .ref (ad 732)), (1, .int a1), (2, .int a2), (3, .int v3), (4, .int v4), (5, .long v5)]) C.1.1 C.1.2.1 dX19_come_178 hl (by decide) rfl (fun ls hl => ?_)
        refine lv_aload_n C.1.1 C.1.2.1 dX19_come_180 rfl (lv_at hl 1 rfl) ?_
        refine mr_getR C hw kc_19 60 (by decide) tf_732 ff_732_60 wd_2841 dX19_come_181 (by decide) rfl ?_
        refine lv_iload_n C.1.1 C.1.2.1 dX19_come_184 rfl (lv_at hl 4 rfl) ?_
        refine lv_iconst (v := 1) C.1.1 C.1.2.1 dX19_come_185 (by decide) ?_
        obtain ⟨q31, hD⟩ := g_ck hD
        obtain ⟨M32, eM32, hD⟩ := g_let hD
        refine mr_zast C hw (by decide) tf_773 q31 dX19_come_186 (fun H locs hw => ?_)
        replace hw : mw_W G ad NF TF FF M32 L H locs := by rw [eM32]; exact hw
        refine lv_aload_n C.1.1 C.1.2.1 dX19_come_187 rfl (lv_at hl 1 rfl) ?_
        refine mr_getR C hw kc_19 61 (by decide) tf_732 ff_732_61 wd_2842 dX19_come_188 (by decide) rfl ?_
        refine lv_iload_n C.1.1 C.1.2.1 dX19_come_191 rfl (lv_at hl 4 rfl) ?_
        refine lv_lload C.1.1 C.1.2.1 dX19_come_192 (lv_at hl 6 rfl) ?_
        obtain ⟨q33, hD⟩ := g_ck hD
        obtain ⟨L34, eL34, hD⟩ := g_let hD
        refine mr_last C hw (by decide) tf_774 q33 dX19_come_194 (fun H locs hw => ?_)
        replace hw : mw_W G ad NF TF FF M32 L34 H locs := by rw [eL34]; exact hw
        refine lv_iload C.1.1 C.1.2.1 dX19_come_195 (lv_at hl 0 rfl) ?_
        refine lv_if_ne (tgt := 203) C.1.1 C.1.2.1 dX19_come_197 (by decide) (fun c35 => ?_) (fun c35 => ?_)
        · replace hD := g_neg c35 hD
          refine lv_aload_n C.1.1 C.1.2.1 dX19_come_203 rfl (lv_at hl 1 rfl) ?_
          refine mr_getR C hw kc_19 82 (by decide) tf_732 ff_732_82 wd_2863 dX19_come_204 (by decide) rfl ?_
          refine lv_iload C.1.1 C.1.2.1 dX19_come_207 (lv_at hl 5 rfl) ?_
          obtain ⟨q36, hD⟩ := g_ck hD
          refine mr_aald C hw (by decide) tf_922 (by decide) (by decide) rfl rfl q36 (fr_922 _ (g_lt q36)) dX19_come_209 ?_
          refine lv_aload_n C.1.1 C.1.2.1 dX19_come_210 rfl (lv_at hl 1 rfl) ?_
          refine mr_getR C hw kc_19 58 (by decide) tf_732 ff_732_58 wd_2839 dX19_come_211 (by decide) rfl ?_
          refine lv_iload_n C.1.1 C.1.2.1 dX19_come_214 rfl (lv_at hl 4 rfl) ?_
          obtain ⟨q37, hD⟩ := g_ck hD
          refine mr_iald C hw (by decide) tf_771 q37 dX19_come_215 ?_
          refine lv_lload C.1.1 C.1.2.1 dX19_come_216 (lv_at hl 6 rfl) ?_
          obtain ⟨M38, L39, h1, hD⟩ := g_b2 hD
          refine md_cvV (As := [.int (M32 771 v3.toNatClampNeg), .long v5]) (rest := []) C hw (tX13_put l G ad fu ((964 + 53 * v4.toNatClampNeg)) (M32 771 v3.toNatClampNeg) v5 M32 L34 h1 (isMc_of (g_lt q36))) kc_13 (Mc_N0 (isMc_of (g_lt q36))) (Mc_T0 (isMc_of (g_lt q36))) wd_3924 cwX13_put ⟨Nat.le_of_ble_eq_true rfl, Nat.le_of_ble_eq_true rfl⟩ rfl hl.1 (Nat.le_of_ble_eq_true rfl) dX19_come_218 rfl rfl ⟨Nat.zero_le _, Nat.zero_le _⟩ rfl (fun H locs hw => ?_)
          refine lv_aload_n C.1.1 C.1.2.1 dX19_come_221 rfl (lv_at hl 1 rfl) ?_
          refine mr_getR C hw kc_19 59 (by decide) tf_732 ff_732_59 wd_2840 dX19_come_222 (by decide) rfl ?_
          refine lv_iload_n C.1.1 C.1.2.1 dX19_come_225 rfl (lv_at hl 4 rfl) ?_
          obtain ⟨q40, hD⟩ := g_ck hD
          refine mr_iald C hw (by decide) tf_772 q40 dX19_come_226 ?_
          refine lv_if_le (tgt := 252) C.1.1 C.1.2.1 dX19_come_227 (by decide) (fun c41 => ?_) (fun c41 => ?_)
          · replace hD := g_pos c41 hD
            exact hb252 v3 v4 M38 L39 _ _ ls hD hw (lv_sub hl [1, 2, 3, 4, 5] rfl)
          · replace hD := g_neg c41 hD
            refine lv_aload_n C.1.1 C.1.2.1 dX19_come_230 rfl (lv_at hl 1 rfl) ?_
            refine mr_getR C hw kc_19 37 (by decide) tf_732 ff_732_37 wd_2818 dX19_come_231 (by decide) rfl ?_
            refine lv_iload C.1.1 C.1.2.1 dX19_come_234 (lv_at hl 5 rfl) ?_
            obtain ⟨q42, hD⟩ := g_ck hD
            refine mr_iald C hw (by decide) tf_752 q42 dX19_come_236 ?_
            refine lv_bipush (v := 16) C.1.1 C.1.2.1 dX19_come_237 (by decide) ?_
            refine lv_icmp_ne (tgt := 252) C.1.1 C.1.2.1 dX19_come_239 (by decide) (fun c43 => ?_) (fun c43 => ?_)
            · replace hD := g_neg c43 hD
              exact hb252 v3 v4 M38 L39 _ _ ls hD hw (lv_sub hl [1, 2, 3, 4, 5] rfl)
            · replace hD := g_pos c43 hD
              refine lv_aload_n C.1.1 C.1.2.1 dX19_come_242 rfl (lv_at hl 1 rfl) ?_
              refine mr_getR C hw kc_19 109 (by decide) tf_732 ff_732_109 wd_2890 dX19_come_243 (by decide) rfl ?_
              refine lv_iconst (v := 2) C.1.1 C.1.2.1 dX19_come_246 (by decide) ?_
              refine lv_dup2_11 C.1.1 C.1.2.1 dX19_come_247 rfl rfl ?_
              refine mr_iald C hw (by decide) tf_939 (show vp_in 2 5 from by unfold vp_in; decide) dX19_come_248 ?_
              refine lv_iconst (v := 1) C.1.1 C.1.2.1 dX19_come_249 (by decide) ?_
              refine lv_iadd C.1.1 C.1.2.1 dX19_come_250 ?_
              obtain ⟨M46, eM46, hD⟩ := g_let hD
              refine mr_iast C hw (by decide) tf_939 (show vp_in 2 5 from by unfold vp_in; decide) dX19_come_251 (fun H locs hw => ?_)
              replace hw : mw_W G ad NF TF FF M46 L39 H locs := by rw [eM46]; exact hw
              exact hb252 v3 v4 M46 L39 _ _ ls hD hw (lv_sub hl [1, 2, 3, 4, 5] rfl)
        · replace hD := g_pos c35 hD
          refine lv_goto (tgt := 308) C.1.1 C.1.2.1 dX19_come_200 (by decide) ?_
          exact hb308 v3 M32 L34 _ _ ls hD hw (lv_sub hl [1, 2, 3, 4] rfl)
      have hb173 : ∀ (v3 : Int32) (v4 : Int32) (v5 : Int64) (M : mwM) (L : mwL) (H : Heap) (locs : List Loc) (ls : Array Slot), fX19_come_b173 fu a1 a2 (fX19_come_h90 fu a1 a2 f90) v3 v4 v5 M L = some (M0, L0) → mw_W G ad NF TF FF M L H locs → lv_has ls 8 [(0, .ref (ad 732)), (1, .int a1), (2, .int a2), (3, .int v3), (4, .int v4), (5, .long v5)] → W p l e ({ frames := 7, cells := 0, slots := 0, locals := 177 }) s m [.ref (ad 732), .int a1, .int a2].toArray below meth c H locs 0 0 (MQ below (mw_Qv G ad NF TF FF (mw_eqV M0 L0)) [.ref (ad 732), .int a1, .int a2].toArray s 0 0 (mw_fr G)) (F0 m 173 ls []) := by
        intro v3 v4 v5 M L H locs ls hD hw hl
        unfold fX19_come_b173 at hD
        refine lv_iconst (v := 1) C.1.1 C.1.2.1 dX19_come_173 (by decide) ?_
        refine lv_goto (tgt := 178) C.1.1 C.1.2.1 dX19_come_174 (by decide) ?_
        exact hb178 v3 v4 v5 1 M L _ _ ls hD hw (lv_sub hl [0, 1, 2, 3, 4, 5] rfl)
      unfold fX19_come_i90 at hD
      refine lv_iload_n C.1.1 C.1.2.1 dX19_come_90 rfl (lv_at hl 3 rfl) ?_
      refine lv_aload_n C.1.1 C.1.2.1 dX19_come_91 rfl (lv_at hl 0 rfl) ?_
      refine mr_getI C hw kc_19 55 (by decide) tf_732 wd_2836 dX19_come_92 (by decide) rfl ?_
      refine lv_icmp_ge (tgt := 314) C.1.1 C.1.2.1 dX19_come_95 (by decide) (fun c14 => ?_) (fun c14 => ?_)
      · replace hD := g_pos c14 hD
        exact mr_vret C hr hlocks hw (Option.some.inj hD) dX19_come_314
      · replace hD := g_neg c14 hD
        refine lv_aload_n C.1.1 C.1.2.1 dX19_come_98 rfl (lv_at hl 0 rfl) ?_
        refine mr_getR C hw kc_19 57 (by decide) tf_732 ff_732_57 wd_2838 dX19_come_99 (by decide) rfl ?_
        refine lv_iload_n C.1.1 C.1.2.1 dX19_come_102 rfl (lv_at hl 3 rfl) ?_
        obtain ⟨q15, hD⟩ := g_ck hD
        refine mr_iald C hw (by decide) tf_770 q15 dX19_come_103 ?_
        obtain ⟨x16, ex16, hD⟩ := g_let hD
        refine W.eq (g2 := F0 m 104 ls (.int x16 :: [])) (by rw [ex16]) ?_
        refine lv_istore (lv' := [(4, .int x16), (0, .ref (ad 732)), (1, .int a1), (2, .int a2), (3, .int v3)]) C.1.1 C.1.2.1 dX19_come_104 hl (by decide) rfl (fun ls hl => ?_)
        refine lv_aload_n C.1.1 C.1.2.1 dX19_come_106 rfl (lv_at hl 1 rfl) ?_
        refine mr_getR C hw kc_19 26 (by decide) tf_732 ff_732_26 wd_2807 dX19_come_107 (by decide) rfl ?_
        refine lv_aload_n C.1.1 C.1.2.1 dX19_come_110 rfl (lv_at hl 1 rfl) ?_
        refine mr_getR C hw kc_19 34 (by decide) tf_732 ff_732_34 wd_2815 dX19_come_111 (by decide) rfl ?_
        refine lv_iload C.1.1 C.1.2.1 dX19_come_114 (lv_at hl 0 rfl) ?_
        obtain ⟨q17, hD⟩ := g_ck hD
        refine mr_iald C hw (by decide) tf_749 q17 dX19_come_116 ?_
        obtain ⟨q18, hD⟩ := g_ck hD
        refine mr_iald C hw (by decide) tf_742 q18 dX19_come_117 ?_
        refine lv_iload_n C.1.1 C.1.2.1 dX19_come_118 rfl (lv_at hl 2 rfl) ?_
        refine lv_icmp_ne (tgt := 308) C.1.1 C.1.2.1 dX19_come_119 (by decide) (fun c19 => ?_) (fun c19 => ?_)
        · replace hD := g_neg c19 hD
          exact hb308 v3 M L _ _ ls hD hw (lv_sub hl [1, 2, 3, 4] rfl)
        · replace hD := g_pos c19 hD
          refine lv_aload_n C.1.1 C.1.2.1 dX19_come_122 rfl (lv_at hl 1 rfl) ?_
          refine mr_getR C hw kc_19 53 (by decide) tf_732 ff_732_53 wd_2834 dX19_come_123 (by decide) rfl ?_
          refine lv_aload_n C.1.1 C.1.2.1 dX19_come_126 rfl (lv_at hl 1 rfl) ?_
          refine mr_getR C hw kc_19 56 (by decide) tf_732 ff_732_56 wd_2837 dX19_come_127 (by decide) rfl ?_
          refine lv_iload_n C.1.1 C.1.2.1 dX19_come_130 rfl (lv_at hl 4 rfl) ?_
          obtain ⟨q20, hD⟩ := g_ck hD
          refine mr_iald C hw (by decide) tf_769 q20 dX19_come_131 ?_
          obtain ⟨q21, hD⟩ := g_ck hD
          refine mr_iald C hw (by decide) tf_767 q21 dX19_come_132 ?_
          refine lv_iload_n C.1.1 C.1.2.1 dX19_come_133 rfl (lv_at hl 3 rfl) ?_
          refine lv_icmp_eq (tgt := 140) C.1.1 C.1.2.1 dX19_come_134 (by decide) (fun c22 => ?_) (fun c22 => ?_)
          · replace hD := g_pos c22 hD
            refine lv_aload_n C.1.1 C.1.2.1 dX19_come_140 rfl (lv_at hl 1 rfl) ?_
            refine lv_aload_n C.1.1 C.1.2.1 dX19_come_141 rfl (lv_at hl 1 rfl) ?_
            refine mr_getR C hw kc_19 56 (by decide) tf_732 ff_732_56 wd_2837 dX19_come_142 (by decide) rfl ?_
            refine lv_iload_n C.1.1 C.1.2.1 dX19_come_145 rfl (lv_at hl 4 rfl) ?_
            obtain ⟨q23, hD⟩ := g_ck hD
            refine mr_iald C hw (by decide) tf_769 q23 dX19_come_146 ?_
            obtain ⟨r26, M24, L25, h1, hD⟩ := g_b3 hD
            refine md_cvL (As := [.int (M 769 v3.toNatClampNeg)]) (rest := []) C hw (tX19_valueOf l G ad fu (M 769 v3.toNatClampNeg) M L h1) kc_19 (by decide) tf_732 wd_3920 cwX19_valueOf ⟨Nat.le_of_ble_eq_true rfl, Nat.le_of_ble_eq_true rfl⟩ rfl hl.1 (Nat.le_of_ble_eq_true rfl) dX19_come_147 rfl rfl ⟨Nat.zero_le _, Nat.zero_le _⟩ rfl (fun H locs hw => ?_)
            refine lv_lstore (lv' := [(5, .long r26), (4, .int x16), (0, .ref (ad 732)), (1, .int a1), (2, .int a2), (3, .int v3)]) C.1.1 C.1.2.1 dX19_come_150 hl (by decide) rfl (fun ls hl => ?_)
            refine lv_aload_n C.1.1 C.1.2.1 dX19_come_152 rfl (lv_at hl 2 rfl) ?_
            refine mr_getR C hw kc_19 60 (by decide) tf_732 ff_732_60 wd_2841 dX19_come_153 (by decide) rfl ?_
            refine lv_iload_n C.1.1 C.1.2.1 dX19_come_156 rfl (lv_at hl 5 rfl) ?_
            obtain ⟨q27, hD⟩ := g_ck hD
            refine mr_zald C hw (by decide) tf_773 q27 dX19_come_157 ?_
            refine lv_if_eq (tgt := 173) C.1.1 C.1.2.1 dX19_come_158 (by decide) (fun c28 => ?_) (fun c28 => ?_)
            · replace hD := g_pos c28 hD
              exact hb173 v3 x16 r26 M24 L25 _ _ ls hD hw (lv_sub hl [2, 3, 4, 5, 1, 0] rfl)
            · replace hD := g_neg c28 hD
              refine lv_aload_n C.1.1 C.1.2.1 dX19_come_161 rfl (lv_at hl 2 rfl) ?_
              refine mr_getR C hw kc_19 61 (by decide) tf_732 ff_732_61 wd_2842 dX19_come_162 (by decide) rfl ?_
              refine lv_iload_n C.1.1 C.1.2.1 dX19_come_165 rfl (lv_at hl 5 rfl) ?_
              obtain ⟨q29, hD⟩ := g_ck hD
              refine mr_lald C hw (by decide) tf_774 q29 dX19_come_166 ?_
              refine lv_lload C.1.1 C.1.2.1 dX19_come_167 (lv_at hl 0 rfl) ?_
              refine W.lcmp C.1.1 C.1.2.1 dX19_come_169 ?_
              refine lv_if_eq (tgt := 177) C.1.1 C.1.2.1 dX19_come_170 (by decide) (fun c30 => ?_) (fun c30 => ?_)
              · replace hD := g_pos c30 hD
                refine lv_iconst (v := 0) C.1.1 C.1.2.1 dX19_come_177 (by decide) ?_
                exact hb178 v3 x16 r26 0 M24 L25 _ _ ls hD hw (lv_sub hl [2, 3, 4, 5, 1, 0] rfl)
              · replace hD := g_neg c30 hD
                exact hb173 v3 x16 r26 M24 L25 _ _ ls hD hw (lv_sub hl [2, 3, 4, 5, 1, 0] rfl)
          · replace hD := g_neg c22 hD
            refine lv_goto (tgt := 308) C.1.1 C.1.2.1 dX19_come_137 (by decide) ?_
            exact hb308 v3 M L _ _ ls hD hw (lv_sub hl [1, 2, 3, 4] rfl)
  have hh22 : ∀ (f : Nat) (v3 : Int32) (M : mwM) (L : mwL) (H : Heap) (locs : List Loc) (ls : Array Slot), fX19_come_h22 fu a1 a2 f (v3, M, L) = some (M0, L0) → mw_W G ad NF TF FF M L H locs → lv_has ls 8 [(0, .ref (ad 732)), (1, .int a1), (2, .int a2), (3, .int v3)] → W p l e ({ frames := 7, cells := 0, slots := 0, locals := 177 }) s m [.ref (ad 732), .int a1, .int a2].toArray below meth c H locs 0 0 (MQ below (mw_Qv G ad NF TF FF (mw_eqV M0 L0)) [.ref (ad 732), .int a1, .int a2].toArray s 0 0 (mw_fr G)) (F0 m 22 ls []) := by
    intro f
    induction f with
    | zero => intro v3 M L H locs ls hD; cases hD
    | succ f22 ih22 =>
      intro v3 M L H locs ls hD hw hl
      replace hD : fX19_come_i22 fu a1 a2 (fX19_come_h22 fu a1 a2 f22) v3 M L = some (M0, L0) := hD
      have hb82 : ∀ (v3 : Int32) (M : mwM) (L : mwL) (H : Heap) (locs : List Loc) (ls : Array Slot), fX19_come_b82 fu a1 a2 (fX19_come_h22 fu a1 a2 f22) v3 M L = some (M0, L0) → mw_W G ad NF TF FF M L H locs → lv_has ls 8 [(0, .ref (ad 732)), (1, .int a1), (2, .int a2), (3, .int v3)] → W p l e ({ frames := 7, cells := 0, slots := 0, locals := 177 }) s m [.ref (ad 732), .int a1, .int a2].toArray below meth c H locs 0 0 (MQ below (mw_Qv G ad NF TF FF (mw_eqV M0 L0)) [.ref (ad 732), .int a1, .int a2].toArray s 0 0 (mw_fr G)) (F0 m 82 ls []) := by
        intro v3 M L H locs ls hD hw hl
        unfold fX19_come_b82 at hD
        obtain ⟨x13, ex13, hD⟩ := g_let hD
        refine lv_iinc (v := x13) (lv' := [(3, .int x13), (0, .ref (ad 732)), (1, .int a1), (2, .int a2)]) C.1.1 C.1.2.1 dX19_come_82 hl (k := 3) rfl (by rw [ex13]; rfl) (by decide) rfl (fun ls hl => ?_)
        refine lv_goto (tgt := 22) C.1.1 C.1.2.1 dX19_come_85 (by decide) ?_
        exact ih22 x13 M L _ _ ls hD hw (lv_sub hl [1, 2, 3, 0] rfl)
      unfold fX19_come_i22 at hD
      refine lv_iload_n C.1.1 C.1.2.1 dX19_come_22 rfl (lv_at hl 3 rfl) ?_
      refine lv_aload_n C.1.1 C.1.2.1 dX19_come_23 rfl (lv_at hl 0 rfl) ?_
      refine mr_getI C hw kc_19 62 (by decide) tf_732 wd_2843 dX19_come_24 (by decide) rfl ?_
      refine lv_icmp_ge (tgt := 88) C.1.1 C.1.2.1 dX19_come_27 (by decide) (fun c1 => ?_) (fun c1 => ?_)
      · replace hD := g_pos c1 hD
        refine lv_iconst (v := 0) C.1.1 C.1.2.1 dX19_come_88 (by decide) ?_
        refine lv_istore_n (lv' := [(3, .int 0), (0, .ref (ad 732)), (1, .int a1), (2, .int a2)]) C.1.1 C.1.2.1 dX19_come_89 rfl hl (by decide) rfl (fun ls hl => ?_)
        exact hh90 fu 0 M L _ _ ls hD hw (lv_sub hl [1, 2, 3, 0] rfl)
      · replace hD := g_neg c1 hD
        refine lv_aload_n C.1.1 C.1.2.1 dX19_come_30 rfl (lv_at hl 0 rfl) ?_
        refine mr_getR C hw kc_19 64 (by decide) tf_732 ff_732_64 wd_2845 dX19_come_31 (by decide) rfl ?_
        refine lv_iload_n C.1.1 C.1.2.1 dX19_come_34 rfl (lv_at hl 3 rfl) ?_
        obtain ⟨q2, hD⟩ := g_ck hD
        refine mr_iald C hw (by decide) tf_776 q2 dX19_come_35 ?_
        refine lv_iload_n C.1.1 C.1.2.1 dX19_come_36 rfl (lv_at hl 1 rfl) ?_
        refine lv_icmp_ne (tgt := 82) C.1.1 C.1.2.1 dX19_come_37 (by decide) (fun c3 => ?_) (fun c3 => ?_)
        · replace hD := g_neg c3 hD
          exact hb82 v3 M L _ _ ls hD hw (lv_sub hl [0, 1, 2, 3] rfl)
        · replace hD := g_pos c3 hD
          refine lv_aload_n C.1.1 C.1.2.1 dX19_come_40 rfl (lv_at hl 0 rfl) ?_
          refine mr_getR C hw kc_19 53 (by decide) tf_732 ff_732_53 wd_2834 dX19_come_41 (by decide) rfl ?_
          refine lv_aload_n C.1.1 C.1.2.1 dX19_come_44 rfl (lv_at hl 0 rfl) ?_
          refine mr_getR C hw kc_19 63 (by decide) tf_732 ff_732_63 wd_2844 dX19_come_45 (by decide) rfl ?_
          refine lv_iload_n C.1.1 C.1.2.1 dX19_come_48 rfl (lv_at hl 3 rfl) ?_
          obtain ⟨q4, hD⟩ := g_ck hD
          refine mr_iald C hw (by decide) tf_775 q4 dX19_come_49 ?_
          obtain ⟨q5, hD⟩ := g_ck hD
          refine mr_iald C hw (by decide) tf_767 q5 dX19_come_50 ?_
          refine lv_iload_n C.1.1 C.1.2.1 dX19_come_51 rfl (lv_at hl 2 rfl) ?_
          refine lv_icmp_ne (tgt := 82) C.1.1 C.1.2.1 dX19_come_52 (by decide) (fun c6 => ?_) (fun c6 => ?_)
          · replace hD := g_neg c6 hD
            exact hb82 v3 M L _ _ ls hD hw (lv_sub hl [0, 1, 2, 3] rfl)
          · replace hD := g_pos c6 hD
            refine lv_aload_n C.1.1 C.1.2.1 dX19_come_55 rfl (lv_at hl 0 rfl) ?_
            refine mr_getR C hw kc_19 66 (by decide) tf_732 ff_732_66 wd_2847 dX19_come_56 (by decide) rfl ?_
            refine lv_iload_n C.1.1 C.1.2.1 dX19_come_59 rfl (lv_at hl 3 rfl) ?_
            refine lv_aload_n C.1.1 C.1.2.1 dX19_come_60 rfl (lv_at hl 0 rfl) ?_
            refine mr_getI C hw kc_19 83 (by decide) tf_732 wd_2864 dX19_come_61 (by decide) rfl ?_
            refine lv_i2l C.1.1 C.1.2.1 dX19_come_64 rfl ?_
            obtain ⟨q7, hD⟩ := g_ck hD
            obtain ⟨L8, eL8, hD⟩ := g_let hD
            refine mr_last C hw (by decide) tf_778 q7 dX19_come_65 (fun H locs hw => ?_)
            replace hw : mw_W G ad NF TF FF M L8 H locs := by rw [eL8]; exact hw
            refine lv_aload_n C.1.1 C.1.2.1 dX19_come_66 rfl (lv_at hl 0 rfl) ?_
            refine mr_getR C hw kc_19 80 (by decide) tf_732 ff_732_80 wd_2861 dX19_come_67 (by decide) rfl ?_
            refine lv_aload_n C.1.1 C.1.2.1 dX19_come_70 rfl (lv_at hl 0 rfl) ?_
            refine mr_getR C hw kc_19 65 (by decide) tf_732 ff_732_65 wd_2846 dX19_come_71 (by decide) rfl ?_
            refine lv_iload_n C.1.1 C.1.2.1 dX19_come_74 rfl (lv_at hl 3 rfl) ?_
            obtain ⟨q9, hD⟩ := g_ck hD
            refine mr_iald C hw (by decide) tf_777 q9 dX19_come_75 ?_
            refine lv_iconst (v := 0) C.1.1 C.1.2.1 dX19_come_76 (by decide) ?_
            obtain ⟨r12, M10, L11, h1, hD⟩ := g_b3 hD
            refine md_cvI (As := [.int (M 777 v3.toNatClampNeg), .int 0]) (rest := []) C hw (tX18_event l G ad fu (M 777 v3.toNatClampNeg) 0 M L8 h1) kc_18 (by decide) tf_902 wd_3880 cwX18_event ⟨Nat.le_of_ble_eq_true rfl, Nat.le_of_ble_eq_true rfl⟩ rfl hl.1 (Nat.le_of_ble_eq_true rfl) dX19_come_77 rfl rfl ⟨Nat.zero_le _, Nat.zero_le _⟩ rfl (fun H locs hw => ?_)
            refine lv_istore (lv' := [(4, .int r12), (0, .ref (ad 732)), (1, .int a1), (2, .int a2), (3, .int v3)]) C.1.1 C.1.2.1 dX19_come_80 hl (by decide) rfl (fun ls hl => ?_)
            exact hb82 v3 M10 L11 _ _ ls hD hw (lv_sub hl [1, 2, 3, 4] rfl)
  unfold DX19_come at hD
  refine lv_aload_n C.1.1 C.1.2.1 dX19_come_0 rfl (lv_at hl 0 rfl) ?_
  refine lv_iload_n C.1.1 C.1.2.1 dX19_come_1 rfl (lv_at hl 1 rfl) ?_
  refine lv_iload_n C.1.1 C.1.2.1 dX19_come_2 rfl (lv_at hl 2 rfl) ?_
  obtain ⟨r61, M59, L60, h1, hD⟩ := g_b3 hD
  refine md_cvI (As := [.int a1, .int a2]) (rest := []) C hw (tX19_right l G ad fu a1 a2 M L h1) kc_19 (by decide) tf_732 wd_3874 cwX19_right ⟨Nat.le_of_ble_eq_true rfl, Nat.le_of_ble_eq_true rfl⟩ rfl hl.1 (Nat.le_of_ble_eq_true rfl) dX19_come_3 rfl rfl ⟨Nat.zero_le _, Nat.zero_le _⟩ rfl (fun H locs hw => ?_)
  refine lv_if_ne (tgt := 20) C.1.1 C.1.2.1 dX19_come_6 (by decide) (fun c62 => ?_) (fun c62 => ?_)
  · replace hD := g_neg c62 hD
    refine lv_iconst (v := 0) C.1.1 C.1.2.1 dX19_come_20 (by decide) ?_
    refine lv_istore_n (lv' := [(3, .int 0), (0, .ref (ad 732)), (1, .int a1), (2, .int a2)]) C.1.1 C.1.2.1 dX19_come_21 rfl hl (by decide) rfl (fun ls hl => ?_)
    exact hh22 fu 0 M59 L60 _ _ ls hD hw (lv_sub hl [1, 2, 3, 0] rfl)
  · replace hD := g_pos c62 hD
    refine lv_aload_n C.1.1 C.1.2.1 dX19_come_9 rfl (lv_at hl 0 rfl) ?_
    refine mr_getR C hw kc_19 109 (by decide) tf_732 ff_732_109 wd_2890 dX19_come_10 (by decide) rfl ?_
    refine lv_iconst (v := 1) C.1.1 C.1.2.1 dX19_come_13 (by decide) ?_
    refine lv_dup2_11 C.1.1 C.1.2.1 dX19_come_14 rfl rfl ?_
    refine mr_iald C hw (by decide) tf_939 (show vp_in 1 5 from by unfold vp_in; decide) dX19_come_15 ?_
    refine lv_iconst (v := 1) C.1.1 C.1.2.1 dX19_come_16 (by decide) ?_
    refine lv_iadd C.1.1 C.1.2.1 dX19_come_17 ?_
    obtain ⟨M65, eM65, hD⟩ := g_let hD
    refine mr_iast C hw (by decide) tf_939 (show vp_in 1 5 from by unfold vp_in; decide) dX19_come_18 (fun H locs hw => ?_)
    replace hw : mw_W G ad NF TF FF M65 L60 H locs := by rw [eM65]; exact hw
    exact mr_vret C hr hlocks hw (Option.some.inj hD) dX19_come_19

theorem dX19_no_0 : decode cX19_no 0 = .ok (.aload_n 0, 1) := by decide +kernel
theorem dX19_no_1 : decode cX19_no 1 = .ok (.getfield 255, 3) := by decide +kernel
theorem dX19_no_4 : decode cX19_no 4 = .ok (.iconst 0, 1) := by decide +kernel
theorem dX19_no_5 : decode cX19_no 5 = .ok (.bipush 127, 2) := by decide +kernel
theorem dX19_no_7 : decode cX19_no 7 = .ok (.iastore, 1) := by decide +kernel
theorem dX19_no_8 : decode cX19_no 8 = .ok (.aload_n 0, 1) := by decide +kernel
theorem dX19_no_9 : decode cX19_no 9 = .ok (.getfield 255, 3) := by decide +kernel
theorem dX19_no_12 : decode cX19_no 12 = .ok (.iconst 1, 1) := by decide +kernel
theorem dX19_no_13 : decode cX19_no 13 = .ok (.aload_n 0, 1) := by decide +kernel
theorem dX19_no_14 : decode cX19_no 14 = .ok (.getfield 252, 3) := by decide +kernel
theorem dX19_no_17 : decode cX19_no 17 = .ok (.iconst 0, 1) := by decide +kernel
theorem dX19_no_18 : decode cX19_no 18 = .ok (.iaload, 1) := by decide +kernel
theorem dX19_no_19 : decode cX19_no 19 = .ok (.iastore, 1) := by decide +kernel
theorem dX19_no_20 : decode cX19_no 20 = .ok (.aload_n 0, 1) := by decide +kernel
theorem dX19_no_21 : decode cX19_no 21 = .ok (.getfield 255, 3) := by decide +kernel
theorem dX19_no_24 : decode cX19_no 24 = .ok (.iconst 2, 1) := by decide +kernel
theorem dX19_no_25 : decode cX19_no 25 = .ok (.iload_n 1, 1) := by decide +kernel
theorem dX19_no_26 : decode cX19_no 26 = .ok (.iastore, 1) := by decide +kernel
theorem dX19_no_27 : decode cX19_no 27 = .ok (.aload_n 0, 1) := by decide +kernel
theorem dX19_no_28 : decode cX19_no 28 = .ok (.iconst 3, 1) := by decide +kernel
theorem dX19_no_29 : decode cX19_no 29 = .ok (.putfield 730, 3) := by decide +kernel
theorem dX19_no_32 : decode cX19_no 32 = .ok (.return_, 1) := by decide +kernel
theorem cwX19_no : mw_cwV yX19_no cX19_no 2 (none) 1 := ⟨⟨wd_13, wd_3995, by decide +kernel⟩, wd_3994, sl_302⟩
noncomputable def DX19_no (fu : Nat) (a1 : Int32) (M : mwM) (L : mwL) : Option (mwM × mwL) :=
  mlet (mset M 933 ((0 : Int32).toNatClampNeg) 127) (fun M2 => mlet (mset M2 933 ((1 : Int32).toNatClampNeg) (M2 932 (0 : Int32).toNatClampNeg)) (fun M5 => mlet (mset M5 933 ((2 : Int32).toNatClampNeg) a1) (fun M7 => mlet (mset M7 732 102 3) (fun M8 => some (M8, L)))))
set_option maxHeartbeats 4000000 in
set_option maxRecDepth 100000 in
theorem tX19_no (l : Launch) (G : mwG) (ad : Nat → Nat) (fu : Nat) (a1 : Int32) (M : mwM) (L : mwL) {M0 : mwM} {L0 : mwL} (hD : DX19_no fu a1 M L = some (M0, L0)) : Met l yX19_no (Cond.code yX19_no cX19_no 2 (none) :: GT) ({ frames := 0, cells := 0, slots := 0, locals := 0 }) (mw_Pre G ad NF TF FF M L [.ref (ad 732), .int a1]) (mw_Qv G ad NF TF FF (mw_eqV M0 L0)) 0 0 (mw_fr G) := by
  refine mw_enter (by decide) (Nat.le_of_ble_eq_true rfl) ?_
  intro p e s m below meth c ls C hr hlocks hnm hw hl
  have hl : lv_has ls 2 [(0, .ref (ad 732)), (1, .int a1)] := hl
  unfold DX19_no at hD
  refine lv_aload_n C.1.1 C.1.2.1 dX19_no_0 rfl (lv_at hl 0 rfl) ?_
  refine mr_getR C hw kc_19 101 (by decide) tf_732 ff_732_101 wd_2882 dX19_no_1 (by decide) rfl ?_
  refine lv_iconst (v := 0) C.1.1 C.1.2.1 dX19_no_4 (by decide) ?_
  refine lv_bipush (v := 127) C.1.1 C.1.2.1 dX19_no_5 (by decide) ?_
  obtain ⟨M2, eM2, hD⟩ := g_let hD
  refine mr_iast C hw (by decide) tf_933 (show vp_in 0 128 from by unfold vp_in; decide) dX19_no_7 (fun H locs hw => ?_)
  replace hw : mw_W G ad NF TF FF M2 L H locs := by rw [eM2]; exact hw
  refine lv_aload_n C.1.1 C.1.2.1 dX19_no_8 rfl (lv_at hl 0 rfl) ?_
  refine mr_getR C hw kc_19 101 (by decide) tf_732 ff_732_101 wd_2882 dX19_no_9 (by decide) rfl ?_
  refine lv_iconst (v := 1) C.1.1 C.1.2.1 dX19_no_12 (by decide) ?_
  refine lv_aload_n C.1.1 C.1.2.1 dX19_no_13 rfl (lv_at hl 0 rfl) ?_
  refine mr_getR C hw kc_19 100 (by decide) tf_732 ff_732_100 wd_2881 dX19_no_14 (by decide) rfl ?_
  refine lv_iconst (v := 0) C.1.1 C.1.2.1 dX19_no_17 (by decide) ?_
  refine mr_iald C hw (by decide) tf_932 (show vp_in 0 128 from by unfold vp_in; decide) dX19_no_18 ?_
  obtain ⟨M5, eM5, hD⟩ := g_let hD
  refine mr_iast C hw (by decide) tf_933 (show vp_in 1 128 from by unfold vp_in; decide) dX19_no_19 (fun H locs hw => ?_)
  replace hw : mw_W G ad NF TF FF M5 L H locs := by rw [eM5]; exact hw
  refine lv_aload_n C.1.1 C.1.2.1 dX19_no_20 rfl (lv_at hl 0 rfl) ?_
  refine mr_getR C hw kc_19 101 (by decide) tf_732 ff_732_101 wd_2882 dX19_no_21 (by decide) rfl ?_
  refine lv_iconst (v := 2) C.1.1 C.1.2.1 dX19_no_24 (by decide) ?_
  refine lv_iload_n C.1.1 C.1.2.1 dX19_no_25 rfl (lv_at hl 1 rfl) ?_
  obtain ⟨M7, eM7, hD⟩ := g_let hD
  refine mr_iast C hw (by decide) tf_933 (show vp_in 2 128 from by unfold vp_in; decide) dX19_no_26 (fun H locs hw => ?_)
  replace hw : mw_W G ad NF TF FF M7 L H locs := by rw [eM7]; exact hw
  refine lv_aload_n C.1.1 C.1.2.1 dX19_no_27 rfl (lv_at hl 0 rfl) ?_
  refine lv_iconst (v := 3) C.1.1 C.1.2.1 dX19_no_28 (by decide) ?_
  obtain ⟨M8, eM8, hD⟩ := g_let hD
  refine mr_putI C hw kc_19 102 (by decide) tf_732 wd_2883 dX19_no_29 (by decide) rfl rfl rfl rfl (fun H locs hw => ?_)
  replace hw : mw_W G ad NF TF FF M8 L H locs := by rw [eM8]; exact hw
  exact mr_vret C hr hlocks hw (Option.some.inj hD) dX19_no_32

theorem dX19_serveSession_0 : decode cX19_serveSession 0 = .ok (.aload_n 0, 1) := by decide +kernel
theorem dX19_serveSession_1 : decode cX19_serveSession 1 = .ok (.getfield 252, 3) := by decide +kernel
theorem dX19_serveSession_4 : decode cX19_serveSession 4 = .ok (.iconst 1, 1) := by decide +kernel
theorem dX19_serveSession_5 : decode cX19_serveSession 5 = .ok (.iaload, 1) := by decide +kernel
theorem dX19_serveSession_6 : decode cX19_serveSession 6 = .ok (.iconst 1, 1) := by decide +kernel
theorem dX19_serveSession_7 : decode cX19_serveSession 7 = .ok (.if_icmp .lt 13, 3) := by decide +kernel
theorem dX19_serveSession_10 : decode cX19_serveSession 10 = .ok (.aload_n 0, 1) := by decide +kernel
theorem dX19_serveSession_11 : decode cX19_serveSession 11 = .ok (.getfield 252, 3) := by decide +kernel
theorem dX19_serveSession_14 : decode cX19_serveSession 14 = .ok (.iconst 1, 1) := by decide +kernel
theorem dX19_serveSession_15 : decode cX19_serveSession 15 = .ok (.iaload, 1) := by decide +kernel
theorem dX19_serveSession_16 : decode cX19_serveSession 16 = .ok (.iconst 3, 1) := by decide +kernel
theorem dX19_serveSession_17 : decode cX19_serveSession 17 = .ok (.if_icmp .le 10, 3) := by decide +kernel
theorem dX19_serveSession_20 : decode cX19_serveSession 20 = .ok (.aload_n 0, 1) := by decide +kernel
theorem dX19_serveSession_21 : decode cX19_serveSession 21 = .ok (.bipush 18, 2) := by decide +kernel
theorem dX19_serveSession_23 : decode cX19_serveSession 23 = .ok (.invokevirtual 744, 3) := by decide +kernel
theorem dX19_serveSession_26 : decode cX19_serveSession 26 = .ok (.return_, 1) := by decide +kernel
theorem dX19_serveSession_27 : decode cX19_serveSession 27 = .ok (.aload_n 0, 1) := by decide +kernel
theorem dX19_serveSession_28 : decode cX19_serveSession 28 = .ok (.getfield 258, 3) := by decide +kernel
theorem dX19_serveSession_31 : decode cX19_serveSession 31 = .ok (.iload_n 1, 1) := by decide +kernel
theorem dX19_serveSession_32 : decode cX19_serveSession 32 = .ok (.aload_n 0, 1) := by decide +kernel
theorem dX19_serveSession_33 : decode cX19_serveSession 33 = .ok (.getfield 252, 3) := by decide +kernel
theorem dX19_serveSession_36 : decode cX19_serveSession 36 = .ok (.iconst 1, 1) := by decide +kernel
theorem dX19_serveSession_37 : decode cX19_serveSession 37 = .ok (.iaload, 1) := by decide +kernel
theorem dX19_serveSession_38 : decode cX19_serveSession 38 = .ok (.iastore, 1) := by decide +kernel
theorem dX19_serveSession_39 : decode cX19_serveSession 39 = .ok (.aload_n 0, 1) := by decide +kernel
theorem dX19_serveSession_40 : decode cX19_serveSession 40 = .ok (.getfield 261, 3) := by decide +kernel
theorem dX19_serveSession_43 : decode cX19_serveSession 43 = .ok (.iload_n 1, 1) := by decide +kernel
theorem dX19_serveSession_44 : decode cX19_serveSession 44 = .ok (.iconst 0, 1) := by decide +kernel
theorem dX19_serveSession_45 : decode cX19_serveSession 45 = .ok (.bastore, 1) := by decide +kernel
theorem dX19_serveSession_46 : decode cX19_serveSession 46 = .ok (.aload_n 0, 1) := by decide +kernel
theorem dX19_serveSession_47 : decode cX19_serveSession 47 = .ok (.getfield 264, 3) := by decide +kernel
theorem dX19_serveSession_50 : decode cX19_serveSession 50 = .ok (.iload_n 1, 1) := by decide +kernel
theorem dX19_serveSession_51 : decode cX19_serveSession 51 = .ok (.iconst 0, 1) := by decide +kernel
theorem dX19_serveSession_52 : decode cX19_serveSession 52 = .ok (.bastore, 1) := by decide +kernel
theorem dX19_serveSession_53 : decode cX19_serveSession 53 = .ok (.aload_n 0, 1) := by decide +kernel
theorem dX19_serveSession_54 : decode cX19_serveSession 54 = .ok (.getfield 255, 3) := by decide +kernel
theorem dX19_serveSession_57 : decode cX19_serveSession 57 = .ok (.iconst 0, 1) := by decide +kernel
theorem dX19_serveSession_58 : decode cX19_serveSession 58 = .ok (.bipush 80, 2) := by decide +kernel
theorem dX19_serveSession_60 : decode cX19_serveSession 60 = .ok (.iastore, 1) := by decide +kernel
theorem dX19_serveSession_61 : decode cX19_serveSession 61 = .ok (.aload_n 0, 1) := by decide +kernel
theorem dX19_serveSession_62 : decode cX19_serveSession 62 = .ok (.getfield 255, 3) := by decide +kernel
theorem dX19_serveSession_65 : decode cX19_serveSession 65 = .ok (.iconst 1, 1) := by decide +kernel
theorem dX19_serveSession_66 : decode cX19_serveSession 66 = .ok (.aload_n 0, 1) := by decide +kernel
theorem dX19_serveSession_67 : decode cX19_serveSession 67 = .ok (.getfield 252, 3) := by decide +kernel
theorem dX19_serveSession_70 : decode cX19_serveSession 70 = .ok (.iconst 1, 1) := by decide +kernel
theorem dX19_serveSession_71 : decode cX19_serveSession 71 = .ok (.iaload, 1) := by decide +kernel
theorem dX19_serveSession_72 : decode cX19_serveSession 72 = .ok (.iastore, 1) := by decide +kernel
theorem dX19_serveSession_73 : decode cX19_serveSession 73 = .ok (.aload_n 0, 1) := by decide +kernel
theorem dX19_serveSession_74 : decode cX19_serveSession 74 = .ok (.iconst 2, 1) := by decide +kernel
theorem dX19_serveSession_75 : decode cX19_serveSession 75 = .ok (.putfield 730, 3) := by decide +kernel
theorem dX19_serveSession_78 : decode cX19_serveSession 78 = .ok (.return_, 1) := by decide +kernel
theorem cwX19_serveSession : mw_cwV yX19_serveSession cX19_serveSession 2 (none) 1 := ⟨⟨wd_13, wd_3999, by decide +kernel⟩, wd_3998, sl_303⟩
noncomputable def fX19_serveSession_b20 (fu : Nat) (a1 : Int32) (M : mwM) (L : mwL) : Option (mwM × mwL) :=
  mb2 (DX19_no fu 18 M L) (fun M1 L2 => some (M1, L2))
noncomputable def DX19_serveSession (fu : Nat) (a1 : Int32) (M : mwM) (L : mwL) : Option (mwM × mwL) :=
  (if (M 932 (1 : Int32).toNatClampNeg) < 1 then fX19_serveSession_b20 fu a1 M L else (if (M 932 (1 : Int32).toNatClampNeg) ≤ 3 then mck a1 6 (mlet (mset M 934 (a1.toNatClampNeg) (M 932 (1 : Int32).toNatClampNeg)) (fun M9 => mck a1 6 (mlet (mset M9 935 (a1.toNatClampNeg) (vp_nar .boolean 0)) (fun M11 => mck a1 6 (mlet (mset M11 936 (a1.toNatClampNeg) (vp_nar .boolean 0)) (fun M13 => mlet (mset M13 933 ((0 : Int32).toNatClampNeg) 80) (fun M15 => mlet (mset M15 933 ((1 : Int32).toNatClampNeg) (M15 932 (1 : Int32).toNatClampNeg)) (fun M18 => mlet (mset M18 732 102 2) (fun M19 => some (M19, L)))))))))) else fX19_serveSession_b20 fu a1 M L))
set_option maxHeartbeats 4000000 in
set_option maxRecDepth 100000 in
theorem tX19_serveSession (l : Launch) (G : mwG) (ad : Nat → Nat) (fu : Nat) (a1 : Int32) (M : mwM) (L : mwL) {M0 : mwM} {L0 : mwL} (hD : DX19_serveSession fu a1 M L = some (M0, L0)) : Met l yX19_serveSession (Cond.code yX19_serveSession cX19_serveSession 2 (none) :: GT) ({ frames := 1, cells := 0, slots := 0, locals := 21 }) (mw_Pre G ad NF TF FF M L [.ref (ad 732), .int a1]) (mw_Qv G ad NF TF FF (mw_eqV M0 L0)) 0 0 (mw_fr G) := by
  refine mw_enter (by decide) (Nat.le_of_ble_eq_true rfl) ?_
  intro p e s m below meth c ls C hr hlocks hnm hw hl
  have hl : lv_has ls 2 [(0, .ref (ad 732)), (1, .int a1)] := hl
  have hb20 : ∀ (M : mwM) (L : mwL) (H : Heap) (locs : List Loc) (ls : Array Slot), fX19_serveSession_b20 fu a1 M L = some (M0, L0) → mw_W G ad NF TF FF M L H locs → lv_has ls 2 [(0, .ref (ad 732))] → W p l e ({ frames := 1, cells := 0, slots := 0, locals := 21 }) s m [.ref (ad 732), .int a1].toArray below meth c H locs 0 0 (MQ below (mw_Qv G ad NF TF FF (mw_eqV M0 L0)) [.ref (ad 732), .int a1].toArray s 0 0 (mw_fr G)) (F0 m 20 ls []) := by
    intro M L H locs ls hD hw hl
    unfold fX19_serveSession_b20 at hD
    refine lv_aload_n C.1.1 C.1.2.1 dX19_serveSession_20 rfl (lv_at hl 0 rfl) ?_
    refine lv_bipush (v := 18) C.1.1 C.1.2.1 dX19_serveSession_21 (by decide) ?_
    obtain ⟨M1, L2, h1, hD⟩ := g_b2 hD
    refine md_cvV (As := [.int 18]) (rest := []) C hw (tX19_no l G ad fu 18 M L h1) kc_19 (by decide) tf_732 wd_3992 cwX19_no ⟨Nat.le_of_ble_eq_true rfl, Nat.le_of_ble_eq_true rfl⟩ rfl hl.1 (Nat.le_of_ble_eq_true rfl) dX19_serveSession_23 rfl rfl ⟨Nat.zero_le _, Nat.zero_le _⟩ rfl (fun H locs hw => ?_)
    exact mr_vret C hr hlocks hw (Option.some.inj hD) dX19_serveSession_26
  unfold DX19_serveSession at hD
  refine lv_aload_n C.1.1 C.1.2.1 dX19_serveSession_0 rfl (lv_at hl 0 rfl) ?_
  refine mr_getR C hw kc_19 100 (by decide) tf_732 ff_732_100 wd_2881 dX19_serveSession_1 (by decide) rfl ?_
  refine lv_iconst (v := 1) C.1.1 C.1.2.1 dX19_serveSession_4 (by decide) ?_
  refine mr_iald C hw (by decide) tf_932 (show vp_in 1 128 from by unfold vp_in; decide) dX19_serveSession_5 ?_
  refine lv_iconst (v := 1) C.1.1 C.1.2.1 dX19_serveSession_6 (by decide) ?_
  refine lv_icmp_lt (tgt := 20) C.1.1 C.1.2.1 dX19_serveSession_7 (by decide) (fun c4 => ?_) (fun c4 => ?_)
  · replace hD := g_pos c4 hD
    exact hb20 M L _ _ ls hD hw (lv_sub hl [0] rfl)
  · replace hD := g_neg c4 hD
    refine lv_aload_n C.1.1 C.1.2.1 dX19_serveSession_10 rfl (lv_at hl 0 rfl) ?_
    refine mr_getR C hw kc_19 100 (by decide) tf_732 ff_732_100 wd_2881 dX19_serveSession_11 (by decide) rfl ?_
    refine lv_iconst (v := 1) C.1.1 C.1.2.1 dX19_serveSession_14 (by decide) ?_
    refine mr_iald C hw (by decide) tf_932 (show vp_in 1 128 from by unfold vp_in; decide) dX19_serveSession_15 ?_
    refine lv_iconst (v := 3) C.1.1 C.1.2.1 dX19_serveSession_16 (by decide) ?_
    refine lv_icmp_le (tgt := 27) C.1.1 C.1.2.1 dX19_serveSession_17 (by decide) (fun c6 => ?_) (fun c6 => ?_)
    · replace hD := g_pos c6 hD
      refine lv_aload_n C.1.1 C.1.2.1 dX19_serveSession_27 rfl (lv_at hl 0 rfl) ?_
      refine mr_getR C hw kc_19 103 (by decide) tf_732 ff_732_103 wd_2884 dX19_serveSession_28 (by decide) rfl ?_
      refine lv_iload_n C.1.1 C.1.2.1 dX19_serveSession_31 rfl (lv_at hl 1 rfl) ?_
      refine lv_aload_n C.1.1 C.1.2.1 dX19_serveSession_32 rfl (lv_at hl 0 rfl) ?_
      refine mr_getR C hw kc_19 100 (by decide) tf_732 ff_732_100 wd_2881 dX19_serveSession_33 (by decide) rfl ?_
      refine lv_iconst (v := 1) C.1.1 C.1.2.1 dX19_serveSession_36 (by decide) ?_
      refine mr_iald C hw (by decide) tf_932 (show vp_in 1 128 from by unfold vp_in; decide) dX19_serveSession_37 ?_
      obtain ⟨q8, hD⟩ := g_ck hD
      obtain ⟨M9, eM9, hD⟩ := g_let hD
      refine mr_iast C hw (by decide) tf_934 q8 dX19_serveSession_38 (fun H locs hw => ?_)
      replace hw : mw_W G ad NF TF FF M9 L H locs := by rw [eM9]; exact hw
      refine lv_aload_n C.1.1 C.1.2.1 dX19_serveSession_39 rfl (lv_at hl 0 rfl) ?_
      refine mr_getR C hw kc_19 104 (by decide) tf_732 ff_732_104 wd_2885 dX19_serveSession_40 (by decide) rfl ?_
      refine lv_iload_n C.1.1 C.1.2.1 dX19_serveSession_43 rfl (lv_at hl 1 rfl) ?_
      refine lv_iconst (v := 0) C.1.1 C.1.2.1 dX19_serveSession_44 (by decide) ?_
      obtain ⟨q10, hD⟩ := g_ck hD
      obtain ⟨M11, eM11, hD⟩ := g_let hD
      refine mr_zast C hw (by decide) tf_935 q10 dX19_serveSession_45 (fun H locs hw => ?_)
      replace hw : mw_W G ad NF TF FF M11 L H locs := by rw [eM11]; exact hw
      refine lv_aload_n C.1.1 C.1.2.1 dX19_serveSession_46 rfl (lv_at hl 0 rfl) ?_
      refine mr_getR C hw kc_19 105 (by decide) tf_732 ff_732_105 wd_2886 dX19_serveSession_47 (by decide) rfl ?_
      refine lv_iload_n C.1.1 C.1.2.1 dX19_serveSession_50 rfl (lv_at hl 1 rfl) ?_
      refine lv_iconst (v := 0) C.1.1 C.1.2.1 dX19_serveSession_51 (by decide) ?_
      obtain ⟨q12, hD⟩ := g_ck hD
      obtain ⟨M13, eM13, hD⟩ := g_let hD
      refine mr_zast C hw (by decide) tf_936 q12 dX19_serveSession_52 (fun H locs hw => ?_)
      replace hw : mw_W G ad NF TF FF M13 L H locs := by rw [eM13]; exact hw
      refine lv_aload_n C.1.1 C.1.2.1 dX19_serveSession_53 rfl (lv_at hl 0 rfl) ?_
      refine mr_getR C hw kc_19 101 (by decide) tf_732 ff_732_101 wd_2882 dX19_serveSession_54 (by decide) rfl ?_
      refine lv_iconst (v := 0) C.1.1 C.1.2.1 dX19_serveSession_57 (by decide) ?_
      refine lv_bipush (v := 80) C.1.1 C.1.2.1 dX19_serveSession_58 (by decide) ?_
      obtain ⟨M15, eM15, hD⟩ := g_let hD
      refine mr_iast C hw (by decide) tf_933 (show vp_in 0 128 from by unfold vp_in; decide) dX19_serveSession_60 (fun H locs hw => ?_)
      replace hw : mw_W G ad NF TF FF M15 L H locs := by rw [eM15]; exact hw
      refine lv_aload_n C.1.1 C.1.2.1 dX19_serveSession_61 rfl (lv_at hl 0 rfl) ?_
      refine mr_getR C hw kc_19 101 (by decide) tf_732 ff_732_101 wd_2882 dX19_serveSession_62 (by decide) rfl ?_
      refine lv_iconst (v := 1) C.1.1 C.1.2.1 dX19_serveSession_65 (by decide) ?_
      refine lv_aload_n C.1.1 C.1.2.1 dX19_serveSession_66 rfl (lv_at hl 0 rfl) ?_
      refine mr_getR C hw kc_19 100 (by decide) tf_732 ff_732_100 wd_2881 dX19_serveSession_67 (by decide) rfl ?_
      refine lv_iconst (v := 1) C.1.1 C.1.2.1 dX19_serveSession_70 (by decide) ?_
      refine mr_iald C hw (by decide) tf_932 (show vp_in 1 128 from by unfold vp_in; decide) dX19_serveSession_71 ?_
      obtain ⟨M18, eM18, hD⟩ := g_let hD
      refine mr_iast C hw (by decide) tf_933 (show vp_in 1 128 from by unfold vp_in; decide) dX19_serveSession_72 (fun H locs hw => ?_)
      replace hw : mw_W G ad NF TF FF M18 L H locs := by rw [eM18]; exact hw
      refine lv_aload_n C.1.1 C.1.2.1 dX19_serveSession_73 rfl (lv_at hl 0 rfl) ?_
      refine lv_iconst (v := 2) C.1.1 C.1.2.1 dX19_serveSession_74 (by decide) ?_
      obtain ⟨M19, eM19, hD⟩ := g_let hD
      refine mr_putI C hw kc_19 102 (by decide) tf_732 wd_2883 dX19_serveSession_75 (by decide) rfl rfl rfl rfl (fun H locs hw => ?_)
      replace hw : mw_W G ad NF TF FF M19 L H locs := by rw [eM19]; exact hw
      exact mr_vret C hr hlocks hw (Option.some.inj hD) dX19_serveSession_78
    · replace hD := g_neg c6 hD
      exact hb20 M L _ _ ls hD hw (lv_sub hl [0] rfl)

theorem dX19_isThere_0 : decode cX19_isThere 0 = .ok (.aload_n 0, 1) := by decide +kernel
theorem dX19_isThere_1 : decode cX19_isThere 1 = .ok (.getfield 252, 3) := by decide +kernel
theorem dX19_isThere_4 : decode cX19_isThere 4 = .ok (.iconst 1, 1) := by decide +kernel
theorem dX19_isThere_5 : decode cX19_isThere 5 = .ok (.iaload, 1) := by decide +kernel
theorem dX19_isThere_6 : decode cX19_isThere 6 = .ok (.iconst 1, 1) := by decide +kernel
theorem dX19_isThere_7 : decode cX19_isThere 7 = .ok (.if_icmp .lt 53, 3) := by decide +kernel
theorem dX19_isThere_10 : decode cX19_isThere 10 = .ok (.aload_n 0, 1) := by decide +kernel
theorem dX19_isThere_11 : decode cX19_isThere 11 = .ok (.getfield 252, 3) := by decide +kernel
theorem dX19_isThere_14 : decode cX19_isThere 14 = .ok (.iconst 1, 1) := by decide +kernel
theorem dX19_isThere_15 : decode cX19_isThere 15 = .ok (.iaload, 1) := by decide +kernel
theorem dX19_isThere_16 : decode cX19_isThere 16 = .ok (.aload_n 0, 1) := by decide +kernel
theorem dX19_isThere_17 : decode cX19_isThere 17 = .ok (.getfield 456, 3) := by decide +kernel
theorem dX19_isThere_20 : decode cX19_isThere 20 = .ok (.if_icmp .gt 40, 3) := by decide +kernel
theorem dX19_isThere_23 : decode cX19_isThere 23 = .ok (.aload_n 0, 1) := by decide +kernel
theorem dX19_isThere_24 : decode cX19_isThere 24 = .ok (.getfield 37, 3) := by decide +kernel
theorem dX19_isThere_27 : decode cX19_isThere 27 = .ok (.aload_n 0, 1) := by decide +kernel
theorem dX19_isThere_28 : decode cX19_isThere 28 = .ok (.getfield 58, 3) := by decide +kernel
theorem dX19_isThere_31 : decode cX19_isThere 31 = .ok (.aload_n 0, 1) := by decide +kernel
theorem dX19_isThere_32 : decode cX19_isThere 32 = .ok (.getfield 252, 3) := by decide +kernel
theorem dX19_isThere_35 : decode cX19_isThere 35 = .ok (.iconst 1, 1) := by decide +kernel
theorem dX19_isThere_36 : decode cX19_isThere 36 = .ok (.iaload, 1) := by decide +kernel
theorem dX19_isThere_37 : decode cX19_isThere 37 = .ok (.iconst 1, 1) := by decide +kernel
theorem dX19_isThere_38 : decode cX19_isThere 38 = .ok (.isub, 1) := by decide +kernel
theorem dX19_isThere_39 : decode cX19_isThere 39 = .ok (.iaload, 1) := by decide +kernel
theorem dX19_isThere_40 : decode cX19_isThere 40 = .ok (.iaload, 1) := by decide +kernel
theorem dX19_isThere_41 : decode cX19_isThere 41 = .ok (.iload_n 1, 1) := by decide +kernel
theorem dX19_isThere_42 : decode cX19_isThere 42 = .ok (.if_icmp .ne 18, 3) := by decide +kernel
theorem dX19_isThere_45 : decode cX19_isThere 45 = .ok (.aload_n 0, 1) := by decide +kernel
theorem dX19_isThere_46 : decode cX19_isThere 46 = .ok (.getfield 252, 3) := by decide +kernel
theorem dX19_isThere_49 : decode cX19_isThere 49 = .ok (.iconst 2, 1) := by decide +kernel
theorem dX19_isThere_50 : decode cX19_isThere 50 = .ok (.iaload, 1) := by decide +kernel
theorem dX19_isThere_51 : decode cX19_isThere 51 = .ok (.bipush 32, 2) := by decide +kernel
theorem dX19_isThere_53 : decode cX19_isThere 53 = .ok (.if_icmp .ge 7, 3) := by decide +kernel
theorem dX19_isThere_56 : decode cX19_isThere 56 = .ok (.iconst 1, 1) := by decide +kernel
theorem dX19_isThere_57 : decode cX19_isThere 57 = .ok (.goto 4, 3) := by decide +kernel
theorem dX19_isThere_60 : decode cX19_isThere 60 = .ok (.iconst 0, 1) := by decide +kernel
theorem dX19_isThere_61 : decode cX19_isThere 61 = .ok (.ireturn, 1) := by decide +kernel
theorem cwX19_isThere : mw_cwV yX19_isThere cX19_isThere 2 ((some .boolean)) 1 := ⟨⟨wd_13, wd_4007, by decide +kernel⟩, wd_4006, sl_305⟩
noncomputable def fX19_isThere_b61 (fu : Nat) (a1 : Int32) (s0 : Int32) (M : mwM) (L : mwL) : Option (Int32 × mwM × mwL) :=
  mzz s0 (some (s0, M, L))
noncomputable def fX19_isThere_b60 (fu : Nat) (a1 : Int32) (M : mwM) (L : mwL) : Option (Int32 × mwM × mwL) :=
  fX19_isThere_b61 fu a1 0 M L
noncomputable def DX19_isThere (fu : Nat) (a1 : Int32) (M : mwM) (L : mwL) : Option (Int32 × mwM × mwL) :=
  (if (M 932 (1 : Int32).toNatClampNeg) < 1 then fX19_isThere_b60 fu a1 M L else (if (M 732 33) < (M 932 (1 : Int32).toNatClampNeg) then fX19_isThere_b60 fu a1 M L else mck ((M 932 (1 : Int32).toNatClampNeg) - 1) 12 (mck (M 749 ((M 932 (1 : Int32).toNatClampNeg) - 1).toNatClampNeg) 12 ((if (M 742 (M 749 ((M 932 (1 : Int32).toNatClampNeg) - 1).toNatClampNeg).toNatClampNeg) = a1 then (if 32 ≤ (M 932 (2 : Int32).toNatClampNeg) then fX19_isThere_b60 fu a1 M L else fX19_isThere_b61 fu a1 1 M L) else fX19_isThere_b60 fu a1 M L)))))
set_option maxHeartbeats 4000000 in
set_option maxRecDepth 100000 in
theorem tX19_isThere (l : Launch) (G : mwG) (ad : Nat → Nat) (fu : Nat) (a1 : Int32) (M : mwM) (L : mwL) {r0 : Int32} {M0 : mwM} {L0 : mwL} (hD : DX19_isThere fu a1 M L = some (r0, M0, L0)) : Met l yX19_isThere (Cond.code yX19_isThere cX19_isThere 2 ((some .boolean)) :: GT) ({ frames := 0, cells := 0, slots := 0, locals := 0 }) (mw_Pre G ad NF TF FF M L [.ref (ad 732), .int a1]) (mw_Qi G ad NF TF FF (mw_eqI r0 M0 L0)) 0 0 (mw_fr G) := by
  refine mw_enter (by decide) (Nat.le_of_ble_eq_true rfl) ?_
  intro p e s m below meth c ls C hr hlocks hnm hw hl
  have hl : lv_has ls 2 [(0, .ref (ad 732)), (1, .int a1)] := hl
  have hb61 : ∀ (s0 : Int32) (M : mwM) (L : mwL) (H : Heap) (locs : List Loc) (ls : Array Slot), fX19_isThere_b61 fu a1 s0 M L = some (r0, M0, L0) → mw_W G ad NF TF FF M L H locs → lv_has ls 2 [] → W p l e ({ frames := 0, cells := 0, slots := 0, locals := 0 }) s m [.ref (ad 732), .int a1].toArray below meth c H locs 0 0 (MQ below (mw_Qi G ad NF TF FF (mw_eqI r0 M0 L0)) [.ref (ad 732), .int a1].toArray s 0 0 (mw_fr G)) (F0 m 61 ls [.int s0]) := by
    intro s0 M L H locs ls hD hw hl
    unfold fX19_isThere_b61 at hD
    obtain ⟨z1, hD⟩ := g_zz hD
    exact mr_iret C hr hlocks hw (nz_zz z1) (Option.some.inj hD) dX19_isThere_61
  have hb60 : ∀ (M : mwM) (L : mwL) (H : Heap) (locs : List Loc) (ls : Array Slot), fX19_isThere_b60 fu a1 M L = some (r0, M0, L0) → mw_W G ad NF TF FF M L H locs → lv_has ls 2 [] → W p l e ({ frames := 0, cells := 0, slots := 0, locals := 0 }) s m [.ref (ad 732), .int a1].toArray below meth c H locs 0 0 (MQ below (mw_Qi G ad NF TF FF (mw_eqI r0 M0 L0)) [.ref (ad 732), .int a1].toArray s 0 0 (mw_fr G)) (F0 m 60 ls []) := by
    intro M L H locs ls hD hw hl
    unfold fX19_isThere_b60 at hD
    refine lv_iconst (v := 0) C.1.1 C.1.2.1 dX19_isThere_60 (by decide) ?_
    exact hb61 0 M L _ _ ls hD hw (lv_sub hl [] rfl)
  unfold DX19_isThere at hD
  refine lv_aload_n C.1.1 C.1.2.1 dX19_isThere_0 rfl (lv_at hl 0 rfl) ?_
  refine mr_getR C hw kc_19 100 (by decide) tf_732 ff_732_100 wd_2881 dX19_isThere_1 (by decide) rfl ?_
  refine lv_iconst (v := 1) C.1.1 C.1.2.1 dX19_isThere_4 (by decide) ?_
  refine mr_iald C hw (by decide) tf_932 (show vp_in 1 128 from by unfold vp_in; decide) dX19_isThere_5 ?_
  refine lv_iconst (v := 1) C.1.1 C.1.2.1 dX19_isThere_6 (by decide) ?_
  refine lv_icmp_lt (tgt := 60) C.1.1 C.1.2.1 dX19_isThere_7 (by decide) (fun c3 => ?_) (fun c3 => ?_)
  · replace hD := g_pos c3 hD
    exact hb60 M L _ _ ls hD hw (lv_sub hl [] rfl)
  · replace hD := g_neg c3 hD
    refine lv_aload_n C.1.1 C.1.2.1 dX19_isThere_10 rfl (lv_at hl 0 rfl) ?_
    refine mr_getR C hw kc_19 100 (by decide) tf_732 ff_732_100 wd_2881 dX19_isThere_11 (by decide) rfl ?_
    refine lv_iconst (v := 1) C.1.1 C.1.2.1 dX19_isThere_14 (by decide) ?_
    refine mr_iald C hw (by decide) tf_932 (show vp_in 1 128 from by unfold vp_in; decide) dX19_isThere_15 ?_
    refine lv_aload_n C.1.1 C.1.2.1 dX19_isThere_16 rfl (lv_at hl 0 rfl) ?_
    refine mr_getI C hw kc_19 33 (by decide) tf_732 wd_2814 dX19_isThere_17 (by decide) rfl ?_
    refine lv_icmp_gt (tgt := 60) C.1.1 C.1.2.1 dX19_isThere_20 (by decide) (fun c5 => ?_) (fun c5 => ?_)
    · replace hD := g_pos c5 hD
      exact hb60 M L _ _ ls hD hw (lv_sub hl [] rfl)
    · replace hD := g_neg c5 hD
      refine lv_aload_n C.1.1 C.1.2.1 dX19_isThere_23 rfl (lv_at hl 0 rfl) ?_
      refine mr_getR C hw kc_19 26 (by decide) tf_732 ff_732_26 wd_2807 dX19_isThere_24 (by decide) rfl ?_
      refine lv_aload_n C.1.1 C.1.2.1 dX19_isThere_27 rfl (lv_at hl 0 rfl) ?_
      refine mr_getR C hw kc_19 34 (by decide) tf_732 ff_732_34 wd_2815 dX19_isThere_28 (by decide) rfl ?_
      refine lv_aload_n C.1.1 C.1.2.1 dX19_isThere_31 rfl (lv_at hl 0 rfl) ?_
      refine mr_getR C hw kc_19 100 (by decide) tf_732 ff_732_100 wd_2881 dX19_isThere_32 (by decide) rfl ?_
      refine lv_iconst (v := 1) C.1.1 C.1.2.1 dX19_isThere_35 (by decide) ?_
      refine mr_iald C hw (by decide) tf_932 (show vp_in 1 128 from by unfold vp_in; decide) dX19_isThere_36 ?_
      refine lv_iconst (v := 1) C.1.1 C.1.2.1 dX19_isThere_37 (by decide) ?_
      refine lv_isub C.1.1 C.1.2.1 dX19_isThere_38 ?_
      obtain ⟨q7, hD⟩ := g_ck hD
      refine mr_iald C hw (by decide) tf_749 q7 dX19_isThere_39 ?_
      obtain ⟨q8, hD⟩ := g_ck hD
      refine mr_iald C hw (by decide) tf_742 q8 dX19_isThere_40 ?_
      refine lv_iload_n C.1.1 C.1.2.1 dX19_isThere_41 rfl (lv_at hl 1 rfl) ?_
      refine lv_icmp_ne (tgt := 60) C.1.1 C.1.2.1 dX19_isThere_42 (by decide) (fun c9 => ?_) (fun c9 => ?_)
      · replace hD := g_neg c9 hD
        exact hb60 M L _ _ ls hD hw (lv_sub hl [] rfl)
      · replace hD := g_pos c9 hD
        refine lv_aload_n C.1.1 C.1.2.1 dX19_isThere_45 rfl (lv_at hl 0 rfl) ?_
        refine mr_getR C hw kc_19 100 (by decide) tf_732 ff_732_100 wd_2881 dX19_isThere_46 (by decide) rfl ?_
        refine lv_iconst (v := 2) C.1.1 C.1.2.1 dX19_isThere_49 (by decide) ?_
        refine mr_iald C hw (by decide) tf_932 (show vp_in 2 128 from by unfold vp_in; decide) dX19_isThere_50 ?_
        refine lv_bipush (v := 32) C.1.1 C.1.2.1 dX19_isThere_51 (by decide) ?_
        refine lv_icmp_ge (tgt := 60) C.1.1 C.1.2.1 dX19_isThere_53 (by decide) (fun c11 => ?_) (fun c11 => ?_)
        · replace hD := g_pos c11 hD
          exact hb60 M L _ _ ls hD hw (lv_sub hl [] rfl)
        · replace hD := g_neg c11 hD
          refine lv_iconst (v := 1) C.1.1 C.1.2.1 dX19_isThere_56 (by decide) ?_
          refine lv_goto (tgt := 61) C.1.1 C.1.2.1 dX19_isThere_57 (by decide) ?_
          exact hb61 1 M L _ _ ls hD hw (lv_sub hl [] rfl)

theorem dX19_serveRead_0 : decode cX19_serveRead 0 = .ok (.aload_n 0, 1) := by decide +kernel
theorem dX19_serveRead_1 : decode cX19_serveRead 1 = .ok (.iload_n 1, 1) := by decide +kernel
theorem dX19_serveRead_2 : decode cX19_serveRead 2 = .ok (.invokevirtual 768, 3) := by decide +kernel
theorem dX19_serveRead_5 : decode cX19_serveRead 5 = .ok (.ifCond .ne 10, 3) := by decide +kernel
theorem dX19_serveRead_8 : decode cX19_serveRead 8 = .ok (.aload_n 0, 1) := by decide +kernel
theorem dX19_serveRead_9 : decode cX19_serveRead 9 = .ok (.bipush 49, 2) := by decide +kernel
theorem dX19_serveRead_11 : decode cX19_serveRead 11 = .ok (.invokevirtual 744, 3) := by decide +kernel
theorem dX19_serveRead_14 : decode cX19_serveRead 14 = .ok (.return_, 1) := by decide +kernel
theorem dX19_serveRead_15 : decode cX19_serveRead 15 = .ok (.aload_n 0, 1) := by decide +kernel
theorem dX19_serveRead_16 : decode cX19_serveRead 16 = .ok (.getfield 217, 3) := by decide +kernel
theorem dX19_serveRead_19 : decode cX19_serveRead 19 = .ok (.aload_n 0, 1) := by decide +kernel
theorem dX19_serveRead_20 : decode cX19_serveRead 20 = .ok (.getfield 252, 3) := by decide +kernel
theorem dX19_serveRead_23 : decode cX19_serveRead 23 = .ok (.iconst 1, 1) := by decide +kernel
theorem dX19_serveRead_24 : decode cX19_serveRead 24 = .ok (.iaload, 1) := by decide +kernel
theorem dX19_serveRead_25 : decode cX19_serveRead 25 = .ok (.iconst 1, 1) := by decide +kernel
theorem dX19_serveRead_26 : decode cX19_serveRead 26 = .ok (.isub, 1) := by decide +kernel
theorem dX19_serveRead_27 : decode cX19_serveRead 27 = .ok (.aaload, 1) := by decide +kernel
theorem dX19_serveRead_28 : decode cX19_serveRead 28 = .ok (.aload_n 0, 1) := by decide +kernel
theorem dX19_serveRead_29 : decode cX19_serveRead 29 = .ok (.getfield 252, 3) := by decide +kernel
theorem dX19_serveRead_32 : decode cX19_serveRead 32 = .ok (.iconst 2, 1) := by decide +kernel
theorem dX19_serveRead_33 : decode cX19_serveRead 33 = .ok (.iaload, 1) := by decide +kernel
theorem dX19_serveRead_34 : decode cX19_serveRead 34 = .ok (.invokevirtual 661, 3) := by decide +kernel
theorem dX19_serveRead_37 : decode cX19_serveRead 37 = .ok (.lstore_n 2, 1) := by decide +kernel
theorem dX19_serveRead_38 : decode cX19_serveRead 38 = .ok (.aload_n 0, 1) := by decide +kernel
theorem dX19_serveRead_39 : decode cX19_serveRead 39 = .ok (.getfield 255, 3) := by decide +kernel
theorem dX19_serveRead_42 : decode cX19_serveRead 42 = .ok (.iconst 0, 1) := by decide +kernel
theorem dX19_serveRead_43 : decode cX19_serveRead 43 = .ok (.bipush 98, 2) := by decide +kernel
theorem dX19_serveRead_45 : decode cX19_serveRead 45 = .ok (.iastore, 1) := by decide +kernel
theorem dX19_serveRead_46 : decode cX19_serveRead 46 = .ok (.aload_n 0, 1) := by decide +kernel
theorem dX19_serveRead_47 : decode cX19_serveRead 47 = .ok (.getfield 255, 3) := by decide +kernel
theorem dX19_serveRead_50 : decode cX19_serveRead 50 = .ok (.iconst 1, 1) := by decide +kernel
theorem dX19_serveRead_51 : decode cX19_serveRead 51 = .ok (.aload_n 0, 1) := by decide +kernel
theorem dX19_serveRead_52 : decode cX19_serveRead 52 = .ok (.getfield 252, 3) := by decide +kernel
theorem dX19_serveRead_55 : decode cX19_serveRead 55 = .ok (.iconst 1, 1) := by decide +kernel
theorem dX19_serveRead_56 : decode cX19_serveRead 56 = .ok (.iaload, 1) := by decide +kernel
theorem dX19_serveRead_57 : decode cX19_serveRead 57 = .ok (.iastore, 1) := by decide +kernel
theorem dX19_serveRead_58 : decode cX19_serveRead 58 = .ok (.aload_n 0, 1) := by decide +kernel
theorem dX19_serveRead_59 : decode cX19_serveRead 59 = .ok (.getfield 255, 3) := by decide +kernel
theorem dX19_serveRead_62 : decode cX19_serveRead 62 = .ok (.iconst 2, 1) := by decide +kernel
theorem dX19_serveRead_63 : decode cX19_serveRead 63 = .ok (.aload_n 0, 1) := by decide +kernel
theorem dX19_serveRead_64 : decode cX19_serveRead 64 = .ok (.getfield 252, 3) := by decide +kernel
theorem dX19_serveRead_67 : decode cX19_serveRead 67 = .ok (.iconst 2, 1) := by decide +kernel
theorem dX19_serveRead_68 : decode cX19_serveRead 68 = .ok (.iaload, 1) := by decide +kernel
theorem dX19_serveRead_69 : decode cX19_serveRead 69 = .ok (.iastore, 1) := by decide +kernel
theorem dX19_serveRead_70 : decode cX19_serveRead 70 = .ok (.iconst 0, 1) := by decide +kernel
theorem dX19_serveRead_71 : decode cX19_serveRead 71 = .ok (.istore 4, 2) := by decide +kernel
theorem dX19_serveRead_73 : decode cX19_serveRead 73 = .ok (.iload 4, 2) := by decide +kernel
theorem dX19_serveRead_75 : decode cX19_serveRead 75 = .ok (.bipush 8, 2) := by decide +kernel
theorem dX19_serveRead_77 : decode cX19_serveRead 77 = .ok (.if_icmp .ge 33, 3) := by decide +kernel
theorem dX19_serveRead_80 : decode cX19_serveRead 80 = .ok (.aload_n 0, 1) := by decide +kernel
theorem dX19_serveRead_81 : decode cX19_serveRead 81 = .ok (.getfield 255, 3) := by decide +kernel
theorem dX19_serveRead_84 : decode cX19_serveRead 84 = .ok (.iconst 3, 1) := by decide +kernel
theorem dX19_serveRead_85 : decode cX19_serveRead 85 = .ok (.iload 4, 2) := by decide +kernel
theorem dX19_serveRead_87 : decode cX19_serveRead 87 = .ok (.iadd, 1) := by decide +kernel
theorem dX19_serveRead_88 : decode cX19_serveRead 88 = .ok (.lload_n 2, 1) := by decide +kernel
theorem dX19_serveRead_89 : decode cX19_serveRead 89 = .ok (.bipush 8, 2) := by decide +kernel
theorem dX19_serveRead_91 : decode cX19_serveRead 91 = .ok (.bipush 7, 2) := by decide +kernel
theorem dX19_serveRead_93 : decode cX19_serveRead 93 = .ok (.iload 4, 2) := by decide +kernel
theorem dX19_serveRead_95 : decode cX19_serveRead 95 = .ok (.isub, 1) := by decide +kernel
theorem dX19_serveRead_96 : decode cX19_serveRead 96 = .ok (.imul, 1) := by decide +kernel
theorem dX19_serveRead_97 : decode cX19_serveRead 97 = .ok (.lshr, 1) := by decide +kernel
theorem dX19_serveRead_98 : decode cX19_serveRead 98 = .ok (.ldc2_w 695, 3) := by decide +kernel
theorem dX19_serveRead_101 : decode cX19_serveRead 101 = .ok (.land, 1) := by decide +kernel
theorem dX19_serveRead_102 : decode cX19_serveRead 102 = .ok (.l2i, 1) := by decide +kernel
theorem dX19_serveRead_103 : decode cX19_serveRead 103 = .ok (.iastore, 1) := by decide +kernel
theorem dX19_serveRead_104 : decode cX19_serveRead 104 = .ok (.iinc 4 1, 3) := by decide +kernel
theorem dX19_serveRead_107 : decode cX19_serveRead 107 = .ok (.goto (-34), 3) := by decide +kernel
theorem dX19_serveRead_110 : decode cX19_serveRead 110 = .ok (.aload_n 0, 1) := by decide +kernel
theorem dX19_serveRead_111 : decode cX19_serveRead 111 = .ok (.bipush 11, 2) := by decide +kernel
theorem dX19_serveRead_113 : decode cX19_serveRead 113 = .ok (.putfield 730, 3) := by decide +kernel
theorem dX19_serveRead_116 : decode cX19_serveRead 116 = .ok (.return_, 1) := by decide +kernel
theorem cwX19_serveRead : mw_cwV yX19_serveRead cX19_serveRead 5 (none) 1 := ⟨⟨wd_13, wd_4003, by decide +kernel⟩, wd_4002, sl_304⟩
noncomputable def fX19_serveRead_i73 (fu : Nat) (a1 : Int32) (r73 : (Int64 × Int32 × mwM × mwL) → Option (mwM × mwL)) (v2 : Int64) (v4 : Int32) (M : mwM) (L : mwL) : Option (mwM × mwL) :=
  (if 8 ≤ v4 then mlet (mset M 732 102 11) (fun M2 => some (M2, L)) else mck (3 + v4) 128 (mlet (mset M 933 ((3 + v4).toNatClampNeg) (((v2 >>> ((8 * (7 - v4)).toInt64 &&& 63)) &&& 255).toInt32)) (fun M4 => mlet (v4 + 1) (fun x5 => r73 (v2, x5, M4, L)))))
noncomputable def fX19_serveRead_h73 (fu : Nat) (a1 : Int32) : Nat → (Int64 × Int32 × mwM × mwL) → Option (mwM × mwL) := mloop (fun r73 s => fX19_serveRead_i73 fu a1 r73 s.1 s.2.1 s.2.2.1 s.2.2.2)
noncomputable def DX19_serveRead (fu : Nat) (a1 : Int32) (M : mwM) (L : mwL) : Option (mwM × mwL) :=
  mb3 (DX19_isThere fu a1 M L) (fun r8 M6 L7 => (if r8 = 0 then mb2 (DX19_no fu 49 M6 L7) (fun M24 L25 => some (M24, L25)) else mck ((M6 932 (1 : Int32).toNatClampNeg) - 1) 12 (mb3 (DX13_value fu ((964 + 53 * ((M6 932 (1 : Int32).toNatClampNeg) - 1).toNatClampNeg)) (M6 932 (2 : Int32).toNatClampNeg) M6 L7) (fun r15 M13 L14 => mlet (mset M13 933 ((0 : Int32).toNatClampNeg) 98) (fun M17 => mlet (mset M17 933 ((1 : Int32).toNatClampNeg) (M17 932 (1 : Int32).toNatClampNeg)) (fun M20 => mlet (mset M20 933 ((2 : Int32).toNatClampNeg) (M20 932 (2 : Int32).toNatClampNeg)) (fun M23 => fX19_serveRead_h73 fu a1 fu (r15, 0, M23, L14))))))))
set_option maxHeartbeats 4000000 in
set_option maxRecDepth 100000 in
theorem tX19_serveRead (l : Launch) (G : mwG) (ad : Nat → Nat) (fu : Nat) (a1 : Int32) (M : mwM) (L : mwL) {M0 : mwM} {L0 : mwL} (hD : DX19_serveRead fu a1 M L = some (M0, L0)) : Met l yX19_serveRead (Cond.code yX19_serveRead cX19_serveRead 5 (none) :: GT) ({ frames := 1, cells := 0, slots := 0, locals := 21 }) (mw_Pre G ad NF TF FF M L [.ref (ad 732), .int a1]) (mw_Qv G ad NF TF FF (mw_eqV M0 L0)) 0 0 (mw_fr G) := by
  refine mw_enter (by decide) (Nat.le_of_ble_eq_true rfl) ?_
  intro p e s m below meth c ls C hr hlocks hnm hw hl
  have hl : lv_has ls 5 [(0, .ref (ad 732)), (1, .int a1)] := hl
  have hh73 : ∀ (f : Nat) (v2 : Int64) (v4 : Int32) (M : mwM) (L : mwL) (H : Heap) (locs : List Loc) (ls : Array Slot), fX19_serveRead_h73 fu a1 f (v2, v4, M, L) = some (M0, L0) → mw_W G ad NF TF FF M L H locs → lv_has ls 5 [(0, .ref (ad 732)), (2, .long v2), (4, .int v4)] → W p l e ({ frames := 1, cells := 0, slots := 0, locals := 21 }) s m [.ref (ad 732), .int a1].toArray below meth c H locs 0 0 (MQ below (mw_Qv G ad NF TF FF (mw_eqV M0 L0)) [.ref (ad 732), .int a1].toArray s 0 0 (mw_fr G)) (F0 m 73 ls []) := by
    intro f
    induction f with
    | zero => intro v2 v4 M L H locs ls hD; cases hD
    | succ f73 ih73 =>
      intro v2 v4 M L H locs ls hD hw hl
      replace hD : fX19_serveRead_i73 fu a1 (fX19_serveRead_h73 fu a1 f73) v2 v4 M L = some (M0, L0) := hD
      unfold fX19_serveRead_i73 at hD
      refine lv_iload C.1.1 C.1.2.1 dX19_serveRead_73 (lv_at hl 2 rfl) ?_
      refine lv_bipush (v := 8) C.1.1 C.1.2.1 dX19_serveRead_75 (by decide) ?_
      refine lv_icmp_ge (tgt := 110) C.1.1 C.1.2.1 dX19_serveRead_77 (by decide) (fun c1 => ?_) (fun c1 => ?_)
      · replace hD := g_pos c1 hD
        refine lv_aload_n C.1.1 C.1.2.1 dX19_serveRead_110 rfl (lv_at hl 0 rfl) ?_
        refine lv_bipush (v := 11) C.1.1 C.1.2.1 dX19_serveRead_111 (by decide) ?_
        obtain ⟨M2, eM2, hD⟩ := g_let hD
        refine mr_putI C hw kc_19 102 (by decide) tf_732 wd_2883 dX19_serveRead_113 (by decide) rfl rfl rfl rfl (fun H locs hw => ?_)
        replace hw : mw_W G ad NF TF FF M2 L H locs := by rw [eM2]; exact hw
        exact mr_vret C hr hlocks hw (Option.some.inj hD) dX19_serveRead_116
      · replace hD := g_neg c1 hD
        refine lv_aload_n C.1.1 C.1.2.1 dX19_serveRead_80 rfl (lv_at hl 0 rfl) ?_
        refine mr_getR C hw kc_19 101 (by decide) tf_732 ff_732_101 wd_2882 dX19_serveRead_81 (by decide) rfl ?_
        refine lv_iconst (v := 3) C.1.1 C.1.2.1 dX19_serveRead_84 (by decide) ?_
        refine lv_iload C.1.1 C.1.2.1 dX19_serveRead_85 (lv_at hl 2 rfl) ?_
        refine lv_iadd C.1.1 C.1.2.1 dX19_serveRead_87 ?_
        refine lv_lload_n C.1.1 C.1.2.1 dX19_serveRead_88 rfl (lv_at hl 1 rfl) ?_
        refine lv_bipush (v := 8) C.1.1 C.1.2.1 dX19_serveRead_89 (by decide) ?_
        refine lv_bipush (v := 7) C.1.1 C.1.2.1 dX19_serveRead_91 (by decide) ?_
        refine lv_iload C.1.1 C.1.2.1 dX19_serveRead_93 (lv_at hl 2 rfl) ?_
        refine lv_isub C.1.1 C.1.2.1 dX19_serveRead_95 ?_
        refine lv_imul C.1.1 C.1.2.1 dX19_serveRead_96 ?_
        refine lv_lshr C.1.1 C.1.2.1 dX19_serveRead_97 rfl ?_
        refine lv_ldc2 (v := 255) C.1.1 C.1.2.1 C.1.2.2.2.1 (C.1.2.2.2.2 _ wd_3878) dX19_serveRead_98 ?_
        refine lv_land C.1.1 C.1.2.1 dX19_serveRead_101 ?_
        refine lv_l2i C.1.1 C.1.2.1 dX19_serveRead_102 rfl ?_
        obtain ⟨q3, hD⟩ := g_ck hD
        obtain ⟨M4, eM4, hD⟩ := g_let hD
        refine mr_iast C hw (by decide) tf_933 q3 dX19_serveRead_103 (fun H locs hw => ?_)
        replace hw : mw_W G ad NF TF FF M4 L H locs := by rw [eM4]; exact hw
        obtain ⟨x5, ex5, hD⟩ := g_let hD
        refine lv_iinc (v := x5) (lv' := [(4, .int x5), (0, .ref (ad 732)), (2, .long v2)]) C.1.1 C.1.2.1 dX19_serveRead_104 hl (k := 2) rfl (by rw [ex5]; rfl) (by decide) rfl (fun ls hl => ?_)
        refine lv_goto (tgt := 73) C.1.1 C.1.2.1 dX19_serveRead_107 (by decide) ?_
        exact ih73 v2 x5 M4 L _ _ ls hD hw (lv_sub hl [1, 2, 0] rfl)
  unfold DX19_serveRead at hD
  refine lv_aload_n C.1.1 C.1.2.1 dX19_serveRead_0 rfl (lv_at hl 0 rfl) ?_
  refine lv_iload_n C.1.1 C.1.2.1 dX19_serveRead_1 rfl (lv_at hl 1 rfl) ?_
  obtain ⟨r8, M6, L7, h1, hD⟩ := g_b3 hD
  refine md_cvI (As := [.int a1]) (rest := []) C hw (tX19_isThere l G ad fu a1 M L h1) kc_19 (by decide) tf_732 wd_4004 cwX19_isThere ⟨Nat.le_of_ble_eq_true rfl, Nat.le_of_ble_eq_true rfl⟩ rfl hl.1 (Nat.le_of_ble_eq_true rfl) dX19_serveRead_2 rfl rfl ⟨Nat.zero_le _, Nat.zero_le _⟩ rfl (fun H locs hw => ?_)
  refine lv_if_ne (tgt := 15) C.1.1 C.1.2.1 dX19_serveRead_5 (by decide) (fun c9 => ?_) (fun c9 => ?_)
  · replace hD := g_neg c9 hD
    refine lv_aload_n C.1.1 C.1.2.1 dX19_serveRead_15 rfl (lv_at hl 0 rfl) ?_
    refine mr_getR C hw kc_19 82 (by decide) tf_732 ff_732_82 wd_2863 dX19_serveRead_16 (by decide) rfl ?_
    refine lv_aload_n C.1.1 C.1.2.1 dX19_serveRead_19 rfl (lv_at hl 0 rfl) ?_
    refine mr_getR C hw kc_19 100 (by decide) tf_732 ff_732_100 wd_2881 dX19_serveRead_20 (by decide) rfl ?_
    refine lv_iconst (v := 1) C.1.1 C.1.2.1 dX19_serveRead_23 (by decide) ?_
    refine mr_iald C hw (by decide) tf_932 (show vp_in 1 128 from by unfold vp_in; decide) dX19_serveRead_24 ?_
    refine lv_iconst (v := 1) C.1.1 C.1.2.1 dX19_serveRead_25 (by decide) ?_
    refine lv_isub C.1.1 C.1.2.1 dX19_serveRead_26 ?_
    obtain ⟨q11, hD⟩ := g_ck hD
    refine mr_aald C hw (by decide) tf_922 (by decide) (by decide) rfl rfl q11 (fr_922 _ (g_lt q11)) dX19_serveRead_27 ?_
    refine lv_aload_n C.1.1 C.1.2.1 dX19_serveRead_28 rfl (lv_at hl 0 rfl) ?_
    refine mr_getR C hw kc_19 100 (by decide) tf_732 ff_732_100 wd_2881 dX19_serveRead_29 (by decide) rfl ?_
    refine lv_iconst (v := 2) C.1.1 C.1.2.1 dX19_serveRead_32 (by decide) ?_
    refine mr_iald C hw (by decide) tf_932 (show vp_in 2 128 from by unfold vp_in; decide) dX19_serveRead_33 ?_
    obtain ⟨r15, M13, L14, h1, hD⟩ := g_b3 hD
    refine md_cvL (As := [.int (M6 932 (2 : Int32).toNatClampNeg)]) (rest := []) C hw (tX13_value l G ad fu ((964 + 53 * ((M6 932 (1 : Int32).toNatClampNeg) - 1).toNatClampNeg)) (M6 932 (2 : Int32).toNatClampNeg) M6 L7 h1 (isMc_of (g_lt q11))) kc_13 (Mc_N0 (isMc_of (g_lt q11))) (Mc_T0 (isMc_of (g_lt q11))) wd_3550 cwX13_value ⟨Nat.le_of_ble_eq_true rfl, Nat.le_of_ble_eq_true rfl⟩ rfl hl.1 (Nat.le_of_ble_eq_true rfl) dX19_serveRead_34 rfl rfl ⟨Nat.zero_le _, Nat.zero_le _⟩ rfl (fun H locs hw => ?_)
    refine lv_lstore_n (lv' := [(2, .long r15), (0, .ref (ad 732)), (1, .int a1)]) C.1.1 C.1.2.1 dX19_serveRead_37 rfl hl (by decide) rfl (fun ls hl => ?_)
    refine lv_aload_n C.1.1 C.1.2.1 dX19_serveRead_38 rfl (lv_at hl 1 rfl) ?_
    refine mr_getR C hw kc_19 101 (by decide) tf_732 ff_732_101 wd_2882 dX19_serveRead_39 (by decide) rfl ?_
    refine lv_iconst (v := 0) C.1.1 C.1.2.1 dX19_serveRead_42 (by decide) ?_
    refine lv_bipush (v := 98) C.1.1 C.1.2.1 dX19_serveRead_43 (by decide) ?_
    obtain ⟨M17, eM17, hD⟩ := g_let hD
    refine mr_iast C hw (by decide) tf_933 (show vp_in 0 128 from by unfold vp_in; decide) dX19_serveRead_45 (fun H locs hw => ?_)
    replace hw : mw_W G ad NF TF FF M17 L14 H locs := by rw [eM17]; exact hw
    refine lv_aload_n C.1.1 C.1.2.1 dX19_serveRead_46 rfl (lv_at hl 1 rfl) ?_
    refine mr_getR C hw kc_19 101 (by decide) tf_732 ff_732_101 wd_2882 dX19_serveRead_47 (by decide) rfl ?_
    refine lv_iconst (v := 1) C.1.1 C.1.2.1 dX19_serveRead_50 (by decide) ?_
    refine lv_aload_n C.1.1 C.1.2.1 dX19_serveRead_51 rfl (lv_at hl 1 rfl) ?_
    refine mr_getR C hw kc_19 100 (by decide) tf_732 ff_732_100 wd_2881 dX19_serveRead_52 (by decide) rfl ?_
    refine lv_iconst (v := 1) C.1.1 C.1.2.1 dX19_serveRead_55 (by decide) ?_
    refine mr_iald C hw (by decide) tf_932 (show vp_in 1 128 from by unfold vp_in; decide) dX19_serveRead_56 ?_
    obtain ⟨M20, eM20, hD⟩ := g_let hD
    refine mr_iast C hw (by decide) tf_933 (show vp_in 1 128 from by unfold vp_in; decide) dX19_serveRead_57 (fun H locs hw => ?_)
    replace hw : mw_W G ad NF TF FF M20 L14 H locs := by rw [eM20]; exact hw
    refine lv_aload_n C.1.1 C.1.2.1 dX19_serveRead_58 rfl (lv_at hl 1 rfl) ?_
    refine mr_getR C hw kc_19 101 (by decide) tf_732 ff_732_101 wd_2882 dX19_serveRead_59 (by decide) rfl ?_
    refine lv_iconst (v := 2) C.1.1 C.1.2.1 dX19_serveRead_62 (by decide) ?_
    refine lv_aload_n C.1.1 C.1.2.1 dX19_serveRead_63 rfl (lv_at hl 1 rfl) ?_
    refine mr_getR C hw kc_19 100 (by decide) tf_732 ff_732_100 wd_2881 dX19_serveRead_64 (by decide) rfl ?_
    refine lv_iconst (v := 2) C.1.1 C.1.2.1 dX19_serveRead_67 (by decide) ?_
    refine mr_iald C hw (by decide) tf_932 (show vp_in 2 128 from by unfold vp_in; decide) dX19_serveRead_68 ?_
    obtain ⟨M23, eM23, hD⟩ := g_let hD
    refine mr_iast C hw (by decide) tf_933 (show vp_in 2 128 from by unfold vp_in; decide) dX19_serveRead_69 (fun H locs hw => ?_)
    replace hw : mw_W G ad NF TF FF M23 L14 H locs := by rw [eM23]; exact hw
    refine lv_iconst (v := 0) C.1.1 C.1.2.1 dX19_serveRead_70 (by decide) ?_
    refine lv_istore (lv' := [(4, .int 0), (2, .long r15), (0, .ref (ad 732)), (1, .int a1)]) C.1.1 C.1.2.1 dX19_serveRead_71 hl (by decide) rfl (fun ls hl => ?_)
    exact hh73 fu r15 0 M23 L14 _ _ ls hD hw (lv_sub hl [2, 1, 0] rfl)
  · replace hD := g_pos c9 hD
    refine lv_aload_n C.1.1 C.1.2.1 dX19_serveRead_8 rfl (lv_at hl 0 rfl) ?_
    refine lv_bipush (v := 49) C.1.1 C.1.2.1 dX19_serveRead_9 (by decide) ?_
    obtain ⟨M24, L25, h1, hD⟩ := g_b2 hD
    refine md_cvV (As := [.int 49]) (rest := []) C hw (tX19_no l G ad fu 49 M6 L7 h1) kc_19 (by decide) tf_732 wd_3992 cwX19_no ⟨Nat.le_of_ble_eq_true rfl, Nat.le_of_ble_eq_true rfl⟩ rfl hl.1 (Nat.le_of_ble_eq_true rfl) dX19_serveRead_11 rfl rfl ⟨Nat.zero_le _, Nat.zero_le _⟩ rfl (fun H locs hw => ?_)
    exact mr_vret C hr hlocks hw (Option.some.inj hD) dX19_serveRead_14

theorem dX19_serveWrite_0 : decode cX19_serveWrite 0 = .ok (.aload_n 0, 1) := by decide +kernel
theorem dX19_serveWrite_1 : decode cX19_serveWrite 1 = .ok (.getfield 261, 3) := by decide +kernel
theorem dX19_serveWrite_4 : decode cX19_serveWrite 4 = .ok (.iload_n 1, 1) := by decide +kernel
theorem dX19_serveWrite_5 : decode cX19_serveWrite 5 = .ok (.baload, 1) := by decide +kernel
theorem dX19_serveWrite_6 : decode cX19_serveWrite 6 = .ok (.ifCond .eq 11, 3) := by decide +kernel
theorem dX19_serveWrite_9 : decode cX19_serveWrite 9 = .ok (.aload_n 0, 1) := by decide +kernel
theorem dX19_serveWrite_10 : decode cX19_serveWrite 10 = .ok (.iload_n 1, 1) := by decide +kernel
theorem dX19_serveWrite_11 : decode cX19_serveWrite 11 = .ok (.invokevirtual 768, 3) := by decide +kernel
theorem dX19_serveWrite_14 : decode cX19_serveWrite 14 = .ok (.ifCond .ne 24, 3) := by decide +kernel
theorem dX19_serveWrite_17 : decode cX19_serveWrite 17 = .ok (.aload_n 0, 1) := by decide +kernel
theorem dX19_serveWrite_18 : decode cX19_serveWrite 18 = .ok (.aload_n 0, 1) := by decide +kernel
theorem dX19_serveWrite_19 : decode cX19_serveWrite 19 = .ok (.getfield 261, 3) := by decide +kernel
theorem dX19_serveWrite_22 : decode cX19_serveWrite 22 = .ok (.iload_n 1, 1) := by decide +kernel
theorem dX19_serveWrite_23 : decode cX19_serveWrite 23 = .ok (.baload, 1) := by decide +kernel
theorem dX19_serveWrite_24 : decode cX19_serveWrite 24 = .ok (.ifCond .eq 8, 3) := by decide +kernel
theorem dX19_serveWrite_27 : decode cX19_serveWrite 27 = .ok (.bipush 49, 2) := by decide +kernel
theorem dX19_serveWrite_29 : decode cX19_serveWrite 29 = .ok (.goto 5, 3) := by decide +kernel
theorem dX19_serveWrite_32 : decode cX19_serveWrite 32 = .ok (.bipush 51, 2) := by decide +kernel
theorem dX19_serveWrite_34 : decode cX19_serveWrite 34 = .ok (.invokevirtual 744, 3) := by decide +kernel
theorem dX19_serveWrite_37 : decode cX19_serveWrite 37 = .ok (.return_, 1) := by decide +kernel
theorem dX19_serveWrite_38 : decode cX19_serveWrite 38 = .ok (.lconst 0, 1) := by decide +kernel
theorem dX19_serveWrite_39 : decode cX19_serveWrite 39 = .ok (.lstore_n 2, 1) := by decide +kernel
theorem dX19_serveWrite_40 : decode cX19_serveWrite 40 = .ok (.iconst 0, 1) := by decide +kernel
theorem dX19_serveWrite_41 : decode cX19_serveWrite 41 = .ok (.istore 4, 2) := by decide +kernel
theorem dX19_serveWrite_43 : decode cX19_serveWrite 43 = .ok (.iload 4, 2) := by decide +kernel
theorem dX19_serveWrite_45 : decode cX19_serveWrite 45 = .ok (.bipush 8, 2) := by decide +kernel
theorem dX19_serveWrite_47 : decode cX19_serveWrite 47 = .ok (.if_icmp .ge 26, 3) := by decide +kernel
theorem dX19_serveWrite_50 : decode cX19_serveWrite 50 = .ok (.lload_n 2, 1) := by decide +kernel
theorem dX19_serveWrite_51 : decode cX19_serveWrite 51 = .ok (.ldc2_w 325, 3) := by decide +kernel
theorem dX19_serveWrite_54 : decode cX19_serveWrite 54 = .ok (.lmul, 1) := by decide +kernel
theorem dX19_serveWrite_55 : decode cX19_serveWrite 55 = .ok (.aload_n 0, 1) := by decide +kernel
theorem dX19_serveWrite_56 : decode cX19_serveWrite 56 = .ok (.getfield 252, 3) := by decide +kernel
theorem dX19_serveWrite_59 : decode cX19_serveWrite 59 = .ok (.iconst 3, 1) := by decide +kernel
theorem dX19_serveWrite_60 : decode cX19_serveWrite 60 = .ok (.iload 4, 2) := by decide +kernel
theorem dX19_serveWrite_62 : decode cX19_serveWrite 62 = .ok (.iadd, 1) := by decide +kernel
theorem dX19_serveWrite_63 : decode cX19_serveWrite 63 = .ok (.iaload, 1) := by decide +kernel
theorem dX19_serveWrite_64 : decode cX19_serveWrite 64 = .ok (.i2l, 1) := by decide +kernel
theorem dX19_serveWrite_65 : decode cX19_serveWrite 65 = .ok (.ladd, 1) := by decide +kernel
theorem dX19_serveWrite_66 : decode cX19_serveWrite 66 = .ok (.lstore_n 2, 1) := by decide +kernel
theorem dX19_serveWrite_67 : decode cX19_serveWrite 67 = .ok (.iinc 4 1, 3) := by decide +kernel
theorem dX19_serveWrite_70 : decode cX19_serveWrite 70 = .ok (.goto (-27), 3) := by decide +kernel
theorem dX19_serveWrite_73 : decode cX19_serveWrite 73 = .ok (.aload_n 0, 1) := by decide +kernel
theorem dX19_serveWrite_74 : decode cX19_serveWrite 74 = .ok (.getfield 217, 3) := by decide +kernel
theorem dX19_serveWrite_77 : decode cX19_serveWrite 77 = .ok (.aload_n 0, 1) := by decide +kernel
theorem dX19_serveWrite_78 : decode cX19_serveWrite 78 = .ok (.getfield 252, 3) := by decide +kernel
theorem dX19_serveWrite_81 : decode cX19_serveWrite 81 = .ok (.iconst 1, 1) := by decide +kernel
theorem dX19_serveWrite_82 : decode cX19_serveWrite 82 = .ok (.iaload, 1) := by decide +kernel
theorem dX19_serveWrite_83 : decode cX19_serveWrite 83 = .ok (.iconst 1, 1) := by decide +kernel
theorem dX19_serveWrite_84 : decode cX19_serveWrite 84 = .ok (.isub, 1) := by decide +kernel
theorem dX19_serveWrite_85 : decode cX19_serveWrite 85 = .ok (.aaload, 1) := by decide +kernel
theorem dX19_serveWrite_86 : decode cX19_serveWrite 86 = .ok (.aload_n 0, 1) := by decide +kernel
theorem dX19_serveWrite_87 : decode cX19_serveWrite 87 = .ok (.getfield 252, 3) := by decide +kernel
theorem dX19_serveWrite_90 : decode cX19_serveWrite 90 = .ok (.iconst 2, 1) := by decide +kernel
theorem dX19_serveWrite_91 : decode cX19_serveWrite 91 = .ok (.iaload, 1) := by decide +kernel
theorem dX19_serveWrite_92 : decode cX19_serveWrite 92 = .ok (.lload_n 2, 1) := by decide +kernel
theorem dX19_serveWrite_93 : decode cX19_serveWrite 93 = .ok (.invokevirtual 709, 3) := by decide +kernel
theorem dX19_serveWrite_96 : decode cX19_serveWrite 96 = .ok (.aload_n 0, 1) := by decide +kernel
theorem dX19_serveWrite_97 : decode cX19_serveWrite 97 = .ok (.getfield 255, 3) := by decide +kernel
theorem dX19_serveWrite_100 : decode cX19_serveWrite 100 = .ok (.iconst 0, 1) := by decide +kernel
theorem dX19_serveWrite_101 : decode cX19_serveWrite 101 = .ok (.bipush 110, 2) := by decide +kernel
theorem dX19_serveWrite_103 : decode cX19_serveWrite 103 = .ok (.iastore, 1) := by decide +kernel
theorem dX19_serveWrite_104 : decode cX19_serveWrite 104 = .ok (.aload_n 0, 1) := by decide +kernel
theorem dX19_serveWrite_105 : decode cX19_serveWrite 105 = .ok (.getfield 255, 3) := by decide +kernel
theorem dX19_serveWrite_108 : decode cX19_serveWrite 108 = .ok (.iconst 1, 1) := by decide +kernel
theorem dX19_serveWrite_109 : decode cX19_serveWrite 109 = .ok (.aload_n 0, 1) := by decide +kernel
theorem dX19_serveWrite_110 : decode cX19_serveWrite 110 = .ok (.getfield 252, 3) := by decide +kernel
theorem dX19_serveWrite_113 : decode cX19_serveWrite 113 = .ok (.iconst 1, 1) := by decide +kernel
theorem dX19_serveWrite_114 : decode cX19_serveWrite 114 = .ok (.iaload, 1) := by decide +kernel
theorem dX19_serveWrite_115 : decode cX19_serveWrite 115 = .ok (.iastore, 1) := by decide +kernel
theorem dX19_serveWrite_116 : decode cX19_serveWrite 116 = .ok (.aload_n 0, 1) := by decide +kernel
theorem dX19_serveWrite_117 : decode cX19_serveWrite 117 = .ok (.getfield 255, 3) := by decide +kernel
theorem dX19_serveWrite_120 : decode cX19_serveWrite 120 = .ok (.iconst 2, 1) := by decide +kernel
theorem dX19_serveWrite_121 : decode cX19_serveWrite 121 = .ok (.aload_n 0, 1) := by decide +kernel
theorem dX19_serveWrite_122 : decode cX19_serveWrite 122 = .ok (.getfield 252, 3) := by decide +kernel
theorem dX19_serveWrite_125 : decode cX19_serveWrite 125 = .ok (.iconst 2, 1) := by decide +kernel
theorem dX19_serveWrite_126 : decode cX19_serveWrite 126 = .ok (.iaload, 1) := by decide +kernel
theorem dX19_serveWrite_127 : decode cX19_serveWrite 127 = .ok (.iastore, 1) := by decide +kernel
theorem dX19_serveWrite_128 : decode cX19_serveWrite 128 = .ok (.aload_n 0, 1) := by decide +kernel
theorem dX19_serveWrite_129 : decode cX19_serveWrite 129 = .ok (.iconst 3, 1) := by decide +kernel
theorem dX19_serveWrite_130 : decode cX19_serveWrite 130 = .ok (.putfield 730, 3) := by decide +kernel
theorem dX19_serveWrite_133 : decode cX19_serveWrite 133 = .ok (.return_, 1) := by decide +kernel
theorem cwX19_serveWrite : mw_cwV yX19_serveWrite cX19_serveWrite 5 (none) 1 := ⟨⟨wd_13, wd_4011, by decide +kernel⟩, wd_4010, sl_306⟩
noncomputable def fX19_serveWrite_b34 (fu : Nat) (a1 : Int32) (s1 : Int32) (M : mwM) (L : mwL) : Option (mwM × mwL) :=
  mb2 (DX19_no fu s1 M L) (fun M3 L4 => some (M3, L4))
noncomputable def fX19_serveWrite_b17 (fu : Nat) (a1 : Int32) (M : mwM) (L : mwL) : Option (mwM × mwL) :=
  mck a1 6 ((if (M 935 a1.toNatClampNeg) = 0 then fX19_serveWrite_b34 fu a1 51 M L else fX19_serveWrite_b34 fu a1 49 M L))
noncomputable def fX19_serveWrite_i43 (fu : Nat) (a1 : Int32) (r43 : (Int64 × Int32 × mwM × mwL) → Option (mwM × mwL)) (v2 : Int64) (v4 : Int32) (M : mwM) (L : mwL) : Option (mwM × mwL) :=
  (if 8 ≤ v4 then mck ((M 932 (1 : Int32).toNatClampNeg) - 1) 12 (mb2 (DX13_put fu ((964 + 53 * ((M 932 (1 : Int32).toNatClampNeg) - 1).toNatClampNeg)) (M 932 (2 : Int32).toNatClampNeg) v2 M L) (fun M9 L10 => mlet (mset M9 933 ((0 : Int32).toNatClampNeg) 110) (fun M12 => mlet (mset M12 933 ((1 : Int32).toNatClampNeg) (M12 932 (1 : Int32).toNatClampNeg)) (fun M15 => mlet (mset M15 933 ((2 : Int32).toNatClampNeg) (M15 932 (2 : Int32).toNatClampNeg)) (fun M18 => mlet (mset M18 732 102 3) (fun M19 => some (M19, L10))))))) else mck (3 + v4) 128 (mlet ((v2 * 256) + ((M 932 (3 + v4).toNatClampNeg).toInt64)) (fun x21 => mlet (v4 + 1) (fun x22 => r43 (x21, x22, M, L)))))
noncomputable def fX19_serveWrite_h43 (fu : Nat) (a1 : Int32) : Nat → (Int64 × Int32 × mwM × mwL) → Option (mwM × mwL) := mloop (fun r43 s => fX19_serveWrite_i43 fu a1 r43 s.1 s.2.1 s.2.2.1 s.2.2.2)
noncomputable def DX19_serveWrite (fu : Nat) (a1 : Int32) (M : mwM) (L : mwL) : Option (mwM × mwL) :=
  mck a1 6 ((if (M 935 a1.toNatClampNeg) = 0 then fX19_serveWrite_b17 fu a1 M L else mb3 (DX19_isThere fu a1 M L) (fun r27 M25 L26 => (if r27 = 0 then fX19_serveWrite_b17 fu a1 M25 L26 else fX19_serveWrite_h43 fu a1 fu (0, 0, M25, L26)))))
set_option maxHeartbeats 4000000 in
set_option maxRecDepth 100000 in
theorem tX19_serveWrite (l : Launch) (G : mwG) (ad : Nat → Nat) (fu : Nat) (a1 : Int32) (M : mwM) (L : mwL) {M0 : mwM} {L0 : mwL} (hD : DX19_serveWrite fu a1 M L = some (M0, L0)) : Met l yX19_serveWrite (Cond.code yX19_serveWrite cX19_serveWrite 5 (none) :: GT) ({ frames := 1, cells := 0, slots := 0, locals := 23 }) (mw_Pre G ad NF TF FF M L [.ref (ad 732), .int a1]) (mw_Qv G ad NF TF FF (mw_eqV M0 L0)) 0 0 (mw_fr G) := by
  refine mw_enter (by decide) (Nat.le_of_ble_eq_true rfl) ?_
  intro p e s m below meth c ls C hr hlocks hnm hw hl
  have hl : lv_has ls 5 [(0, .ref (ad 732)), (1, .int a1)] := hl
  have hb34 : ∀ (s1 : Int32) (M : mwM) (L : mwL) (H : Heap) (locs : List Loc) (ls : Array Slot), fX19_serveWrite_b34 fu a1 s1 M L = some (M0, L0) → mw_W G ad NF TF FF M L H locs → lv_has ls 5 [] → W p l e ({ frames := 1, cells := 0, slots := 0, locals := 23 }) s m [.ref (ad 732), .int a1].toArray below meth c H locs 0 0 (MQ below (mw_Qv G ad NF TF FF (mw_eqV M0 L0)) [.ref (ad 732), .int a1].toArray s 0 0 (mw_fr G)) (F0 m 34 ls [.int s1, .ref (ad 732)]) := by
    intro s1 M L H locs ls hD hw hl
    unfold fX19_serveWrite_b34 at hD
    obtain ⟨M3, L4, h1, hD⟩ := g_b2 hD
    refine md_cvV (As := [.int s1]) (rest := []) C hw (tX19_no l G ad fu s1 M L h1) kc_19 (by decide) tf_732 wd_3992 cwX19_no ⟨Nat.le_of_ble_eq_true rfl, Nat.le_of_ble_eq_true rfl⟩ rfl hl.1 (Nat.le_of_ble_eq_true rfl) dX19_serveWrite_34 rfl rfl ⟨Nat.zero_le _, Nat.zero_le _⟩ rfl (fun H locs hw => ?_)
    exact mr_vret C hr hlocks hw (Option.some.inj hD) dX19_serveWrite_37
  have hb17 : ∀ (M : mwM) (L : mwL) (H : Heap) (locs : List Loc) (ls : Array Slot), fX19_serveWrite_b17 fu a1 M L = some (M0, L0) → mw_W G ad NF TF FF M L H locs → lv_has ls 5 [(0, .ref (ad 732)), (1, .int a1)] → W p l e ({ frames := 1, cells := 0, slots := 0, locals := 23 }) s m [.ref (ad 732), .int a1].toArray below meth c H locs 0 0 (MQ below (mw_Qv G ad NF TF FF (mw_eqV M0 L0)) [.ref (ad 732), .int a1].toArray s 0 0 (mw_fr G)) (F0 m 17 ls []) := by
    intro M L H locs ls hD hw hl
    unfold fX19_serveWrite_b17 at hD
    refine lv_aload_n C.1.1 C.1.2.1 dX19_serveWrite_17 rfl (lv_at hl 0 rfl) ?_
    refine lv_aload_n C.1.1 C.1.2.1 dX19_serveWrite_18 rfl (lv_at hl 0 rfl) ?_
    refine mr_getR C hw kc_19 104 (by decide) tf_732 ff_732_104 wd_2885 dX19_serveWrite_19 (by decide) rfl ?_
    refine lv_iload_n C.1.1 C.1.2.1 dX19_serveWrite_22 rfl (lv_at hl 1 rfl) ?_
    obtain ⟨q1, hD⟩ := g_ck hD
    refine mr_zald C hw (by decide) tf_935 q1 dX19_serveWrite_23 ?_
    refine lv_if_eq (tgt := 32) C.1.1 C.1.2.1 dX19_serveWrite_24 (by decide) (fun c2 => ?_) (fun c2 => ?_)
    · replace hD := g_pos c2 hD
      refine lv_bipush (v := 51) C.1.1 C.1.2.1 dX19_serveWrite_32 (by decide) ?_
      exact hb34 51 M L _ _ ls hD hw (lv_sub hl [] rfl)
    · replace hD := g_neg c2 hD
      refine lv_bipush (v := 49) C.1.1 C.1.2.1 dX19_serveWrite_27 (by decide) ?_
      refine lv_goto (tgt := 34) C.1.1 C.1.2.1 dX19_serveWrite_29 (by decide) ?_
      exact hb34 49 M L _ _ ls hD hw (lv_sub hl [] rfl)
  have hh43 : ∀ (f : Nat) (v2 : Int64) (v4 : Int32) (M : mwM) (L : mwL) (H : Heap) (locs : List Loc) (ls : Array Slot), fX19_serveWrite_h43 fu a1 f (v2, v4, M, L) = some (M0, L0) → mw_W G ad NF TF FF M L H locs → lv_has ls 5 [(0, .ref (ad 732)), (2, .long v2), (4, .int v4)] → W p l e ({ frames := 1, cells := 0, slots := 0, locals := 23 }) s m [.ref (ad 732), .int a1].toArray below meth c H locs 0 0 (MQ below (mw_Qv G ad NF TF FF (mw_eqV M0 L0)) [.ref (ad 732), .int a1].toArray s 0 0 (mw_fr G)) (F0 m 43 ls []) := by
    intro f
    induction f with
    | zero => intro v2 v4 M L H locs ls hD; cases hD
    | succ f43 ih43 =>
      intro v2 v4 M L H locs ls hD hw hl
      replace hD : fX19_serveWrite_i43 fu a1 (fX19_serveWrite_h43 fu a1 f43) v2 v4 M L = some (M0, L0) := hD
      unfold fX19_serveWrite_i43 at hD
      refine lv_iload C.1.1 C.1.2.1 dX19_serveWrite_43 (lv_at hl 2 rfl) ?_
      refine lv_bipush (v := 8) C.1.1 C.1.2.1 dX19_serveWrite_45 (by decide) ?_
      refine lv_icmp_ge (tgt := 73) C.1.1 C.1.2.1 dX19_serveWrite_47 (by decide) (fun c5 => ?_) (fun c5 => ?_)
      · replace hD := g_pos c5 hD
        refine lv_aload_n C.1.1 C.1.2.1 dX19_serveWrite_73 rfl (lv_at hl 0 rfl) ?_
        refine mr_getR C hw kc_19 82 (by decide) tf_732 ff_732_82 wd_2863 dX19_serveWrite_74 (by decide) rfl ?_
        refine lv_aload_n C.1.1 C.1.2.1 dX19_serveWrite_77 rfl (lv_at hl 0 rfl) ?_
        refine mr_getR C hw kc_19 100 (by decide) tf_732 ff_732_100 wd_2881 dX19_serveWrite_78 (by decide) rfl ?_
        refine lv_iconst (v := 1) C.1.1 C.1.2.1 dX19_serveWrite_81 (by decide) ?_
        refine mr_iald C hw (by decide) tf_932 (show vp_in 1 128 from by unfold vp_in; decide) dX19_serveWrite_82 ?_
        refine lv_iconst (v := 1) C.1.1 C.1.2.1 dX19_serveWrite_83 (by decide) ?_
        refine lv_isub C.1.1 C.1.2.1 dX19_serveWrite_84 ?_
        obtain ⟨q7, hD⟩ := g_ck hD
        refine mr_aald C hw (by decide) tf_922 (by decide) (by decide) rfl rfl q7 (fr_922 _ (g_lt q7)) dX19_serveWrite_85 ?_
        refine lv_aload_n C.1.1 C.1.2.1 dX19_serveWrite_86 rfl (lv_at hl 0 rfl) ?_
        refine mr_getR C hw kc_19 100 (by decide) tf_732 ff_732_100 wd_2881 dX19_serveWrite_87 (by decide) rfl ?_
        refine lv_iconst (v := 2) C.1.1 C.1.2.1 dX19_serveWrite_90 (by decide) ?_
        refine mr_iald C hw (by decide) tf_932 (show vp_in 2 128 from by unfold vp_in; decide) dX19_serveWrite_91 ?_
        refine lv_lload_n C.1.1 C.1.2.1 dX19_serveWrite_92 rfl (lv_at hl 1 rfl) ?_
        obtain ⟨M9, L10, h1, hD⟩ := g_b2 hD
        refine md_cvV (As := [.int (M 932 (2 : Int32).toNatClampNeg), .long v2]) (rest := []) C hw (tX13_put l G ad fu ((964 + 53 * ((M 932 (1 : Int32).toNatClampNeg) - 1).toNatClampNeg)) (M 932 (2 : Int32).toNatClampNeg) v2 M L h1 (isMc_of (g_lt q7))) kc_13 (Mc_N0 (isMc_of (g_lt q7))) (Mc_T0 (isMc_of (g_lt q7))) wd_3924 cwX13_put ⟨Nat.le_of_ble_eq_true rfl, Nat.le_of_ble_eq_true rfl⟩ rfl hl.1 (Nat.le_of_ble_eq_true rfl) dX19_serveWrite_93 rfl rfl ⟨Nat.zero_le _, Nat.zero_le _⟩ rfl (fun H locs hw => ?_)
        refine lv_aload_n C.1.1 C.1.2.1 dX19_serveWrite_96 rfl (lv_at hl 0 rfl) ?_
        refine mr_getR C hw kc_19 101 (by decide) tf_732 ff_732_101 wd_2882 dX19_serveWrite_97 (by decide) rfl ?_
        refine lv_iconst (v := 0) C.1.1 C.1.2.1 dX19_serveWrite_100 (by decide) ?_
        refine lv_bipush (v := 110) C.1.1 C.1.2.1 dX19_serveWrite_101 (by decide) ?_
        obtain ⟨M12, eM12, hD⟩ := g_let hD
        refine mr_iast C hw (by decide) tf_933 (show vp_in 0 128 from by unfold vp_in; decide) dX19_serveWrite_103 (fun H locs hw => ?_)
        replace hw : mw_W G ad NF TF FF M12 L10 H locs := by rw [eM12]; exact hw
        refine lv_aload_n C.1.1 C.1.2.1 dX19_serveWrite_104 rfl (lv_at hl 0 rfl) ?_
        refine mr_getR C hw kc_19 101 (by decide) tf_732 ff_732_101 wd_2882 dX19_serveWrite_105 (by decide) rfl ?_
        refine lv_iconst (v := 1) C.1.1 C.1.2.1 dX19_serveWrite_108 (by decide) ?_
        refine lv_aload_n C.1.1 C.1.2.1 dX19_serveWrite_109 rfl (lv_at hl 0 rfl) ?_
        refine mr_getR C hw kc_19 100 (by decide) tf_732 ff_732_100 wd_2881 dX19_serveWrite_110 (by decide) rfl ?_
        refine lv_iconst (v := 1) C.1.1 C.1.2.1 dX19_serveWrite_113 (by decide) ?_
        refine mr_iald C hw (by decide) tf_932 (show vp_in 1 128 from by unfold vp_in; decide) dX19_serveWrite_114 ?_
        obtain ⟨M15, eM15, hD⟩ := g_let hD
        refine mr_iast C hw (by decide) tf_933 (show vp_in 1 128 from by unfold vp_in; decide) dX19_serveWrite_115 (fun H locs hw => ?_)
        replace hw : mw_W G ad NF TF FF M15 L10 H locs := by rw [eM15]; exact hw
        refine lv_aload_n C.1.1 C.1.2.1 dX19_serveWrite_116 rfl (lv_at hl 0 rfl) ?_
        refine mr_getR C hw kc_19 101 (by decide) tf_732 ff_732_101 wd_2882 dX19_serveWrite_117 (by decide) rfl ?_
        refine lv_iconst (v := 2) C.1.1 C.1.2.1 dX19_serveWrite_120 (by decide) ?_
        refine lv_aload_n C.1.1 C.1.2.1 dX19_serveWrite_121 rfl (lv_at hl 0 rfl) ?_
        refine mr_getR C hw kc_19 100 (by decide) tf_732 ff_732_100 wd_2881 dX19_serveWrite_122 (by decide) rfl ?_
        refine lv_iconst (v := 2) C.1.1 C.1.2.1 dX19_serveWrite_125 (by decide) ?_
        refine mr_iald C hw (by decide) tf_932 (show vp_in 2 128 from by unfold vp_in; decide) dX19_serveWrite_126 ?_
        obtain ⟨M18, eM18, hD⟩ := g_let hD
        refine mr_iast C hw (by decide) tf_933 (show vp_in 2 128 from by unfold vp_in; decide) dX19_serveWrite_127 (fun H locs hw => ?_)
        replace hw : mw_W G ad NF TF FF M18 L10 H locs := by rw [eM18]; exact hw
        refine lv_aload_n C.1.1 C.1.2.1 dX19_serveWrite_128 rfl (lv_at hl 0 rfl) ?_
        refine lv_iconst (v := 3) C.1.1 C.1.2.1 dX19_serveWrite_129 (by decide) ?_
        obtain ⟨M19, eM19, hD⟩ := g_let hD
        refine mr_putI C hw kc_19 102 (by decide) tf_732 wd_2883 dX19_serveWrite_130 (by decide) rfl rfl rfl rfl (fun H locs hw => ?_)
        replace hw : mw_W G ad NF TF FF M19 L10 H locs := by rw [eM19]; exact hw
        exact mr_vret C hr hlocks hw (Option.some.inj hD) dX19_serveWrite_133
      · replace hD := g_neg c5 hD
        refine lv_lload_n C.1.1 C.1.2.1 dX19_serveWrite_50 rfl (lv_at hl 1 rfl) ?_
        refine lv_ldc2 (v := 256) C.1.1 C.1.2.1 C.1.2.2.2.1 (C.1.2.2.2.2 _ wd_3159) dX19_serveWrite_51 ?_
        refine lv_lmul C.1.1 C.1.2.1 dX19_serveWrite_54 ?_
        refine lv_aload_n C.1.1 C.1.2.1 dX19_serveWrite_55 rfl (lv_at hl 0 rfl) ?_
        refine mr_getR C hw kc_19 100 (by decide) tf_732 ff_732_100 wd_2881 dX19_serveWrite_56 (by decide) rfl ?_
        refine lv_iconst (v := 3) C.1.1 C.1.2.1 dX19_serveWrite_59 (by decide) ?_
        refine lv_iload C.1.1 C.1.2.1 dX19_serveWrite_60 (lv_at hl 2 rfl) ?_
        refine lv_iadd C.1.1 C.1.2.1 dX19_serveWrite_62 ?_
        obtain ⟨q20, hD⟩ := g_ck hD
        refine mr_iald C hw (by decide) tf_932 q20 dX19_serveWrite_63 ?_
        refine lv_i2l C.1.1 C.1.2.1 dX19_serveWrite_64 rfl ?_
        refine lv_ladd C.1.1 C.1.2.1 dX19_serveWrite_65 ?_
        obtain ⟨x21, ex21, hD⟩ := g_let hD
        refine W.eq (g2 := F0 m 66 ls (.long x21 :: [])) (by rw [ex21]) ?_
        refine lv_lstore_n (lv' := [(2, .long x21), (0, .ref (ad 732)), (4, .int v4)]) C.1.1 C.1.2.1 dX19_serveWrite_66 rfl hl (by decide) rfl (fun ls hl => ?_)
        obtain ⟨x22, ex22, hD⟩ := g_let hD
        refine lv_iinc (v := x22) (lv' := [(4, .int x22), (2, .long x21), (0, .ref (ad 732))]) C.1.1 C.1.2.1 dX19_serveWrite_67 hl (k := 2) rfl (by rw [ex22]; rfl) (by decide) rfl (fun ls hl => ?_)
        refine lv_goto (tgt := 43) C.1.1 C.1.2.1 dX19_serveWrite_70 (by decide) ?_
        exact ih43 x21 x22 M L _ _ ls hD hw (lv_sub hl [2, 1, 0] rfl)
  unfold DX19_serveWrite at hD
  refine lv_aload_n C.1.1 C.1.2.1 dX19_serveWrite_0 rfl (lv_at hl 0 rfl) ?_
  refine mr_getR C hw kc_19 104 (by decide) tf_732 ff_732_104 wd_2885 dX19_serveWrite_1 (by decide) rfl ?_
  refine lv_iload_n C.1.1 C.1.2.1 dX19_serveWrite_4 rfl (lv_at hl 1 rfl) ?_
  obtain ⟨q23, hD⟩ := g_ck hD
  refine mr_zald C hw (by decide) tf_935 q23 dX19_serveWrite_5 ?_
  refine lv_if_eq (tgt := 17) C.1.1 C.1.2.1 dX19_serveWrite_6 (by decide) (fun c24 => ?_) (fun c24 => ?_)
  · replace hD := g_pos c24 hD
    exact hb17 M L _ _ ls hD hw (lv_sub hl [0, 1] rfl)
  · replace hD := g_neg c24 hD
    refine lv_aload_n C.1.1 C.1.2.1 dX19_serveWrite_9 rfl (lv_at hl 0 rfl) ?_
    refine lv_iload_n C.1.1 C.1.2.1 dX19_serveWrite_10 rfl (lv_at hl 1 rfl) ?_
    obtain ⟨r27, M25, L26, h1, hD⟩ := g_b3 hD
    refine md_cvI (As := [.int a1]) (rest := []) C hw (tX19_isThere l G ad fu a1 M L h1) kc_19 (by decide) tf_732 wd_4004 cwX19_isThere ⟨Nat.le_of_ble_eq_true rfl, Nat.le_of_ble_eq_true rfl⟩ rfl hl.1 (Nat.le_of_ble_eq_true rfl) dX19_serveWrite_11 rfl rfl ⟨Nat.zero_le _, Nat.zero_le _⟩ rfl (fun H locs hw => ?_)
    refine lv_if_ne (tgt := 38) C.1.1 C.1.2.1 dX19_serveWrite_14 (by decide) (fun c28 => ?_) (fun c28 => ?_)
    · replace hD := g_neg c28 hD
      refine lv_lconst (v := 0) C.1.1 C.1.2.1 dX19_serveWrite_38 (by decide) ?_
      refine lv_lstore_n (lv' := [(2, .long 0), (0, .ref (ad 732)), (1, .int a1)]) C.1.1 C.1.2.1 dX19_serveWrite_39 rfl hl (by decide) rfl (fun ls hl => ?_)
      refine lv_iconst (v := 0) C.1.1 C.1.2.1 dX19_serveWrite_40 (by decide) ?_
      refine lv_istore (lv' := [(4, .int 0), (2, .long 0), (0, .ref (ad 732)), (1, .int a1)]) C.1.1 C.1.2.1 dX19_serveWrite_41 hl (by decide) rfl (fun ls hl => ?_)
      exact hh43 fu 0 0 M25 L26 _ _ ls hD hw (lv_sub hl [2, 1, 0] rfl)
    · replace hD := g_pos c28 hD
      exact hb17 M25 L26 _ _ ls hD hw (lv_sub hl [0, 1] rfl)

theorem dX19_serveTroubles_0 : decode cX19_serveTroubles 0 = .ok (.aload_n 0, 1) := by decide +kernel
theorem dX19_serveTroubles_1 : decode cX19_serveTroubles 1 = .ok (.getfield 205, 3) := by decide +kernel
theorem dX19_serveTroubles_4 : decode cX19_serveTroubles 4 = .ok (.iconst (-1), 1) := by decide +kernel
theorem dX19_serveTroubles_5 : decode cX19_serveTroubles 5 = .ok (.iconst 0, 1) := by decide +kernel
theorem dX19_serveTroubles_6 : decode cX19_serveTroubles 6 = .ok (.invokevirtual 771, 3) := by decide +kernel
theorem dX19_serveTroubles_9 : decode cX19_serveTroubles 9 = .ok (.istore_n 1, 1) := by decide +kernel
theorem dX19_serveTroubles_10 : decode cX19_serveTroubles 10 = .ok (.aload_n 0, 1) := by decide +kernel
theorem dX19_serveTroubles_11 : decode cX19_serveTroubles 11 = .ok (.getfield 255, 3) := by decide +kernel
theorem dX19_serveTroubles_14 : decode cX19_serveTroubles 14 = .ok (.iconst 0, 1) := by decide +kernel
theorem dX19_serveTroubles_15 : decode cX19_serveTroubles 15 = .ok (.bipush 89, 2) := by decide +kernel
theorem dX19_serveTroubles_17 : decode cX19_serveTroubles 17 = .ok (.iastore, 1) := by decide +kernel
theorem dX19_serveTroubles_18 : decode cX19_serveTroubles 18 = .ok (.aload_n 0, 1) := by decide +kernel
theorem dX19_serveTroubles_19 : decode cX19_serveTroubles 19 = .ok (.getfield 255, 3) := by decide +kernel
theorem dX19_serveTroubles_22 : decode cX19_serveTroubles 22 = .ok (.iconst 1, 1) := by decide +kernel
theorem dX19_serveTroubles_23 : decode cX19_serveTroubles 23 = .ok (.iload_n 1, 1) := by decide +kernel
theorem dX19_serveTroubles_24 : decode cX19_serveTroubles 24 = .ok (.iastore, 1) := by decide +kernel
theorem dX19_serveTroubles_25 : decode cX19_serveTroubles 25 = .ok (.iconst 0, 1) := by decide +kernel
theorem dX19_serveTroubles_26 : decode cX19_serveTroubles 26 = .ok (.istore_n 2, 1) := by decide +kernel
theorem dX19_serveTroubles_27 : decode cX19_serveTroubles 27 = .ok (.iload_n 2, 1) := by decide +kernel
theorem dX19_serveTroubles_28 : decode cX19_serveTroubles 28 = .ok (.iload_n 1, 1) := by decide +kernel
theorem dX19_serveTroubles_29 : decode cX19_serveTroubles 29 = .ok (.if_icmp .ge 54, 3) := by decide +kernel
theorem dX19_serveTroubles_32 : decode cX19_serveTroubles 32 = .ok (.aload_n 0, 1) := by decide +kernel
theorem dX19_serveTroubles_33 : decode cX19_serveTroubles 33 = .ok (.getfield 255, 3) := by decide +kernel
theorem dX19_serveTroubles_36 : decode cX19_serveTroubles 36 = .ok (.iconst 2, 1) := by decide +kernel
theorem dX19_serveTroubles_37 : decode cX19_serveTroubles 37 = .ok (.iconst 2, 1) := by decide +kernel
theorem dX19_serveTroubles_38 : decode cX19_serveTroubles 38 = .ok (.iload_n 2, 1) := by decide +kernel
theorem dX19_serveTroubles_39 : decode cX19_serveTroubles 39 = .ok (.imul, 1) := by decide +kernel
theorem dX19_serveTroubles_40 : decode cX19_serveTroubles 40 = .ok (.iadd, 1) := by decide +kernel
theorem dX19_serveTroubles_41 : decode cX19_serveTroubles 41 = .ok (.aload_n 0, 1) := by decide +kernel
theorem dX19_serveTroubles_42 : decode cX19_serveTroubles 42 = .ok (.getfield 205, 3) := by decide +kernel
theorem dX19_serveTroubles_45 : decode cX19_serveTroubles 45 = .ok (.iload_n 2, 1) := by decide +kernel
theorem dX19_serveTroubles_46 : decode cX19_serveTroubles 46 = .ok (.iconst 0, 1) := by decide +kernel
theorem dX19_serveTroubles_47 : decode cX19_serveTroubles 47 = .ok (.invokevirtual 771, 3) := by decide +kernel
theorem dX19_serveTroubles_50 : decode cX19_serveTroubles 50 = .ok (.iastore, 1) := by decide +kernel
theorem dX19_serveTroubles_51 : decode cX19_serveTroubles 51 = .ok (.aload_n 0, 1) := by decide +kernel
theorem dX19_serveTroubles_52 : decode cX19_serveTroubles 52 = .ok (.getfield 255, 3) := by decide +kernel
theorem dX19_serveTroubles_55 : decode cX19_serveTroubles 55 = .ok (.iconst 3, 1) := by decide +kernel
theorem dX19_serveTroubles_56 : decode cX19_serveTroubles 56 = .ok (.iconst 2, 1) := by decide +kernel
theorem dX19_serveTroubles_57 : decode cX19_serveTroubles 57 = .ok (.iload_n 2, 1) := by decide +kernel
theorem dX19_serveTroubles_58 : decode cX19_serveTroubles 58 = .ok (.imul, 1) := by decide +kernel
theorem dX19_serveTroubles_59 : decode cX19_serveTroubles 59 = .ok (.iadd, 1) := by decide +kernel
theorem dX19_serveTroubles_60 : decode cX19_serveTroubles 60 = .ok (.aload_n 0, 1) := by decide +kernel
theorem dX19_serveTroubles_61 : decode cX19_serveTroubles 61 = .ok (.getfield 205, 3) := by decide +kernel
theorem dX19_serveTroubles_64 : decode cX19_serveTroubles 64 = .ok (.aload_n 0, 1) := by decide +kernel
theorem dX19_serveTroubles_65 : decode cX19_serveTroubles 65 = .ok (.getfield 205, 3) := by decide +kernel
theorem dX19_serveTroubles_68 : decode cX19_serveTroubles 68 = .ok (.iload_n 2, 1) := by decide +kernel
theorem dX19_serveTroubles_69 : decode cX19_serveTroubles 69 = .ok (.iconst 0, 1) := by decide +kernel
theorem dX19_serveTroubles_70 : decode cX19_serveTroubles 70 = .ok (.invokevirtual 771, 3) := by decide +kernel
theorem dX19_serveTroubles_73 : decode cX19_serveTroubles 73 = .ok (.invokevirtual 774, 3) := by decide +kernel
theorem dX19_serveTroubles_76 : decode cX19_serveTroubles 76 = .ok (.iastore, 1) := by decide +kernel
theorem dX19_serveTroubles_77 : decode cX19_serveTroubles 77 = .ok (.iinc 2 1, 3) := by decide +kernel
theorem dX19_serveTroubles_80 : decode cX19_serveTroubles 80 = .ok (.goto (-53), 3) := by decide +kernel
theorem dX19_serveTroubles_83 : decode cX19_serveTroubles 83 = .ok (.aload_n 0, 1) := by decide +kernel
theorem dX19_serveTroubles_84 : decode cX19_serveTroubles 84 = .ok (.iconst 2, 1) := by decide +kernel
theorem dX19_serveTroubles_85 : decode cX19_serveTroubles 85 = .ok (.iconst 2, 1) := by decide +kernel
theorem dX19_serveTroubles_86 : decode cX19_serveTroubles 86 = .ok (.iload_n 1, 1) := by decide +kernel
theorem dX19_serveTroubles_87 : decode cX19_serveTroubles 87 = .ok (.imul, 1) := by decide +kernel
theorem dX19_serveTroubles_88 : decode cX19_serveTroubles 88 = .ok (.iadd, 1) := by decide +kernel
theorem dX19_serveTroubles_89 : decode cX19_serveTroubles 89 = .ok (.putfield 730, 3) := by decide +kernel
theorem dX19_serveTroubles_92 : decode cX19_serveTroubles 92 = .ok (.return_, 1) := by decide +kernel
theorem cwX19_serveTroubles : mw_cwV yX19_serveTroubles cX19_serveTroubles 3 (none) 0 := ⟨⟨wd_13, wd_4015, by decide +kernel⟩, wd_4014, sl_307⟩
noncomputable def fX19_serveTroubles_i27 (fu : Nat) (r27 : (Int32 × Int32 × mwM × mwL) → Option (mwM × mwL)) (v1 : Int32) (v2 : Int32) (M : mwM) (L : mwL) : Option (mwM × mwL) :=
  (if v1 ≤ v2 then mlet (mset M 732 102 (2 + (2 * v1))) (fun M2 => some (M2, L)) else mb3 (DX18_stored fu v2 0 M L) (fun r5 M3 L4 => mck (2 + (2 * v2)) 128 (mlet (mset M3 933 ((2 + (2 * v2)).toNatClampNeg) r5) (fun M7 => mb3 (DX18_stored fu v2 0 M7 L4) (fun r10 M8 L9 => mb3 (DX18_status fu r10 M8 L9) (fun r13 M11 L12 => mck (3 + (2 * v2)) 128 (mlet (mset M11 933 ((3 + (2 * v2)).toNatClampNeg) r13) (fun M15 => mlet (v2 + 1) (fun x16 => r27 (v1, x16, M15, L12))))))))))
noncomputable def fX19_serveTroubles_h27 (fu : Nat) : Nat → (Int32 × Int32 × mwM × mwL) → Option (mwM × mwL) := mloop (fun r27 s => fX19_serveTroubles_i27 fu r27 s.1 s.2.1 s.2.2.1 s.2.2.2)
noncomputable def DX19_serveTroubles (fu : Nat) (M : mwM) (L : mwL) : Option (mwM × mwL) :=
  mb3 (DX18_stored fu ((-1)) 0 M L) (fun r19 M17 L18 => mlet (mset M17 933 ((0 : Int32).toNatClampNeg) 89) (fun M21 => mlet (mset M21 933 ((1 : Int32).toNatClampNeg) r19) (fun M23 => fX19_serveTroubles_h27 fu fu (r19, 0, M23, L18))))
set_option maxHeartbeats 4000000 in
set_option maxRecDepth 100000 in
theorem tX19_serveTroubles (l : Launch) (G : mwG) (ad : Nat → Nat) (fu : Nat) (M : mwM) (L : mwL) {M0 : mwM} {L0 : mwL} (hD : DX19_serveTroubles fu M L = some (M0, L0)) : Met l yX19_serveTroubles (Cond.code yX19_serveTroubles cX19_serveTroubles 3 (none) :: GT) ({ frames := 3, cells := 0, slots := 0, locals := 66 }) (mw_Pre G ad NF TF FF M L [.ref (ad 732)]) (mw_Qv G ad NF TF FF (mw_eqV M0 L0)) 0 0 (mw_fr G) := by
  refine mw_enter (by decide) (Nat.le_of_ble_eq_true rfl) ?_
  intro p e s m below meth c ls C hr hlocks hnm hw hl
  have hl : lv_has ls 3 [(0, .ref (ad 732))] := hl
  have hh27 : ∀ (f : Nat) (v1 : Int32) (v2 : Int32) (M : mwM) (L : mwL) (H : Heap) (locs : List Loc) (ls : Array Slot), fX19_serveTroubles_h27 fu f (v1, v2, M, L) = some (M0, L0) → mw_W G ad NF TF FF M L H locs → lv_has ls 3 [(0, .ref (ad 732)), (1, .int v1), (2, .int v2)] → W p l e ({ frames := 3, cells := 0, slots := 0, locals := 66 }) s m [.ref (ad 732)].toArray below meth c H locs 0 0 (MQ below (mw_Qv G ad NF TF FF (mw_eqV M0 L0)) [.ref (ad 732)].toArray s 0 0 (mw_fr G)) (F0 m 27 ls []) := by
    intro f
    induction f with
    | zero => intro v1 v2 M L H locs ls hD; cases hD
    | succ f27 ih27 =>
      intro v1 v2 M L H locs ls hD hw hl
      replace hD : fX19_serveTroubles_i27 fu (fX19_serveTroubles_h27 fu f27) v1 v2 M L = some (M0, L0) := hD
      unfold fX19_serveTroubles_i27 at hD
      refine lv_iload_n C.1.1 C.1.2.1 dX19_serveTroubles_27 rfl (lv_at hl 2 rfl) ?_
      refine lv_iload_n C.1.1 C.1.2.1 dX19_serveTroubles_28 rfl (lv_at hl 1 rfl) ?_
      refine lv_icmp_ge (tgt := 83) C.1.1 C.1.2.1 dX19_serveTroubles_29 (by decide) (fun c1 => ?_) (fun c1 => ?_)
      · replace hD := g_pos c1 hD
        refine lv_aload_n C.1.1 C.1.2.1 dX19_serveTroubles_83 rfl (lv_at hl 0 rfl) ?_
        refine lv_iconst (v := 2) C.1.1 C.1.2.1 dX19_serveTroubles_84 (by decide) ?_
        refine lv_iconst (v := 2) C.1.1 C.1.2.1 dX19_serveTroubles_85 (by decide) ?_
        refine lv_iload_n C.1.1 C.1.2.1 dX19_serveTroubles_86 rfl (lv_at hl 1 rfl) ?_
        refine lv_imul C.1.1 C.1.2.1 dX19_serveTroubles_87 ?_
        refine lv_iadd C.1.1 C.1.2.1 dX19_serveTroubles_88 ?_
        obtain ⟨M2, eM2, hD⟩ := g_let hD
        refine mr_putI C hw kc_19 102 (by decide) tf_732 wd_2883 dX19_serveTroubles_89 (by decide) rfl rfl rfl rfl (fun H locs hw => ?_)
        replace hw : mw_W G ad NF TF FF M2 L H locs := by rw [eM2]; exact hw
        exact mr_vret C hr hlocks hw (Option.some.inj hD) dX19_serveTroubles_92
      · replace hD := g_neg c1 hD
        refine lv_aload_n C.1.1 C.1.2.1 dX19_serveTroubles_32 rfl (lv_at hl 0 rfl) ?_
        refine mr_getR C hw kc_19 101 (by decide) tf_732 ff_732_101 wd_2882 dX19_serveTroubles_33 (by decide) rfl ?_
        refine lv_iconst (v := 2) C.1.1 C.1.2.1 dX19_serveTroubles_36 (by decide) ?_
        refine lv_iconst (v := 2) C.1.1 C.1.2.1 dX19_serveTroubles_37 (by decide) ?_
        refine lv_iload_n C.1.1 C.1.2.1 dX19_serveTroubles_38 rfl (lv_at hl 2 rfl) ?_
        refine lv_imul C.1.1 C.1.2.1 dX19_serveTroubles_39 ?_
        refine lv_iadd C.1.1 C.1.2.1 dX19_serveTroubles_40 ?_
        refine lv_aload_n C.1.1 C.1.2.1 dX19_serveTroubles_41 rfl (lv_at hl 0 rfl) ?_
        refine mr_getR C hw kc_19 80 (by decide) tf_732 ff_732_80 wd_2861 dX19_serveTroubles_42 (by decide) rfl ?_
        refine lv_iload_n C.1.1 C.1.2.1 dX19_serveTroubles_45 rfl (lv_at hl 2 rfl) ?_
        refine lv_iconst (v := 0) C.1.1 C.1.2.1 dX19_serveTroubles_46 (by decide) ?_
        obtain ⟨r5, M3, L4, h1, hD⟩ := g_b3 hD
        refine md_cvI (As := [.int v2, .int 0]) (rest := [.int (2 + (2 * v2)), .ref (ad 933)]) C hw (tX18_stored l G ad fu v2 0 M L h1) kc_18 (by decide) tf_902 wd_4016 cwX18_stored ⟨Nat.le_of_ble_eq_true rfl, Nat.le_of_ble_eq_true rfl⟩ rfl hl.1 (Nat.le_of_ble_eq_true rfl) dX19_serveTroubles_47 rfl rfl ⟨Nat.zero_le _, Nat.zero_le _⟩ rfl (fun H locs hw => ?_)
        obtain ⟨q6, hD⟩ := g_ck hD
        obtain ⟨M7, eM7, hD⟩ := g_let hD
        refine mr_iast C hw (by decide) tf_933 q6 dX19_serveTroubles_50 (fun H locs hw => ?_)
        replace hw : mw_W G ad NF TF FF M7 L4 H locs := by rw [eM7]; exact hw
        refine lv_aload_n C.1.1 C.1.2.1 dX19_serveTroubles_51 rfl (lv_at hl 0 rfl) ?_
        refine mr_getR C hw kc_19 101 (by decide) tf_732 ff_732_101 wd_2882 dX19_serveTroubles_52 (by decide) rfl ?_
        refine lv_iconst (v := 3) C.1.1 C.1.2.1 dX19_serveTroubles_55 (by decide) ?_
        refine lv_iconst (v := 2) C.1.1 C.1.2.1 dX19_serveTroubles_56 (by decide) ?_
        refine lv_iload_n C.1.1 C.1.2.1 dX19_serveTroubles_57 rfl (lv_at hl 2 rfl) ?_
        refine lv_imul C.1.1 C.1.2.1 dX19_serveTroubles_58 ?_
        refine lv_iadd C.1.1 C.1.2.1 dX19_serveTroubles_59 ?_
        refine lv_aload_n C.1.1 C.1.2.1 dX19_serveTroubles_60 rfl (lv_at hl 0 rfl) ?_
        refine mr_getR C hw kc_19 80 (by decide) tf_732 ff_732_80 wd_2861 dX19_serveTroubles_61 (by decide) rfl ?_
        refine lv_aload_n C.1.1 C.1.2.1 dX19_serveTroubles_64 rfl (lv_at hl 0 rfl) ?_
        refine mr_getR C hw kc_19 80 (by decide) tf_732 ff_732_80 wd_2861 dX19_serveTroubles_65 (by decide) rfl ?_
        refine lv_iload_n C.1.1 C.1.2.1 dX19_serveTroubles_68 rfl (lv_at hl 2 rfl) ?_
        refine lv_iconst (v := 0) C.1.1 C.1.2.1 dX19_serveTroubles_69 (by decide) ?_
        obtain ⟨r10, M8, L9, h1, hD⟩ := g_b3 hD
        refine md_cvI (As := [.int v2, .int 0]) (rest := [.ref (ad 902), .int (3 + (2 * v2)), .ref (ad 933)]) C hw (tX18_stored l G ad fu v2 0 M7 L4 h1) kc_18 (by decide) tf_902 wd_4016 cwX18_stored ⟨Nat.le_of_ble_eq_true rfl, Nat.le_of_ble_eq_true rfl⟩ rfl hl.1 (Nat.le_of_ble_eq_true rfl) dX19_serveTroubles_70 rfl rfl ⟨Nat.zero_le _, Nat.zero_le _⟩ rfl (fun H locs hw => ?_)
        obtain ⟨r13, M11, L12, h1, hD⟩ := g_b3 hD
        refine md_cvI (As := [.int r10]) (rest := [.int (3 + (2 * v2)), .ref (ad 933)]) C hw (tX18_status l G ad fu r10 M8 L9 h1) kc_18 (by decide) tf_902 wd_4020 cwX18_status ⟨Nat.le_of_ble_eq_true rfl, Nat.le_of_ble_eq_true rfl⟩ rfl hl.1 (Nat.le_of_ble_eq_true rfl) dX19_serveTroubles_73 rfl rfl ⟨Nat.zero_le _, Nat.zero_le _⟩ rfl (fun H locs hw => ?_)
        obtain ⟨q14, hD⟩ := g_ck hD
        obtain ⟨M15, eM15, hD⟩ := g_let hD
        refine mr_iast C hw (by decide) tf_933 q14 dX19_serveTroubles_76 (fun H locs hw => ?_)
        replace hw : mw_W G ad NF TF FF M15 L12 H locs := by rw [eM15]; exact hw
        obtain ⟨x16, ex16, hD⟩ := g_let hD
        refine lv_iinc (v := x16) (lv' := [(2, .int x16), (0, .ref (ad 732)), (1, .int v1)]) C.1.1 C.1.2.1 dX19_serveTroubles_77 hl (k := 2) rfl (by rw [ex16]; rfl) (by decide) rfl (fun ls hl => ?_)
        refine lv_goto (tgt := 27) C.1.1 C.1.2.1 dX19_serveTroubles_80 (by decide) ?_
        exact ih27 v1 x16 M15 L12 _ _ ls hD hw (lv_sub hl [1, 2, 0] rfl)
  unfold DX19_serveTroubles at hD
  refine lv_aload_n C.1.1 C.1.2.1 dX19_serveTroubles_0 rfl (lv_at hl 0 rfl) ?_
  refine mr_getR C hw kc_19 80 (by decide) tf_732 ff_732_80 wd_2861 dX19_serveTroubles_1 (by decide) rfl ?_
  refine lv_iconst (v := (-1)) C.1.1 C.1.2.1 dX19_serveTroubles_4 (by decide) ?_
  refine lv_iconst (v := 0) C.1.1 C.1.2.1 dX19_serveTroubles_5 (by decide) ?_
  obtain ⟨r19, M17, L18, h1, hD⟩ := g_b3 hD
  refine md_cvI (As := [.int ((-1)), .int 0]) (rest := []) C hw (tX18_stored l G ad fu ((-1)) 0 M L h1) kc_18 (by decide) tf_902 wd_4016 cwX18_stored ⟨Nat.le_of_ble_eq_true rfl, Nat.le_of_ble_eq_true rfl⟩ rfl hl.1 (Nat.le_of_ble_eq_true rfl) dX19_serveTroubles_6 rfl rfl ⟨Nat.zero_le _, Nat.zero_le _⟩ rfl (fun H locs hw => ?_)
  refine lv_istore_n (lv' := [(1, .int r19), (0, .ref (ad 732))]) C.1.1 C.1.2.1 dX19_serveTroubles_9 rfl hl (by decide) rfl (fun ls hl => ?_)
  refine lv_aload_n C.1.1 C.1.2.1 dX19_serveTroubles_10 rfl (lv_at hl 1 rfl) ?_
  refine mr_getR C hw kc_19 101 (by decide) tf_732 ff_732_101 wd_2882 dX19_serveTroubles_11 (by decide) rfl ?_
  refine lv_iconst (v := 0) C.1.1 C.1.2.1 dX19_serveTroubles_14 (by decide) ?_
  refine lv_bipush (v := 89) C.1.1 C.1.2.1 dX19_serveTroubles_15 (by decide) ?_
  obtain ⟨M21, eM21, hD⟩ := g_let hD
  refine mr_iast C hw (by decide) tf_933 (show vp_in 0 128 from by unfold vp_in; decide) dX19_serveTroubles_17 (fun H locs hw => ?_)
  replace hw : mw_W G ad NF TF FF M21 L18 H locs := by rw [eM21]; exact hw
  refine lv_aload_n C.1.1 C.1.2.1 dX19_serveTroubles_18 rfl (lv_at hl 1 rfl) ?_
  refine mr_getR C hw kc_19 101 (by decide) tf_732 ff_732_101 wd_2882 dX19_serveTroubles_19 (by decide) rfl ?_
  refine lv_iconst (v := 1) C.1.1 C.1.2.1 dX19_serveTroubles_22 (by decide) ?_
  refine lv_iload_n C.1.1 C.1.2.1 dX19_serveTroubles_23 rfl (lv_at hl 0 rfl) ?_
  obtain ⟨M23, eM23, hD⟩ := g_let hD
  refine mr_iast C hw (by decide) tf_933 (show vp_in 1 128 from by unfold vp_in; decide) dX19_serveTroubles_24 (fun H locs hw => ?_)
  replace hw : mw_W G ad NF TF FF M23 L18 H locs := by rw [eM23]; exact hw
  refine lv_iconst (v := 0) C.1.1 C.1.2.1 dX19_serveTroubles_25 (by decide) ?_
  refine lv_istore_n (lv' := [(2, .int 0), (1, .int r19), (0, .ref (ad 732))]) C.1.1 C.1.2.1 dX19_serveTroubles_26 rfl hl (by decide) rfl (fun ls hl => ?_)
  exact hh27 fu r19 0 M23 L18 _ _ ls hD hw (lv_sub hl [2, 1, 0] rfl)

theorem dX19_serveClear_0 : decode cX19_serveClear 0 = .ok (.aload_n 0, 1) := by decide +kernel
theorem dX19_serveClear_1 : decode cX19_serveClear 1 = .ok (.getfield 205, 3) := by decide +kernel
theorem dX19_serveClear_4 : decode cX19_serveClear 4 = .ok (.iconst 0, 1) := by decide +kernel
theorem dX19_serveClear_5 : decode cX19_serveClear 5 = .ok (.invokevirtual 777, 3) := by decide +kernel
theorem dX19_serveClear_8 : decode cX19_serveClear 8 = .ok (.istore_n 1, 1) := by decide +kernel
theorem dX19_serveClear_9 : decode cX19_serveClear 9 = .ok (.aload_n 0, 1) := by decide +kernel
theorem dX19_serveClear_10 : decode cX19_serveClear 10 = .ok (.getfield 255, 3) := by decide +kernel
theorem dX19_serveClear_13 : decode cX19_serveClear 13 = .ok (.iconst 0, 1) := by decide +kernel
theorem dX19_serveClear_14 : decode cX19_serveClear 14 = .ok (.bipush 84, 2) := by decide +kernel
theorem dX19_serveClear_16 : decode cX19_serveClear 16 = .ok (.iastore, 1) := by decide +kernel
theorem dX19_serveClear_17 : decode cX19_serveClear 17 = .ok (.aload_n 0, 1) := by decide +kernel
theorem dX19_serveClear_18 : decode cX19_serveClear 18 = .ok (.iconst 1, 1) := by decide +kernel
theorem dX19_serveClear_19 : decode cX19_serveClear 19 = .ok (.putfield 730, 3) := by decide +kernel
theorem dX19_serveClear_22 : decode cX19_serveClear 22 = .ok (.return_, 1) := by decide +kernel
theorem cwX19_serveClear : mw_cwV yX19_serveClear cX19_serveClear 2 (none) 0 := ⟨⟨wd_13, wd_4027, by decide +kernel⟩, wd_4026, sl_308⟩
noncomputable def DX19_serveClear (fu : Nat) (M : mwM) (L : mwL) : Option (mwM × mwL) :=
  mb3 (DX18_clear fu 0 M L) (fun r3 M1 L2 => mlet (mset M1 933 ((0 : Int32).toNatClampNeg) 84) (fun M5 => mlet (mset M5 732 102 1) (fun M6 => some (M6, L2))))
set_option maxHeartbeats 4000000 in
set_option maxRecDepth 100000 in
theorem tX19_serveClear (l : Launch) (G : mwG) (ad : Nat → Nat) (fu : Nat) (M : mwM) (L : mwL) {M0 : mwM} {L0 : mwL} (hD : DX19_serveClear fu M L = some (M0, L0)) : Met l yX19_serveClear (Cond.code yX19_serveClear cX19_serveClear 2 (none) :: GT) ({ frames := 3, cells := 0, slots := 0, locals := 68 }) (mw_Pre G ad NF TF FF M L [.ref (ad 732)]) (mw_Qv G ad NF TF FF (mw_eqV M0 L0)) 0 0 (mw_fr G) := by
  refine mw_enter (by decide) (Nat.le_of_ble_eq_true rfl) ?_
  intro p e s m below meth c ls C hr hlocks hnm hw hl
  have hl : lv_has ls 2 [(0, .ref (ad 732))] := hl
  unfold DX19_serveClear at hD
  refine lv_aload_n C.1.1 C.1.2.1 dX19_serveClear_0 rfl (lv_at hl 0 rfl) ?_
  refine mr_getR C hw kc_19 80 (by decide) tf_732 ff_732_80 wd_2861 dX19_serveClear_1 (by decide) rfl ?_
  refine lv_iconst (v := 0) C.1.1 C.1.2.1 dX19_serveClear_4 (by decide) ?_
  obtain ⟨r3, M1, L2, h1, hD⟩ := g_b3 hD
  refine md_cvI (As := [.int 0]) (rest := []) C hw (tX18_clear l G ad fu 0 M L h1) kc_18 (by decide) tf_902 wd_4028 cwX18_clear ⟨Nat.le_of_ble_eq_true rfl, Nat.le_of_ble_eq_true rfl⟩ rfl hl.1 (Nat.le_of_ble_eq_true rfl) dX19_serveClear_5 rfl rfl ⟨Nat.zero_le _, Nat.zero_le _⟩ rfl (fun H locs hw => ?_)
  refine lv_istore_n (lv' := [(1, .int r3), (0, .ref (ad 732))]) C.1.1 C.1.2.1 dX19_serveClear_8 rfl hl (by decide) rfl (fun ls hl => ?_)
  refine lv_aload_n C.1.1 C.1.2.1 dX19_serveClear_9 rfl (lv_at hl 1 rfl) ?_
  refine mr_getR C hw kc_19 101 (by decide) tf_732 ff_732_101 wd_2882 dX19_serveClear_10 (by decide) rfl ?_
  refine lv_iconst (v := 0) C.1.1 C.1.2.1 dX19_serveClear_13 (by decide) ?_
  refine lv_bipush (v := 84) C.1.1 C.1.2.1 dX19_serveClear_14 (by decide) ?_
  obtain ⟨M5, eM5, hD⟩ := g_let hD
  refine mr_iast C hw (by decide) tf_933 (show vp_in 0 128 from by unfold vp_in; decide) dX19_serveClear_16 (fun H locs hw => ?_)
  replace hw : mw_W G ad NF TF FF M5 L2 H locs := by rw [eM5]; exact hw
  refine lv_aload_n C.1.1 C.1.2.1 dX19_serveClear_17 rfl (lv_at hl 1 rfl) ?_
  refine lv_iconst (v := 1) C.1.1 C.1.2.1 dX19_serveClear_18 (by decide) ?_
  obtain ⟨M6, eM6, hD⟩ := g_let hD
  refine mr_putI C hw kc_19 102 (by decide) tf_732 wd_2883 dX19_serveClear_19 (by decide) rfl rfl rfl rfl (fun H locs hw => ?_)
  replace hw : mw_W G ad NF TF FF M6 L2 H locs := by rw [eM6]; exact hw
  exact mr_vret C hr hlocks hw (Option.some.inj hD) dX19_serveClear_22

theorem dX19_serveSeed_0 : decode cX19_serveSeed 0 = .ok (.aload_n 0, 1) := by decide +kernel
theorem dX19_serveSeed_1 : decode cX19_serveSeed 1 = .ok (.getfield 258, 3) := by decide +kernel
theorem dX19_serveSeed_4 : decode cX19_serveSeed 4 = .ok (.iload_n 1, 1) := by decide +kernel
theorem dX19_serveSeed_5 : decode cX19_serveSeed 5 = .ok (.iaload, 1) := by decide +kernel
theorem dX19_serveSeed_6 : decode cX19_serveSeed 6 = .ok (.iconst 1, 1) := by decide +kernel
theorem dX19_serveSeed_7 : decode cX19_serveSeed 7 = .ok (.if_icmp .eq 13, 3) := by decide +kernel
theorem dX19_serveSeed_10 : decode cX19_serveSeed 10 = .ok (.aload_n 0, 1) := by decide +kernel
theorem dX19_serveSeed_11 : decode cX19_serveSeed 11 = .ok (.getfield 270, 3) := by decide +kernel
theorem dX19_serveSeed_14 : decode cX19_serveSeed 14 = .ok (.iload_n 1, 1) := by decide +kernel
theorem dX19_serveSeed_15 : decode cX19_serveSeed 15 = .ok (.iaload, 1) := by decide +kernel
theorem dX19_serveSeed_16 : decode cX19_serveSeed 16 = .ok (.iconst 3, 1) := by decide +kernel
theorem dX19_serveSeed_17 : decode cX19_serveSeed 17 = .ok (.if_icmp .ne 25, 3) := by decide +kernel
theorem dX19_serveSeed_20 : decode cX19_serveSeed 20 = .ok (.aload_n 0, 1) := by decide +kernel
theorem dX19_serveSeed_21 : decode cX19_serveSeed 21 = .ok (.aload_n 0, 1) := by decide +kernel
theorem dX19_serveSeed_22 : decode cX19_serveSeed 22 = .ok (.getfield 258, 3) := by decide +kernel
theorem dX19_serveSeed_25 : decode cX19_serveSeed 25 = .ok (.iload_n 1, 1) := by decide +kernel
theorem dX19_serveSeed_26 : decode cX19_serveSeed 26 = .ok (.iaload, 1) := by decide +kernel
theorem dX19_serveSeed_27 : decode cX19_serveSeed 27 = .ok (.iconst 1, 1) := by decide +kernel
theorem dX19_serveSeed_28 : decode cX19_serveSeed 28 = .ok (.if_icmp .ne 8, 3) := by decide +kernel
theorem dX19_serveSeed_31 : decode cX19_serveSeed 31 = .ok (.bipush 34, 2) := by decide +kernel
theorem dX19_serveSeed_33 : decode cX19_serveSeed 33 = .ok (.goto 5, 3) := by decide +kernel
theorem dX19_serveSeed_36 : decode cX19_serveSeed 36 = .ok (.bipush 54, 2) := by decide +kernel
theorem dX19_serveSeed_38 : decode cX19_serveSeed 38 = .ok (.invokevirtual 744, 3) := by decide +kernel
theorem dX19_serveSeed_41 : decode cX19_serveSeed 41 = .ok (.return_, 1) := by decide +kernel
theorem dX19_serveSeed_42 : decode cX19_serveSeed 42 = .ok (.aload_n 0, 1) := by decide +kernel
theorem dX19_serveSeed_43 : decode cX19_serveSeed 43 = .ok (.dup, 1) := by decide +kernel
theorem dX19_serveSeed_44 : decode cX19_serveSeed 44 = .ok (.getfield 621, 3) := by decide +kernel
theorem dX19_serveSeed_47 : decode cX19_serveSeed 47 = .ok (.iconst 1, 1) := by decide +kernel
theorem dX19_serveSeed_48 : decode cX19_serveSeed 48 = .ok (.iadd, 1) := by decide +kernel
theorem dX19_serveSeed_49 : decode cX19_serveSeed 49 = .ok (.putfield 621, 3) := by decide +kernel
theorem dX19_serveSeed_52 : decode cX19_serveSeed 52 = .ok (.aload_n 0, 1) := by decide +kernel
theorem dX19_serveSeed_53 : decode cX19_serveSeed 53 = .ok (.getfield 264, 3) := by decide +kernel
theorem dX19_serveSeed_56 : decode cX19_serveSeed 56 = .ok (.iload_n 1, 1) := by decide +kernel
theorem dX19_serveSeed_57 : decode cX19_serveSeed 57 = .ok (.iconst 1, 1) := by decide +kernel
theorem dX19_serveSeed_58 : decode cX19_serveSeed 58 = .ok (.bastore, 1) := by decide +kernel
theorem dX19_serveSeed_59 : decode cX19_serveSeed 59 = .ok (.aload_n 0, 1) := by decide +kernel
theorem dX19_serveSeed_60 : decode cX19_serveSeed 60 = .ok (.getfield 267, 3) := by decide +kernel
theorem dX19_serveSeed_63 : decode cX19_serveSeed 63 = .ok (.iload_n 1, 1) := by decide +kernel
theorem dX19_serveSeed_64 : decode cX19_serveSeed 64 = .ok (.ldc2_w 780, 3) := by decide +kernel
theorem dX19_serveSeed_67 : decode cX19_serveSeed 67 = .ok (.aload_n 0, 1) := by decide +kernel
theorem dX19_serveSeed_68 : decode cX19_serveSeed 68 = .ok (.getfield 621, 3) := by decide +kernel
theorem dX19_serveSeed_71 : decode cX19_serveSeed 71 = .ok (.i2l, 1) := by decide +kernel
theorem dX19_serveSeed_72 : decode cX19_serveSeed 72 = .ok (.lmul, 1) := by decide +kernel
theorem dX19_serveSeed_73 : decode cX19_serveSeed 73 = .ok (.ldc2_w 782, 3) := by decide +kernel
theorem dX19_serveSeed_76 : decode cX19_serveSeed 76 = .ok (.land, 1) := by decide +kernel
theorem dX19_serveSeed_77 : decode cX19_serveSeed 77 = .ok (.l2i, 1) := by decide +kernel
theorem dX19_serveSeed_78 : decode cX19_serveSeed 78 = .ok (.iastore, 1) := by decide +kernel
theorem dX19_serveSeed_79 : decode cX19_serveSeed 79 = .ok (.aload_n 0, 1) := by decide +kernel
theorem dX19_serveSeed_80 : decode cX19_serveSeed 80 = .ok (.getfield 255, 3) := by decide +kernel
theorem dX19_serveSeed_83 : decode cX19_serveSeed 83 = .ok (.iconst 0, 1) := by decide +kernel
theorem dX19_serveSeed_84 : decode cX19_serveSeed 84 = .ok (.bipush 103, 2) := by decide +kernel
theorem dX19_serveSeed_86 : decode cX19_serveSeed 86 = .ok (.iastore, 1) := by decide +kernel
theorem dX19_serveSeed_87 : decode cX19_serveSeed 87 = .ok (.aload_n 0, 1) := by decide +kernel
theorem dX19_serveSeed_88 : decode cX19_serveSeed 88 = .ok (.getfield 255, 3) := by decide +kernel
theorem dX19_serveSeed_91 : decode cX19_serveSeed 91 = .ok (.iconst 1, 1) := by decide +kernel
theorem dX19_serveSeed_92 : decode cX19_serveSeed 92 = .ok (.iconst 1, 1) := by decide +kernel
theorem dX19_serveSeed_93 : decode cX19_serveSeed 93 = .ok (.iastore, 1) := by decide +kernel
theorem dX19_serveSeed_94 : decode cX19_serveSeed 94 = .ok (.iconst 0, 1) := by decide +kernel
theorem dX19_serveSeed_95 : decode cX19_serveSeed 95 = .ok (.istore_n 2, 1) := by decide +kernel
theorem dX19_serveSeed_96 : decode cX19_serveSeed 96 = .ok (.iload_n 2, 1) := by decide +kernel
theorem dX19_serveSeed_97 : decode cX19_serveSeed 97 = .ok (.iconst 4, 1) := by decide +kernel
theorem dX19_serveSeed_98 : decode cX19_serveSeed 98 = .ok (.if_icmp .ge 34, 3) := by decide +kernel
theorem dX19_serveSeed_101 : decode cX19_serveSeed 101 = .ok (.aload_n 0, 1) := by decide +kernel
theorem dX19_serveSeed_102 : decode cX19_serveSeed 102 = .ok (.getfield 255, 3) := by decide +kernel
theorem dX19_serveSeed_105 : decode cX19_serveSeed 105 = .ok (.iconst 2, 1) := by decide +kernel
theorem dX19_serveSeed_106 : decode cX19_serveSeed 106 = .ok (.iload_n 2, 1) := by decide +kernel
theorem dX19_serveSeed_107 : decode cX19_serveSeed 107 = .ok (.iadd, 1) := by decide +kernel
theorem dX19_serveSeed_108 : decode cX19_serveSeed 108 = .ok (.aload_n 0, 1) := by decide +kernel
theorem dX19_serveSeed_109 : decode cX19_serveSeed 109 = .ok (.getfield 267, 3) := by decide +kernel
theorem dX19_serveSeed_112 : decode cX19_serveSeed 112 = .ok (.iload_n 1, 1) := by decide +kernel
theorem dX19_serveSeed_113 : decode cX19_serveSeed 113 = .ok (.iaload, 1) := by decide +kernel
theorem dX19_serveSeed_114 : decode cX19_serveSeed 114 = .ok (.bipush 8, 2) := by decide +kernel
theorem dX19_serveSeed_116 : decode cX19_serveSeed 116 = .ok (.iconst 3, 1) := by decide +kernel
theorem dX19_serveSeed_117 : decode cX19_serveSeed 117 = .ok (.iload_n 2, 1) := by decide +kernel
theorem dX19_serveSeed_118 : decode cX19_serveSeed 118 = .ok (.isub, 1) := by decide +kernel
theorem dX19_serveSeed_119 : decode cX19_serveSeed 119 = .ok (.imul, 1) := by decide +kernel
theorem dX19_serveSeed_120 : decode cX19_serveSeed 120 = .ok (.ishr, 1) := by decide +kernel
theorem dX19_serveSeed_121 : decode cX19_serveSeed 121 = .ok (.sipush 255, 3) := by decide +kernel
theorem dX19_serveSeed_124 : decode cX19_serveSeed 124 = .ok (.iand, 1) := by decide +kernel
theorem dX19_serveSeed_125 : decode cX19_serveSeed 125 = .ok (.iastore, 1) := by decide +kernel
theorem dX19_serveSeed_126 : decode cX19_serveSeed 126 = .ok (.iinc 2 1, 3) := by decide +kernel
theorem dX19_serveSeed_129 : decode cX19_serveSeed 129 = .ok (.goto (-33), 3) := by decide +kernel
theorem dX19_serveSeed_132 : decode cX19_serveSeed 132 = .ok (.aload_n 0, 1) := by decide +kernel
theorem dX19_serveSeed_133 : decode cX19_serveSeed 133 = .ok (.bipush 6, 2) := by decide +kernel
theorem dX19_serveSeed_135 : decode cX19_serveSeed 135 = .ok (.putfield 730, 3) := by decide +kernel
theorem dX19_serveSeed_138 : decode cX19_serveSeed 138 = .ok (.return_, 1) := by decide +kernel
theorem cwX19_serveSeed : mw_cwV yX19_serveSeed cX19_serveSeed 3 (none) 1 := ⟨⟨wd_13, wd_4035, by decide +kernel⟩, wd_4034, sl_309⟩
noncomputable def fX19_serveSeed_b38 (fu : Nat) (a1 : Int32) (s1 : Int32) (M : mwM) (L : mwL) : Option (mwM × mwL) :=
  mb2 (DX19_no fu s1 M L) (fun M3 L4 => some (M3, L4))
noncomputable def fX19_serveSeed_b20 (fu : Nat) (a1 : Int32) (M : mwM) (L : mwL) : Option (mwM × mwL) :=
  mck a1 6 ((if (M 934 a1.toNatClampNeg) = 1 then fX19_serveSeed_b38 fu a1 34 M L else fX19_serveSeed_b38 fu a1 54 M L))
noncomputable def fX19_serveSeed_i96 (fu : Nat) (a1 : Int32) (r96 : (Int32 × mwM × mwL) → Option (mwM × mwL)) (v2 : Int32) (M : mwM) (L : mwL) : Option (mwM × mwL) :=
  (if 4 ≤ v2 then mlet (mset M 732 102 6) (fun M6 => some (M6, L)) else mck a1 6 (mck (2 + v2) 128 (mlet (mset M 933 ((2 + v2).toNatClampNeg) (((M 937 a1.toNatClampNeg) >>> ((8 * (3 - v2)) &&& 31)) &&& 255)) (fun M9 => mlet (v2 + 1) (fun x10 => r96 (x10, M9, L))))))
noncomputable def fX19_serveSeed_h96 (fu : Nat) (a1 : Int32) : Nat → (Int32 × mwM × mwL) → Option (mwM × mwL) := mloop (fun r96 s => fX19_serveSeed_i96 fu a1 r96 s.1 s.2.1 s.2.2)
noncomputable def DX19_serveSeed (fu : Nat) (a1 : Int32) (M : mwM) (L : mwL) : Option (mwM × mwL) :=
  mck a1 6 ((if (M 934 a1.toNatClampNeg) = 1 then fX19_serveSeed_b20 fu a1 M L else mck a1 6 ((if (M 938 a1.toNatClampNeg) = 3 then fX19_serveSeed_b20 fu a1 M L else mlet (mset M 732 108 ((M 732 108) + 1)) (fun M15 => mck a1 6 (mlet (mset M15 936 (a1.toNatClampNeg) (vp_nar .boolean 1)) (fun M17 => mck a1 6 (mlet (mset M17 937 (a1.toNatClampNeg) (((2654435761 * ((M17 732 108).toInt64)) &&& 4294967295).toInt32)) (fun M19 => mlet (mset M19 933 ((0 : Int32).toNatClampNeg) 103) (fun M21 => mlet (mset M21 933 ((1 : Int32).toNatClampNeg) 1) (fun M23 => fX19_serveSeed_h96 fu a1 fu (0, M23, L))))))))))))
set_option maxHeartbeats 4000000 in
set_option maxRecDepth 100000 in
theorem tX19_serveSeed (l : Launch) (G : mwG) (ad : Nat → Nat) (fu : Nat) (a1 : Int32) (M : mwM) (L : mwL) {M0 : mwM} {L0 : mwL} (hD : DX19_serveSeed fu a1 M L = some (M0, L0)) : Met l yX19_serveSeed (Cond.code yX19_serveSeed cX19_serveSeed 3 (none) :: GT) ({ frames := 1, cells := 0, slots := 0, locals := 21 }) (mw_Pre G ad NF TF FF M L [.ref (ad 732), .int a1]) (mw_Qv G ad NF TF FF (mw_eqV M0 L0)) 0 0 (mw_fr G) := by
  refine mw_enter (by decide) (Nat.le_of_ble_eq_true rfl) ?_
  intro p e s m below meth c ls C hr hlocks hnm hw hl
  have hl : lv_has ls 3 [(0, .ref (ad 732)), (1, .int a1)] := hl
  have hb38 : ∀ (s1 : Int32) (M : mwM) (L : mwL) (H : Heap) (locs : List Loc) (ls : Array Slot), fX19_serveSeed_b38 fu a1 s1 M L = some (M0, L0) → mw_W G ad NF TF FF M L H locs → lv_has ls 3 [] → W p l e ({ frames := 1, cells := 0, slots := 0, locals := 21 }) s m [.ref (ad 732), .int a1].toArray below meth c H locs 0 0 (MQ below (mw_Qv G ad NF TF FF (mw_eqV M0 L0)) [.ref (ad 732), .int a1].toArray s 0 0 (mw_fr G)) (F0 m 38 ls [.int s1, .ref (ad 732)]) := by
    intro s1 M L H locs ls hD hw hl
    unfold fX19_serveSeed_b38 at hD
    obtain ⟨M3, L4, h1, hD⟩ := g_b2 hD
    refine md_cvV (As := [.int s1]) (rest := []) C hw (tX19_no l G ad fu s1 M L h1) kc_19 (by decide) tf_732 wd_3992 cwX19_no ⟨Nat.le_of_ble_eq_true rfl, Nat.le_of_ble_eq_true rfl⟩ rfl hl.1 (Nat.le_of_ble_eq_true rfl) dX19_serveSeed_38 rfl rfl ⟨Nat.zero_le _, Nat.zero_le _⟩ rfl (fun H locs hw => ?_)
    exact mr_vret C hr hlocks hw (Option.some.inj hD) dX19_serveSeed_41
  have hb20 : ∀ (M : mwM) (L : mwL) (H : Heap) (locs : List Loc) (ls : Array Slot), fX19_serveSeed_b20 fu a1 M L = some (M0, L0) → mw_W G ad NF TF FF M L H locs → lv_has ls 3 [(0, .ref (ad 732)), (1, .int a1)] → W p l e ({ frames := 1, cells := 0, slots := 0, locals := 21 }) s m [.ref (ad 732), .int a1].toArray below meth c H locs 0 0 (MQ below (mw_Qv G ad NF TF FF (mw_eqV M0 L0)) [.ref (ad 732), .int a1].toArray s 0 0 (mw_fr G)) (F0 m 20 ls []) := by
    intro M L H locs ls hD hw hl
    unfold fX19_serveSeed_b20 at hD
    refine lv_aload_n C.1.1 C.1.2.1 dX19_serveSeed_20 rfl (lv_at hl 0 rfl) ?_
    refine lv_aload_n C.1.1 C.1.2.1 dX19_serveSeed_21 rfl (lv_at hl 0 rfl) ?_
    refine mr_getR C hw kc_19 103 (by decide) tf_732 ff_732_103 wd_2884 dX19_serveSeed_22 (by decide) rfl ?_
    refine lv_iload_n C.1.1 C.1.2.1 dX19_serveSeed_25 rfl (lv_at hl 1 rfl) ?_
    obtain ⟨q1, hD⟩ := g_ck hD
    refine mr_iald C hw (by decide) tf_934 q1 dX19_serveSeed_26 ?_
    refine lv_iconst (v := 1) C.1.1 C.1.2.1 dX19_serveSeed_27 (by decide) ?_
    refine lv_icmp_ne (tgt := 36) C.1.1 C.1.2.1 dX19_serveSeed_28 (by decide) (fun c2 => ?_) (fun c2 => ?_)
    · replace hD := g_neg c2 hD
      refine lv_bipush (v := 54) C.1.1 C.1.2.1 dX19_serveSeed_36 (by decide) ?_
      exact hb38 54 M L _ _ ls hD hw (lv_sub hl [] rfl)
    · replace hD := g_pos c2 hD
      refine lv_bipush (v := 34) C.1.1 C.1.2.1 dX19_serveSeed_31 (by decide) ?_
      refine lv_goto (tgt := 38) C.1.1 C.1.2.1 dX19_serveSeed_33 (by decide) ?_
      exact hb38 34 M L _ _ ls hD hw (lv_sub hl [] rfl)
  have hh96 : ∀ (f : Nat) (v2 : Int32) (M : mwM) (L : mwL) (H : Heap) (locs : List Loc) (ls : Array Slot), fX19_serveSeed_h96 fu a1 f (v2, M, L) = some (M0, L0) → mw_W G ad NF TF FF M L H locs → lv_has ls 3 [(0, .ref (ad 732)), (1, .int a1), (2, .int v2)] → W p l e ({ frames := 1, cells := 0, slots := 0, locals := 21 }) s m [.ref (ad 732), .int a1].toArray below meth c H locs 0 0 (MQ below (mw_Qv G ad NF TF FF (mw_eqV M0 L0)) [.ref (ad 732), .int a1].toArray s 0 0 (mw_fr G)) (F0 m 96 ls []) := by
    intro f
    induction f with
    | zero => intro v2 M L H locs ls hD; cases hD
    | succ f96 ih96 =>
      intro v2 M L H locs ls hD hw hl
      replace hD : fX19_serveSeed_i96 fu a1 (fX19_serveSeed_h96 fu a1 f96) v2 M L = some (M0, L0) := hD
      unfold fX19_serveSeed_i96 at hD
      refine lv_iload_n C.1.1 C.1.2.1 dX19_serveSeed_96 rfl (lv_at hl 2 rfl) ?_
      refine lv_iconst (v := 4) C.1.1 C.1.2.1 dX19_serveSeed_97 (by decide) ?_
      refine lv_icmp_ge (tgt := 132) C.1.1 C.1.2.1 dX19_serveSeed_98 (by decide) (fun c5 => ?_) (fun c5 => ?_)
      · replace hD := g_pos c5 hD
        refine lv_aload_n C.1.1 C.1.2.1 dX19_serveSeed_132 rfl (lv_at hl 0 rfl) ?_
        refine lv_bipush (v := 6) C.1.1 C.1.2.1 dX19_serveSeed_133 (by decide) ?_
        obtain ⟨M6, eM6, hD⟩ := g_let hD
        refine mr_putI C hw kc_19 102 (by decide) tf_732 wd_2883 dX19_serveSeed_135 (by decide) rfl rfl rfl rfl (fun H locs hw => ?_)
        replace hw : mw_W G ad NF TF FF M6 L H locs := by rw [eM6]; exact hw
        exact mr_vret C hr hlocks hw (Option.some.inj hD) dX19_serveSeed_138
      · replace hD := g_neg c5 hD
        refine lv_aload_n C.1.1 C.1.2.1 dX19_serveSeed_101 rfl (lv_at hl 0 rfl) ?_
        refine mr_getR C hw kc_19 101 (by decide) tf_732 ff_732_101 wd_2882 dX19_serveSeed_102 (by decide) rfl ?_
        refine lv_iconst (v := 2) C.1.1 C.1.2.1 dX19_serveSeed_105 (by decide) ?_
        refine lv_iload_n C.1.1 C.1.2.1 dX19_serveSeed_106 rfl (lv_at hl 2 rfl) ?_
        refine lv_iadd C.1.1 C.1.2.1 dX19_serveSeed_107 ?_
        refine lv_aload_n C.1.1 C.1.2.1 dX19_serveSeed_108 rfl (lv_at hl 0 rfl) ?_
        refine mr_getR C hw kc_19 106 (by decide) tf_732 ff_732_106 wd_2887 dX19_serveSeed_109 (by decide) rfl ?_
        refine lv_iload_n C.1.1 C.1.2.1 dX19_serveSeed_112 rfl (lv_at hl 1 rfl) ?_
        obtain ⟨q7, hD⟩ := g_ck hD
        refine mr_iald C hw (by decide) tf_937 q7 dX19_serveSeed_113 ?_
        refine lv_bipush (v := 8) C.1.1 C.1.2.1 dX19_serveSeed_114 (by decide) ?_
        refine lv_iconst (v := 3) C.1.1 C.1.2.1 dX19_serveSeed_116 (by decide) ?_
        refine lv_iload_n C.1.1 C.1.2.1 dX19_serveSeed_117 rfl (lv_at hl 2 rfl) ?_
        refine lv_isub C.1.1 C.1.2.1 dX19_serveSeed_118 ?_
        refine lv_imul C.1.1 C.1.2.1 dX19_serveSeed_119 ?_
        refine lv_ishr C.1.1 C.1.2.1 dX19_serveSeed_120 ?_
        refine lv_sipush (v := 255) C.1.1 C.1.2.1 dX19_serveSeed_121 (by decide) ?_
        refine lv_iand C.1.1 C.1.2.1 dX19_serveSeed_124 ?_
        obtain ⟨q8, hD⟩ := g_ck hD
        obtain ⟨M9, eM9, hD⟩ := g_let hD
        refine mr_iast C hw (by decide) tf_933 q8 dX19_serveSeed_125 (fun H locs hw => ?_)
        replace hw : mw_W G ad NF TF FF M9 L H locs := by rw [eM9]; exact hw
        obtain ⟨x10, ex10, hD⟩ := g_let hD
        refine lv_iinc (v := x10) (lv' := [(2, .int x10), (0, .ref (ad 732)), (1, .int a1)]) C.1.1 C.1.2.1 dX19_serveSeed_126 hl (k := 2) rfl (by rw [ex10]; rfl) (by decide) rfl (fun ls hl => ?_)
        refine lv_goto (tgt := 96) C.1.1 C.1.2.1 dX19_serveSeed_129 (by decide) ?_
        exact ih96 x10 M9 L _ _ ls hD hw (lv_sub hl [1, 2, 0] rfl)
  unfold DX19_serveSeed at hD
  refine lv_aload_n C.1.1 C.1.2.1 dX19_serveSeed_0 rfl (lv_at hl 0 rfl) ?_
  refine mr_getR C hw kc_19 103 (by decide) tf_732 ff_732_103 wd_2884 dX19_serveSeed_1 (by decide) rfl ?_
  refine lv_iload_n C.1.1 C.1.2.1 dX19_serveSeed_4 rfl (lv_at hl 1 rfl) ?_
  obtain ⟨q11, hD⟩ := g_ck hD
  refine mr_iald C hw (by decide) tf_934 q11 dX19_serveSeed_5 ?_
  refine lv_iconst (v := 1) C.1.1 C.1.2.1 dX19_serveSeed_6 (by decide) ?_
  refine lv_icmp_eq (tgt := 20) C.1.1 C.1.2.1 dX19_serveSeed_7 (by decide) (fun c12 => ?_) (fun c12 => ?_)
  · replace hD := g_pos c12 hD
    exact hb20 M L _ _ ls hD hw (lv_sub hl [0, 1] rfl)
  · replace hD := g_neg c12 hD
    refine lv_aload_n C.1.1 C.1.2.1 dX19_serveSeed_10 rfl (lv_at hl 0 rfl) ?_
    refine mr_getR C hw kc_19 107 (by decide) tf_732 ff_732_107 wd_2888 dX19_serveSeed_11 (by decide) rfl ?_
    refine lv_iload_n C.1.1 C.1.2.1 dX19_serveSeed_14 rfl (lv_at hl 1 rfl) ?_
    obtain ⟨q13, hD⟩ := g_ck hD
    refine mr_iald C hw (by decide) tf_938 q13 dX19_serveSeed_15 ?_
    refine lv_iconst (v := 3) C.1.1 C.1.2.1 dX19_serveSeed_16 (by decide) ?_
    refine lv_icmp_ne (tgt := 42) C.1.1 C.1.2.1 dX19_serveSeed_17 (by decide) (fun c14 => ?_) (fun c14 => ?_)
    · replace hD := g_neg c14 hD
      refine lv_aload_n C.1.1 C.1.2.1 dX19_serveSeed_42 rfl (lv_at hl 0 rfl) ?_
      refine lv_dup C.1.1 C.1.2.1 dX19_serveSeed_43 rfl ?_
      refine mr_getI C hw kc_19 108 (by decide) tf_732 wd_2889 dX19_serveSeed_44 (by decide) rfl ?_
      refine lv_iconst (v := 1) C.1.1 C.1.2.1 dX19_serveSeed_47 (by decide) ?_
      refine lv_iadd C.1.1 C.1.2.1 dX19_serveSeed_48 ?_
      obtain ⟨M15, eM15, hD⟩ := g_let hD
      refine mr_putI C hw kc_19 108 (by decide) tf_732 wd_2889 dX19_serveSeed_49 (by decide) rfl rfl rfl rfl (fun H locs hw => ?_)
      replace hw : mw_W G ad NF TF FF M15 L H locs := by rw [eM15]; exact hw
      refine lv_aload_n C.1.1 C.1.2.1 dX19_serveSeed_52 rfl (lv_at hl 0 rfl) ?_
      refine mr_getR C hw kc_19 105 (by decide) tf_732 ff_732_105 wd_2886 dX19_serveSeed_53 (by decide) rfl ?_
      refine lv_iload_n C.1.1 C.1.2.1 dX19_serveSeed_56 rfl (lv_at hl 1 rfl) ?_
      refine lv_iconst (v := 1) C.1.1 C.1.2.1 dX19_serveSeed_57 (by decide) ?_
      obtain ⟨q16, hD⟩ := g_ck hD
      obtain ⟨M17, eM17, hD⟩ := g_let hD
      refine mr_zast C hw (by decide) tf_936 q16 dX19_serveSeed_58 (fun H locs hw => ?_)
      replace hw : mw_W G ad NF TF FF M17 L H locs := by rw [eM17]; exact hw
      refine lv_aload_n C.1.1 C.1.2.1 dX19_serveSeed_59 rfl (lv_at hl 0 rfl) ?_
      refine mr_getR C hw kc_19 106 (by decide) tf_732 ff_732_106 wd_2887 dX19_serveSeed_60 (by decide) rfl ?_
      refine lv_iload_n C.1.1 C.1.2.1 dX19_serveSeed_63 rfl (lv_at hl 1 rfl) ?_
      refine lv_ldc2 (v := 2654435761) C.1.1 C.1.2.1 C.1.2.2.2.1 (C.1.2.2.2.2 _ wd_4036) dX19_serveSeed_64 ?_
      refine lv_aload_n C.1.1 C.1.2.1 dX19_serveSeed_67 rfl (lv_at hl 0 rfl) ?_
      refine mr_getI C hw kc_19 108 (by decide) tf_732 wd_2889 dX19_serveSeed_68 (by decide) rfl ?_
      refine lv_i2l C.1.1 C.1.2.1 dX19_serveSeed_71 rfl ?_
      refine lv_lmul C.1.1 C.1.2.1 dX19_serveSeed_72 ?_
      refine lv_ldc2 (v := 4294967295) C.1.1 C.1.2.1 C.1.2.2.2.1 (C.1.2.2.2.2 _ wd_4037) dX19_serveSeed_73 ?_
      refine lv_land C.1.1 C.1.2.1 dX19_serveSeed_76 ?_
      refine lv_l2i C.1.1 C.1.2.1 dX19_serveSeed_77 rfl ?_
      obtain ⟨q18, hD⟩ := g_ck hD
      obtain ⟨M19, eM19, hD⟩ := g_let hD
      refine mr_iast C hw (by decide) tf_937 q18 dX19_serveSeed_78 (fun H locs hw => ?_)
      replace hw : mw_W G ad NF TF FF M19 L H locs := by rw [eM19]; exact hw
      refine lv_aload_n C.1.1 C.1.2.1 dX19_serveSeed_79 rfl (lv_at hl 0 rfl) ?_
      refine mr_getR C hw kc_19 101 (by decide) tf_732 ff_732_101 wd_2882 dX19_serveSeed_80 (by decide) rfl ?_
      refine lv_iconst (v := 0) C.1.1 C.1.2.1 dX19_serveSeed_83 (by decide) ?_
      refine lv_bipush (v := 103) C.1.1 C.1.2.1 dX19_serveSeed_84 (by decide) ?_
      obtain ⟨M21, eM21, hD⟩ := g_let hD
      refine mr_iast C hw (by decide) tf_933 (show vp_in 0 128 from by unfold vp_in; decide) dX19_serveSeed_86 (fun H locs hw => ?_)
      replace hw : mw_W G ad NF TF FF M21 L H locs := by rw [eM21]; exact hw
      refine lv_aload_n C.1.1 C.1.2.1 dX19_serveSeed_87 rfl (lv_at hl 0 rfl) ?_
      refine mr_getR C hw kc_19 101 (by decide) tf_732 ff_732_101 wd_2882 dX19_serveSeed_88 (by decide) rfl ?_
      refine lv_iconst (v := 1) C.1.1 C.1.2.1 dX19_serveSeed_91 (by decide) ?_
      refine lv_iconst (v := 1) C.1.1 C.1.2.1 dX19_serveSeed_92 (by decide) ?_
      obtain ⟨M23, eM23, hD⟩ := g_let hD
      refine mr_iast C hw (by decide) tf_933 (show vp_in 1 128 from by unfold vp_in; decide) dX19_serveSeed_93 (fun H locs hw => ?_)
      replace hw : mw_W G ad NF TF FF M23 L H locs := by rw [eM23]; exact hw
      refine lv_iconst (v := 0) C.1.1 C.1.2.1 dX19_serveSeed_94 (by decide) ?_
      refine lv_istore_n (lv' := [(2, .int 0), (0, .ref (ad 732)), (1, .int a1)]) C.1.1 C.1.2.1 dX19_serveSeed_95 rfl hl (by decide) rfl (fun ls hl => ?_)
      exact hh96 fu 0 M23 L _ _ ls hD hw (lv_sub hl [1, 2, 0] rfl)
    · replace hD := g_pos c14 hD
      exact hb20 M L _ _ ls hD hw (lv_sub hl [0, 1] rfl)
