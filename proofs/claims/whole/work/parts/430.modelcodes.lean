theorem dX14_code_0 : decode cX14_code 0 = .ok (.aload_n 0, 1) := by decide +kernel
theorem dX14_code_1 : decode cX14_code 1 = .ok (.iload_n 1, 1) := by decide +kernel
theorem dX14_code_2 : decode cX14_code 2 = .ok (.invokevirtual 82, 3) := by decide +kernel
theorem dX14_code_5 : decode cX14_code 5 = .ok (.ifCond .eq 5, 3) := by decide +kernel
theorem dX14_code_8 : decode cX14_code 8 = .ok (.iconst (-1), 1) := by decide +kernel
theorem dX14_code_9 : decode cX14_code 9 = .ok (.ireturn, 1) := by decide +kernel
theorem dX14_code_10 : decode cX14_code 10 = .ok (.iload_n 2, 1) := by decide +kernel
theorem dX14_code_11 : decode cX14_code 11 = .ok (.bipush 32, 2) := by decide +kernel
theorem dX14_code_13 : decode cX14_code 13 = .ok (.if_icmp .lt 10, 3) := by decide +kernel
theorem dX14_code_16 : decode cX14_code 16 = .ok (.iload_n 2, 1) := by decide +kernel
theorem dX14_code_17 : decode cX14_code 17 = .ok (.sipush 128, 3) := by decide +kernel
theorem dX14_code_20 : decode cX14_code 20 = .ok (.if_icmp .le 6, 3) := by decide +kernel
theorem dX14_code_23 : decode cX14_code 23 = .ok (.bipush (-2), 2) := by decide +kernel
theorem dX14_code_25 : decode cX14_code 25 = .ok (.ireturn, 1) := by decide +kernel
theorem dX14_code_26 : decode cX14_code 26 = .ok (.iconst 0, 1) := by decide +kernel
theorem dX14_code_27 : decode cX14_code 27 = .ok (.istore_n 3, 1) := by decide +kernel
theorem dX14_code_28 : decode cX14_code 28 = .ok (.iload_n 3, 1) := by decide +kernel
theorem dX14_code_29 : decode cX14_code 29 = .ok (.aload_n 0, 1) := by decide +kernel
theorem dX14_code_30 : decode cX14_code 30 = .ok (.getfield 86, 3) := by decide +kernel
theorem dX14_code_33 : decode cX14_code 33 = .ok (.if_icmp .ge 21, 3) := by decide +kernel
theorem dX14_code_36 : decode cX14_code 36 = .ok (.aload_n 0, 1) := by decide +kernel
theorem dX14_code_37 : decode cX14_code 37 = .ok (.getfield 48, 3) := by decide +kernel
theorem dX14_code_40 : decode cX14_code 40 = .ok (.iload_n 3, 1) := by decide +kernel
theorem dX14_code_41 : decode cX14_code 41 = .ok (.aload_n 0, 1) := by decide +kernel
theorem dX14_code_42 : decode cX14_code 42 = .ok (.getfield 20, 3) := by decide +kernel
theorem dX14_code_45 : decode cX14_code 45 = .ok (.iload_n 3, 1) := by decide +kernel
theorem dX14_code_46 : decode cX14_code 46 = .ok (.iaload, 1) := by decide +kernel
theorem dX14_code_47 : decode cX14_code 47 = .ok (.iastore, 1) := by decide +kernel
theorem dX14_code_48 : decode cX14_code 48 = .ok (.iinc 3 1, 3) := by decide +kernel
theorem dX14_code_51 : decode cX14_code 51 = .ok (.goto (-23), 3) := by decide +kernel
theorem dX14_code_54 : decode cX14_code 54 = .ok (.aload_n 0, 1) := by decide +kernel
theorem dX14_code_55 : decode cX14_code 55 = .ok (.bipush 16, 2) := by decide +kernel
theorem dX14_code_57 : decode cX14_code 57 = .ok (.iload_n 1, 1) := by decide +kernel
theorem dX14_code_58 : decode cX14_code 58 = .ok (.imul, 1) := by decide +kernel
theorem dX14_code_59 : decode cX14_code 59 = .ok (.aload_n 0, 1) := by decide +kernel
theorem dX14_code_60 : decode cX14_code 60 = .ok (.getfield 86, 3) := by decide +kernel
theorem dX14_code_63 : decode cX14_code 63 = .ok (.invokevirtual 92, 3) := by decide +kernel
theorem dX14_code_66 : decode cX14_code 66 = .ok (.aload_n 0, 1) := by decide +kernel
theorem dX14_code_67 : decode cX14_code 67 = .ok (.iload_n 2, 1) := by decide +kernel
theorem dX14_code_68 : decode cX14_code 68 = .ok (.bipush 7, 2) := by decide +kernel
theorem dX14_code_70 : decode cX14_code 70 = .ok (.iadd, 1) := by decide +kernel
theorem dX14_code_71 : decode cX14_code 71 = .ok (.bipush 8, 2) := by decide +kernel
theorem dX14_code_73 : decode cX14_code 73 = .ok (.idiv, 1) := by decide +kernel
theorem dX14_code_74 : decode cX14_code 74 = .ok (.invokevirtual 96, 3) := by decide +kernel
theorem dX14_code_77 : decode cX14_code 77 = .ok (.istore_n 3, 1) := by decide +kernel
theorem dX14_code_78 : decode cX14_code 78 = .ok (.iload_n 2, 1) := by decide +kernel
theorem dX14_code_79 : decode cX14_code 79 = .ok (.istore 4, 2) := by decide +kernel
theorem dX14_code_81 : decode cX14_code 81 = .ok (.iload 4, 2) := by decide +kernel
theorem dX14_code_83 : decode cX14_code 83 = .ok (.bipush 8, 2) := by decide +kernel
theorem dX14_code_85 : decode cX14_code 85 = .ok (.iload_n 3, 1) := by decide +kernel
theorem dX14_code_86 : decode cX14_code 86 = .ok (.imul, 1) := by decide +kernel
theorem dX14_code_87 : decode cX14_code 87 = .ok (.if_icmp .ge 37, 3) := by decide +kernel
theorem dX14_code_90 : decode cX14_code 90 = .ok (.aload_n 0, 1) := by decide +kernel
theorem dX14_code_91 : decode cX14_code 91 = .ok (.getfield 23, 3) := by decide +kernel
theorem dX14_code_94 : decode cX14_code 94 = .ok (.iload_n 3, 1) := by decide +kernel
theorem dX14_code_95 : decode cX14_code 95 = .ok (.iconst 1, 1) := by decide +kernel
theorem dX14_code_96 : decode cX14_code 96 = .ok (.isub, 1) := by decide +kernel
theorem dX14_code_97 : decode cX14_code 97 = .ok (.aload_n 0, 1) := by decide +kernel
theorem dX14_code_98 : decode cX14_code 98 = .ok (.getfield 23, 3) := by decide +kernel
theorem dX14_code_101 : decode cX14_code 101 = .ok (.iload_n 3, 1) := by decide +kernel
theorem dX14_code_102 : decode cX14_code 102 = .ok (.iconst 1, 1) := by decide +kernel
theorem dX14_code_103 : decode cX14_code 103 = .ok (.isub, 1) := by decide +kernel
theorem dX14_code_104 : decode cX14_code 104 = .ok (.iaload, 1) := by decide +kernel
theorem dX14_code_105 : decode cX14_code 105 = .ok (.sipush 128, 3) := by decide +kernel
theorem dX14_code_108 : decode cX14_code 108 = .ok (.iload 4, 2) := by decide +kernel
theorem dX14_code_110 : decode cX14_code 110 = .ok (.bipush 8, 2) := by decide +kernel
theorem dX14_code_112 : decode cX14_code 112 = .ok (.irem, 1) := by decide +kernel
theorem dX14_code_113 : decode cX14_code 113 = .ok (.ishr, 1) := by decide +kernel
theorem dX14_code_114 : decode cX14_code 114 = .ok (.iconst (-1), 1) := by decide +kernel
theorem dX14_code_115 : decode cX14_code 115 = .ok (.ixor, 1) := by decide +kernel
theorem dX14_code_116 : decode cX14_code 116 = .ok (.iand, 1) := by decide +kernel
theorem dX14_code_117 : decode cX14_code 117 = .ok (.iastore, 1) := by decide +kernel
theorem dX14_code_118 : decode cX14_code 118 = .ok (.iinc 4 1, 3) := by decide +kernel
theorem dX14_code_121 : decode cX14_code 121 = .ok (.goto (-40), 3) := by decide +kernel
theorem dX14_code_124 : decode cX14_code 124 = .ok (.iload_n 3, 1) := by decide +kernel
theorem dX14_code_125 : decode cX14_code 125 = .ok (.ireturn, 1) := by decide +kernel
theorem cwX14_code : mw_cwV yX14_code cX14_code 5 ((some .int)) 2 := ⟨⟨wd_16, wd_3585, by decide +kernel⟩, wd_3583, wd_3584⟩
noncomputable def fX14_code_b23 (fu : Nat) (a1 : Int32) (a2 : Int32) (M : mwM) (L : mwL) : Option (Int32 × mwM × mwL) :=
  some ((-2), M, L)
noncomputable def fX14_code_i81 (fu : Nat) (a1 : Int32) (a2 : Int32) (r81 : (Int32 × Int32 × mwM × mwL) → Option (Int32 × mwM × mwL)) (v3 : Int32) (v4 : Int32) (M : mwM) (L : mwL) : Option (Int32 × mwM × mwL) :=
  (if (8 * v3) ≤ v4 then some (v3, M, L) else mck (v3 - 1) 16 (mck (v3 - 1) 16 (mlet (mset M 859 ((v3 - 1).toNatClampNeg) ((M 859 (v3 - 1).toNatClampNeg) &&& ((128 >>> ((v4 - v4 / 8 * 8) &&& 31)) ^^^ ((-1))))) (fun M16 => mlet (v4 + 1) (fun x17 => r81 (v3, x17, M16, L))))))
noncomputable def fX14_code_h81 (fu : Nat) (a1 : Int32) (a2 : Int32) : Nat → (Int32 × Int32 × mwM × mwL) → Option (Int32 × mwM × mwL) := mloop (fun r81 s => fX14_code_i81 fu a1 a2 r81 s.1 s.2.1 s.2.2.1 s.2.2.2)
noncomputable def fX14_code_i28 (fu : Nat) (a1 : Int32) (a2 : Int32) (r28 : (Int32 × mwM × mwL) → Option (Int32 × mwM × mwL)) (v3 : Int32) (M : mwM) (L : mwL) : Option (Int32 × mwM × mwL) :=
  (if (M 854 6) ≤ v3 then mb2 (DX14_codeOf fu (16 * a1) (M 854 6) M L) (fun M2 L3 => mb3 (DX14_tell fu ((a2 + 7) / 8) M2 L3) (fun r7 M5 L6 => fX14_code_h81 fu a1 a2 fu (r7, a2, M5, L6))) else mck v3 300 (mck v3 320 (mlet (mset M 867 (v3.toNatClampNeg) (M 858 v3.toNatClampNeg)) (fun M10 => mlet (v3 + 1) (fun x11 => r28 (x11, M10, L))))))
noncomputable def fX14_code_h28 (fu : Nat) (a1 : Int32) (a2 : Int32) : Nat → (Int32 × mwM × mwL) → Option (Int32 × mwM × mwL) := mloop (fun r28 s => fX14_code_i28 fu a1 a2 r28 s.1 s.2.1 s.2.2)
noncomputable def DX14_code (fu : Nat) (a1 : Int32) (a2 : Int32) (M : mwM) (L : mwL) : Option (Int32 × mwM × mwL) :=
  mb3 (DX14_noKey fu a1 M L) (fun r20 M18 L19 => (if r20 = 0 then (if a2 < 32 then fX14_code_b23 fu a1 a2 M18 L19 else (if a2 ≤ 128 then fX14_code_h28 fu a1 a2 fu (0, M18, L19) else fX14_code_b23 fu a1 a2 M18 L19)) else some ((-1), M18, L19)))
set_option maxHeartbeats 4000000 in
set_option maxRecDepth 100000 in
theorem tX14_code (l : Launch) (G : mwG) (ad : Nat → Nat) (fu : Nat) (a1 : Int32) (a2 : Int32) (M : mwM) (L : mwL) {r0 : Int32} {M0 : mwM} {L0 : mwL} (hD : DX14_code fu a1 a2 M L = some (r0, M0, L0)) : Met l yX14_code (Cond.code yX14_code cX14_code 5 ((some .int)) :: GT) ({ frames := 4, cells := 0, slots := 0, locals := 102 }) (mw_Pre G ad NF TF FF M L [.ref (ad 854), .int a1, .int a2]) (mw_Qi G ad NF TF FF (mw_eqI r0 M0 L0)) 0 0 (mw_fr G) := by
  refine mw_enter (by decide) (Nat.le_of_ble_eq_true rfl) ?_
  intro p e s m below meth c ls C hr hlocks hnm hw hl
  have hl : lv_has ls 5 [(0, .ref (ad 854)), (1, .int a1), (2, .int a2)] := hl
  have hb23 : ∀ (M : mwM) (L : mwL) (H : Heap) (locs : List Loc) (ls : Array Slot), fX14_code_b23 fu a1 a2 M L = some (r0, M0, L0) → mw_W G ad NF TF FF M L H locs → lv_has ls 5 [] → W p l e ({ frames := 4, cells := 0, slots := 0, locals := 102 }) s m [.ref (ad 854), .int a1, .int a2].toArray below meth c H locs 0 0 (MQ below (mw_Qi G ad NF TF FF (mw_eqI r0 M0 L0)) [.ref (ad 854), .int a1, .int a2].toArray s 0 0 (mw_fr G)) (F0 m 23 ls []) := by
    intro M L H locs ls hD hw hl
    unfold fX14_code_b23 at hD
    refine lv_bipush (v := (-2)) C.1.1 C.1.2.1 dX14_code_23 (by decide) ?_
    exact mr_iret C hr hlocks hw rfl (Option.some.inj hD) dX14_code_25
  have hh81 : ∀ (f : Nat) (v3 : Int32) (v4 : Int32) (M : mwM) (L : mwL) (H : Heap) (locs : List Loc) (ls : Array Slot), fX14_code_h81 fu a1 a2 f (v3, v4, M, L) = some (r0, M0, L0) → mw_W G ad NF TF FF M L H locs → lv_has ls 5 [(0, .ref (ad 854)), (3, .int v3), (4, .int v4)] → W p l e ({ frames := 4, cells := 0, slots := 0, locals := 102 }) s m [.ref (ad 854), .int a1, .int a2].toArray below meth c H locs 0 0 (MQ below (mw_Qi G ad NF TF FF (mw_eqI r0 M0 L0)) [.ref (ad 854), .int a1, .int a2].toArray s 0 0 (mw_fr G)) (F0 m 81 ls []) := by
    intro f
    induction f with
    | zero => intro v3 v4 M L H locs ls hD; cases hD
    | succ f81 ih81 =>
      intro v3 v4 M L H locs ls hD hw hl
      replace hD : fX14_code_i81 fu a1 a2 (fX14_code_h81 fu a1 a2 f81) v3 v4 M L = some (r0, M0, L0) := hD
      unfold fX14_code_i81 at hD
      refine lv_iload C.1.1 C.1.2.1 dX14_code_81 (lv_at hl 2 rfl) ?_
      refine lv_bipush (v := 8) C.1.1 C.1.2.1 dX14_code_83 (by decide) ?_
      refine lv_iload_n C.1.1 C.1.2.1 dX14_code_85 rfl (lv_at hl 1 rfl) ?_
      refine lv_imul C.1.1 C.1.2.1 dX14_code_86 ?_
      refine lv_icmp_ge (tgt := 124) C.1.1 C.1.2.1 dX14_code_87 (by decide) (fun c12 => ?_) (fun c12 => ?_)
      · replace hD := g_pos c12 hD
        refine lv_iload_n C.1.1 C.1.2.1 dX14_code_124 rfl (lv_at hl 1 rfl) ?_
        exact mr_iret C hr hlocks hw rfl (Option.some.inj hD) dX14_code_125
      · replace hD := g_neg c12 hD
        refine lv_aload_n C.1.1 C.1.2.1 dX14_code_90 rfl (lv_at hl 0 rfl) ?_
        refine mr_getR C hw kc_14 8 (by decide) tf_854 ff_854_8 wd_2274 dX14_code_91 (by decide) rfl ?_
        refine lv_iload_n C.1.1 C.1.2.1 dX14_code_94 rfl (lv_at hl 1 rfl) ?_
        refine lv_iconst (v := 1) C.1.1 C.1.2.1 dX14_code_95 (by decide) ?_
        refine lv_isub C.1.1 C.1.2.1 dX14_code_96 ?_
        refine lv_aload_n C.1.1 C.1.2.1 dX14_code_97 rfl (lv_at hl 0 rfl) ?_
        refine mr_getR C hw kc_14 8 (by decide) tf_854 ff_854_8 wd_2274 dX14_code_98 (by decide) rfl ?_
        refine lv_iload_n C.1.1 C.1.2.1 dX14_code_101 rfl (lv_at hl 1 rfl) ?_
        refine lv_iconst (v := 1) C.1.1 C.1.2.1 dX14_code_102 (by decide) ?_
        refine lv_isub C.1.1 C.1.2.1 dX14_code_103 ?_
        obtain ⟨q13, hD⟩ := g_ck hD
        refine mr_iald C hw (by decide) tf_859 q13 dX14_code_104 ?_
        refine lv_sipush (v := 128) C.1.1 C.1.2.1 dX14_code_105 (by decide) ?_
        refine lv_iload C.1.1 C.1.2.1 dX14_code_108 (lv_at hl 2 rfl) ?_
        refine lv_bipush (v := 8) C.1.1 C.1.2.1 dX14_code_110 (by decide) ?_
        refine lv_irem C.1.1 C.1.2.1 dX14_code_112 (by decide) ?_
        refine lv_ishr C.1.1 C.1.2.1 dX14_code_113 ?_
        refine lv_iconst (v := (-1)) C.1.1 C.1.2.1 dX14_code_114 (by decide) ?_
        refine lv_ixor C.1.1 C.1.2.1 dX14_code_115 ?_
        refine lv_iand C.1.1 C.1.2.1 dX14_code_116 ?_
        obtain ⟨q15, hD⟩ := g_ck hD
        obtain ⟨M16, eM16, hD⟩ := g_let hD
        refine mr_iast C hw (by decide) tf_859 q15 dX14_code_117 (fun H locs hw => ?_)
        replace hw : mw_W G ad NF TF FF M16 L H locs := by rw [eM16]; exact hw
        obtain ⟨x17, ex17, hD⟩ := g_let hD
        refine lv_iinc (v := x17) (lv' := [(4, .int x17), (0, .ref (ad 854)), (3, .int v3)]) C.1.1 C.1.2.1 dX14_code_118 hl (k := 2) rfl (by rw [ex17]; rfl) (by decide) rfl (fun ls hl => ?_)
        refine lv_goto (tgt := 81) C.1.1 C.1.2.1 dX14_code_121 (by decide) ?_
        exact ih81 v3 x17 M16 L _ _ ls hD hw (lv_sub hl [1, 2, 0] rfl)
  have hh28 : ∀ (f : Nat) (v3 : Int32) (M : mwM) (L : mwL) (H : Heap) (locs : List Loc) (ls : Array Slot), fX14_code_h28 fu a1 a2 f (v3, M, L) = some (r0, M0, L0) → mw_W G ad NF TF FF M L H locs → lv_has ls 5 [(0, .ref (ad 854)), (1, .int a1), (2, .int a2), (3, .int v3)] → W p l e ({ frames := 4, cells := 0, slots := 0, locals := 102 }) s m [.ref (ad 854), .int a1, .int a2].toArray below meth c H locs 0 0 (MQ below (mw_Qi G ad NF TF FF (mw_eqI r0 M0 L0)) [.ref (ad 854), .int a1, .int a2].toArray s 0 0 (mw_fr G)) (F0 m 28 ls []) := by
    intro f
    induction f with
    | zero => intro v3 M L H locs ls hD; cases hD
    | succ f28 ih28 =>
      intro v3 M L H locs ls hD hw hl
      replace hD : fX14_code_i28 fu a1 a2 (fX14_code_h28 fu a1 a2 f28) v3 M L = some (r0, M0, L0) := hD
      unfold fX14_code_i28 at hD
      refine lv_iload_n C.1.1 C.1.2.1 dX14_code_28 rfl (lv_at hl 3 rfl) ?_
      refine lv_aload_n C.1.1 C.1.2.1 dX14_code_29 rfl (lv_at hl 0 rfl) ?_
      refine mr_getI C hw kc_14 6 (by decide) tf_854 wd_2272 dX14_code_30 (by decide) rfl ?_
      refine lv_icmp_ge (tgt := 54) C.1.1 C.1.2.1 dX14_code_33 (by decide) (fun c1 => ?_) (fun c1 => ?_)
      · replace hD := g_pos c1 hD
        refine lv_aload_n C.1.1 C.1.2.1 dX14_code_54 rfl (lv_at hl 0 rfl) ?_
        refine lv_bipush (v := 16) C.1.1 C.1.2.1 dX14_code_55 (by decide) ?_
        refine lv_iload_n C.1.1 C.1.2.1 dX14_code_57 rfl (lv_at hl 1 rfl) ?_
        refine lv_imul C.1.1 C.1.2.1 dX14_code_58 ?_
        refine lv_aload_n C.1.1 C.1.2.1 dX14_code_59 rfl (lv_at hl 0 rfl) ?_
        refine mr_getI C hw kc_14 6 (by decide) tf_854 wd_2272 dX14_code_60 (by decide) rfl ?_
        obtain ⟨M2, L3, h1, hD⟩ := g_b2 hD
        refine md_cvV (As := [.int (16 * a1), .int (M 854 6)]) (rest := []) C hw (tX14_codeOf l G ad fu (16 * a1) (M 854 6) M L h1) kc_14 (by decide) tf_854 wd_3586 cwX14_codeOf ⟨Nat.le_of_ble_eq_true rfl, Nat.le_of_ble_eq_true rfl⟩ rfl hl.1 (Nat.le_of_ble_eq_true rfl) dX14_code_63 rfl rfl ⟨Nat.zero_le _, Nat.zero_le _⟩ rfl (fun H locs hw => ?_)
        refine lv_aload_n C.1.1 C.1.2.1 dX14_code_66 rfl (lv_at hl 0 rfl) ?_
        refine lv_iload_n C.1.1 C.1.2.1 dX14_code_67 rfl (lv_at hl 2 rfl) ?_
        refine lv_bipush (v := 7) C.1.1 C.1.2.1 dX14_code_68 (by decide) ?_
        refine lv_iadd C.1.1 C.1.2.1 dX14_code_70 ?_
        refine lv_bipush (v := 8) C.1.1 C.1.2.1 dX14_code_71 (by decide) ?_
        refine lv_idiv C.1.1 C.1.2.1 dX14_code_73 (by decide) ?_
        obtain ⟨r7, M5, L6, h1, hD⟩ := g_b3 hD
        refine md_cvI (As := [.int ((a2 + 7) / 8)]) (rest := []) C hw (tX14_tell l G ad fu ((a2 + 7) / 8) M2 L3 h1) kc_14 (by decide) tf_854 wd_3606 cwX14_tell ⟨Nat.le_of_ble_eq_true rfl, Nat.le_of_ble_eq_true rfl⟩ rfl hl.1 (Nat.le_of_ble_eq_true rfl) dX14_code_74 rfl rfl ⟨Nat.zero_le _, Nat.zero_le _⟩ rfl (fun H locs hw => ?_)
        refine lv_istore_n (lv' := [(3, .int r7), (0, .ref (ad 854)), (1, .int a1), (2, .int a2)]) C.1.1 C.1.2.1 dX14_code_77 rfl hl (by decide) rfl (fun ls hl => ?_)
        refine lv_iload_n C.1.1 C.1.2.1 dX14_code_78 rfl (lv_at hl 3 rfl) ?_
        refine lv_istore (lv' := [(4, .int a2), (3, .int r7), (0, .ref (ad 854)), (1, .int a1), (2, .int a2)]) C.1.1 C.1.2.1 dX14_code_79 hl (by decide) rfl (fun ls hl => ?_)
        exact hh81 fu r7 a2 M5 L6 _ _ ls hD hw (lv_sub hl [2, 1, 0] rfl)
      · replace hD := g_neg c1 hD
        refine lv_aload_n C.1.1 C.1.2.1 dX14_code_36 rfl (lv_at hl 0 rfl) ?_
        refine mr_getR C hw kc_14 17 (by decide) tf_854 ff_854_17 wd_2282 dX14_code_37 (by decide) rfl ?_
        refine lv_iload_n C.1.1 C.1.2.1 dX14_code_40 rfl (lv_at hl 3 rfl) ?_
        refine lv_aload_n C.1.1 C.1.2.1 dX14_code_41 rfl (lv_at hl 0 rfl) ?_
        refine mr_getR C hw kc_14 5 (by decide) tf_854 ff_854_5 wd_2271 dX14_code_42 (by decide) rfl ?_
        refine lv_iload_n C.1.1 C.1.2.1 dX14_code_45 rfl (lv_at hl 3 rfl) ?_
        obtain ⟨q8, hD⟩ := g_ck hD
        refine mr_iald C hw (by decide) tf_858 q8 dX14_code_46 ?_
        obtain ⟨q9, hD⟩ := g_ck hD
        obtain ⟨M10, eM10, hD⟩ := g_let hD
        refine mr_iast C hw (by decide) tf_867 q9 dX14_code_47 (fun H locs hw => ?_)
        replace hw : mw_W G ad NF TF FF M10 L H locs := by rw [eM10]; exact hw
        obtain ⟨x11, ex11, hD⟩ := g_let hD
        refine lv_iinc (v := x11) (lv' := [(3, .int x11), (0, .ref (ad 854)), (1, .int a1), (2, .int a2)]) C.1.1 C.1.2.1 dX14_code_48 hl (k := 3) rfl (by rw [ex11]; rfl) (by decide) rfl (fun ls hl => ?_)
        refine lv_goto (tgt := 28) C.1.1 C.1.2.1 dX14_code_51 (by decide) ?_
        exact ih28 x11 M10 L _ _ ls hD hw (lv_sub hl [1, 2, 3, 0] rfl)
  unfold DX14_code at hD
  refine lv_aload_n C.1.1 C.1.2.1 dX14_code_0 rfl (lv_at hl 0 rfl) ?_
  refine lv_iload_n C.1.1 C.1.2.1 dX14_code_1 rfl (lv_at hl 1 rfl) ?_
  obtain ⟨r20, M18, L19, h1, hD⟩ := g_b3 hD
  refine md_cvI (As := [.int a1]) (rest := []) C hw (tX14_noKey l G ad fu a1 M L h1) kc_14 (by decide) tf_854 wd_2777 cwX14_noKey ⟨Nat.le_of_ble_eq_true rfl, Nat.le_of_ble_eq_true rfl⟩ rfl hl.1 (Nat.le_of_ble_eq_true rfl) dX14_code_2 rfl rfl ⟨Nat.zero_le _, Nat.zero_le _⟩ rfl (fun H locs hw => ?_)
  refine lv_if_eq (tgt := 10) C.1.1 C.1.2.1 dX14_code_5 (by decide) (fun c21 => ?_) (fun c21 => ?_)
  · replace hD := g_pos c21 hD
    refine lv_iload_n C.1.1 C.1.2.1 dX14_code_10 rfl (lv_at hl 2 rfl) ?_
    refine lv_bipush (v := 32) C.1.1 C.1.2.1 dX14_code_11 (by decide) ?_
    refine lv_icmp_lt (tgt := 23) C.1.1 C.1.2.1 dX14_code_13 (by decide) (fun c22 => ?_) (fun c22 => ?_)
    · replace hD := g_pos c22 hD
      exact hb23 M18 L19 _ _ ls hD hw (lv_sub hl [] rfl)
    · replace hD := g_neg c22 hD
      refine lv_iload_n C.1.1 C.1.2.1 dX14_code_16 rfl (lv_at hl 2 rfl) ?_
      refine lv_sipush (v := 128) C.1.1 C.1.2.1 dX14_code_17 (by decide) ?_
      refine lv_icmp_le (tgt := 26) C.1.1 C.1.2.1 dX14_code_20 (by decide) (fun c23 => ?_) (fun c23 => ?_)
      · replace hD := g_pos c23 hD
        refine lv_iconst (v := 0) C.1.1 C.1.2.1 dX14_code_26 (by decide) ?_
        refine lv_istore_n (lv' := [(3, .int 0), (0, .ref (ad 854)), (1, .int a1), (2, .int a2)]) C.1.1 C.1.2.1 dX14_code_27 rfl hl (by decide) rfl (fun ls hl => ?_)
        exact hh28 fu 0 M18 L19 _ _ ls hD hw (lv_sub hl [1, 2, 3, 0] rfl)
      · replace hD := g_neg c23 hD
        exact hb23 M18 L19 _ _ ls hD hw (lv_sub hl [] rfl)
  · replace hD := g_neg c21 hD
    refine lv_iconst (v := (-1)) C.1.1 C.1.2.1 dX14_code_8 (by decide) ?_
    exact mr_iret C hr hlocks hw rfl (Option.some.inj hD) dX14_code_9

theorem dX14_out_0 : decode cX14_out 0 = .ok (.aload_n 0, 1) := by decide +kernel
theorem dX14_out_1 : decode cX14_out 1 = .ok (.iload_n 1, 1) := by decide +kernel
theorem dX14_out_2 : decode cX14_out 2 = .ok (.ifCond .lt 11, 3) := by decide +kernel
theorem dX14_out_5 : decode cX14_out 5 = .ok (.iload_n 1, 1) := by decide +kernel
theorem dX14_out_6 : decode cX14_out 6 = .ok (.aload_n 0, 1) := by decide +kernel
theorem dX14_out_7 : decode cX14_out 7 = .ok (.getfield 89, 3) := by decide +kernel
theorem dX14_out_10 : decode cX14_out 10 = .ok (.if_icmp .lt 7, 3) := by decide +kernel
theorem dX14_out_13 : decode cX14_out 13 = .ok (.iconst 1, 1) := by decide +kernel
theorem dX14_out_14 : decode cX14_out 14 = .ok (.goto 4, 3) := by decide +kernel
theorem dX14_out_17 : decode cX14_out 17 = .ok (.iconst 0, 1) := by decide +kernel
theorem dX14_out_18 : decode cX14_out 18 = .ok (.putfield 58, 3) := by decide +kernel
theorem dX14_out_21 : decode cX14_out 21 = .ok (.aload_n 0, 1) := by decide +kernel
theorem dX14_out_22 : decode cX14_out 22 = .ok (.getfield 58, 3) := by decide +kernel
theorem dX14_out_25 : decode cX14_out 25 = .ok (.ifCond .le 7, 3) := by decide +kernel
theorem dX14_out_28 : decode cX14_out 28 = .ok (.iconst 0, 1) := by decide +kernel
theorem dX14_out_29 : decode cX14_out 29 = .ok (.goto 10, 3) := by decide +kernel
theorem dX14_out_32 : decode cX14_out 32 = .ok (.aload_n 0, 1) := by decide +kernel
theorem dX14_out_33 : decode cX14_out 33 = .ok (.getfield 23, 3) := by decide +kernel
theorem dX14_out_36 : decode cX14_out 36 = .ok (.iload_n 1, 1) := by decide +kernel
theorem dX14_out_37 : decode cX14_out 37 = .ok (.iaload, 1) := by decide +kernel
theorem dX14_out_38 : decode cX14_out 38 = .ok (.i2b, 1) := by decide +kernel
theorem dX14_out_39 : decode cX14_out 39 = .ok (.ireturn, 1) := by decide +kernel
theorem cwX14_out : mw_cwV yX14_out cX14_out 2 ((some .byte)) 1 := ⟨⟨wd_16, wd_3613, by decide +kernel⟩, wd_3611, wd_3612⟩
noncomputable def fX14_out_b39 (fu : Nat) (a1 : Int32) (s0 : Int32) (M : mwM) (L : mwL) : Option (Int32 × mwM × mwL) :=
  mbb s0 (some (s0, M, L))
noncomputable def fX14_out_b18 (fu : Nat) (a1 : Int32) (s1 : Int32) (M : mwM) (L : mwL) : Option (Int32 × mwM × mwL) :=
  mlet (mset M 854 0 s1) (fun M1 => (if (M1 854 0) ≤ 0 then mck a1 16 (fX14_out_b39 fu a1 ((M1 859 a1.toNatClampNeg).toInt8.toInt32) M1 L) else fX14_out_b39 fu a1 0 M1 L))
noncomputable def fX14_out_b13 (fu : Nat) (a1 : Int32) (M : mwM) (L : mwL) : Option (Int32 × mwM × mwL) :=
  fX14_out_b18 fu a1 1 M L
noncomputable def DX14_out (fu : Nat) (a1 : Int32) (M : mwM) (L : mwL) : Option (Int32 × mwM × mwL) :=
  (if a1 < 0 then fX14_out_b13 fu a1 M L else (if a1 < (M 854 7) then fX14_out_b18 fu a1 0 M L else fX14_out_b13 fu a1 M L))
set_option maxHeartbeats 4000000 in
set_option maxRecDepth 100000 in
theorem tX14_out (l : Launch) (G : mwG) (ad : Nat → Nat) (fu : Nat) (a1 : Int32) (M : mwM) (L : mwL) {r0 : Int32} {M0 : mwM} {L0 : mwL} (hD : DX14_out fu a1 M L = some (r0, M0, L0)) : Met l yX14_out (Cond.code yX14_out cX14_out 2 ((some .byte)) :: GT) ({ frames := 0, cells := 0, slots := 0, locals := 0 }) (mw_Pre G ad NF TF FF M L [.ref (ad 854), .int a1]) (mw_Qi G ad NF TF FF (mw_eqI r0 M0 L0)) 0 0 (mw_fr G) := by
  refine mw_enter (by decide) (Nat.le_of_ble_eq_true rfl) ?_
  intro p e s m below meth c ls C hr hlocks hnm hw hl
  have hl : lv_has ls 2 [(0, .ref (ad 854)), (1, .int a1)] := hl
  have hb39 : ∀ (s0 : Int32) (M : mwM) (L : mwL) (H : Heap) (locs : List Loc) (ls : Array Slot), fX14_out_b39 fu a1 s0 M L = some (r0, M0, L0) → mw_W G ad NF TF FF M L H locs → lv_has ls 2 [] → W p l e ({ frames := 0, cells := 0, slots := 0, locals := 0 }) s m [.ref (ad 854), .int a1].toArray below meth c H locs 0 0 (MQ below (mw_Qi G ad NF TF FF (mw_eqI r0 M0 L0)) [.ref (ad 854), .int a1].toArray s 0 0 (mw_fr G)) (F0 m 39 ls [.int s0]) := by
    intro s0 M L H locs ls hD hw hl
    unfold fX14_out_b39 at hD
    obtain ⟨z4, hD⟩ := g_bb hD
    exact mr_iret C hr hlocks hw (nb_bb z4) (Option.some.inj hD) dX14_out_39
  have hb18 : ∀ (s1 : Int32) (M : mwM) (L : mwL) (H : Heap) (locs : List Loc) (ls : Array Slot), fX14_out_b18 fu a1 s1 M L = some (r0, M0, L0) → mw_W G ad NF TF FF M L H locs → lv_has ls 2 [(0, .ref (ad 854)), (1, .int a1)] → W p l e ({ frames := 0, cells := 0, slots := 0, locals := 0 }) s m [.ref (ad 854), .int a1].toArray below meth c H locs 0 0 (MQ below (mw_Qi G ad NF TF FF (mw_eqI r0 M0 L0)) [.ref (ad 854), .int a1].toArray s 0 0 (mw_fr G)) (F0 m 18 ls [.int s1, .ref (ad 854)]) := by
    intro s1 M L H locs ls hD hw hl
    unfold fX14_out_b18 at hD
    obtain ⟨M1, eM1, hD⟩ := g_let hD
    refine mr_putI C hw kc_14 0 (by decide) tf_854 wd_2266 dX14_out_18 (by decide) rfl rfl rfl rfl (fun H locs hw => ?_)
    replace hw : mw_W G ad NF TF FF M1 L H locs := by rw [eM1]; exact hw
    refine lv_aload_n C.1.1 C.1.2.1 dX14_out_21 rfl (lv_at hl 0 rfl) ?_
    refine mr_getI C hw kc_14 0 (by decide) tf_854 wd_2266 dX14_out_22 (by decide) rfl ?_
    refine lv_if_le (tgt := 32) C.1.1 C.1.2.1 dX14_out_25 (by decide) (fun c2 => ?_) (fun c2 => ?_)
    · replace hD := g_pos c2 hD
      refine lv_aload_n C.1.1 C.1.2.1 dX14_out_32 rfl (lv_at hl 0 rfl) ?_
      refine mr_getR C hw kc_14 8 (by decide) tf_854 ff_854_8 wd_2274 dX14_out_33 (by decide) rfl ?_
      refine lv_iload_n C.1.1 C.1.2.1 dX14_out_36 rfl (lv_at hl 1 rfl) ?_
      obtain ⟨q3, hD⟩ := g_ck hD
      refine mr_iald C hw (by decide) tf_859 q3 dX14_out_37 ?_
      refine lv_i2b C.1.1 C.1.2.1 dX14_out_38 rfl ?_
      exact hb39 ((M1 859 a1.toNatClampNeg).toInt8.toInt32) M1 L _ _ ls hD hw (lv_sub hl [] rfl)
    · replace hD := g_neg c2 hD
      refine lv_iconst (v := 0) C.1.1 C.1.2.1 dX14_out_28 (by decide) ?_
      refine lv_goto (tgt := 39) C.1.1 C.1.2.1 dX14_out_29 (by decide) ?_
      exact hb39 0 M1 L _ _ ls hD hw (lv_sub hl [] rfl)
  have hb13 : ∀ (M : mwM) (L : mwL) (H : Heap) (locs : List Loc) (ls : Array Slot), fX14_out_b13 fu a1 M L = some (r0, M0, L0) → mw_W G ad NF TF FF M L H locs → lv_has ls 2 [(0, .ref (ad 854)), (1, .int a1)] → W p l e ({ frames := 0, cells := 0, slots := 0, locals := 0 }) s m [.ref (ad 854), .int a1].toArray below meth c H locs 0 0 (MQ below (mw_Qi G ad NF TF FF (mw_eqI r0 M0 L0)) [.ref (ad 854), .int a1].toArray s 0 0 (mw_fr G)) (F0 m 13 ls [.ref (ad 854)]) := by
    intro M L H locs ls hD hw hl
    unfold fX14_out_b13 at hD
    refine lv_iconst (v := 1) C.1.1 C.1.2.1 dX14_out_13 (by decide) ?_
    refine lv_goto (tgt := 18) C.1.1 C.1.2.1 dX14_out_14 (by decide) ?_
    exact hb18 1 M L _ _ ls hD hw (lv_sub hl [0, 1] rfl)
  unfold DX14_out at hD
  refine lv_aload_n C.1.1 C.1.2.1 dX14_out_0 rfl (lv_at hl 0 rfl) ?_
  refine lv_iload_n C.1.1 C.1.2.1 dX14_out_1 rfl (lv_at hl 1 rfl) ?_
  refine lv_if_lt (tgt := 13) C.1.1 C.1.2.1 dX14_out_2 (by decide) (fun c5 => ?_) (fun c5 => ?_)
  · replace hD := g_pos c5 hD
    exact hb13 M L _ _ ls hD hw (lv_sub hl [0, 1] rfl)
  · replace hD := g_neg c5 hD
    refine lv_iload_n C.1.1 C.1.2.1 dX14_out_5 rfl (lv_at hl 1 rfl) ?_
    refine lv_aload_n C.1.1 C.1.2.1 dX14_out_6 rfl (lv_at hl 0 rfl) ?_
    refine mr_getI C hw kc_14 7 (by decide) tf_854 wd_2273 dX14_out_7 (by decide) rfl ?_
    refine lv_icmp_lt (tgt := 17) C.1.1 C.1.2.1 dX14_out_10 (by decide) (fun c6 => ?_) (fun c6 => ?_)
    · replace hD := g_pos c6 hD
      refine lv_iconst (v := 0) C.1.1 C.1.2.1 dX14_out_17 (by decide) ?_
      exact hb18 0 M L _ _ ls hD hw (lv_sub hl [0, 1] rfl)
    · replace hD := g_neg c6 hD
      exact hb13 M L _ _ ls hD hw (lv_sub hl [0, 1] rfl)
