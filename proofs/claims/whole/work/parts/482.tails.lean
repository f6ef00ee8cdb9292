theorem dX3_tail_71 : decode cX3_init 71 = .ok (.iconst 1, 1) := by decide +kernel
theorem dX3_tail_72 : decode cX3_init 72 = .ok (.istore_n 1, 1) := by decide +kernel
theorem dX3_tail_73 : decode cX3_init 73 = .ok (.iconst 1, 1) := by decide +kernel
theorem dX3_tail_74 : decode cX3_init 74 = .ok (.istore_n 2, 1) := by decide +kernel
theorem dX3_tail_75 : decode cX3_init 75 = .ok (.aload_n 0, 1) := by decide +kernel
theorem dX3_tail_76 : decode cX3_init 76 = .ok (.getfield 9, 3) := by decide +kernel
theorem dX3_tail_79 : decode cX3_init 79 = .ok (.iconst 0, 1) := by decide +kernel
theorem dX3_tail_80 : decode cX3_init 80 = .ok (.bipush 99, 2) := by decide +kernel
theorem dX3_tail_82 : decode cX3_init 82 = .ok (.iastore, 1) := by decide +kernel
theorem dX3_tail_83 : decode cX3_init 83 = .ok (.iconst 0, 1) := by decide +kernel
theorem dX3_tail_84 : decode cX3_init 84 = .ok (.istore_n 3, 1) := by decide +kernel
theorem dX3_tail_85 : decode cX3_init 85 = .ok (.iload_n 3, 1) := by decide +kernel
theorem dX3_tail_86 : decode cX3_init 86 = .ok (.sipush 256, 3) := by decide +kernel
theorem dX3_tail_89 : decode cX3_init 89 = .ok (.if_icmp .ge 36, 3) := by decide +kernel
theorem dX3_tail_92 : decode cX3_init 92 = .ok (.aload_n 0, 1) := by decide +kernel
theorem dX3_tail_93 : decode cX3_init 93 = .ok (.getfield 13, 3) := by decide +kernel
theorem dX3_tail_96 : decode cX3_init 96 = .ok (.iload_n 3, 1) := by decide +kernel
theorem dX3_tail_97 : decode cX3_init 97 = .ok (.iload_n 3, 1) := by decide +kernel
theorem dX3_tail_98 : decode cX3_init 98 = .ok (.iconst 1, 1) := by decide +kernel
theorem dX3_tail_99 : decode cX3_init 99 = .ok (.ishl, 1) := by decide +kernel
theorem dX3_tail_100 : decode cX3_init 100 = .ok (.sipush 255, 3) := by decide +kernel
theorem dX3_tail_103 : decode cX3_init 103 = .ok (.iand, 1) := by decide +kernel
theorem dX3_tail_104 : decode cX3_init 104 = .ok (.iload_n 3, 1) := by decide +kernel
theorem dX3_tail_105 : decode cX3_init 105 = .ok (.sipush 128, 3) := by decide +kernel
theorem dX3_tail_108 : decode cX3_init 108 = .ok (.if_icmp .lt 8, 3) := by decide +kernel
theorem dX3_tail_111 : decode cX3_init 111 = .ok (.bipush 27, 2) := by decide +kernel
theorem dX3_tail_113 : decode cX3_init 113 = .ok (.goto 4, 3) := by decide +kernel
theorem dX3_tail_116 : decode cX3_init 116 = .ok (.iconst 0, 1) := by decide +kernel
theorem dX3_tail_117 : decode cX3_init 117 = .ok (.ixor, 1) := by decide +kernel
theorem dX3_tail_118 : decode cX3_init 118 = .ok (.iastore, 1) := by decide +kernel
theorem dX3_tail_119 : decode cX3_init 119 = .ok (.iinc 3 1, 3) := by decide +kernel
theorem dX3_tail_122 : decode cX3_init 122 = .ok (.goto (-37), 3) := by decide +kernel
theorem dX3_tail_125 : decode cX3_init 125 = .ok (.iconst 0, 1) := by decide +kernel
theorem dX3_tail_126 : decode cX3_init 126 = .ok (.istore_n 3, 1) := by decide +kernel
theorem dX3_tail_127 : decode cX3_init 127 = .ok (.iload_n 3, 1) := by decide +kernel
theorem dX3_tail_128 : decode cX3_init 128 = .ok (.sipush 255, 3) := by decide +kernel
theorem dX3_tail_131 : decode cX3_init 131 = .ok (.if_icmp .ge 33, 3) := by decide +kernel
theorem dX3_tail_134 : decode cX3_init 134 = .ok (.aload_n 0, 1) := by decide +kernel
theorem dX3_tail_135 : decode cX3_init 135 = .ok (.getfield 9, 3) := by decide +kernel
theorem dX3_tail_138 : decode cX3_init 138 = .ok (.iload_n 1, 1) := by decide +kernel
theorem dX3_tail_139 : decode cX3_init 139 = .ok (.iload_n 2, 1) := by decide +kernel
theorem dX3_tail_140 : decode cX3_init 140 = .ok (.invokestatic 34, 3) := by decide +kernel
theorem dX3_tail_143 : decode cX3_init 143 = .ok (.iastore, 1) := by decide +kernel
theorem dX3_tail_144 : decode cX3_init 144 = .ok (.iload_n 1, 1) := by decide +kernel
theorem dX3_tail_145 : decode cX3_init 145 = .ok (.aload_n 0, 1) := by decide +kernel
theorem dX3_tail_146 : decode cX3_init 146 = .ok (.getfield 13, 3) := by decide +kernel
theorem dX3_tail_149 : decode cX3_init 149 = .ok (.iload_n 1, 1) := by decide +kernel
theorem dX3_tail_150 : decode cX3_init 150 = .ok (.iaload, 1) := by decide +kernel
theorem dX3_tail_151 : decode cX3_init 151 = .ok (.ixor, 1) := by decide +kernel
theorem dX3_tail_152 : decode cX3_init 152 = .ok (.istore_n 1, 1) := by decide +kernel
theorem dX3_tail_153 : decode cX3_init 153 = .ok (.iload_n 2, 1) := by decide +kernel
theorem dX3_tail_154 : decode cX3_init 154 = .ok (.invokestatic 38, 3) := by decide +kernel
theorem dX3_tail_157 : decode cX3_init 157 = .ok (.istore_n 2, 1) := by decide +kernel
theorem dX3_tail_158 : decode cX3_init 158 = .ok (.iinc 3 1, 3) := by decide +kernel
theorem dX3_tail_161 : decode cX3_init 161 = .ok (.goto (-34), 3) := by decide +kernel
theorem dX3_tail_164 : decode cX3_init 164 = .ok (.return_, 1) := by decide +kernel
noncomputable def fX3_tail_i127 (fu : Nat) (r127 : (Int32 × Int32 × Int32 × mwM × mwL) → Option (mwM × mwL)) (v1 : Int32) (v2 : Int32) (v3 : Int32) (M : mwM) (L : mwL) : Option (mwM × mwL) :=
  (if 255 ≤ v3 then some (M, L) else mb3 (DX3_mixBits fu v2 M L) (fun r9 M7 L8 => mck v1 256 (mlet (mset M7 98 (v1.toNatClampNeg) r9) (fun M11 => mck v1 256 (mlet (v1 ^^^ (M11 99 v1.toNatClampNeg)) (fun x13 => mb3 (DX3_timesInverseOfThree fu v2 M11 L8) (fun r16 M14 L15 => mlet (v3 + 1) (fun x17 => r127 (x13, r16, x17, M14, L15)))))))))
noncomputable def fX3_tail_h127 (fu : Nat) : Nat → (Int32 × Int32 × Int32 × mwM × mwL) → Option (mwM × mwL) := mloop (fun r127 s => fX3_tail_i127 fu r127 s.1 s.2.1 s.2.2.1 s.2.2.2.1 s.2.2.2.2)
noncomputable def fX3_tail_b117 (fu : Nat) (r85 : (Int32 × Int32 × Int32 × mwM × mwL) → Option (mwM × mwL)) (v1 : Int32) (v2 : Int32) (v3 : Int32) (s1 : Int32) (s2 : Int32) (s3 : Int32) (M : mwM) (L : mwL) : Option (mwM × mwL) :=
  mck s1 256 (mlet (mset M 99 (s1.toNatClampNeg) (s2 ^^^ s3)) (fun M4 => mlet (v3 + 1) (fun x5 => r85 (v1, v2, x5, M4, L))))
noncomputable def fX3_tail_i85 (fu : Nat) (r85 : (Int32 × Int32 × Int32 × mwM × mwL) → Option (mwM × mwL)) (v1 : Int32) (v2 : Int32) (v3 : Int32) (M : mwM) (L : mwL) : Option (mwM × mwL) :=
  (if 256 ≤ v3 then fX3_tail_h127 fu fu (v1, v2, 0, M, L) else (if v3 < 128 then fX3_tail_b117 fu r85 v1 v2 v3 v3 ((v3 <<< (1 &&& 31)) &&& 255) 0 M L else fX3_tail_b117 fu r85 v1 v2 v3 v3 ((v3 <<< (1 &&& 31)) &&& 255) 27 M L))
noncomputable def fX3_tail_h85 (fu : Nat) : Nat → (Int32 × Int32 × Int32 × mwM × mwL) → Option (mwM × mwL) := mloop (fun r85 s => fX3_tail_i85 fu r85 s.1 s.2.1 s.2.2.1 s.2.2.2.1 s.2.2.2.2)
noncomputable def DX3_tail (fu : Nat) (M : mwM) (L : mwL) : Option (mwM × mwL) :=
  mlet (mset M 98 ((0 : Int32).toNatClampNeg) 99) (fun M19 => fX3_tail_h85 fu fu (1, 1, 0, M19, L))
set_option maxHeartbeats 4000000 in
set_option maxRecDepth 100000 in
theorem twX3_tail {p : Program} {l : Launch} {e : Env} {R : Room} {s : State} {m : MethodId} {args : Array Value} {below : List Frame} {meth : Method} {c : Code} {cells slots : Nat} (G : mwG) (fu : Nat) (F : mwF) (M : mwM) (L : mwL) {M0 : mwM} {L0 : mwL} (hD : DX3_tail fu M L = some (M0, L0)) (hFF : ∀ j r, FF 97 j = some r → F 97 j = some r) (C : mw_C p m c cX3_init 4 s args "CarHouse$Codes" G) (hr : meth.sig.returnType = none) (hlocks : meth.locks = false) (hsz : s.heap.size + cells = G.2.2.2.size + 139) (hRf : 4 ≤ R.frames) (hRl : 120 ≤ R.locals) (hcs : cells ≤ R.cells ∧ slots ≤ R.slots) (H : Heap) (locs : List Loc) (ls : Array Slot) (hw : mw_W G (mw_ad G) 139 TF F M L H locs) (hl : lv_has ls 4 [(0, .ref (mw_ad G 97))]) : W p l e R s m args below meth c H locs cells slots (MQ below (mw_QC G 139 F M0 L0) args s cells slots (mw_fr G)) (F0 m 71 ls []) := by
  have hl : lv_has ls 4 [(0, .ref (mw_ad G 97))] := hl
  have hh127 : ∀ (f : Nat) (v1 : Int32) (v2 : Int32) (v3 : Int32) (M : mwM) (L : mwL) (H : Heap) (locs : List Loc) (ls : Array Slot), fX3_tail_h127 fu f (v1, v2, v3, M, L) = some (M0, L0) → mw_W G (mw_ad G) 139 TF F M L H locs → lv_has ls 4 [(0, .ref (mw_ad G 97)), (1, .int v1), (2, .int v2), (3, .int v3)] → W p l e R s m args below meth c H locs cells slots (MQ below (mw_QC G 139 F M0 L0) args s cells slots (mw_fr G)) (F0 m 127 ls []) := by
    intro f
    induction f with
    | zero => intro v1 v2 v3 M L H locs ls hD; cases hD
    | succ f127 ih127 =>
      intro v1 v2 v3 M L H locs ls hD hw hl
      replace hD : fX3_tail_i127 fu (fX3_tail_h127 fu f127) v1 v2 v3 M L = some (M0, L0) := hD
      unfold fX3_tail_i127 at hD
      refine lv_iload_n C.1.1 C.1.2.1 dX3_tail_127 rfl (lv_at hl 3 rfl) ?_
      refine lv_sipush (v := 255) C.1.1 C.1.2.1 dX3_tail_128 (by decide) ?_
      refine lv_icmp_ge (tgt := 164) C.1.1 C.1.2.1 dX3_tail_131 (by decide) (fun c6 => ?_) (fun c6 => ?_)
      · replace hD := g_pos c6 hD
        exact mw_size hw hsz (fun hs => mr_cret C hr hlocks hw hs (congrArg (fun q => (F, q)) (Option.some.inj hD)) dX3_tail_164)
      · replace hD := g_neg c6 hD
        refine lv_aload_n C.1.1 C.1.2.1 dX3_tail_134 rfl (lv_at hl 0 rfl) ?_
        refine mr_getR C hw kc_3 0 (by decide) tf_97 (hFF 0 _ ff_97_0) wd_297 dX3_tail_135 (by decide) rfl ?_
        refine lv_iload_n C.1.1 C.1.2.1 dX3_tail_138 rfl (lv_at hl 1 rfl) ?_
        refine lv_iload_n C.1.1 C.1.2.1 dX3_tail_139 rfl (lv_at hl 2 rfl) ?_
        obtain ⟨r9, M7, L8, h1, hD⟩ := g_b3 hD
        refine md_csI (As := [.int v2]) (rest := [.int v1, .ref (mw_ad G 98)]) C hw (tlX3_mixBits l G (mw_ad G) 139 F fu v2 M L h1 (Nat.le_refl _) hFF) wd_291 cwX3_mixBits ⟨Nat.le_trans (Nat.le_of_ble_eq_true rfl) hRf, Nat.le_trans (Nat.le_of_ble_eq_true rfl) hRl⟩ rfl hl.1 (Nat.le_of_ble_eq_true rfl) dX3_tail_140 rfl rfl hcs rfl (fun H locs hw => ?_)
        obtain ⟨q10, hD⟩ := g_ck hD
        obtain ⟨M11, eM11, hD⟩ := g_let hD
        refine mr_iast C hw (by decide) tf_98 q10 dX3_tail_143 (fun H locs hw => ?_)
        replace hw : mw_W G (mw_ad G) 139 TF F M11 L8 H locs := by rw [eM11]; exact hw
        refine lv_iload_n C.1.1 C.1.2.1 dX3_tail_144 rfl (lv_at hl 1 rfl) ?_
        refine lv_aload_n C.1.1 C.1.2.1 dX3_tail_145 rfl (lv_at hl 0 rfl) ?_
        refine mr_getR C hw kc_3 1 (by decide) tf_97 (hFF 1 _ ff_97_1) wd_298 dX3_tail_146 (by decide) rfl ?_
        refine lv_iload_n C.1.1 C.1.2.1 dX3_tail_149 rfl (lv_at hl 1 rfl) ?_
        obtain ⟨q12, hD⟩ := g_ck hD
        refine mr_iald C hw (by decide) tf_99 q12 dX3_tail_150 ?_
        refine lv_ixor C.1.1 C.1.2.1 dX3_tail_151 ?_
        obtain ⟨x13, ex13, hD⟩ := g_let hD
        refine W.eq (g2 := F0 m 152 ls (.int x13 :: [])) (by rw [ex13]) ?_
        refine lv_istore_n (lv' := [(1, .int x13), (0, .ref (mw_ad G 97)), (2, .int v2), (3, .int v3)]) C.1.1 C.1.2.1 dX3_tail_152 rfl hl (by decide) rfl (fun ls hl => ?_)
        refine lv_iload_n C.1.1 C.1.2.1 dX3_tail_153 rfl (lv_at hl 2 rfl) ?_
        obtain ⟨r16, M14, L15, h1, hD⟩ := g_b3 hD
        refine md_csI (As := [.int v2]) (rest := []) C hw (tlX3_timesInverseOfThree l G (mw_ad G) 139 F fu v2 M11 L8 h1 (Nat.le_refl _) hFF) wd_294 cwX3_timesInverseOfThree ⟨Nat.le_trans (Nat.le_of_ble_eq_true rfl) hRf, Nat.le_trans (Nat.le_of_ble_eq_true rfl) hRl⟩ rfl hl.1 (Nat.le_of_ble_eq_true rfl) dX3_tail_154 rfl rfl hcs rfl (fun H locs hw => ?_)
        refine lv_istore_n (lv' := [(2, .int r16), (1, .int x13), (0, .ref (mw_ad G 97)), (3, .int v3)]) C.1.1 C.1.2.1 dX3_tail_157 rfl hl (by decide) rfl (fun ls hl => ?_)
        obtain ⟨x17, ex17, hD⟩ := g_let hD
        refine lv_iinc (v := x17) (lv' := [(3, .int x17), (2, .int r16), (1, .int x13), (0, .ref (mw_ad G 97))]) C.1.1 C.1.2.1 dX3_tail_158 hl (k := 3) rfl (by rw [ex17]; rfl) (by decide) rfl (fun ls hl => ?_)
        refine lv_goto (tgt := 127) C.1.1 C.1.2.1 dX3_tail_161 (by decide) ?_
        exact ih127 x13 r16 x17 M14 L15 _ _ ls hD hw (lv_sub hl [3, 2, 1, 0] rfl)
  have hh85 : ∀ (f : Nat) (v1 : Int32) (v2 : Int32) (v3 : Int32) (M : mwM) (L : mwL) (H : Heap) (locs : List Loc) (ls : Array Slot), fX3_tail_h85 fu f (v1, v2, v3, M, L) = some (M0, L0) → mw_W G (mw_ad G) 139 TF F M L H locs → lv_has ls 4 [(0, .ref (mw_ad G 97)), (1, .int v1), (2, .int v2), (3, .int v3)] → W p l e R s m args below meth c H locs cells slots (MQ below (mw_QC G 139 F M0 L0) args s cells slots (mw_fr G)) (F0 m 85 ls []) := by
    intro f
    induction f with
    | zero => intro v1 v2 v3 M L H locs ls hD; cases hD
    | succ f85 ih85 =>
      intro v1 v2 v3 M L H locs ls hD hw hl
      replace hD : fX3_tail_i85 fu (fX3_tail_h85 fu f85) v1 v2 v3 M L = some (M0, L0) := hD
      have hb117 : ∀ (v1 : Int32) (v2 : Int32) (v3 : Int32) (s1 : Int32) (s2 : Int32) (s3 : Int32) (M : mwM) (L : mwL) (H : Heap) (locs : List Loc) (ls : Array Slot), fX3_tail_b117 fu (fX3_tail_h85 fu f85) v1 v2 v3 s1 s2 s3 M L = some (M0, L0) → mw_W G (mw_ad G) 139 TF F M L H locs → lv_has ls 4 [(0, .ref (mw_ad G 97)), (1, .int v1), (2, .int v2), (3, .int v3)] → W p l e R s m args below meth c H locs cells slots (MQ below (mw_QC G 139 F M0 L0) args s cells slots (mw_fr G)) (F0 m 117 ls [.int s3, .int s2, .int s1, .ref (mw_ad G 99)]) := by
        intro v1 v2 v3 s1 s2 s3 M L H locs ls hD hw hl
        unfold fX3_tail_b117 at hD
        refine lv_ixor C.1.1 C.1.2.1 dX3_tail_117 ?_
        obtain ⟨q3, hD⟩ := g_ck hD
        obtain ⟨M4, eM4, hD⟩ := g_let hD
        refine mr_iast C hw (by decide) tf_99 q3 dX3_tail_118 (fun H locs hw => ?_)
        replace hw : mw_W G (mw_ad G) 139 TF F M4 L H locs := by rw [eM4]; exact hw
        obtain ⟨x5, ex5, hD⟩ := g_let hD
        refine lv_iinc (v := x5) (lv' := [(3, .int x5), (0, .ref (mw_ad G 97)), (1, .int v1), (2, .int v2)]) C.1.1 C.1.2.1 dX3_tail_119 hl (k := 3) rfl (by rw [ex5]; rfl) (by decide) rfl (fun ls hl => ?_)
        refine lv_goto (tgt := 85) C.1.1 C.1.2.1 dX3_tail_122 (by decide) ?_
        exact ih85 v1 v2 x5 M4 L _ _ ls hD hw (lv_sub hl [1, 2, 3, 0] rfl)
      unfold fX3_tail_i85 at hD
      refine lv_iload_n C.1.1 C.1.2.1 dX3_tail_85 rfl (lv_at hl 3 rfl) ?_
      refine lv_sipush (v := 256) C.1.1 C.1.2.1 dX3_tail_86 (by decide) ?_
      refine lv_icmp_ge (tgt := 125) C.1.1 C.1.2.1 dX3_tail_89 (by decide) (fun c1 => ?_) (fun c1 => ?_)
      · replace hD := g_pos c1 hD
        refine lv_iconst (v := 0) C.1.1 C.1.2.1 dX3_tail_125 (by decide) ?_
        refine lv_istore_n (lv' := [(3, .int 0), (0, .ref (mw_ad G 97)), (1, .int v1), (2, .int v2)]) C.1.1 C.1.2.1 dX3_tail_126 rfl hl (by decide) rfl (fun ls hl => ?_)
        exact hh127 fu v1 v2 0 M L _ _ ls hD hw (lv_sub hl [1, 2, 3, 0] rfl)
      · replace hD := g_neg c1 hD
        refine lv_aload_n C.1.1 C.1.2.1 dX3_tail_92 rfl (lv_at hl 0 rfl) ?_
        refine mr_getR C hw kc_3 1 (by decide) tf_97 (hFF 1 _ ff_97_1) wd_298 dX3_tail_93 (by decide) rfl ?_
        refine lv_iload_n C.1.1 C.1.2.1 dX3_tail_96 rfl (lv_at hl 3 rfl) ?_
        refine lv_iload_n C.1.1 C.1.2.1 dX3_tail_97 rfl (lv_at hl 3 rfl) ?_
        refine lv_iconst (v := 1) C.1.1 C.1.2.1 dX3_tail_98 (by decide) ?_
        refine lv_ishl C.1.1 C.1.2.1 dX3_tail_99 ?_
        refine lv_sipush (v := 255) C.1.1 C.1.2.1 dX3_tail_100 (by decide) ?_
        refine lv_iand C.1.1 C.1.2.1 dX3_tail_103 ?_
        refine lv_iload_n C.1.1 C.1.2.1 dX3_tail_104 rfl (lv_at hl 3 rfl) ?_
        refine lv_sipush (v := 128) C.1.1 C.1.2.1 dX3_tail_105 (by decide) ?_
        refine lv_icmp_lt (tgt := 116) C.1.1 C.1.2.1 dX3_tail_108 (by decide) (fun c2 => ?_) (fun c2 => ?_)
        · replace hD := g_pos c2 hD
          refine lv_iconst (v := 0) C.1.1 C.1.2.1 dX3_tail_116 (by decide) ?_
          exact hb117 v1 v2 v3 v3 ((v3 <<< (1 &&& 31)) &&& 255) 0 M L _ _ ls hD hw (lv_sub hl [0, 1, 2, 3] rfl)
        · replace hD := g_neg c2 hD
          refine lv_bipush (v := 27) C.1.1 C.1.2.1 dX3_tail_111 (by decide) ?_
          refine lv_goto (tgt := 117) C.1.1 C.1.2.1 dX3_tail_113 (by decide) ?_
          exact hb117 v1 v2 v3 v3 ((v3 <<< (1 &&& 31)) &&& 255) 27 M L _ _ ls hD hw (lv_sub hl [0, 1, 2, 3] rfl)
  unfold DX3_tail at hD
  refine lv_iconst (v := 1) C.1.1 C.1.2.1 dX3_tail_71 (by decide) ?_
  refine lv_istore_n (lv' := [(1, .int 1), (0, .ref (mw_ad G 97))]) C.1.1 C.1.2.1 dX3_tail_72 rfl hl (by decide) rfl (fun ls hl => ?_)
  refine lv_iconst (v := 1) C.1.1 C.1.2.1 dX3_tail_73 (by decide) ?_
  refine lv_istore_n (lv' := [(2, .int 1), (1, .int 1), (0, .ref (mw_ad G 97))]) C.1.1 C.1.2.1 dX3_tail_74 rfl hl (by decide) rfl (fun ls hl => ?_)
  refine lv_aload_n C.1.1 C.1.2.1 dX3_tail_75 rfl (lv_at hl 2 rfl) ?_
  refine mr_getR C hw kc_3 0 (by decide) tf_97 (hFF 0 _ ff_97_0) wd_297 dX3_tail_76 (by decide) rfl ?_
  refine lv_iconst (v := 0) C.1.1 C.1.2.1 dX3_tail_79 (by decide) ?_
  refine lv_bipush (v := 99) C.1.1 C.1.2.1 dX3_tail_80 (by decide) ?_
  obtain ⟨M19, eM19, hD⟩ := g_let hD
  refine mr_iast C hw (by decide) tf_98 (show vp_in 0 256 from by unfold vp_in; decide) dX3_tail_82 (fun H locs hw => ?_)
  replace hw : mw_W G (mw_ad G) 139 TF F M19 L H locs := by rw [eM19]; exact hw
  refine lv_iconst (v := 0) C.1.1 C.1.2.1 dX3_tail_83 (by decide) ?_
  refine lv_istore_n (lv' := [(3, .int 0), (2, .int 1), (1, .int 1), (0, .ref (mw_ad G 97))]) C.1.1 C.1.2.1 dX3_tail_84 rfl hl (by decide) rfl (fun ls hl => ?_)
  exact hh85 fu 1 1 0 M19 L _ _ ls hD hw (lv_sub hl [3, 2, 1, 0] rfl)
