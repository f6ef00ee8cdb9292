theorem dX14_tail_122 : decode cX14_init 122 = .ok (.iconst 0, 1) := by decide +kernel
theorem dX14_tail_123 : decode cX14_init 123 = .ok (.istore_n 1, 1) := by decide +kernel
theorem dX14_tail_124 : decode cX14_init 124 = .ok (.iload_n 1, 1) := by decide +kernel
theorem dX14_tail_125 : decode cX14_init 125 = .ok (.sipush 256, 3) := by decide +kernel
theorem dX14_tail_128 : decode cX14_init 128 = .ok (.if_icmp .ge 19, 3) := by decide +kernel
theorem dX14_tail_131 : decode cX14_init 131 = .ok (.aload_n 0, 1) := by decide +kernel
theorem dX14_tail_132 : decode cX14_init 132 = .ok (.getfield 51, 3) := by decide +kernel
theorem dX14_tail_135 : decode cX14_init 135 = .ok (.iload_n 1, 1) := by decide +kernel
theorem dX14_tail_136 : decode cX14_init 136 = .ok (.iload_n 1, 1) := by decide +kernel
theorem dX14_tail_137 : decode cX14_init 137 = .ok (.invokestatic 54, 3) := by decide +kernel
theorem dX14_tail_140 : decode cX14_init 140 = .ok (.iastore, 1) := by decide +kernel
theorem dX14_tail_141 : decode cX14_init 141 = .ok (.iinc 1 1, 3) := by decide +kernel
theorem dX14_tail_144 : decode cX14_init 144 = .ok (.goto (-20), 3) := by decide +kernel
theorem dX14_tail_147 : decode cX14_init 147 = .ok (.return_, 1) := by decide +kernel
noncomputable def fX14_tail_i124 (fu : Nat) (r124 : (Int32 × mwM × mwL) → Option (mwM × mwL)) (v1 : Int32) (M : mwM) (L : mwL) : Option (mwM × mwL) :=
  (if 256 ≤ v1 then some (M, L) else mb3 (DX14_substituteOf fu v1 M L) (fun r4 M2 L3 => mck v1 256 (mlet (mset M2 868 (v1.toNatClampNeg) r4) (fun M6 => mlet (v1 + 1) (fun x7 => r124 (x7, M6, L3))))))
noncomputable def fX14_tail_h124 (fu : Nat) : Nat → (Int32 × mwM × mwL) → Option (mwM × mwL) := mloop (fun r124 s => fX14_tail_i124 fu r124 s.1 s.2.1 s.2.2)
noncomputable def DX14_tail (fu : Nat) (M : mwM) (L : mwL) : Option (mwM × mwL) :=
  fX14_tail_h124 fu fu (0, M, L)
set_option maxHeartbeats 4000000 in
set_option maxRecDepth 100000 in
theorem twX14_tail {p : Program} {l : Launch} {e : Env} {R : Room} {s : State} {m : MethodId} {args : Array Value} {below : List Frame} {meth : Method} {c : Code} {cells slots : Nat} (G : mwG) (fu : Nat) (F : mwF) (M : mwM) (L : mwL) {M0 : mwM} {L0 : mwL} (hD : DX14_tail fu M L = some (M0, L0)) (hFF : ∀ j r, FF 854 j = some r → F 854 j = some r) (C : mw_C p m c cX14_init 2 s args "CarHouseModel$Codes" G) (hr : meth.sig.returnType = none) (hlocks : meth.locks = false) (hsz : s.heap.size + cells = G.2.2.2.size + 869) (hRf : 4 ≤ R.frames) (hRl : 120 ≤ R.locals) (hcs : cells ≤ R.cells ∧ slots ≤ R.slots) (H : Heap) (locs : List Loc) (ls : Array Slot) (hw : mw_W G (mw_ad G) 869 TF F M L H locs) (hl : lv_has ls 2 [(0, .ref (mw_ad G 854))]) : W p l e R s m args below meth c H locs cells slots (MQ below (mw_QC G 869 F M0 L0) args s cells slots (mw_fr G)) (F0 m 122 ls []) := by
  have hl : lv_has ls 2 [(0, .ref (mw_ad G 854))] := hl
  have hh124 : ∀ (f : Nat) (v1 : Int32) (M : mwM) (L : mwL) (H : Heap) (locs : List Loc) (ls : Array Slot), fX14_tail_h124 fu f (v1, M, L) = some (M0, L0) → mw_W G (mw_ad G) 869 TF F M L H locs → lv_has ls 2 [(0, .ref (mw_ad G 854)), (1, .int v1)] → W p l e R s m args below meth c H locs cells slots (MQ below (mw_QC G 869 F M0 L0) args s cells slots (mw_fr G)) (F0 m 124 ls []) := by
    intro f
    induction f with
    | zero => intro v1 M L H locs ls hD; cases hD
    | succ f124 ih124 =>
      intro v1 M L H locs ls hD hw hl
      replace hD : fX14_tail_i124 fu (fX14_tail_h124 fu f124) v1 M L = some (M0, L0) := hD
      unfold fX14_tail_i124 at hD
      refine lv_iload_n C.1.1 C.1.2.1 dX14_tail_124 rfl (lv_at hl 1 rfl) ?_
      refine lv_sipush (v := 256) C.1.1 C.1.2.1 dX14_tail_125 (by decide) ?_
      refine lv_icmp_ge (tgt := 147) C.1.1 C.1.2.1 dX14_tail_128 (by decide) (fun c1 => ?_) (fun c1 => ?_)
      · replace hD := g_pos c1 hD
        exact mw_size hw hsz (fun hs => mr_cret C hr hlocks hw hs (congrArg (fun q => (F, q)) (Option.some.inj hD)) dX14_tail_147)
      · replace hD := g_neg c1 hD
        refine lv_aload_n C.1.1 C.1.2.1 dX14_tail_131 rfl (lv_at hl 0 rfl) ?_
        refine mr_getR C hw kc_14 18 (by decide) tf_854 (hFF 18 _ ff_854_18) wd_2283 dX14_tail_132 (by decide) rfl ?_
        refine lv_iload_n C.1.1 C.1.2.1 dX14_tail_135 rfl (lv_at hl 1 rfl) ?_
        refine lv_iload_n C.1.1 C.1.2.1 dX14_tail_136 rfl (lv_at hl 1 rfl) ?_
        obtain ⟨r4, M2, L3, h1, hD⟩ := g_b3 hD
        refine md_csI (As := [.int v1]) (rest := [.int v1, .ref (mw_ad G 868)]) C hw (tlX14_substituteOf l G (mw_ad G) 869 F fu v1 M L h1 (Nat.le_refl _) hFF) wd_2260 cwX14_substituteOf ⟨Nat.le_trans (Nat.le_of_ble_eq_true rfl) hRf, Nat.le_trans (Nat.le_of_ble_eq_true rfl) hRl⟩ rfl hl.1 (Nat.le_of_ble_eq_true rfl) dX14_tail_137 rfl rfl hcs rfl (fun H locs hw => ?_)
        obtain ⟨q5, hD⟩ := g_ck hD
        obtain ⟨M6, eM6, hD⟩ := g_let hD
        refine mr_iast C hw (by decide) tf_868 q5 dX14_tail_140 (fun H locs hw => ?_)
        replace hw : mw_W G (mw_ad G) 869 TF F M6 L3 H locs := by rw [eM6]; exact hw
        obtain ⟨x7, ex7, hD⟩ := g_let hD
        refine lv_iinc (v := x7) (lv' := [(1, .int x7), (0, .ref (mw_ad G 854))]) C.1.1 C.1.2.1 dX14_tail_141 hl (k := 1) rfl (by rw [ex7]; rfl) (by decide) rfl (fun ls hl => ?_)
        refine lv_goto (tgt := 124) C.1.1 C.1.2.1 dX14_tail_144 (by decide) ?_
        exact ih124 x7 M6 L3 _ _ ls hD hw (lv_sub hl [1, 0] rfl)
  unfold DX14_tail at hD
  refine lv_iconst (v := 0) C.1.1 C.1.2.1 dX14_tail_122 (by decide) ?_
  refine lv_istore_n (lv' := [(1, .int 0), (0, .ref (mw_ad G 854))]) C.1.1 C.1.2.1 dX14_tail_123 rfl hl (by decide) rfl (fun ls hl => ?_)
  exact hh124 fu 0 M L _ _ ls hD hw (lv_sub hl [1, 0] rfl)

theorem dX14_init_0 : decode cX14_init 0 = .ok (.aload_n 0, 1) := by decide +kernel
theorem dX14_init_1 : decode cX14_init 1 = .ok (.invokespecial 1, 3) := by decide +kernel
theorem dX14_init_4 : decode cX14_init 4 = .ok (.aload_n 0, 1) := by decide +kernel
theorem dX14_init_5 : decode cX14_init 5 = .ok (.sipush 272, 3) := by decide +kernel
theorem dX14_init_8 : decode cX14_init 8 = .ok (.newarray .int, 2) := by decide +kernel
theorem dX14_init_10 : decode cX14_init 10 = .ok (.putfield 7, 3) := by decide +kernel
theorem dX14_init_13 : decode cX14_init 13 = .ok (.aload_n 0, 1) := by decide +kernel
theorem dX14_init_14 : decode cX14_init 14 = .ok (.bipush 17, 2) := by decide +kernel
theorem dX14_init_16 : decode cX14_init 16 = .ok (.newarray .int, 2) := by decide +kernel
theorem dX14_init_18 : decode cX14_init 18 = .ok (.putfield 13, 3) := by decide +kernel
theorem dX14_init_21 : decode cX14_init 21 = .ok (.aload_n 0, 1) := by decide +kernel
theorem dX14_init_22 : decode cX14_init 22 = .ok (.bipush 17, 2) := by decide +kernel
theorem dX14_init_24 : decode cX14_init 24 = .ok (.newarray .long, 2) := by decide +kernel
theorem dX14_init_26 : decode cX14_init 26 = .ok (.putfield 16, 3) := by decide +kernel
theorem dX14_init_29 : decode cX14_init 29 = .ok (.aload_n 0, 1) := by decide +kernel
theorem dX14_init_30 : decode cX14_init 30 = .ok (.sipush 300, 3) := by decide +kernel
theorem dX14_init_33 : decode cX14_init 33 = .ok (.newarray .int, 2) := by decide +kernel
theorem dX14_init_35 : decode cX14_init 35 = .ok (.putfield 20, 3) := by decide +kernel
theorem dX14_init_38 : decode cX14_init 38 = .ok (.aload_n 0, 1) := by decide +kernel
theorem dX14_init_39 : decode cX14_init 39 = .ok (.bipush 16, 2) := by decide +kernel
theorem dX14_init_41 : decode cX14_init 41 = .ok (.newarray .int, 2) := by decide +kernel
theorem dX14_init_43 : decode cX14_init 43 = .ok (.putfield 23, 3) := by decide +kernel
theorem dX14_init_46 : decode cX14_init 46 = .ok (.aload_n 0, 1) := by decide +kernel
theorem dX14_init_47 : decode cX14_init 47 = .ok (.sipush 1105, 3) := by decide +kernel
theorem dX14_init_50 : decode cX14_init 50 = .ok (.newarray .boolean, 2) := by decide +kernel
theorem dX14_init_52 : decode cX14_init 52 = .ok (.putfield 26, 3) := by decide +kernel
theorem dX14_init_55 : decode cX14_init 55 = .ok (.aload_n 0, 1) := by decide +kernel
theorem dX14_init_56 : decode cX14_init 56 = .ok (.bipush 65, 2) := by decide +kernel
theorem dX14_init_58 : decode cX14_init 58 = .ok (.newarray .long, 2) := by decide +kernel
theorem dX14_init_60 : decode cX14_init 60 = .ok (.putfield 30, 3) := by decide +kernel
theorem dX14_init_63 : decode cX14_init 63 = .ok (.aload_n 0, 1) := by decide +kernel
theorem dX14_init_64 : decode cX14_init 64 = .ok (.bipush 65, 2) := by decide +kernel
theorem dX14_init_66 : decode cX14_init 66 = .ok (.newarray .int, 2) := by decide +kernel
theorem dX14_init_68 : decode cX14_init 68 = .ok (.putfield 33, 3) := by decide +kernel
theorem dX14_init_71 : decode cX14_init 71 = .ok (.aload_n 0, 1) := by decide +kernel
theorem dX14_init_72 : decode cX14_init 72 = .ok (.bipush 16, 2) := by decide +kernel
theorem dX14_init_74 : decode cX14_init 74 = .ok (.newarray .int, 2) := by decide +kernel
theorem dX14_init_76 : decode cX14_init 76 = .ok (.putfield 36, 3) := by decide +kernel
theorem dX14_init_79 : decode cX14_init 79 = .ok (.aload_n 0, 1) := by decide +kernel
theorem dX14_init_80 : decode cX14_init 80 = .ok (.bipush 16, 2) := by decide +kernel
theorem dX14_init_82 : decode cX14_init 82 = .ok (.newarray .int, 2) := by decide +kernel
theorem dX14_init_84 : decode cX14_init 84 = .ok (.putfield 39, 3) := by decide +kernel
theorem dX14_init_87 : decode cX14_init 87 = .ok (.aload_n 0, 1) := by decide +kernel
theorem dX14_init_88 : decode cX14_init 88 = .ok (.sipush 176, 3) := by decide +kernel
theorem dX14_init_91 : decode cX14_init 91 = .ok (.newarray .int, 2) := by decide +kernel
theorem dX14_init_93 : decode cX14_init 93 = .ok (.putfield 42, 3) := by decide +kernel
theorem dX14_init_96 : decode cX14_init 96 = .ok (.aload_n 0, 1) := by decide +kernel
theorem dX14_init_97 : decode cX14_init 97 = .ok (.bipush 16, 2) := by decide +kernel
theorem dX14_init_99 : decode cX14_init 99 = .ok (.newarray .int, 2) := by decide +kernel
theorem dX14_init_101 : decode cX14_init 101 = .ok (.putfield 45, 3) := by decide +kernel
theorem dX14_init_104 : decode cX14_init 104 = .ok (.aload_n 0, 1) := by decide +kernel
theorem dX14_init_105 : decode cX14_init 105 = .ok (.sipush 320, 3) := by decide +kernel
theorem dX14_init_108 : decode cX14_init 108 = .ok (.newarray .int, 2) := by decide +kernel
theorem dX14_init_110 : decode cX14_init 110 = .ok (.putfield 48, 3) := by decide +kernel
theorem dX14_init_113 : decode cX14_init 113 = .ok (.aload_n 0, 1) := by decide +kernel
theorem dX14_init_114 : decode cX14_init 114 = .ok (.sipush 256, 3) := by decide +kernel
theorem dX14_init_117 : decode cX14_init 117 = .ok (.newarray .int, 2) := by decide +kernel
theorem dX14_init_119 : decode cX14_init 119 = .ok (.putfield 51, 3) := by decide +kernel
theorem dX14_init_122 : decode cX14_init 122 = .ok (.iconst 0, 1) := by decide +kernel
theorem dX14_init_123 : decode cX14_init 123 = .ok (.istore_n 1, 1) := by decide +kernel
theorem dX14_init_124 : decode cX14_init 124 = .ok (.iload_n 1, 1) := by decide +kernel
theorem dX14_init_125 : decode cX14_init 125 = .ok (.sipush 256, 3) := by decide +kernel
theorem dX14_init_128 : decode cX14_init 128 = .ok (.if_icmp .ge 19, 3) := by decide +kernel
theorem dX14_init_131 : decode cX14_init 131 = .ok (.aload_n 0, 1) := by decide +kernel
theorem dX14_init_132 : decode cX14_init 132 = .ok (.getfield 51, 3) := by decide +kernel
theorem dX14_init_135 : decode cX14_init 135 = .ok (.iload_n 1, 1) := by decide +kernel
theorem dX14_init_136 : decode cX14_init 136 = .ok (.iload_n 1, 1) := by decide +kernel
theorem dX14_init_137 : decode cX14_init 137 = .ok (.invokestatic 54, 3) := by decide +kernel
theorem dX14_init_140 : decode cX14_init 140 = .ok (.iastore, 1) := by decide +kernel
theorem dX14_init_141 : decode cX14_init 141 = .ok (.iinc 1 1, 3) := by decide +kernel
theorem dX14_init_144 : decode cX14_init 144 = .ok (.goto (-20), 3) := by decide +kernel
theorem dX14_init_147 : decode cX14_init 147 = .ok (.return_, 1) := by decide +kernel
theorem cwX14_init : mw_cw yX14_init cX14_init 2 none 0 := ⟨wd_16, wd_2258, by decide +kernel⟩
noncomputable def DX14_init (fu : Nat) (F : mwF) (M : mwM) (L : mwL) : Option (mwF × mwM × mwL) :=
  mlet (mz 0 M 855) (fun M1 => mlet (mset F 854 2 (some 855)) (fun F2 => mlet (mz 0 M1 856) (fun M3 => mlet (mset F2 854 3 (some 856)) (fun F4 => mlet (mz 0 L 857) (fun L5 => mlet (mset F4 854 4 (some 857)) (fun F6 => mlet (mz 0 M3 858) (fun M7 => mlet (mset F6 854 5 (some 858)) (fun F8 => mlet (mz 0 M7 859) (fun M9 => mlet (mset F8 854 8 (some 859)) (fun F10 => mlet (mz 0 M9 860) (fun M11 => mlet (mset F10 854 10 (some 860)) (fun F12 => mlet (mz 0 L5 861) (fun L13 => mlet (mset F12 854 11 (some 861)) (fun F14 => mlet (mz 0 M11 862) (fun M15 => mlet (mset F14 854 12 (some 862)) (fun F16 => mlet (mz 0 M15 863) (fun M17 => mlet (mset F16 854 13 (some 863)) (fun F18 => mlet (mz 0 M17 864) (fun M19 => mlet (mset F18 854 14 (some 864)) (fun F20 => mlet (mz 0 M19 865) (fun M21 => mlet (mset F20 854 15 (some 865)) (fun F22 => mlet (mz 0 M21 866) (fun M23 => mlet (mset F22 854 16 (some 866)) (fun F24 => mlet (mz 0 M23 867) (fun M25 => mlet (mset F24 854 17 (some 867)) (fun F26 => mlet (mz 0 M25 868) (fun M27 => mlet (mset F26 854 18 (some 868)) (fun F28 => mb2 (DX14_tail fu M27 L13) (fun M29 L30 => some (F28, M29, L30))))))))))))))))))))))))))))))
set_option maxHeartbeats 4000000 in
theorem kX14_init {fu : Nat} {F : mwF} {M : mwM} {L : mwL} {FZ : mwF} {MZ : mwM} {LZ : mwL} (hD : DX14_init fu F M L = some (FZ, MZ, LZ)) : ∀ a j, (a < 854 ∨ 869 ≤ a) → FZ a j = F a j := by
  intro a j ha
  unfold DX14_init at hD
  obtain ⟨M1, eM1, hD⟩ := g_let hD
  obtain ⟨F2, eF2, hD⟩ := g_let hD
  obtain ⟨M3, eM3, hD⟩ := g_let hD
  obtain ⟨F4, eF4, hD⟩ := g_let hD
  obtain ⟨L5, eL5, hD⟩ := g_let hD
  obtain ⟨F6, eF6, hD⟩ := g_let hD
  obtain ⟨M7, eM7, hD⟩ := g_let hD
  obtain ⟨F8, eF8, hD⟩ := g_let hD
  obtain ⟨M9, eM9, hD⟩ := g_let hD
  obtain ⟨F10, eF10, hD⟩ := g_let hD
  obtain ⟨M11, eM11, hD⟩ := g_let hD
  obtain ⟨F12, eF12, hD⟩ := g_let hD
  obtain ⟨L13, eL13, hD⟩ := g_let hD
  obtain ⟨F14, eF14, hD⟩ := g_let hD
  obtain ⟨M15, eM15, hD⟩ := g_let hD
  obtain ⟨F16, eF16, hD⟩ := g_let hD
  obtain ⟨M17, eM17, hD⟩ := g_let hD
  obtain ⟨F18, eF18, hD⟩ := g_let hD
  obtain ⟨M19, eM19, hD⟩ := g_let hD
  obtain ⟨F20, eF20, hD⟩ := g_let hD
  obtain ⟨M21, eM21, hD⟩ := g_let hD
  obtain ⟨F22, eF22, hD⟩ := g_let hD
  obtain ⟨M23, eM23, hD⟩ := g_let hD
  obtain ⟨F24, eF24, hD⟩ := g_let hD
  obtain ⟨M25, eM25, hD⟩ := g_let hD
  obtain ⟨F26, eF26, hD⟩ := g_let hD
  obtain ⟨M27, eM27, hD⟩ := g_let hD
  obtain ⟨F28, eF28, hD⟩ := g_let hD
  obtain ⟨M29, L30, h1, hD⟩ := g_b2 hD
  have hf := congrArg (fun q => q.1) (Option.some.inj hD)
  dsimp only at hf
  rw [← hf]
  rw [eF28, mset_k (by omega)]
  rw [eF26, mset_k (by omega)]
  rw [eF24, mset_k (by omega)]
  rw [eF22, mset_k (by omega)]
  rw [eF20, mset_k (by omega)]
  rw [eF18, mset_k (by omega)]
  rw [eF16, mset_k (by omega)]
  rw [eF14, mset_k (by omega)]
  rw [eF12, mset_k (by omega)]
  rw [eF10, mset_k (by omega)]
  rw [eF8, mset_k (by omega)]
  rw [eF6, mset_k (by omega)]
  rw [eF4, mset_k (by omega)]
  rw [eF2, mset_k (by omega)]
set_option maxHeartbeats 4000000 in
set_option maxRecDepth 100000 in
theorem tX14_init (l : Launch) (G : mwG) (fu : Nat) (F : mwF) (M : mwM) (L : mwL) {FZ : mwF} {MZ : mwM} {LZ : mwL} (hD : DX14_init fu F M L = some (FZ, MZ, LZ)) : Met l yX14_init (Cond.code yX14_init cX14_init 2 none :: GT) ({ frames := 4, cells := 14, slots := 2657, locals := 120 }) (mw_PreC G 855 F M L [.ref (mw_ad G 854)]) (mw_QC G 869 FZ MZ LZ) 14 2657 (mw_fr G) := by
  refine mw_enterC (by decide) (Nat.le_of_ble_eq_true rfl) ?_
  intro p e s m below meth c ls C A hr hlocks hnm hw hs0 hl
  have hl : lv_has ls 2 [(0, .ref (mw_ad G 854))] := hl
  unfold DX14_init at hD
  refine lv_aload_n C.1.1 C.1.2.1 dX14_init_0 rfl (lv_at hl 0 rfl) ?_
  refine W.objInit C.1.1 C.1.2.1 C.1.2.2.2.1 (C.1.2.2.2.2 _ wd_2259) (C.1.2.2.2.2 _ wd_39) (C.1.2.2.2.2 _ wd_40) rfl (by rw [C.1.2.2.1]; exact hl.1) rfl dX14_init_1 (Nat.le_of_ble_eq_true rfl) (Nat.le_of_ble_eq_true rfl) ?_
  refine W.eq (g2 := F0 m 4 ls []) rfl ?_
  refine lv_aload_n C.1.1 C.1.2.1 dX14_init_4 rfl (lv_at hl 0 rfl) ?_
  refine lv_sipush (v := 272) C.1.1 C.1.2.1 dX14_init_5 (by decide) ?_
  refine mw_size hw (by omega) (fun hs => ?_)
  obtain ⟨M1, eM1, hD⟩ := g_let hD
  refine mr_newI (atype := .int) (t := 0) (n := 272) C hw hs tf_855 (by decide) rfl wd_91 rfl (fun _ => rfl) (by decide) (by decide) (by decide) (Nat.le_of_ble_eq_true rfl) (Nat.le_of_ble_eq_true rfl) dX14_init_8 (fun H hw _ => ?_)
  replace hw : mw_W G (mw_ad G) 856 TF F M1 L H [] := by rw [eM1]; exact hw
  refine W.widen (k := 1) (n := 272) (Nat.le_of_ble_eq_true rfl) (Nat.le_of_ble_eq_true rfl) ?_
  obtain ⟨F2, eF2, hD⟩ := g_let hD
  refine mr_putFR C hw kc_14 2 (by omega) tf_854 wd_2268 dX14_init_10 (by decide) rfl rfl hnm rfl rfl rfl (fun H locs hw => ?_)
  replace hw : mw_W G (mw_ad G) 856 TF F2 M1 L H locs := by rw [eF2]; exact hw
  refine lv_aload_n C.1.1 C.1.2.1 dX14_init_13 rfl (lv_at hl 0 rfl) ?_
  refine lv_bipush (v := 17) C.1.1 C.1.2.1 dX14_init_14 (by decide) ?_
  refine mw_size hw (by omega) (fun hs => ?_)
  obtain ⟨M3, eM3, hD⟩ := g_let hD
  refine mr_newI (atype := .int) (t := 0) (n := 17) C hw hs tf_856 (by decide) rfl wd_91 rfl (fun _ => rfl) (by decide) (by decide) (by decide) (Nat.le_of_ble_eq_true rfl) (Nat.le_of_ble_eq_true rfl) dX14_init_16 (fun H hw _ => ?_)
  replace hw : mw_W G (mw_ad G) 857 TF F2 M3 L H locs := by rw [eM3]; exact hw
  refine W.widen (k := 2) (n := 289) (Nat.le_of_ble_eq_true rfl) (Nat.le_of_ble_eq_true rfl) ?_
  obtain ⟨F4, eF4, hD⟩ := g_let hD
  refine mr_putFR C hw kc_14 3 (by omega) tf_854 wd_2269 dX14_init_18 (by decide) rfl rfl hnm rfl rfl rfl (fun H locs hw => ?_)
  replace hw : mw_W G (mw_ad G) 857 TF F4 M3 L H locs := by rw [eF4]; exact hw
  refine lv_aload_n C.1.1 C.1.2.1 dX14_init_21 rfl (lv_at hl 0 rfl) ?_
  refine lv_bipush (v := 17) C.1.1 C.1.2.1 dX14_init_22 (by decide) ?_
  refine mw_size hw (by omega) (fun hs => ?_)
  obtain ⟨L5, eL5, hD⟩ := g_let hD
  refine mr_newL (n := 17) C hw hs tf_857 wd_509 (by decide) (by decide) (by decide) (Nat.le_of_ble_eq_true rfl) (Nat.le_of_ble_eq_true rfl) dX14_init_24 (fun H hw _ => ?_)
  replace hw : mw_W G (mw_ad G) 858 TF F4 M3 L5 H locs := by rw [eL5]; exact hw
  refine W.widen (k := 3) (n := 306) (Nat.le_of_ble_eq_true rfl) (Nat.le_of_ble_eq_true rfl) ?_
  obtain ⟨F6, eF6, hD⟩ := g_let hD
  refine mr_putFR C hw kc_14 4 (by omega) tf_854 wd_2270 dX14_init_26 (by decide) rfl rfl hnm rfl rfl rfl (fun H locs hw => ?_)
  replace hw : mw_W G (mw_ad G) 858 TF F6 M3 L5 H locs := by rw [eF6]; exact hw
  refine lv_aload_n C.1.1 C.1.2.1 dX14_init_29 rfl (lv_at hl 0 rfl) ?_
  refine lv_sipush (v := 300) C.1.1 C.1.2.1 dX14_init_30 (by decide) ?_
  refine mw_size hw (by omega) (fun hs => ?_)
  obtain ⟨M7, eM7, hD⟩ := g_let hD
  refine mr_newI (atype := .int) (t := 0) (n := 300) C hw hs tf_858 (by decide) rfl wd_91 rfl (fun _ => rfl) (by decide) (by decide) (by decide) (Nat.le_of_ble_eq_true rfl) (Nat.le_of_ble_eq_true rfl) dX14_init_33 (fun H hw _ => ?_)
  replace hw : mw_W G (mw_ad G) 859 TF F6 M7 L5 H locs := by rw [eM7]; exact hw
  refine W.widen (k := 4) (n := 606) (Nat.le_of_ble_eq_true rfl) (Nat.le_of_ble_eq_true rfl) ?_
  obtain ⟨F8, eF8, hD⟩ := g_let hD
  refine mr_putFR C hw kc_14 5 (by omega) tf_854 wd_2271 dX14_init_35 (by decide) rfl rfl hnm rfl rfl rfl (fun H locs hw => ?_)
  replace hw : mw_W G (mw_ad G) 859 TF F8 M7 L5 H locs := by rw [eF8]; exact hw
  refine lv_aload_n C.1.1 C.1.2.1 dX14_init_38 rfl (lv_at hl 0 rfl) ?_
  refine lv_bipush (v := 16) C.1.1 C.1.2.1 dX14_init_39 (by decide) ?_
  refine mw_size hw (by omega) (fun hs => ?_)
  obtain ⟨M9, eM9, hD⟩ := g_let hD
  refine mr_newI (atype := .int) (t := 0) (n := 16) C hw hs tf_859 (by decide) rfl wd_91 rfl (fun _ => rfl) (by decide) (by decide) (by decide) (Nat.le_of_ble_eq_true rfl) (Nat.le_of_ble_eq_true rfl) dX14_init_41 (fun H hw _ => ?_)
  replace hw : mw_W G (mw_ad G) 860 TF F8 M9 L5 H locs := by rw [eM9]; exact hw
  refine W.widen (k := 5) (n := 622) (Nat.le_of_ble_eq_true rfl) (Nat.le_of_ble_eq_true rfl) ?_
  obtain ⟨F10, eF10, hD⟩ := g_let hD
  refine mr_putFR C hw kc_14 8 (by omega) tf_854 wd_2274 dX14_init_43 (by decide) rfl rfl hnm rfl rfl rfl (fun H locs hw => ?_)
  replace hw : mw_W G (mw_ad G) 860 TF F10 M9 L5 H locs := by rw [eF10]; exact hw
  refine lv_aload_n C.1.1 C.1.2.1 dX14_init_46 rfl (lv_at hl 0 rfl) ?_
  refine lv_sipush (v := 1105) C.1.1 C.1.2.1 dX14_init_47 (by decide) ?_
  refine mw_size hw (by omega) (fun hs => ?_)
  obtain ⟨M11, eM11, hD⟩ := g_let hD
  refine mr_newI (atype := .boolean) (t := 2) (n := 1105) C hw hs tf_860 (by decide) rfl wd_320 rfl (fun _ => rfl) (by decide) (by decide) (by decide) (Nat.le_of_ble_eq_true rfl) (Nat.le_of_ble_eq_true rfl) dX14_init_50 (fun H hw _ => ?_)
  replace hw : mw_W G (mw_ad G) 861 TF F10 M11 L5 H locs := by rw [eM11]; exact hw
  refine W.widen (k := 6) (n := 1727) (Nat.le_of_ble_eq_true rfl) (Nat.le_of_ble_eq_true rfl) ?_
  obtain ⟨F12, eF12, hD⟩ := g_let hD
  refine mr_putFR C hw kc_14 10 (by omega) tf_854 wd_2275 dX14_init_52 (by decide) rfl rfl hnm rfl rfl rfl (fun H locs hw => ?_)
  replace hw : mw_W G (mw_ad G) 861 TF F12 M11 L5 H locs := by rw [eF12]; exact hw
  refine lv_aload_n C.1.1 C.1.2.1 dX14_init_55 rfl (lv_at hl 0 rfl) ?_
  refine lv_bipush (v := 65) C.1.1 C.1.2.1 dX14_init_56 (by decide) ?_
  refine mw_size hw (by omega) (fun hs => ?_)
  obtain ⟨L13, eL13, hD⟩ := g_let hD
  refine mr_newL (n := 65) C hw hs tf_861 wd_509 (by decide) (by decide) (by decide) (Nat.le_of_ble_eq_true rfl) (Nat.le_of_ble_eq_true rfl) dX14_init_58 (fun H hw _ => ?_)
  replace hw : mw_W G (mw_ad G) 862 TF F12 M11 L13 H locs := by rw [eL13]; exact hw
  refine W.widen (k := 7) (n := 1792) (Nat.le_of_ble_eq_true rfl) (Nat.le_of_ble_eq_true rfl) ?_
  obtain ⟨F14, eF14, hD⟩ := g_let hD
  refine mr_putFR C hw kc_14 11 (by omega) tf_854 wd_2276 dX14_init_60 (by decide) rfl rfl hnm rfl rfl rfl (fun H locs hw => ?_)
  replace hw : mw_W G (mw_ad G) 862 TF F14 M11 L13 H locs := by rw [eF14]; exact hw
  refine lv_aload_n C.1.1 C.1.2.1 dX14_init_63 rfl (lv_at hl 0 rfl) ?_
  refine lv_bipush (v := 65) C.1.1 C.1.2.1 dX14_init_64 (by decide) ?_
  refine mw_size hw (by omega) (fun hs => ?_)
  obtain ⟨M15, eM15, hD⟩ := g_let hD
  refine mr_newI (atype := .int) (t := 0) (n := 65) C hw hs tf_862 (by decide) rfl wd_91 rfl (fun _ => rfl) (by decide) (by decide) (by decide) (Nat.le_of_ble_eq_true rfl) (Nat.le_of_ble_eq_true rfl) dX14_init_66 (fun H hw _ => ?_)
  replace hw : mw_W G (mw_ad G) 863 TF F14 M15 L13 H locs := by rw [eM15]; exact hw
  refine W.widen (k := 8) (n := 1857) (Nat.le_of_ble_eq_true rfl) (Nat.le_of_ble_eq_true rfl) ?_
  obtain ⟨F16, eF16, hD⟩ := g_let hD
  refine mr_putFR C hw kc_14 12 (by omega) tf_854 wd_2277 dX14_init_68 (by decide) rfl rfl hnm rfl rfl rfl (fun H locs hw => ?_)
  replace hw : mw_W G (mw_ad G) 863 TF F16 M15 L13 H locs := by rw [eF16]; exact hw
  refine lv_aload_n C.1.1 C.1.2.1 dX14_init_71 rfl (lv_at hl 0 rfl) ?_
  refine lv_bipush (v := 16) C.1.1 C.1.2.1 dX14_init_72 (by decide) ?_
  refine mw_size hw (by omega) (fun hs => ?_)
  obtain ⟨M17, eM17, hD⟩ := g_let hD
  refine mr_newI (atype := .int) (t := 0) (n := 16) C hw hs tf_863 (by decide) rfl wd_91 rfl (fun _ => rfl) (by decide) (by decide) (by decide) (Nat.le_of_ble_eq_true rfl) (Nat.le_of_ble_eq_true rfl) dX14_init_74 (fun H hw _ => ?_)
  replace hw : mw_W G (mw_ad G) 864 TF F16 M17 L13 H locs := by rw [eM17]; exact hw
  refine W.widen (k := 9) (n := 1873) (Nat.le_of_ble_eq_true rfl) (Nat.le_of_ble_eq_true rfl) ?_
  obtain ⟨F18, eF18, hD⟩ := g_let hD
  refine mr_putFR C hw kc_14 13 (by omega) tf_854 wd_2278 dX14_init_76 (by decide) rfl rfl hnm rfl rfl rfl (fun H locs hw => ?_)
  replace hw : mw_W G (mw_ad G) 864 TF F18 M17 L13 H locs := by rw [eF18]; exact hw
  refine lv_aload_n C.1.1 C.1.2.1 dX14_init_79 rfl (lv_at hl 0 rfl) ?_
  refine lv_bipush (v := 16) C.1.1 C.1.2.1 dX14_init_80 (by decide) ?_
  refine mw_size hw (by omega) (fun hs => ?_)
  obtain ⟨M19, eM19, hD⟩ := g_let hD
  refine mr_newI (atype := .int) (t := 0) (n := 16) C hw hs tf_864 (by decide) rfl wd_91 rfl (fun _ => rfl) (by decide) (by decide) (by decide) (Nat.le_of_ble_eq_true rfl) (Nat.le_of_ble_eq_true rfl) dX14_init_82 (fun H hw _ => ?_)
  replace hw : mw_W G (mw_ad G) 865 TF F18 M19 L13 H locs := by rw [eM19]; exact hw
  refine W.widen (k := 10) (n := 1889) (Nat.le_of_ble_eq_true rfl) (Nat.le_of_ble_eq_true rfl) ?_
  obtain ⟨F20, eF20, hD⟩ := g_let hD
  refine mr_putFR C hw kc_14 14 (by omega) tf_854 wd_2279 dX14_init_84 (by decide) rfl rfl hnm rfl rfl rfl (fun H locs hw => ?_)
  replace hw : mw_W G (mw_ad G) 865 TF F20 M19 L13 H locs := by rw [eF20]; exact hw
  refine lv_aload_n C.1.1 C.1.2.1 dX14_init_87 rfl (lv_at hl 0 rfl) ?_
  refine lv_sipush (v := 176) C.1.1 C.1.2.1 dX14_init_88 (by decide) ?_
  refine mw_size hw (by omega) (fun hs => ?_)
  obtain ⟨M21, eM21, hD⟩ := g_let hD
  refine mr_newI (atype := .int) (t := 0) (n := 176) C hw hs tf_865 (by decide) rfl wd_91 rfl (fun _ => rfl) (by decide) (by decide) (by decide) (Nat.le_of_ble_eq_true rfl) (Nat.le_of_ble_eq_true rfl) dX14_init_91 (fun H hw _ => ?_)
  replace hw : mw_W G (mw_ad G) 866 TF F20 M21 L13 H locs := by rw [eM21]; exact hw
  refine W.widen (k := 11) (n := 2065) (Nat.le_of_ble_eq_true rfl) (Nat.le_of_ble_eq_true rfl) ?_
  obtain ⟨F22, eF22, hD⟩ := g_let hD
  refine mr_putFR C hw kc_14 15 (by omega) tf_854 wd_2280 dX14_init_93 (by decide) rfl rfl hnm rfl rfl rfl (fun H locs hw => ?_)
  replace hw : mw_W G (mw_ad G) 866 TF F22 M21 L13 H locs := by rw [eF22]; exact hw
  refine lv_aload_n C.1.1 C.1.2.1 dX14_init_96 rfl (lv_at hl 0 rfl) ?_
  refine lv_bipush (v := 16) C.1.1 C.1.2.1 dX14_init_97 (by decide) ?_
  refine mw_size hw (by omega) (fun hs => ?_)
  obtain ⟨M23, eM23, hD⟩ := g_let hD
  refine mr_newI (atype := .int) (t := 0) (n := 16) C hw hs tf_866 (by decide) rfl wd_91 rfl (fun _ => rfl) (by decide) (by decide) (by decide) (Nat.le_of_ble_eq_true rfl) (Nat.le_of_ble_eq_true rfl) dX14_init_99 (fun H hw _ => ?_)
  replace hw : mw_W G (mw_ad G) 867 TF F22 M23 L13 H locs := by rw [eM23]; exact hw
  refine W.widen (k := 12) (n := 2081) (Nat.le_of_ble_eq_true rfl) (Nat.le_of_ble_eq_true rfl) ?_
  obtain ⟨F24, eF24, hD⟩ := g_let hD
  refine mr_putFR C hw kc_14 16 (by omega) tf_854 wd_2281 dX14_init_101 (by decide) rfl rfl hnm rfl rfl rfl (fun H locs hw => ?_)
  replace hw : mw_W G (mw_ad G) 867 TF F24 M23 L13 H locs := by rw [eF24]; exact hw
  refine lv_aload_n C.1.1 C.1.2.1 dX14_init_104 rfl (lv_at hl 0 rfl) ?_
  refine lv_sipush (v := 320) C.1.1 C.1.2.1 dX14_init_105 (by decide) ?_
  refine mw_size hw (by omega) (fun hs => ?_)
  obtain ⟨M25, eM25, hD⟩ := g_let hD
  refine mr_newI (atype := .int) (t := 0) (n := 320) C hw hs tf_867 (by decide) rfl wd_91 rfl (fun _ => rfl) (by decide) (by decide) (by decide) (Nat.le_of_ble_eq_true rfl) (Nat.le_of_ble_eq_true rfl) dX14_init_108 (fun H hw _ => ?_)
  replace hw : mw_W G (mw_ad G) 868 TF F24 M25 L13 H locs := by rw [eM25]; exact hw
  refine W.widen (k := 13) (n := 2401) (Nat.le_of_ble_eq_true rfl) (Nat.le_of_ble_eq_true rfl) ?_
  obtain ⟨F26, eF26, hD⟩ := g_let hD
  refine mr_putFR C hw kc_14 17 (by omega) tf_854 wd_2282 dX14_init_110 (by decide) rfl rfl hnm rfl rfl rfl (fun H locs hw => ?_)
  replace hw : mw_W G (mw_ad G) 868 TF F26 M25 L13 H locs := by rw [eF26]; exact hw
  refine lv_aload_n C.1.1 C.1.2.1 dX14_init_113 rfl (lv_at hl 0 rfl) ?_
  refine lv_sipush (v := 256) C.1.1 C.1.2.1 dX14_init_114 (by decide) ?_
  refine mw_size hw (by omega) (fun hs => ?_)
  obtain ⟨M27, eM27, hD⟩ := g_let hD
  refine mr_newI (atype := .int) (t := 0) (n := 256) C hw hs tf_868 (by decide) rfl wd_91 rfl (fun _ => rfl) (by decide) (by decide) (by decide) (Nat.le_of_ble_eq_true rfl) (Nat.le_of_ble_eq_true rfl) dX14_init_117 (fun H hw _ => ?_)
  replace hw : mw_W G (mw_ad G) 869 TF F26 M27 L13 H locs := by rw [eM27]; exact hw
  refine W.widen (k := 14) (n := 2657) (Nat.le_of_ble_eq_true rfl) (Nat.le_of_ble_eq_true rfl) ?_
  obtain ⟨F28, eF28, hD⟩ := g_let hD
  refine mr_putFR C hw kc_14 18 (by omega) tf_854 wd_2283 dX14_init_119 (by decide) rfl rfl hnm rfl rfl rfl (fun H locs hw => ?_)
  replace hw : mw_W G (mw_ad G) 869 TF F28 M27 L13 H locs := by rw [eF28]; exact hw
  have hFF : ∀ j r, FF 854 j = some r → F28 854 j = some r := by
    intro j r hj
    match j, hj with
    | 0, hj => exact absurd ((show FF 854 0 = none by decide +kernel).symm.trans hj) (fun q => by cases q)
    | 1, hj => exact absurd ((show FF 854 1 = none by decide +kernel).symm.trans hj) (fun q => by cases q)
    | 2, hj => exact (show F28 854 2 = some 855 by (rw [eF28, mset_j (by decide)]; rw [eF26, mset_j (by decide)]; rw [eF24, mset_j (by decide)]; rw [eF22, mset_j (by decide)]; rw [eF20, mset_j (by decide)]; rw [eF18, mset_j (by decide)]; rw [eF16, mset_j (by decide)]; rw [eF14, mset_j (by decide)]; rw [eF12, mset_j (by decide)]; rw [eF10, mset_j (by decide)]; rw [eF8, mset_j (by decide)]; rw [eF6, mset_j (by decide)]; rw [eF4, mset_j (by decide)]; rw [eF2]; exact mset_s)).trans (ff_854_2.symm.trans hj)
    | 3, hj => exact (show F28 854 3 = some 856 by (rw [eF28, mset_j (by decide)]; rw [eF26, mset_j (by decide)]; rw [eF24, mset_j (by decide)]; rw [eF22, mset_j (by decide)]; rw [eF20, mset_j (by decide)]; rw [eF18, mset_j (by decide)]; rw [eF16, mset_j (by decide)]; rw [eF14, mset_j (by decide)]; rw [eF12, mset_j (by decide)]; rw [eF10, mset_j (by decide)]; rw [eF8, mset_j (by decide)]; rw [eF6, mset_j (by decide)]; rw [eF4]; exact mset_s)).trans (ff_854_3.symm.trans hj)
    | 4, hj => exact (show F28 854 4 = some 857 by (rw [eF28, mset_j (by decide)]; rw [eF26, mset_j (by decide)]; rw [eF24, mset_j (by decide)]; rw [eF22, mset_j (by decide)]; rw [eF20, mset_j (by decide)]; rw [eF18, mset_j (by decide)]; rw [eF16, mset_j (by decide)]; rw [eF14, mset_j (by decide)]; rw [eF12, mset_j (by decide)]; rw [eF10, mset_j (by decide)]; rw [eF8, mset_j (by decide)]; rw [eF6]; exact mset_s)).trans (ff_854_4.symm.trans hj)
    | 5, hj => exact (show F28 854 5 = some 858 by (rw [eF28, mset_j (by decide)]; rw [eF26, mset_j (by decide)]; rw [eF24, mset_j (by decide)]; rw [eF22, mset_j (by decide)]; rw [eF20, mset_j (by decide)]; rw [eF18, mset_j (by decide)]; rw [eF16, mset_j (by decide)]; rw [eF14, mset_j (by decide)]; rw [eF12, mset_j (by decide)]; rw [eF10, mset_j (by decide)]; rw [eF8]; exact mset_s)).trans (ff_854_5.symm.trans hj)
    | 6, hj => exact absurd ((show FF 854 6 = none by decide +kernel).symm.trans hj) (fun q => by cases q)
    | 7, hj => exact absurd ((show FF 854 7 = none by decide +kernel).symm.trans hj) (fun q => by cases q)
    | 8, hj => exact (show F28 854 8 = some 859 by (rw [eF28, mset_j (by decide)]; rw [eF26, mset_j (by decide)]; rw [eF24, mset_j (by decide)]; rw [eF22, mset_j (by decide)]; rw [eF20, mset_j (by decide)]; rw [eF18, mset_j (by decide)]; rw [eF16, mset_j (by decide)]; rw [eF14, mset_j (by decide)]; rw [eF12, mset_j (by decide)]; rw [eF10]; exact mset_s)).trans (ff_854_8.symm.trans hj)
    | 9, hj => exact absurd ((show FF 854 9 = none by decide +kernel).symm.trans hj) (fun q => by cases q)
    | 10, hj => exact (show F28 854 10 = some 860 by (rw [eF28, mset_j (by decide)]; rw [eF26, mset_j (by decide)]; rw [eF24, mset_j (by decide)]; rw [eF22, mset_j (by decide)]; rw [eF20, mset_j (by decide)]; rw [eF18, mset_j (by decide)]; rw [eF16, mset_j (by decide)]; rw [eF14, mset_j (by decide)]; rw [eF12]; exact mset_s)).trans (ff_854_10.symm.trans hj)
    | 11, hj => exact (show F28 854 11 = some 861 by (rw [eF28, mset_j (by decide)]; rw [eF26, mset_j (by decide)]; rw [eF24, mset_j (by decide)]; rw [eF22, mset_j (by decide)]; rw [eF20, mset_j (by decide)]; rw [eF18, mset_j (by decide)]; rw [eF16, mset_j (by decide)]; rw [eF14]; exact mset_s)).trans (ff_854_11.symm.trans hj)
    | 12, hj => exact (show F28 854 12 = some 862 by (rw [eF28, mset_j (by decide)]; rw [eF26, mset_j (by decide)]; rw [eF24, mset_j (by decide)]; rw [eF22, mset_j (by decide)]; rw [eF20, mset_j (by decide)]; rw [eF18, mset_j (by decide)]; rw [eF16]; exact mset_s)).trans (ff_854_12.symm.trans hj)
    | 13, hj => exact (show F28 854 13 = some 863 by (rw [eF28, mset_j (by decide)]; rw [eF26, mset_j (by decide)]; rw [eF24, mset_j (by decide)]; rw [eF22, mset_j (by decide)]; rw [eF20, mset_j (by decide)]; rw [eF18]; exact mset_s)).trans (ff_854_13.symm.trans hj)
    | 14, hj => exact (show F28 854 14 = some 864 by (rw [eF28, mset_j (by decide)]; rw [eF26, mset_j (by decide)]; rw [eF24, mset_j (by decide)]; rw [eF22, mset_j (by decide)]; rw [eF20]; exact mset_s)).trans (ff_854_14.symm.trans hj)
    | 15, hj => exact (show F28 854 15 = some 865 by (rw [eF28, mset_j (by decide)]; rw [eF26, mset_j (by decide)]; rw [eF24, mset_j (by decide)]; rw [eF22]; exact mset_s)).trans (ff_854_15.symm.trans hj)
    | 16, hj => exact (show F28 854 16 = some 866 by (rw [eF28, mset_j (by decide)]; rw [eF26, mset_j (by decide)]; rw [eF24]; exact mset_s)).trans (ff_854_16.symm.trans hj)
    | 17, hj => exact (show F28 854 17 = some 867 by (rw [eF28, mset_j (by decide)]; rw [eF26]; exact mset_s)).trans (ff_854_17.symm.trans hj)
    | 18, hj => exact (show F28 854 18 = some 868 by (rw [eF28]; exact mset_s)).trans (ff_854_18.symm.trans hj)
    | n + 19, hj => exact absurd ((show FF 854 (n + 19) = none from rfl).symm.trans hj) (fun q => by cases q)
  obtain ⟨M29, L30, h1, hD⟩ := g_b2 hD
  have hq := Option.some.inj hD
  obtain ⟨hq1, hq2, hq3⟩ : FZ = F28 ∧ MZ = M29 ∧ LZ = L30 := by simp only [Prod.mk.injEq] at hq; exact ⟨hq.1.symm, hq.2.1.symm, hq.2.2.symm⟩
  rw [hq1, hq2, hq3]
  exact twX14_tail G fu F28 M27 L13 h1 hFF C hr hlocks (by omega) (Nat.le_of_ble_eq_true rfl) (Nat.le_of_ble_eq_true rfl) ⟨Nat.le_of_ble_eq_true rfl, Nat.le_of_ble_eq_true rfl⟩ H locs ls hw hl
