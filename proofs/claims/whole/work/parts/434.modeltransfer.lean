theorem dX17_anew_0 : decode cX17_anew 0 = .ok (.aload_n 0, 1) := by decide +kernel
theorem dX17_anew_1 : decode cX17_anew 1 = .ok (.iload_n 1, 1) := by decide +kernel
theorem dX17_anew_2 : decode cX17_anew 2 = .ok (.putfield 115, 3) := by decide +kernel
theorem dX17_anew_5 : decode cX17_anew 5 = .ok (.aload_n 0, 1) := by decide +kernel
theorem dX17_anew_6 : decode cX17_anew 6 = .ok (.lconst 0, 1) := by decide +kernel
theorem dX17_anew_7 : decode cX17_anew 7 = .ok (.putfield 118, 3) := by decide +kernel
theorem dX17_anew_10 : decode cX17_anew 10 = .ok (.aload_n 0, 1) := by decide +kernel
theorem dX17_anew_11 : decode cX17_anew 11 = .ok (.iconst 0, 1) := by decide +kernel
theorem dX17_anew_12 : decode cX17_anew 12 = .ok (.putfield 122, 3) := by decide +kernel
theorem dX17_anew_15 : decode cX17_anew 15 = .ok (.aload_n 0, 1) := by decide +kernel
theorem dX17_anew_16 : decode cX17_anew 16 = .ok (.iconst 0, 1) := by decide +kernel
theorem dX17_anew_17 : decode cX17_anew 17 = .ok (.putfield 125, 3) := by decide +kernel
theorem dX17_anew_20 : decode cX17_anew 20 = .ok (.aload_n 0, 1) := by decide +kernel
theorem dX17_anew_21 : decode cX17_anew 21 = .ok (.iconst 0, 1) := by decide +kernel
theorem dX17_anew_22 : decode cX17_anew 22 = .ok (.putfield 128, 3) := by decide +kernel
theorem dX17_anew_25 : decode cX17_anew 25 = .ok (.aload_n 0, 1) := by decide +kernel
theorem dX17_anew_26 : decode cX17_anew 26 = .ok (.iconst 0, 1) := by decide +kernel
theorem dX17_anew_27 : decode cX17_anew 27 = .ok (.putfield 131, 3) := by decide +kernel
theorem dX17_anew_30 : decode cX17_anew 30 = .ok (.aload_n 0, 1) := by decide +kernel
theorem dX17_anew_31 : decode cX17_anew 31 = .ok (.iconst 0, 1) := by decide +kernel
theorem dX17_anew_32 : decode cX17_anew 32 = .ok (.putfield 134, 3) := by decide +kernel
theorem dX17_anew_35 : decode cX17_anew 35 = .ok (.aload_n 0, 1) := by decide +kernel
theorem dX17_anew_36 : decode cX17_anew 36 = .ok (.iconst 3, 1) := by decide +kernel
theorem dX17_anew_37 : decode cX17_anew 37 = .ok (.putfield 105, 3) := by decide +kernel
theorem dX17_anew_40 : decode cX17_anew 40 = .ok (.aload_n 0, 1) := by decide +kernel
theorem dX17_anew_41 : decode cX17_anew 41 = .ok (.iconst 0, 1) := by decide +kernel
theorem dX17_anew_42 : decode cX17_anew 42 = .ok (.putfield 137, 3) := by decide +kernel
theorem dX17_anew_45 : decode cX17_anew 45 = .ok (.aload_n 0, 1) := by decide +kernel
theorem dX17_anew_46 : decode cX17_anew 46 = .ok (.iconst 0, 1) := by decide +kernel
theorem dX17_anew_47 : decode cX17_anew 47 = .ok (.putfield 141, 3) := by decide +kernel
theorem dX17_anew_50 : decode cX17_anew 50 = .ok (.iconst 0, 1) := by decide +kernel
theorem dX17_anew_51 : decode cX17_anew 51 = .ok (.istore_n 2, 1) := by decide +kernel
theorem dX17_anew_52 : decode cX17_anew 52 = .ok (.iload_n 2, 1) := by decide +kernel
theorem dX17_anew_53 : decode cX17_anew 53 = .ok (.bipush 101, 2) := by decide +kernel
theorem dX17_anew_55 : decode cX17_anew 55 = .ok (.if_icmp .ge 58, 3) := by decide +kernel
theorem dX17_anew_58 : decode cX17_anew 58 = .ok (.aload_n 0, 1) := by decide +kernel
theorem dX17_anew_59 : decode cX17_anew 59 = .ok (.getfield 17, 3) := by decide +kernel
theorem dX17_anew_62 : decode cX17_anew 62 = .ok (.iload_n 2, 1) := by decide +kernel
theorem dX17_anew_63 : decode cX17_anew 63 = .ok (.iconst 0, 1) := by decide +kernel
theorem dX17_anew_64 : decode cX17_anew 64 = .ok (.bastore, 1) := by decide +kernel
theorem dX17_anew_65 : decode cX17_anew 65 = .ok (.aload_n 0, 1) := by decide +kernel
theorem dX17_anew_66 : decode cX17_anew 66 = .ok (.getfield 21, 3) := by decide +kernel
theorem dX17_anew_69 : decode cX17_anew 69 = .ok (.iload_n 2, 1) := by decide +kernel
theorem dX17_anew_70 : decode cX17_anew 70 = .ok (.iconst 0, 1) := by decide +kernel
theorem dX17_anew_71 : decode cX17_anew 71 = .ok (.iastore, 1) := by decide +kernel
theorem dX17_anew_72 : decode cX17_anew 72 = .ok (.aload_n 0, 1) := by decide +kernel
theorem dX17_anew_73 : decode cX17_anew 73 = .ok (.getfield 24, 3) := by decide +kernel
theorem dX17_anew_76 : decode cX17_anew 76 = .ok (.iload_n 2, 1) := by decide +kernel
theorem dX17_anew_77 : decode cX17_anew 77 = .ok (.iconst 0, 1) := by decide +kernel
theorem dX17_anew_78 : decode cX17_anew 78 = .ok (.iastore, 1) := by decide +kernel
theorem dX17_anew_79 : decode cX17_anew 79 = .ok (.aload_n 0, 1) := by decide +kernel
theorem dX17_anew_80 : decode cX17_anew 80 = .ok (.getfield 27, 3) := by decide +kernel
theorem dX17_anew_83 : decode cX17_anew 83 = .ok (.iload_n 2, 1) := by decide +kernel
theorem dX17_anew_84 : decode cX17_anew 84 = .ok (.iconst 0, 1) := by decide +kernel
theorem dX17_anew_85 : decode cX17_anew 85 = .ok (.iastore, 1) := by decide +kernel
theorem dX17_anew_86 : decode cX17_anew 86 = .ok (.aload_n 0, 1) := by decide +kernel
theorem dX17_anew_87 : decode cX17_anew 87 = .ok (.getfield 30, 3) := by decide +kernel
theorem dX17_anew_90 : decode cX17_anew 90 = .ok (.iload_n 2, 1) := by decide +kernel
theorem dX17_anew_91 : decode cX17_anew 91 = .ok (.iconst 0, 1) := by decide +kernel
theorem dX17_anew_92 : decode cX17_anew 92 = .ok (.iastore, 1) := by decide +kernel
theorem dX17_anew_93 : decode cX17_anew 93 = .ok (.aload_n 0, 1) := by decide +kernel
theorem dX17_anew_94 : decode cX17_anew 94 = .ok (.getfield 33, 3) := by decide +kernel
theorem dX17_anew_97 : decode cX17_anew 97 = .ok (.iload_n 2, 1) := by decide +kernel
theorem dX17_anew_98 : decode cX17_anew 98 = .ok (.iconst 0, 1) := by decide +kernel
theorem dX17_anew_99 : decode cX17_anew 99 = .ok (.iastore, 1) := by decide +kernel
theorem dX17_anew_100 : decode cX17_anew 100 = .ok (.aload_n 0, 1) := by decide +kernel
theorem dX17_anew_101 : decode cX17_anew 101 = .ok (.getfield 39, 3) := by decide +kernel
theorem dX17_anew_104 : decode cX17_anew 104 = .ok (.iload_n 2, 1) := by decide +kernel
theorem dX17_anew_105 : decode cX17_anew 105 = .ok (.iconst 0, 1) := by decide +kernel
theorem dX17_anew_106 : decode cX17_anew 106 = .ok (.iastore, 1) := by decide +kernel
theorem dX17_anew_107 : decode cX17_anew 107 = .ok (.iinc 2 1, 3) := by decide +kernel
theorem dX17_anew_110 : decode cX17_anew 110 = .ok (.goto (-58), 3) := by decide +kernel
theorem dX17_anew_113 : decode cX17_anew 113 = .ok (.iconst 0, 1) := by decide +kernel
theorem dX17_anew_114 : decode cX17_anew 114 = .ok (.istore_n 2, 1) := by decide +kernel
theorem dX17_anew_115 : decode cX17_anew 115 = .ok (.iload_n 2, 1) := by decide +kernel
theorem dX17_anew_116 : decode cX17_anew 116 = .ok (.iconst 4, 1) := by decide +kernel
theorem dX17_anew_117 : decode cX17_anew 117 = .ok (.if_icmp .ge 16, 3) := by decide +kernel
theorem dX17_anew_120 : decode cX17_anew 120 = .ok (.aload_n 0, 1) := by decide +kernel
theorem dX17_anew_121 : decode cX17_anew 121 = .ok (.getfield 49, 3) := by decide +kernel
theorem dX17_anew_124 : decode cX17_anew 124 = .ok (.iload_n 2, 1) := by decide +kernel
theorem dX17_anew_125 : decode cX17_anew 125 = .ok (.iconst 0, 1) := by decide +kernel
theorem dX17_anew_126 : decode cX17_anew 126 = .ok (.iastore, 1) := by decide +kernel
theorem dX17_anew_127 : decode cX17_anew 127 = .ok (.iinc 2 1, 3) := by decide +kernel
theorem dX17_anew_130 : decode cX17_anew 130 = .ok (.goto (-15), 3) := by decide +kernel
theorem dX17_anew_133 : decode cX17_anew 133 = .ok (.iconst 0, 1) := by decide +kernel
theorem dX17_anew_134 : decode cX17_anew 134 = .ok (.istore_n 2, 1) := by decide +kernel
theorem dX17_anew_135 : decode cX17_anew 135 = .ok (.iload_n 2, 1) := by decide +kernel
theorem dX17_anew_136 : decode cX17_anew 136 = .ok (.bipush 8, 2) := by decide +kernel
theorem dX17_anew_138 : decode cX17_anew 138 = .ok (.if_icmp .ge 16, 3) := by decide +kernel
theorem dX17_anew_141 : decode cX17_anew 141 = .ok (.aload_n 0, 1) := by decide +kernel
theorem dX17_anew_142 : decode cX17_anew 142 = .ok (.getfield 112, 3) := by decide +kernel
theorem dX17_anew_145 : decode cX17_anew 145 = .ok (.iload_n 2, 1) := by decide +kernel
theorem dX17_anew_146 : decode cX17_anew 146 = .ok (.iconst 0, 1) := by decide +kernel
theorem dX17_anew_147 : decode cX17_anew 147 = .ok (.iastore, 1) := by decide +kernel
theorem dX17_anew_148 : decode cX17_anew 148 = .ok (.iinc 2 1, 3) := by decide +kernel
theorem dX17_anew_151 : decode cX17_anew 151 = .ok (.goto (-16), 3) := by decide +kernel
theorem dX17_anew_154 : decode cX17_anew 154 = .ok (.iconst 0, 1) := by decide +kernel
theorem dX17_anew_155 : decode cX17_anew 155 = .ok (.istore_n 2, 1) := by decide +kernel
theorem dX17_anew_156 : decode cX17_anew 156 = .ok (.iload_n 2, 1) := by decide +kernel
theorem dX17_anew_157 : decode cX17_anew 157 = .ok (.sipush 20000, 3) := by decide +kernel
theorem dX17_anew_160 : decode cX17_anew 160 = .ok (.if_icmp .ge 16, 3) := by decide +kernel
theorem dX17_anew_163 : decode cX17_anew 163 = .ok (.aload_n 0, 1) := by decide +kernel
theorem dX17_anew_164 : decode cX17_anew 164 = .ok (.getfield 13, 3) := by decide +kernel
theorem dX17_anew_167 : decode cX17_anew 167 = .ok (.iload_n 2, 1) := by decide +kernel
theorem dX17_anew_168 : decode cX17_anew 168 = .ok (.iconst 0, 1) := by decide +kernel
theorem dX17_anew_169 : decode cX17_anew 169 = .ok (.bastore, 1) := by decide +kernel
theorem dX17_anew_170 : decode cX17_anew 170 = .ok (.iinc 2 1, 3) := by decide +kernel
theorem dX17_anew_173 : decode cX17_anew 173 = .ok (.goto (-17), 3) := by decide +kernel
theorem dX17_anew_176 : decode cX17_anew 176 = .ok (.return_, 1) := by decide +kernel
theorem cwX17_anew : mw_cwV yX17_anew cX17_anew 3 (none) 1 := ⟨⟨wd_17, wd_3506, by decide +kernel⟩, wd_3504, wd_3505⟩
set_option maxHeartbeats 4000000 in
set_option maxRecDepth 100000 in
theorem tX17_anew (l : Launch) (G : mwG) (ad : Nat → Nat) (fu : Nat) (a1 : Int32) (M : mwM) (L : mwL) {M0 : mwM} {L0 : mwL} (hD : DX17_anew fu a1 M L = some (M0, L0)) : Met l yX17_anew (Cond.code yX17_anew cX17_anew 3 (none) :: GT) ({ frames := 0, cells := 0, slots := 0, locals := 0 }) (mw_Pre G ad NF TF FF M L [.ref (ad 869), .int a1]) (mw_Qv G ad NF TF FF (mw_eqV M0 L0)) 0 0 (mw_fr G) := by
  refine mw_enter (by decide) (Nat.le_of_ble_eq_true rfl) ?_
  intro p e s m below meth c ls C hr hlocks hnm hw hl
  have hl : lv_has ls 3 [(0, .ref (ad 869)), (1, .int a1)] := hl
  have hh156 : ∀ (f : Nat) (v2 : Int32) (M : mwM) (L : mwL) (H : Heap) (locs : List Loc) (ls : Array Slot), fX17_anew_h156 fu a1 f (v2, M, L) = some (M0, L0) → mw_W G ad NF TF FF M L H locs → lv_has ls 3 [(0, .ref (ad 869)), (2, .int v2)] → W p l e ({ frames := 0, cells := 0, slots := 0, locals := 0 }) s m [.ref (ad 869), .int a1].toArray below meth c H locs 0 0 (MQ below (mw_Qv G ad NF TF FF (mw_eqV M0 L0)) [.ref (ad 869), .int a1].toArray s 0 0 (mw_fr G)) (F0 m 156 ls []) := by
    intro f
    induction f with
    | zero => intro v2 M L H locs ls hD; cases hD
    | succ f156 ih156 =>
      intro v2 M L H locs ls hD hw hl
      replace hD : fX17_anew_i156 fu a1 (fX17_anew_h156 fu a1 f156) v2 M L = some (M0, L0) := hD
      unfold fX17_anew_i156 at hD
      refine lv_iload_n C.1.1 C.1.2.1 dX17_anew_156 rfl (lv_at hl 1 rfl) ?_
      refine lv_sipush (v := 20000) C.1.1 C.1.2.1 dX17_anew_157 (by decide) ?_
      refine lv_icmp_ge (tgt := 176) C.1.1 C.1.2.1 dX17_anew_160 (by decide) (fun c25 => ?_) (fun c25 => ?_)
      · replace hD := g_pos c25 hD
        exact mr_vret C hr hlocks hw (Option.some.inj hD) dX17_anew_176
      · replace hD := g_neg c25 hD
        refine lv_aload_n C.1.1 C.1.2.1 dX17_anew_163 rfl (lv_at hl 0 rfl) ?_
        refine mr_getR C hw kc_17 5 (by decide) tf_869 ff_869_5 wd_2336 dX17_anew_164 (by decide) rfl ?_
        refine lv_iload_n C.1.1 C.1.2.1 dX17_anew_167 rfl (lv_at hl 1 rfl) ?_
        refine lv_iconst (v := 0) C.1.1 C.1.2.1 dX17_anew_168 (by decide) ?_
        obtain ⟨q26, hD⟩ := g_ck hD
        obtain ⟨M27, eM27, hD⟩ := g_let hD
        refine mr_bast C hw (by decide) tf_871 q26 dX17_anew_169 (fun H locs hw => ?_)
        replace hw : mw_W G ad NF TF FF M27 L H locs := by rw [eM27]; exact hw
        obtain ⟨x28, ex28, hD⟩ := g_let hD
        refine lv_iinc (v := x28) (lv' := [(2, .int x28), (0, .ref (ad 869))]) C.1.1 C.1.2.1 dX17_anew_170 hl (k := 1) rfl (by rw [ex28]; rfl) (by decide) rfl (fun ls hl => ?_)
        refine lv_goto (tgt := 156) C.1.1 C.1.2.1 dX17_anew_173 (by decide) ?_
        exact ih156 x28 M27 L _ _ ls hD hw (lv_sub hl [1, 0] rfl)
  have hh135 : ∀ (f : Nat) (v2 : Int32) (M : mwM) (L : mwL) (H : Heap) (locs : List Loc) (ls : Array Slot), fX17_anew_h135 fu a1 f (v2, M, L) = some (M0, L0) → mw_W G ad NF TF FF M L H locs → lv_has ls 3 [(0, .ref (ad 869)), (2, .int v2)] → W p l e ({ frames := 0, cells := 0, slots := 0, locals := 0 }) s m [.ref (ad 869), .int a1].toArray below meth c H locs 0 0 (MQ below (mw_Qv G ad NF TF FF (mw_eqV M0 L0)) [.ref (ad 869), .int a1].toArray s 0 0 (mw_fr G)) (F0 m 135 ls []) := by
    intro f
    induction f with
    | zero => intro v2 M L H locs ls hD; cases hD
    | succ f135 ih135 =>
      intro v2 M L H locs ls hD hw hl
      replace hD : fX17_anew_i135 fu a1 (fX17_anew_h135 fu a1 f135) v2 M L = some (M0, L0) := hD
      unfold fX17_anew_i135 at hD
      refine lv_iload_n C.1.1 C.1.2.1 dX17_anew_135 rfl (lv_at hl 1 rfl) ?_
      refine lv_bipush (v := 8) C.1.1 C.1.2.1 dX17_anew_136 (by decide) ?_
      refine lv_icmp_ge (tgt := 154) C.1.1 C.1.2.1 dX17_anew_138 (by decide) (fun c21 => ?_) (fun c21 => ?_)
      · replace hD := g_pos c21 hD
        refine lv_iconst (v := 0) C.1.1 C.1.2.1 dX17_anew_154 (by decide) ?_
        refine lv_istore_n (lv' := [(2, .int 0), (0, .ref (ad 869))]) C.1.1 C.1.2.1 dX17_anew_155 rfl hl (by decide) rfl (fun ls hl => ?_)
        exact hh156 fu 0 M L _ _ ls hD hw (lv_sub hl [1, 0] rfl)
      · replace hD := g_neg c21 hD
        refine lv_aload_n C.1.1 C.1.2.1 dX17_anew_141 rfl (lv_at hl 0 rfl) ?_
        refine mr_getR C hw kc_17 42 (by decide) tf_869 ff_869_42 wd_2373 dX17_anew_142 (by decide) rfl ?_
        refine lv_iload_n C.1.1 C.1.2.1 dX17_anew_145 rfl (lv_at hl 1 rfl) ?_
        refine lv_iconst (v := 0) C.1.1 C.1.2.1 dX17_anew_146 (by decide) ?_
        obtain ⟨q22, hD⟩ := g_ck hD
        obtain ⟨M23, eM23, hD⟩ := g_let hD
        refine mr_iast C hw (by decide) tf_901 q22 dX17_anew_147 (fun H locs hw => ?_)
        replace hw : mw_W G ad NF TF FF M23 L H locs := by rw [eM23]; exact hw
        obtain ⟨x24, ex24, hD⟩ := g_let hD
        refine lv_iinc (v := x24) (lv' := [(2, .int x24), (0, .ref (ad 869))]) C.1.1 C.1.2.1 dX17_anew_148 hl (k := 1) rfl (by rw [ex24]; rfl) (by decide) rfl (fun ls hl => ?_)
        refine lv_goto (tgt := 135) C.1.1 C.1.2.1 dX17_anew_151 (by decide) ?_
        exact ih135 x24 M23 L _ _ ls hD hw (lv_sub hl [1, 0] rfl)
  have hh115 : ∀ (f : Nat) (v2 : Int32) (M : mwM) (L : mwL) (H : Heap) (locs : List Loc) (ls : Array Slot), fX17_anew_h115 fu a1 f (v2, M, L) = some (M0, L0) → mw_W G ad NF TF FF M L H locs → lv_has ls 3 [(0, .ref (ad 869)), (2, .int v2)] → W p l e ({ frames := 0, cells := 0, slots := 0, locals := 0 }) s m [.ref (ad 869), .int a1].toArray below meth c H locs 0 0 (MQ below (mw_Qv G ad NF TF FF (mw_eqV M0 L0)) [.ref (ad 869), .int a1].toArray s 0 0 (mw_fr G)) (F0 m 115 ls []) := by
    intro f
    induction f with
    | zero => intro v2 M L H locs ls hD; cases hD
    | succ f115 ih115 =>
      intro v2 M L H locs ls hD hw hl
      replace hD : fX17_anew_i115 fu a1 (fX17_anew_h115 fu a1 f115) v2 M L = some (M0, L0) := hD
      unfold fX17_anew_i115 at hD
      refine lv_iload_n C.1.1 C.1.2.1 dX17_anew_115 rfl (lv_at hl 1 rfl) ?_
      refine lv_iconst (v := 4) C.1.1 C.1.2.1 dX17_anew_116 (by decide) ?_
      refine lv_icmp_ge (tgt := 133) C.1.1 C.1.2.1 dX17_anew_117 (by decide) (fun c17 => ?_) (fun c17 => ?_)
      · replace hD := g_pos c17 hD
        refine lv_iconst (v := 0) C.1.1 C.1.2.1 dX17_anew_133 (by decide) ?_
        refine lv_istore_n (lv' := [(2, .int 0), (0, .ref (ad 869))]) C.1.1 C.1.2.1 dX17_anew_134 rfl hl (by decide) rfl (fun ls hl => ?_)
        exact hh135 fu 0 M L _ _ ls hD hw (lv_sub hl [1, 0] rfl)
      · replace hD := g_neg c17 hD
        refine lv_aload_n C.1.1 C.1.2.1 dX17_anew_120 rfl (lv_at hl 0 rfl) ?_
        refine mr_getR C hw kc_17 16 (by decide) tf_869 ff_869_16 wd_2347 dX17_anew_121 (by decide) rfl ?_
        refine lv_iload_n C.1.1 C.1.2.1 dX17_anew_124 rfl (lv_at hl 1 rfl) ?_
        refine lv_iconst (v := 0) C.1.1 C.1.2.1 dX17_anew_125 (by decide) ?_
        obtain ⟨q18, hD⟩ := g_ck hD
        obtain ⟨M19, eM19, hD⟩ := g_let hD
        refine mr_iast C hw (by decide) tf_882 q18 dX17_anew_126 (fun H locs hw => ?_)
        replace hw : mw_W G ad NF TF FF M19 L H locs := by rw [eM19]; exact hw
        obtain ⟨x20, ex20, hD⟩ := g_let hD
        refine lv_iinc (v := x20) (lv' := [(2, .int x20), (0, .ref (ad 869))]) C.1.1 C.1.2.1 dX17_anew_127 hl (k := 1) rfl (by rw [ex20]; rfl) (by decide) rfl (fun ls hl => ?_)
        refine lv_goto (tgt := 115) C.1.1 C.1.2.1 dX17_anew_130 (by decide) ?_
        exact ih115 x20 M19 L _ _ ls hD hw (lv_sub hl [1, 0] rfl)
  have hh52 : ∀ (f : Nat) (v2 : Int32) (M : mwM) (L : mwL) (H : Heap) (locs : List Loc) (ls : Array Slot), fX17_anew_h52 fu a1 f (v2, M, L) = some (M0, L0) → mw_W G ad NF TF FF M L H locs → lv_has ls 3 [(0, .ref (ad 869)), (2, .int v2)] → W p l e ({ frames := 0, cells := 0, slots := 0, locals := 0 }) s m [.ref (ad 869), .int a1].toArray below meth c H locs 0 0 (MQ below (mw_Qv G ad NF TF FF (mw_eqV M0 L0)) [.ref (ad 869), .int a1].toArray s 0 0 (mw_fr G)) (F0 m 52 ls []) := by
    intro f
    induction f with
    | zero => intro v2 M L H locs ls hD; cases hD
    | succ f52 ih52 =>
      intro v2 M L H locs ls hD hw hl
      replace hD : fX17_anew_i52 fu a1 (fX17_anew_h52 fu a1 f52) v2 M L = some (M0, L0) := hD
      unfold fX17_anew_i52 at hD
      refine lv_iload_n C.1.1 C.1.2.1 dX17_anew_52 rfl (lv_at hl 1 rfl) ?_
      refine lv_bipush (v := 101) C.1.1 C.1.2.1 dX17_anew_53 (by decide) ?_
      refine lv_icmp_ge (tgt := 113) C.1.1 C.1.2.1 dX17_anew_55 (by decide) (fun c1 => ?_) (fun c1 => ?_)
      · replace hD := g_pos c1 hD
        refine lv_iconst (v := 0) C.1.1 C.1.2.1 dX17_anew_113 (by decide) ?_
        refine lv_istore_n (lv' := [(2, .int 0), (0, .ref (ad 869))]) C.1.1 C.1.2.1 dX17_anew_114 rfl hl (by decide) rfl (fun ls hl => ?_)
        exact hh115 fu 0 M L _ _ ls hD hw (lv_sub hl [1, 0] rfl)
      · replace hD := g_neg c1 hD
        refine lv_aload_n C.1.1 C.1.2.1 dX17_anew_58 rfl (lv_at hl 0 rfl) ?_
        refine mr_getR C hw kc_17 6 (by decide) tf_869 ff_869_6 wd_2337 dX17_anew_59 (by decide) rfl ?_
        refine lv_iload_n C.1.1 C.1.2.1 dX17_anew_62 rfl (lv_at hl 1 rfl) ?_
        refine lv_iconst (v := 0) C.1.1 C.1.2.1 dX17_anew_63 (by decide) ?_
        obtain ⟨q2, hD⟩ := g_ck hD
        obtain ⟨M3, eM3, hD⟩ := g_let hD
        refine mr_zast C hw (by decide) tf_872 q2 dX17_anew_64 (fun H locs hw => ?_)
        replace hw : mw_W G ad NF TF FF M3 L H locs := by rw [eM3]; exact hw
        refine lv_aload_n C.1.1 C.1.2.1 dX17_anew_65 rfl (lv_at hl 0 rfl) ?_
        refine mr_getR C hw kc_17 7 (by decide) tf_869 ff_869_7 wd_2338 dX17_anew_66 (by decide) rfl ?_
        refine lv_iload_n C.1.1 C.1.2.1 dX17_anew_69 rfl (lv_at hl 1 rfl) ?_
        refine lv_iconst (v := 0) C.1.1 C.1.2.1 dX17_anew_70 (by decide) ?_
        obtain ⟨q4, hD⟩ := g_ck hD
        obtain ⟨M5, eM5, hD⟩ := g_let hD
        refine mr_iast C hw (by decide) tf_873 q4 dX17_anew_71 (fun H locs hw => ?_)
        replace hw : mw_W G ad NF TF FF M5 L H locs := by rw [eM5]; exact hw
        refine lv_aload_n C.1.1 C.1.2.1 dX17_anew_72 rfl (lv_at hl 0 rfl) ?_
        refine mr_getR C hw kc_17 8 (by decide) tf_869 ff_869_8 wd_2339 dX17_anew_73 (by decide) rfl ?_
        refine lv_iload_n C.1.1 C.1.2.1 dX17_anew_76 rfl (lv_at hl 1 rfl) ?_
        refine lv_iconst (v := 0) C.1.1 C.1.2.1 dX17_anew_77 (by decide) ?_
        obtain ⟨q6, hD⟩ := g_ck hD
        obtain ⟨M7, eM7, hD⟩ := g_let hD
        refine mr_iast C hw (by decide) tf_874 q6 dX17_anew_78 (fun H locs hw => ?_)
        replace hw : mw_W G ad NF TF FF M7 L H locs := by rw [eM7]; exact hw
        refine lv_aload_n C.1.1 C.1.2.1 dX17_anew_79 rfl (lv_at hl 0 rfl) ?_
        refine mr_getR C hw kc_17 9 (by decide) tf_869 ff_869_9 wd_2340 dX17_anew_80 (by decide) rfl ?_
        refine lv_iload_n C.1.1 C.1.2.1 dX17_anew_83 rfl (lv_at hl 1 rfl) ?_
        refine lv_iconst (v := 0) C.1.1 C.1.2.1 dX17_anew_84 (by decide) ?_
        obtain ⟨q8, hD⟩ := g_ck hD
        obtain ⟨M9, eM9, hD⟩ := g_let hD
        refine mr_iast C hw (by decide) tf_875 q8 dX17_anew_85 (fun H locs hw => ?_)
        replace hw : mw_W G ad NF TF FF M9 L H locs := by rw [eM9]; exact hw
        refine lv_aload_n C.1.1 C.1.2.1 dX17_anew_86 rfl (lv_at hl 0 rfl) ?_
        refine mr_getR C hw kc_17 10 (by decide) tf_869 ff_869_10 wd_2341 dX17_anew_87 (by decide) rfl ?_
        refine lv_iload_n C.1.1 C.1.2.1 dX17_anew_90 rfl (lv_at hl 1 rfl) ?_
        refine lv_iconst (v := 0) C.1.1 C.1.2.1 dX17_anew_91 (by decide) ?_
        obtain ⟨q10, hD⟩ := g_ck hD
        obtain ⟨M11, eM11, hD⟩ := g_let hD
        refine mr_iast C hw (by decide) tf_876 q10 dX17_anew_92 (fun H locs hw => ?_)
        replace hw : mw_W G ad NF TF FF M11 L H locs := by rw [eM11]; exact hw
        refine lv_aload_n C.1.1 C.1.2.1 dX17_anew_93 rfl (lv_at hl 0 rfl) ?_
        refine mr_getR C hw kc_17 11 (by decide) tf_869 ff_869_11 wd_2342 dX17_anew_94 (by decide) rfl ?_
        refine lv_iload_n C.1.1 C.1.2.1 dX17_anew_97 rfl (lv_at hl 1 rfl) ?_
        refine lv_iconst (v := 0) C.1.1 C.1.2.1 dX17_anew_98 (by decide) ?_
        obtain ⟨q12, hD⟩ := g_ck hD
        obtain ⟨M13, eM13, hD⟩ := g_let hD
        refine mr_iast C hw (by decide) tf_877 q12 dX17_anew_99 (fun H locs hw => ?_)
        replace hw : mw_W G ad NF TF FF M13 L H locs := by rw [eM13]; exact hw
        refine lv_aload_n C.1.1 C.1.2.1 dX17_anew_100 rfl (lv_at hl 0 rfl) ?_
        refine mr_getR C hw kc_17 13 (by decide) tf_869 ff_869_13 wd_2344 dX17_anew_101 (by decide) rfl ?_
        refine lv_iload_n C.1.1 C.1.2.1 dX17_anew_104 rfl (lv_at hl 1 rfl) ?_
        refine lv_iconst (v := 0) C.1.1 C.1.2.1 dX17_anew_105 (by decide) ?_
        obtain ⟨q14, hD⟩ := g_ck hD
        obtain ⟨M15, eM15, hD⟩ := g_let hD
        refine mr_iast C hw (by decide) tf_879 q14 dX17_anew_106 (fun H locs hw => ?_)
        replace hw : mw_W G ad NF TF FF M15 L H locs := by rw [eM15]; exact hw
        obtain ⟨x16, ex16, hD⟩ := g_let hD
        refine lv_iinc (v := x16) (lv' := [(2, .int x16), (0, .ref (ad 869))]) C.1.1 C.1.2.1 dX17_anew_107 hl (k := 1) rfl (by rw [ex16]; rfl) (by decide) rfl (fun ls hl => ?_)
        refine lv_goto (tgt := 52) C.1.1 C.1.2.1 dX17_anew_110 (by decide) ?_
        exact ih52 x16 M15 L _ _ ls hD hw (lv_sub hl [1, 0] rfl)
  unfold DX17_anew at hD
  refine lv_aload_n C.1.1 C.1.2.1 dX17_anew_0 rfl (lv_at hl 0 rfl) ?_
  refine lv_iload_n C.1.1 C.1.2.1 dX17_anew_1 rfl (lv_at hl 1 rfl) ?_
  obtain ⟨M29, eM29, hD⟩ := g_let hD
  refine mr_putI C hw kc_17 1 (by decide) tf_869 wd_2332 dX17_anew_2 (by decide) rfl rfl rfl rfl (fun H locs hw => ?_)
  replace hw : mw_W G ad NF TF FF M29 L H locs := by rw [eM29]; exact hw
  refine lv_aload_n C.1.1 C.1.2.1 dX17_anew_5 rfl (lv_at hl 0 rfl) ?_
  refine lv_lconst (v := 0) C.1.1 C.1.2.1 dX17_anew_6 (by decide) ?_
  obtain ⟨L30, eL30, hD⟩ := g_let hD
  refine mr_putL C hw kc_17 2 (by decide) tf_869 wd_2333 dX17_anew_7 (by decide) rfl rfl rfl rfl (fun H locs hw => ?_)
  replace hw : mw_W G ad NF TF FF M29 L30 H locs := by rw [eL30]; exact hw
  refine lv_aload_n C.1.1 C.1.2.1 dX17_anew_10 rfl (lv_at hl 0 rfl) ?_
  refine lv_iconst (v := 0) C.1.1 C.1.2.1 dX17_anew_11 (by decide) ?_
  obtain ⟨M31, eM31, hD⟩ := g_let hD
  refine mr_putI C hw kc_17 3 (by decide) tf_869 wd_2334 dX17_anew_12 (by decide) rfl rfl rfl rfl (fun H locs hw => ?_)
  replace hw : mw_W G ad NF TF FF M31 L30 H locs := by rw [eM31]; exact hw
  refine lv_aload_n C.1.1 C.1.2.1 dX17_anew_15 rfl (lv_at hl 0 rfl) ?_
  refine lv_iconst (v := 0) C.1.1 C.1.2.1 dX17_anew_16 (by decide) ?_
  obtain ⟨M32, eM32, hD⟩ := g_let hD
  refine mr_putI C hw kc_17 26 (by decide) tf_869 wd_2357 dX17_anew_17 (by decide) rfl rfl rfl rfl (fun H locs hw => ?_)
  replace hw : mw_W G ad NF TF FF M32 L30 H locs := by rw [eM32]; exact hw
  refine lv_aload_n C.1.1 C.1.2.1 dX17_anew_20 rfl (lv_at hl 0 rfl) ?_
  refine lv_iconst (v := 0) C.1.1 C.1.2.1 dX17_anew_21 (by decide) ?_
  obtain ⟨M33, eM33, hD⟩ := g_let hD
  refine mr_putI C hw kc_17 35 (by decide) tf_869 wd_2366 dX17_anew_22 (by decide) rfl rfl rfl rfl (fun H locs hw => ?_)
  replace hw : mw_W G ad NF TF FF M33 L30 H locs := by rw [eM33]; exact hw
  refine lv_aload_n C.1.1 C.1.2.1 dX17_anew_25 rfl (lv_at hl 0 rfl) ?_
  refine lv_iconst (v := 0) C.1.1 C.1.2.1 dX17_anew_26 (by decide) ?_
  obtain ⟨M34, eM34, hD⟩ := g_let hD
  refine mr_putI C hw kc_17 36 (by decide) tf_869 wd_2367 dX17_anew_27 (by decide) rfl rfl rfl rfl (fun H locs hw => ?_)
  replace hw : mw_W G ad NF TF FF M34 L30 H locs := by rw [eM34]; exact hw
  refine lv_aload_n C.1.1 C.1.2.1 dX17_anew_30 rfl (lv_at hl 0 rfl) ?_
  refine lv_iconst (v := 0) C.1.1 C.1.2.1 dX17_anew_31 (by decide) ?_
  obtain ⟨M35, eM35, hD⟩ := g_let hD
  refine mr_putI C hw kc_17 37 (by decide) tf_869 wd_2368 dX17_anew_32 (by decide) rfl rfl rfl rfl (fun H locs hw => ?_)
  replace hw : mw_W G ad NF TF FF M35 L30 H locs := by rw [eM35]; exact hw
  refine lv_aload_n C.1.1 C.1.2.1 dX17_anew_35 rfl (lv_at hl 0 rfl) ?_
  refine lv_iconst (v := 3) C.1.1 C.1.2.1 dX17_anew_36 (by decide) ?_
  obtain ⟨M36, eM36, hD⟩ := g_let hD
  refine mr_putI C hw kc_17 38 (by decide) tf_869 wd_2369 dX17_anew_37 (by decide) rfl rfl rfl rfl (fun H locs hw => ?_)
  replace hw : mw_W G ad NF TF FF M36 L30 H locs := by rw [eM36]; exact hw
  refine lv_aload_n C.1.1 C.1.2.1 dX17_anew_40 rfl (lv_at hl 0 rfl) ?_
  refine lv_iconst (v := 0) C.1.1 C.1.2.1 dX17_anew_41 (by decide) ?_
  obtain ⟨M37, eM37, hD⟩ := g_let hD
  refine mr_putI C hw kc_17 39 (by decide) tf_869 wd_2370 dX17_anew_42 (by decide) rfl rfl (by decide +kernel) (by decide +kernel) (fun H locs hw => ?_)
  replace hw : mw_W G ad NF TF FF M37 L30 H locs := by rw [eM37]; exact hw
  refine lv_aload_n C.1.1 C.1.2.1 dX17_anew_45 rfl (lv_at hl 0 rfl) ?_
  refine lv_iconst (v := 0) C.1.1 C.1.2.1 dX17_anew_46 (by decide) ?_
  obtain ⟨M38, eM38, hD⟩ := g_let hD
  refine mr_putI C hw kc_17 40 (by decide) tf_869 wd_2371 dX17_anew_47 (by decide) rfl rfl rfl rfl (fun H locs hw => ?_)
  replace hw : mw_W G ad NF TF FF M38 L30 H locs := by rw [eM38]; exact hw
  refine lv_iconst (v := 0) C.1.1 C.1.2.1 dX17_anew_50 (by decide) ?_
  refine lv_istore_n (lv' := [(2, .int 0), (0, .ref (ad 869)), (1, .int a1)]) C.1.1 C.1.2.1 dX17_anew_51 rfl hl (by decide) rfl (fun ls hl => ?_)
  exact hh52 fu 0 M38 L30 _ _ ls hD hw (lv_sub hl [1, 0] rfl)

theorem dX17_size_0 : decode cX17_size 0 = .ok (.aload_n 0, 1) := by decide +kernel
theorem dX17_size_1 : decode cX17_size 1 = .ok (.getfield 7, 3) := by decide +kernel
theorem dX17_size_4 : decode cX17_size 4 = .ok (.iload_n 1, 1) := by decide +kernel
theorem dX17_size_5 : decode cX17_size 5 = .ok (.iconst 1, 1) := by decide +kernel
theorem dX17_size_6 : decode cX17_size 6 = .ok (.iadd, 1) := by decide +kernel
theorem dX17_size_7 : decode cX17_size 7 = .ok (.iaload, 1) := by decide +kernel
theorem dX17_size_8 : decode cX17_size 8 = .ok (.aload_n 0, 1) := by decide +kernel
theorem dX17_size_9 : decode cX17_size 9 = .ok (.getfield 7, 3) := by decide +kernel
theorem dX17_size_12 : decode cX17_size 12 = .ok (.iload_n 1, 1) := by decide +kernel
theorem dX17_size_13 : decode cX17_size 13 = .ok (.iaload, 1) := by decide +kernel
theorem dX17_size_14 : decode cX17_size 14 = .ok (.isub, 1) := by decide +kernel
theorem dX17_size_15 : decode cX17_size 15 = .ok (.ireturn, 1) := by decide +kernel
theorem cwX17_size : mw_cwV yX17_size cX17_size 2 ((some .int)) 1 := ⟨⟨wd_17, wd_4057, by decide +kernel⟩, wd_4056, sl_312⟩
set_option maxHeartbeats 4000000 in
set_option maxRecDepth 100000 in
theorem tX17_size (l : Launch) (G : mwG) (ad : Nat → Nat) (fu : Nat) (a1 : Int32) (M : mwM) (L : mwL) {r0 : Int32} {M0 : mwM} {L0 : mwL} (hD : DX17_size fu a1 M L = some (r0, M0, L0)) : Met l yX17_size (Cond.code yX17_size cX17_size 2 ((some .int)) :: GT) ({ frames := 0, cells := 0, slots := 0, locals := 0 }) (mw_Pre G ad NF TF FF M L [.ref (ad 869), .int a1]) (mw_Qi G ad NF TF FF (mw_eqI r0 M0 L0)) 0 0 (mw_fr G) := by
  refine mw_enter (by decide) (Nat.le_of_ble_eq_true rfl) ?_
  intro p e s m below meth c ls C hr hlocks hnm hw hl
  have hl : lv_has ls 2 [(0, .ref (ad 869)), (1, .int a1)] := hl
  unfold DX17_size at hD
  refine lv_aload_n C.1.1 C.1.2.1 dX17_size_0 rfl (lv_at hl 0 rfl) ?_
  refine mr_getR C hw kc_17 4 (by decide) tf_869 ff_869_4 wd_2335 dX17_size_1 (by decide) rfl ?_
  refine lv_iload_n C.1.1 C.1.2.1 dX17_size_4 rfl (lv_at hl 1 rfl) ?_
  refine lv_iconst (v := 1) C.1.1 C.1.2.1 dX17_size_5 (by decide) ?_
  refine lv_iadd C.1.1 C.1.2.1 dX17_size_6 ?_
  obtain ⟨q1, hD⟩ := g_ck hD
  refine mr_iald C hw (by decide) tf_870 q1 dX17_size_7 ?_
  refine lv_aload_n C.1.1 C.1.2.1 dX17_size_8 rfl (lv_at hl 0 rfl) ?_
  refine mr_getR C hw kc_17 4 (by decide) tf_869 ff_869_4 wd_2335 dX17_size_9 (by decide) rfl ?_
  refine lv_iload_n C.1.1 C.1.2.1 dX17_size_12 rfl (lv_at hl 1 rfl) ?_
  obtain ⟨q2, hD⟩ := g_ck hD
  refine mr_iald C hw (by decide) tf_870 q2 dX17_size_13 ?_
  refine lv_isub C.1.1 C.1.2.1 dX17_size_14 ?_
  exact mr_iret C hr hlocks hw rfl (Option.some.inj hD) dX17_size_15

theorem dX17_send_0 : decode cX17_send 0 = .ok (.aload_n 0, 1) := by decide +kernel
theorem dX17_send_1 : decode cX17_send 1 = .ok (.iconst 0, 1) := by decide +kernel
theorem dX17_send_2 : decode cX17_send 2 = .ok (.putfield 144, 3) := by decide +kernel
theorem dX17_send_5 : decode cX17_send 5 = .ok (.iload_n 1, 1) := by decide +kernel
theorem dX17_send_6 : decode cX17_send 6 = .ok (.ifCond .lt 10, 3) := by decide +kernel
theorem dX17_send_9 : decode cX17_send 9 = .ok (.iload_n 1, 1) := by decide +kernel
theorem dX17_send_10 : decode cX17_send 10 = .ok (.sipush 10000, 3) := by decide +kernel
theorem dX17_send_13 : decode cX17_send 13 = .ok (.if_icmp .le 6, 3) := by decide +kernel
theorem dX17_send_16 : decode cX17_send 16 = .ok (.bipush (-2), 2) := by decide +kernel
theorem dX17_send_18 : decode cX17_send 18 = .ok (.ireturn, 1) := by decide +kernel
theorem dX17_send_19 : decode cX17_send 19 = .ok (.aload_n 0, 1) := by decide +kernel
theorem dX17_send_20 : decode cX17_send 20 = .ok (.getfield 122, 3) := by decide +kernel
theorem dX17_send_23 : decode cX17_send 23 = .ok (.bipush 100, 2) := by decide +kernel
theorem dX17_send_25 : decode cX17_send 25 = .ok (.if_icmp .ne 6, 3) := by decide +kernel
theorem dX17_send_28 : decode cX17_send 28 = .ok (.bipush (-4), 2) := by decide +kernel
theorem dX17_send_30 : decode cX17_send 30 = .ok (.ireturn, 1) := by decide +kernel
theorem dX17_send_31 : decode cX17_send 31 = .ok (.iload_n 1, 1) := by decide +kernel
theorem dX17_send_32 : decode cX17_send 32 = .ok (.ifCond .eq 16, 3) := by decide +kernel
theorem dX17_send_35 : decode cX17_send 35 = .ok (.aload_n 0, 1) := by decide +kernel
theorem dX17_send_36 : decode cX17_send 36 = .ok (.getfield 137, 3) := by decide +kernel
theorem dX17_send_39 : decode cX17_send 39 = .ok (.ifCond .eq 11, 3) := by decide +kernel
theorem dX17_send_42 : decode cX17_send 42 = .ok (.iload_n 1, 1) := by decide +kernel
theorem dX17_send_43 : decode cX17_send 43 = .ok (.bipush 7, 2) := by decide +kernel
theorem dX17_send_45 : decode cX17_send 45 = .ok (.if_icmp .le 5, 3) := by decide +kernel
theorem dX17_send_48 : decode cX17_send 48 = .ok (.iconst 0, 1) := by decide +kernel
theorem dX17_send_49 : decode cX17_send 49 = .ok (.ireturn, 1) := by decide +kernel
theorem dX17_send_50 : decode cX17_send 50 = .ok (.aload_n 0, 1) := by decide +kernel
theorem dX17_send_51 : decode cX17_send 51 = .ok (.dup, 1) := by decide +kernel
theorem dX17_send_52 : decode cX17_send 52 = .ok (.getfield 122, 3) := by decide +kernel
theorem dX17_send_55 : decode cX17_send 55 = .ok (.iconst 1, 1) := by decide +kernel
theorem dX17_send_56 : decode cX17_send 56 = .ok (.iadd, 1) := by decide +kernel
theorem dX17_send_57 : decode cX17_send 57 = .ok (.putfield 122, 3) := by decide +kernel
theorem dX17_send_60 : decode cX17_send 60 = .ok (.aload_n 0, 1) := by decide +kernel
theorem dX17_send_61 : decode cX17_send 61 = .ok (.getfield 7, 3) := by decide +kernel
theorem dX17_send_64 : decode cX17_send 64 = .ok (.aload_n 0, 1) := by decide +kernel
theorem dX17_send_65 : decode cX17_send 65 = .ok (.getfield 122, 3) := by decide +kernel
theorem dX17_send_68 : decode cX17_send 68 = .ok (.iconst 1, 1) := by decide +kernel
theorem dX17_send_69 : decode cX17_send 69 = .ok (.iadd, 1) := by decide +kernel
theorem dX17_send_70 : decode cX17_send 70 = .ok (.aload_n 0, 1) := by decide +kernel
theorem dX17_send_71 : decode cX17_send 71 = .ok (.getfield 7, 3) := by decide +kernel
theorem dX17_send_74 : decode cX17_send 74 = .ok (.aload_n 0, 1) := by decide +kernel
theorem dX17_send_75 : decode cX17_send 75 = .ok (.getfield 122, 3) := by decide +kernel
theorem dX17_send_78 : decode cX17_send 78 = .ok (.iaload, 1) := by decide +kernel
theorem dX17_send_79 : decode cX17_send 79 = .ok (.iload_n 1, 1) := by decide +kernel
theorem dX17_send_80 : decode cX17_send 80 = .ok (.iadd, 1) := by decide +kernel
theorem dX17_send_81 : decode cX17_send 81 = .ok (.iastore, 1) := by decide +kernel
theorem dX17_send_82 : decode cX17_send 82 = .ok (.aload_n 0, 1) := by decide +kernel
theorem dX17_send_83 : decode cX17_send 83 = .ok (.getfield 122, 3) := by decide +kernel
theorem dX17_send_86 : decode cX17_send 86 = .ok (.ireturn, 1) := by decide +kernel
theorem cwX17_send : mw_cwV yX17_send cX17_send 2 ((some .int)) 1 := ⟨⟨wd_17, wd_4049, by decide +kernel⟩, wd_4047, wd_4048⟩
set_option maxHeartbeats 4000000 in
set_option maxRecDepth 100000 in
theorem tX17_send (l : Launch) (G : mwG) (ad : Nat → Nat) (fu : Nat) (a1 : Int32) (M : mwM) (L : mwL) {r0 : Int32} {M0 : mwM} {L0 : mwL} (hD : DX17_send fu a1 M L = some (r0, M0, L0)) : Met l yX17_send (Cond.code yX17_send cX17_send 2 ((some .int)) :: GT) ({ frames := 0, cells := 0, slots := 0, locals := 0 }) (mw_Pre G ad NF TF FF M L [.ref (ad 869), .int a1]) (mw_Qi G ad NF TF FF (mw_eqI r0 M0 L0)) 0 0 (mw_fr G) := by
  refine mw_enter (by decide) (Nat.le_of_ble_eq_true rfl) ?_
  intro p e s m below meth c ls C hr hlocks hnm hw hl
  have hl : lv_has ls 2 [(0, .ref (ad 869)), (1, .int a1)] := hl
  have hb16 : ∀ (M : mwM) (L : mwL) (H : Heap) (locs : List Loc) (ls : Array Slot), fX17_send_b16 fu a1 M L = some (r0, M0, L0) → mw_W G ad NF TF FF M L H locs → lv_has ls 2 [] → W p l e ({ frames := 0, cells := 0, slots := 0, locals := 0 }) s m [.ref (ad 869), .int a1].toArray below meth c H locs 0 0 (MQ below (mw_Qi G ad NF TF FF (mw_eqI r0 M0 L0)) [.ref (ad 869), .int a1].toArray s 0 0 (mw_fr G)) (F0 m 16 ls []) := by
    intro M L H locs ls hD hw hl
    unfold fX17_send_b16 at hD
    refine lv_bipush (v := (-2)) C.1.1 C.1.2.1 dX17_send_16 (by decide) ?_
    exact mr_iret C hr hlocks hw rfl (Option.some.inj hD) dX17_send_18
  have hb48 : ∀ (M : mwM) (L : mwL) (H : Heap) (locs : List Loc) (ls : Array Slot), fX17_send_b48 fu a1 M L = some (r0, M0, L0) → mw_W G ad NF TF FF M L H locs → lv_has ls 2 [] → W p l e ({ frames := 0, cells := 0, slots := 0, locals := 0 }) s m [.ref (ad 869), .int a1].toArray below meth c H locs 0 0 (MQ below (mw_Qi G ad NF TF FF (mw_eqI r0 M0 L0)) [.ref (ad 869), .int a1].toArray s 0 0 (mw_fr G)) (F0 m 48 ls []) := by
    intro M L H locs ls hD hw hl
    unfold fX17_send_b48 at hD
    refine lv_iconst (v := 0) C.1.1 C.1.2.1 dX17_send_48 (by decide) ?_
    exact mr_iret C hr hlocks hw rfl (Option.some.inj hD) dX17_send_49
  have hb50 : ∀ (M : mwM) (L : mwL) (H : Heap) (locs : List Loc) (ls : Array Slot), fX17_send_b50 fu a1 M L = some (r0, M0, L0) → mw_W G ad NF TF FF M L H locs → lv_has ls 2 [(0, .ref (ad 869)), (1, .int a1)] → W p l e ({ frames := 0, cells := 0, slots := 0, locals := 0 }) s m [.ref (ad 869), .int a1].toArray below meth c H locs 0 0 (MQ below (mw_Qi G ad NF TF FF (mw_eqI r0 M0 L0)) [.ref (ad 869), .int a1].toArray s 0 0 (mw_fr G)) (F0 m 50 ls []) := by
    intro M L H locs ls hD hw hl
    unfold fX17_send_b50 at hD
    refine lv_aload_n C.1.1 C.1.2.1 dX17_send_50 rfl (lv_at hl 0 rfl) ?_
    refine lv_dup C.1.1 C.1.2.1 dX17_send_51 rfl ?_
    refine mr_getI C hw kc_17 3 (by decide) tf_869 wd_2334 dX17_send_52 (by decide) rfl ?_
    refine lv_iconst (v := 1) C.1.1 C.1.2.1 dX17_send_55 (by decide) ?_
    refine lv_iadd C.1.1 C.1.2.1 dX17_send_56 ?_
    obtain ⟨M1, eM1, hD⟩ := g_let hD
    refine mr_putI C hw kc_17 3 (by decide) tf_869 wd_2334 dX17_send_57 (by decide) rfl rfl rfl rfl (fun H locs hw => ?_)
    replace hw : mw_W G ad NF TF FF M1 L H locs := by rw [eM1]; exact hw
    refine lv_aload_n C.1.1 C.1.2.1 dX17_send_60 rfl (lv_at hl 0 rfl) ?_
    refine mr_getR C hw kc_17 4 (by decide) tf_869 ff_869_4 wd_2335 dX17_send_61 (by decide) rfl ?_
    refine lv_aload_n C.1.1 C.1.2.1 dX17_send_64 rfl (lv_at hl 0 rfl) ?_
    refine mr_getI C hw kc_17 3 (by decide) tf_869 wd_2334 dX17_send_65 (by decide) rfl ?_
    refine lv_iconst (v := 1) C.1.1 C.1.2.1 dX17_send_68 (by decide) ?_
    refine lv_iadd C.1.1 C.1.2.1 dX17_send_69 ?_
    refine lv_aload_n C.1.1 C.1.2.1 dX17_send_70 rfl (lv_at hl 0 rfl) ?_
    refine mr_getR C hw kc_17 4 (by decide) tf_869 ff_869_4 wd_2335 dX17_send_71 (by decide) rfl ?_
    refine lv_aload_n C.1.1 C.1.2.1 dX17_send_74 rfl (lv_at hl 0 rfl) ?_
    refine mr_getI C hw kc_17 3 (by decide) tf_869 wd_2334 dX17_send_75 (by decide) rfl ?_
    obtain ⟨q2, hD⟩ := g_ck hD
    refine mr_iald C hw (by decide) tf_870 q2 dX17_send_78 ?_
    refine lv_iload_n C.1.1 C.1.2.1 dX17_send_79 rfl (lv_at hl 1 rfl) ?_
    refine lv_iadd C.1.1 C.1.2.1 dX17_send_80 ?_
    obtain ⟨q3, hD⟩ := g_ck hD
    obtain ⟨M4, eM4, hD⟩ := g_let hD
    refine mr_iast C hw (by decide) tf_870 q3 dX17_send_81 (fun H locs hw => ?_)
    replace hw : mw_W G ad NF TF FF M4 L H locs := by rw [eM4]; exact hw
    refine lv_aload_n C.1.1 C.1.2.1 dX17_send_82 rfl (lv_at hl 0 rfl) ?_
    refine mr_getI C hw kc_17 3 (by decide) tf_869 wd_2334 dX17_send_83 (by decide) rfl ?_
    exact mr_iret C hr hlocks hw rfl (Option.some.inj hD) dX17_send_86
  unfold DX17_send at hD
  refine lv_aload_n C.1.1 C.1.2.1 dX17_send_0 rfl (lv_at hl 0 rfl) ?_
  refine lv_iconst (v := 0) C.1.1 C.1.2.1 dX17_send_1 (by decide) ?_
  obtain ⟨M5, eM5, hD⟩ := g_let hD
  refine mr_putI C hw kc_17 0 (by decide) tf_869 wd_2331 dX17_send_2 (by decide) rfl rfl rfl rfl (fun H locs hw => ?_)
  replace hw : mw_W G ad NF TF FF M5 L H locs := by rw [eM5]; exact hw
  refine lv_iload_n C.1.1 C.1.2.1 dX17_send_5 rfl (lv_at hl 1 rfl) ?_
  refine lv_if_lt (tgt := 16) C.1.1 C.1.2.1 dX17_send_6 (by decide) (fun c6 => ?_) (fun c6 => ?_)
  · replace hD := g_pos c6 hD
    exact hb16 M5 L _ _ ls hD hw (lv_sub hl [] rfl)
  · replace hD := g_neg c6 hD
    refine lv_iload_n C.1.1 C.1.2.1 dX17_send_9 rfl (lv_at hl 1 rfl) ?_
    refine lv_sipush (v := 10000) C.1.1 C.1.2.1 dX17_send_10 (by decide) ?_
    refine lv_icmp_le (tgt := 19) C.1.1 C.1.2.1 dX17_send_13 (by decide) (fun c7 => ?_) (fun c7 => ?_)
    · replace hD := g_pos c7 hD
      refine lv_aload_n C.1.1 C.1.2.1 dX17_send_19 rfl (lv_at hl 0 rfl) ?_
      refine mr_getI C hw kc_17 3 (by decide) tf_869 wd_2334 dX17_send_20 (by decide) rfl ?_
      refine lv_bipush (v := 100) C.1.1 C.1.2.1 dX17_send_23 (by decide) ?_
      refine lv_icmp_ne (tgt := 31) C.1.1 C.1.2.1 dX17_send_25 (by decide) (fun c8 => ?_) (fun c8 => ?_)
      · replace hD := g_neg c8 hD
        refine lv_iload_n C.1.1 C.1.2.1 dX17_send_31 rfl (lv_at hl 1 rfl) ?_
        refine lv_if_eq (tgt := 48) C.1.1 C.1.2.1 dX17_send_32 (by decide) (fun c9 => ?_) (fun c9 => ?_)
        · replace hD := g_pos c9 hD
          exact hb48 M5 L _ _ ls hD hw (lv_sub hl [] rfl)
        · replace hD := g_neg c9 hD
          refine lv_aload_n C.1.1 C.1.2.1 dX17_send_35 rfl (lv_at hl 0 rfl) ?_
          refine mr_getI C hw kc_17 39 (by decide) tf_869 wd_2370 dX17_send_36 (by decide) rfl ?_
          refine lv_if_eq (tgt := 50) C.1.1 C.1.2.1 dX17_send_39 (by decide) (fun c10 => ?_) (fun c10 => ?_)
          · replace hD := g_pos c10 hD
            exact hb50 M5 L _ _ ls hD hw (lv_sub hl [0, 1] rfl)
          · replace hD := g_neg c10 hD
            refine lv_iload_n C.1.1 C.1.2.1 dX17_send_42 rfl (lv_at hl 1 rfl) ?_
            refine lv_bipush (v := 7) C.1.1 C.1.2.1 dX17_send_43 (by decide) ?_
            refine lv_icmp_le (tgt := 50) C.1.1 C.1.2.1 dX17_send_45 (by decide) (fun c11 => ?_) (fun c11 => ?_)
            · replace hD := g_pos c11 hD
              exact hb50 M5 L _ _ ls hD hw (lv_sub hl [0, 1] rfl)
            · replace hD := g_neg c11 hD
              exact hb48 M5 L _ _ ls hD hw (lv_sub hl [] rfl)
      · replace hD := g_pos c8 hD
        refine lv_bipush (v := (-4)) C.1.1 C.1.2.1 dX17_send_28 (by decide) ?_
        exact mr_iret C hr hlocks hw rfl (Option.some.inj hD) dX17_send_30
    · replace hD := g_neg c7 hD
      exact hb16 M5 L _ _ ls hD hw (lv_sub hl [] rfl)

theorem dX17_octet_0 : decode cX17_octet 0 = .ok (.aload_n 0, 1) := by decide +kernel
theorem dX17_octet_1 : decode cX17_octet 1 = .ok (.iconst 0, 1) := by decide +kernel
theorem dX17_octet_2 : decode cX17_octet 2 = .ok (.putfield 144, 3) := by decide +kernel
theorem dX17_octet_5 : decode cX17_octet 5 = .ok (.iload_n 1, 1) := by decide +kernel
theorem dX17_octet_6 : decode cX17_octet 6 = .ok (.iconst 1, 1) := by decide +kernel
theorem dX17_octet_7 : decode cX17_octet 7 = .ok (.if_icmp .lt 24, 3) := by decide +kernel
theorem dX17_octet_10 : decode cX17_octet 10 = .ok (.iload_n 1, 1) := by decide +kernel
theorem dX17_octet_11 : decode cX17_octet 11 = .ok (.aload_n 0, 1) := by decide +kernel
theorem dX17_octet_12 : decode cX17_octet 12 = .ok (.getfield 122, 3) := by decide +kernel
theorem dX17_octet_15 : decode cX17_octet 15 = .ok (.if_icmp .gt 16, 3) := by decide +kernel
theorem dX17_octet_18 : decode cX17_octet 18 = .ok (.iload_n 2, 1) := by decide +kernel
theorem dX17_octet_19 : decode cX17_octet 19 = .ok (.ifCond .lt 12, 3) := by decide +kernel
theorem dX17_octet_22 : decode cX17_octet 22 = .ok (.iload_n 2, 1) := by decide +kernel
theorem dX17_octet_23 : decode cX17_octet 23 = .ok (.aload_n 0, 1) := by decide +kernel
theorem dX17_octet_24 : decode cX17_octet 24 = .ok (.iload_n 1, 1) := by decide +kernel
theorem dX17_octet_25 : decode cX17_octet 25 = .ok (.invokevirtual 147, 3) := by decide +kernel
theorem dX17_octet_28 : decode cX17_octet 28 = .ok (.if_icmp .lt 4, 3) := by decide +kernel
theorem dX17_octet_31 : decode cX17_octet 31 = .ok (.return_, 1) := by decide +kernel
theorem dX17_octet_32 : decode cX17_octet 32 = .ok (.aload_n 0, 1) := by decide +kernel
theorem dX17_octet_33 : decode cX17_octet 33 = .ok (.getfield 13, 3) := by decide +kernel
theorem dX17_octet_36 : decode cX17_octet 36 = .ok (.aload_n 0, 1) := by decide +kernel
theorem dX17_octet_37 : decode cX17_octet 37 = .ok (.getfield 7, 3) := by decide +kernel
theorem dX17_octet_40 : decode cX17_octet 40 = .ok (.iload_n 1, 1) := by decide +kernel
theorem dX17_octet_41 : decode cX17_octet 41 = .ok (.iaload, 1) := by decide +kernel
theorem dX17_octet_42 : decode cX17_octet 42 = .ok (.iload_n 2, 1) := by decide +kernel
theorem dX17_octet_43 : decode cX17_octet 43 = .ok (.iadd, 1) := by decide +kernel
theorem dX17_octet_44 : decode cX17_octet 44 = .ok (.iload_n 3, 1) := by decide +kernel
theorem dX17_octet_45 : decode cX17_octet 45 = .ok (.bastore, 1) := by decide +kernel
theorem dX17_octet_46 : decode cX17_octet 46 = .ok (.return_, 1) := by decide +kernel
theorem cwX17_octet : mw_cwV yX17_octet cX17_octet 4 (none) 3 := ⟨⟨wd_17, wd_4053, by decide +kernel⟩, wd_4051, wd_4052⟩
set_option maxHeartbeats 4000000 in
set_option maxRecDepth 100000 in
theorem tX17_octet (l : Launch) (G : mwG) (ad : Nat → Nat) (fu : Nat) (a1 : Int32) (a2 : Int32) (a3 : Int32) (M : mwM) (L : mwL) {M0 : mwM} {L0 : mwL} (hD : DX17_octet fu a1 a2 a3 M L = some (M0, L0)) : Met l yX17_octet (Cond.code yX17_octet cX17_octet 4 (none) :: GT) ({ frames := 1, cells := 0, slots := 0, locals := 21 }) (mw_Pre G ad NF TF FF M L [.ref (ad 869), .int a1, .int a2, .int a3]) (mw_Qv G ad NF TF FF (mw_eqV M0 L0)) 0 0 (mw_fr G) := by
  refine mw_enter (by decide) (Nat.le_of_ble_eq_true rfl) ?_
  intro p e s m below meth c ls C hr hlocks hnm hw hl
  have hl : lv_has ls 4 [(0, .ref (ad 869)), (1, .int a1), (2, .int a2), (3, .int a3)] := hl
  have hb31 : ∀ (M : mwM) (L : mwL) (H : Heap) (locs : List Loc) (ls : Array Slot), fX17_octet_b31 fu a1 a2 a3 M L = some (M0, L0) → mw_W G ad NF TF FF M L H locs → lv_has ls 4 [] → W p l e ({ frames := 1, cells := 0, slots := 0, locals := 21 }) s m [.ref (ad 869), .int a1, .int a2, .int a3].toArray below meth c H locs 0 0 (MQ below (mw_Qv G ad NF TF FF (mw_eqV M0 L0)) [.ref (ad 869), .int a1, .int a2, .int a3].toArray s 0 0 (mw_fr G)) (F0 m 31 ls []) := by
    intro M L H locs ls hD hw hl
    unfold fX17_octet_b31 at hD
    exact mr_vret C hr hlocks hw (Option.some.inj hD) dX17_octet_31
  unfold DX17_octet at hD
  refine lv_aload_n C.1.1 C.1.2.1 dX17_octet_0 rfl (lv_at hl 0 rfl) ?_
  refine lv_iconst (v := 0) C.1.1 C.1.2.1 dX17_octet_1 (by decide) ?_
  obtain ⟨M1, eM1, hD⟩ := g_let hD
  refine mr_putI C hw kc_17 0 (by decide) tf_869 wd_2331 dX17_octet_2 (by decide) rfl rfl rfl rfl (fun H locs hw => ?_)
  replace hw : mw_W G ad NF TF FF M1 L H locs := by rw [eM1]; exact hw
  refine lv_iload_n C.1.1 C.1.2.1 dX17_octet_5 rfl (lv_at hl 1 rfl) ?_
  refine lv_iconst (v := 1) C.1.1 C.1.2.1 dX17_octet_6 (by decide) ?_
  refine lv_icmp_lt (tgt := 31) C.1.1 C.1.2.1 dX17_octet_7 (by decide) (fun c2 => ?_) (fun c2 => ?_)
  · replace hD := g_pos c2 hD
    exact hb31 M1 L _ _ ls hD hw (lv_sub hl [] rfl)
  · replace hD := g_neg c2 hD
    refine lv_iload_n C.1.1 C.1.2.1 dX17_octet_10 rfl (lv_at hl 1 rfl) ?_
    refine lv_aload_n C.1.1 C.1.2.1 dX17_octet_11 rfl (lv_at hl 0 rfl) ?_
    refine mr_getI C hw kc_17 3 (by decide) tf_869 wd_2334 dX17_octet_12 (by decide) rfl ?_
    refine lv_icmp_gt (tgt := 31) C.1.1 C.1.2.1 dX17_octet_15 (by decide) (fun c3 => ?_) (fun c3 => ?_)
    · replace hD := g_pos c3 hD
      exact hb31 M1 L _ _ ls hD hw (lv_sub hl [] rfl)
    · replace hD := g_neg c3 hD
      refine lv_iload_n C.1.1 C.1.2.1 dX17_octet_18 rfl (lv_at hl 2 rfl) ?_
      refine lv_if_lt (tgt := 31) C.1.1 C.1.2.1 dX17_octet_19 (by decide) (fun c4 => ?_) (fun c4 => ?_)
      · replace hD := g_pos c4 hD
        exact hb31 M1 L _ _ ls hD hw (lv_sub hl [] rfl)
      · replace hD := g_neg c4 hD
        refine lv_iload_n C.1.1 C.1.2.1 dX17_octet_22 rfl (lv_at hl 2 rfl) ?_
        refine lv_aload_n C.1.1 C.1.2.1 dX17_octet_23 rfl (lv_at hl 0 rfl) ?_
        refine lv_iload_n C.1.1 C.1.2.1 dX17_octet_24 rfl (lv_at hl 1 rfl) ?_
        obtain ⟨r7, M5, L6, h1, hD⟩ := g_b3 hD
        refine md_cvI (As := [.int a1]) (rest := [.int a2]) C hw (tX17_size l G ad fu a1 M1 L h1) kc_17 (by decide) tf_869 wd_4054 cwX17_size ⟨Nat.le_of_ble_eq_true rfl, Nat.le_of_ble_eq_true rfl⟩ rfl hl.1 (Nat.le_of_ble_eq_true rfl) dX17_octet_25 rfl rfl ⟨Nat.zero_le _, Nat.zero_le _⟩ rfl (fun H locs hw => ?_)
        refine lv_icmp_lt (tgt := 32) C.1.1 C.1.2.1 dX17_octet_28 (by decide) (fun c8 => ?_) (fun c8 => ?_)
        · replace hD := g_pos c8 hD
          refine lv_aload_n C.1.1 C.1.2.1 dX17_octet_32 rfl (lv_at hl 0 rfl) ?_
          refine mr_getR C hw kc_17 5 (by decide) tf_869 ff_869_5 wd_2336 dX17_octet_33 (by decide) rfl ?_
          refine lv_aload_n C.1.1 C.1.2.1 dX17_octet_36 rfl (lv_at hl 0 rfl) ?_
          refine mr_getR C hw kc_17 4 (by decide) tf_869 ff_869_4 wd_2335 dX17_octet_37 (by decide) rfl ?_
          refine lv_iload_n C.1.1 C.1.2.1 dX17_octet_40 rfl (lv_at hl 1 rfl) ?_
          obtain ⟨q9, hD⟩ := g_ck hD
          refine mr_iald C hw (by decide) tf_870 q9 dX17_octet_41 ?_
          refine lv_iload_n C.1.1 C.1.2.1 dX17_octet_42 rfl (lv_at hl 2 rfl) ?_
          refine lv_iadd C.1.1 C.1.2.1 dX17_octet_43 ?_
          refine lv_iload_n C.1.1 C.1.2.1 dX17_octet_44 rfl (lv_at hl 3 rfl) ?_
          obtain ⟨q10, hD⟩ := g_ck hD
          obtain ⟨M11, eM11, hD⟩ := g_let hD
          refine mr_bast C hw (by decide) tf_871 q10 dX17_octet_45 (fun H locs hw => ?_)
          replace hw : mw_W G ad NF TF FF M11 L6 H locs := by rw [eM11]; exact hw
          exact mr_vret C hr hlocks hw (Option.some.inj hD) dX17_octet_46
        · replace hD := g_neg c8 hD
          exact hb31 M5 L6 _ _ ls hD hw (lv_sub hl [] rfl)

theorem dX17_make_0 : decode cX17_make 0 = .ok (.aload_n 0, 1) := by decide +kernel
theorem dX17_make_1 : decode cX17_make 1 = .ok (.getfield 125, 3) := by decide +kernel
theorem dX17_make_4 : decode cX17_make 4 = .ok (.sipush 6000, 3) := by decide +kernel
theorem dX17_make_7 : decode cX17_make 7 = .ok (.if_icmp .ne 5, 3) := by decide +kernel
theorem dX17_make_10 : decode cX17_make 10 = .ok (.iconst 0, 1) := by decide +kernel
theorem dX17_make_11 : decode cX17_make 11 = .ok (.ireturn, 1) := by decide +kernel
theorem dX17_make_12 : decode cX17_make 12 = .ok (.aload_n 0, 1) := by decide +kernel
theorem dX17_make_13 : decode cX17_make 13 = .ok (.dup, 1) := by decide +kernel
theorem dX17_make_14 : decode cX17_make 14 = .ok (.getfield 125, 3) := by decide +kernel
theorem dX17_make_17 : decode cX17_make 17 = .ok (.iconst 1, 1) := by decide +kernel
theorem dX17_make_18 : decode cX17_make 18 = .ok (.iadd, 1) := by decide +kernel
theorem dX17_make_19 : decode cX17_make 19 = .ok (.putfield 125, 3) := by decide +kernel
theorem dX17_make_22 : decode cX17_make 22 = .ok (.aload_n 0, 1) := by decide +kernel
theorem dX17_make_23 : decode cX17_make 23 = .ok (.getfield 80, 3) := by decide +kernel
theorem dX17_make_26 : decode cX17_make 26 = .ok (.aload_n 0, 1) := by decide +kernel
theorem dX17_make_27 : decode cX17_make 27 = .ok (.getfield 125, 3) := by decide +kernel
theorem dX17_make_30 : decode cX17_make 30 = .ok (.iload_n 1, 1) := by decide +kernel
theorem dX17_make_31 : decode cX17_make 31 = .ok (.iastore, 1) := by decide +kernel
theorem dX17_make_32 : decode cX17_make 32 = .ok (.aload_n 0, 1) := by decide +kernel
theorem dX17_make_33 : decode cX17_make 33 = .ok (.getfield 83, 3) := by decide +kernel
theorem dX17_make_36 : decode cX17_make 36 = .ok (.aload_n 0, 1) := by decide +kernel
theorem dX17_make_37 : decode cX17_make 37 = .ok (.getfield 125, 3) := by decide +kernel
theorem dX17_make_40 : decode cX17_make 40 = .ok (.iload_n 2, 1) := by decide +kernel
theorem dX17_make_41 : decode cX17_make 41 = .ok (.iastore, 1) := by decide +kernel
theorem dX17_make_42 : decode cX17_make 42 = .ok (.aload_n 0, 1) := by decide +kernel
theorem dX17_make_43 : decode cX17_make 43 = .ok (.getfield 86, 3) := by decide +kernel
theorem dX17_make_46 : decode cX17_make 46 = .ok (.aload_n 0, 1) := by decide +kernel
theorem dX17_make_47 : decode cX17_make 47 = .ok (.getfield 125, 3) := by decide +kernel
theorem dX17_make_50 : decode cX17_make 50 = .ok (.iload_n 3, 1) := by decide +kernel
theorem dX17_make_51 : decode cX17_make 51 = .ok (.iastore, 1) := by decide +kernel
theorem dX17_make_52 : decode cX17_make 52 = .ok (.aload_n 0, 1) := by decide +kernel
theorem dX17_make_53 : decode cX17_make 53 = .ok (.getfield 89, 3) := by decide +kernel
theorem dX17_make_56 : decode cX17_make 56 = .ok (.aload_n 0, 1) := by decide +kernel
theorem dX17_make_57 : decode cX17_make 57 = .ok (.getfield 125, 3) := by decide +kernel
theorem dX17_make_60 : decode cX17_make 60 = .ok (.iload 4, 2) := by decide +kernel
theorem dX17_make_62 : decode cX17_make 62 = .ok (.iastore, 1) := by decide +kernel
theorem dX17_make_63 : decode cX17_make 63 = .ok (.aload_n 0, 1) := by decide +kernel
theorem dX17_make_64 : decode cX17_make 64 = .ok (.getfield 92, 3) := by decide +kernel
theorem dX17_make_67 : decode cX17_make 67 = .ok (.aload_n 0, 1) := by decide +kernel
theorem dX17_make_68 : decode cX17_make 68 = .ok (.getfield 125, 3) := by decide +kernel
theorem dX17_make_71 : decode cX17_make 71 = .ok (.iload 5, 2) := by decide +kernel
theorem dX17_make_73 : decode cX17_make 73 = .ok (.iastore, 1) := by decide +kernel
theorem dX17_make_74 : decode cX17_make 74 = .ok (.aload_n 0, 1) := by decide +kernel
theorem dX17_make_75 : decode cX17_make 75 = .ok (.getfield 95, 3) := by decide +kernel
theorem dX17_make_78 : decode cX17_make 78 = .ok (.aload_n 0, 1) := by decide +kernel
theorem dX17_make_79 : decode cX17_make 79 = .ok (.getfield 125, 3) := by decide +kernel
theorem dX17_make_82 : decode cX17_make 82 = .ok (.aload_n 0, 1) := by decide +kernel
theorem dX17_make_83 : decode cX17_make 83 = .ok (.getfield 118, 3) := by decide +kernel
theorem dX17_make_86 : decode cX17_make 86 = .ok (.lastore, 1) := by decide +kernel
theorem dX17_make_87 : decode cX17_make 87 = .ok (.aload_n 0, 1) := by decide +kernel
theorem dX17_make_88 : decode cX17_make 88 = .ok (.getfield 98, 3) := by decide +kernel
theorem dX17_make_91 : decode cX17_make 91 = .ok (.aload_n 0, 1) := by decide +kernel
theorem dX17_make_92 : decode cX17_make 92 = .ok (.getfield 125, 3) := by decide +kernel
theorem dX17_make_95 : decode cX17_make 95 = .ok (.iconst 0, 1) := by decide +kernel
theorem dX17_make_96 : decode cX17_make 96 = .ok (.bastore, 1) := by decide +kernel
theorem dX17_make_97 : decode cX17_make 97 = .ok (.aload_n 0, 1) := by decide +kernel
theorem dX17_make_98 : decode cX17_make 98 = .ok (.getfield 125, 3) := by decide +kernel
theorem dX17_make_101 : decode cX17_make 101 = .ok (.ireturn, 1) := by decide +kernel
theorem cwX17_make : mw_cwV yX17_make cX17_make 6 ((some .int)) 5 := ⟨⟨wd_17, wd_3971, by decide +kernel⟩, wd_3970, sl_300⟩
set_option maxHeartbeats 4000000 in
set_option maxRecDepth 100000 in
theorem tX17_make (l : Launch) (G : mwG) (ad : Nat → Nat) (fu : Nat) (a1 : Int32) (a2 : Int32) (a3 : Int32) (a4 : Int32) (a5 : Int32) (M : mwM) (L : mwL) {r0 : Int32} {M0 : mwM} {L0 : mwL} (hD : DX17_make fu a1 a2 a3 a4 a5 M L = some (r0, M0, L0)) : Met l yX17_make (Cond.code yX17_make cX17_make 6 ((some .int)) :: GT) ({ frames := 0, cells := 0, slots := 0, locals := 0 }) (mw_Pre G ad NF TF FF M L [.ref (ad 869), .int a1, .int a2, .int a3, .int a4, .int a5]) (mw_Qi G ad NF TF FF (mw_eqI r0 M0 L0)) 0 0 (mw_fr G) := by
  refine mw_enter (by decide) (Nat.le_of_ble_eq_true rfl) ?_
  intro p e s m below meth c ls C hr hlocks hnm hw hl
  have hl : lv_has ls 6 [(0, .ref (ad 869)), (1, .int a1), (2, .int a2), (3, .int a3), (4, .int a4), (5, .int a5)] := hl
  unfold DX17_make at hD
  refine lv_aload_n C.1.1 C.1.2.1 dX17_make_0 rfl (lv_at hl 0 rfl) ?_
  refine mr_getI C hw kc_17 26 (by decide) tf_869 wd_2357 dX17_make_1 (by decide) rfl ?_
  refine lv_sipush (v := 6000) C.1.1 C.1.2.1 dX17_make_4 (by decide) ?_
  refine lv_icmp_ne (tgt := 12) C.1.1 C.1.2.1 dX17_make_7 (by decide) (fun c1 => ?_) (fun c1 => ?_)
  · replace hD := g_neg c1 hD
    refine lv_aload_n C.1.1 C.1.2.1 dX17_make_12 rfl (lv_at hl 0 rfl) ?_
    refine lv_dup C.1.1 C.1.2.1 dX17_make_13 rfl ?_
    refine mr_getI C hw kc_17 26 (by decide) tf_869 wd_2357 dX17_make_14 (by decide) rfl ?_
    refine lv_iconst (v := 1) C.1.1 C.1.2.1 dX17_make_17 (by decide) ?_
    refine lv_iadd C.1.1 C.1.2.1 dX17_make_18 ?_
    obtain ⟨M2, eM2, hD⟩ := g_let hD
    refine mr_putI C hw kc_17 26 (by decide) tf_869 wd_2357 dX17_make_19 (by decide) rfl rfl rfl rfl (fun H locs hw => ?_)
    replace hw : mw_W G ad NF TF FF M2 L H locs := by rw [eM2]; exact hw
    refine lv_aload_n C.1.1 C.1.2.1 dX17_make_22 rfl (lv_at hl 0 rfl) ?_
    refine mr_getR C hw kc_17 27 (by decide) tf_869 ff_869_27 wd_2358 dX17_make_23 (by decide) rfl ?_
    refine lv_aload_n C.1.1 C.1.2.1 dX17_make_26 rfl (lv_at hl 0 rfl) ?_
    refine mr_getI C hw kc_17 26 (by decide) tf_869 wd_2357 dX17_make_27 (by decide) rfl ?_
    refine lv_iload_n C.1.1 C.1.2.1 dX17_make_30 rfl (lv_at hl 1 rfl) ?_
    obtain ⟨q3, hD⟩ := g_ck hD
    obtain ⟨M4, eM4, hD⟩ := g_let hD
    refine mr_iast C hw (by decide) tf_892 q3 dX17_make_31 (fun H locs hw => ?_)
    replace hw : mw_W G ad NF TF FF M4 L H locs := by rw [eM4]; exact hw
    refine lv_aload_n C.1.1 C.1.2.1 dX17_make_32 rfl (lv_at hl 0 rfl) ?_
    refine mr_getR C hw kc_17 28 (by decide) tf_869 ff_869_28 wd_2359 dX17_make_33 (by decide) rfl ?_
    refine lv_aload_n C.1.1 C.1.2.1 dX17_make_36 rfl (lv_at hl 0 rfl) ?_
    refine mr_getI C hw kc_17 26 (by decide) tf_869 wd_2357 dX17_make_37 (by decide) rfl ?_
    refine lv_iload_n C.1.1 C.1.2.1 dX17_make_40 rfl (lv_at hl 2 rfl) ?_
    obtain ⟨q5, hD⟩ := g_ck hD
    obtain ⟨M6, eM6, hD⟩ := g_let hD
    refine mr_iast C hw (by decide) tf_893 q5 dX17_make_41 (fun H locs hw => ?_)
    replace hw : mw_W G ad NF TF FF M6 L H locs := by rw [eM6]; exact hw
    refine lv_aload_n C.1.1 C.1.2.1 dX17_make_42 rfl (lv_at hl 0 rfl) ?_
    refine mr_getR C hw kc_17 29 (by decide) tf_869 ff_869_29 wd_2360 dX17_make_43 (by decide) rfl ?_
    refine lv_aload_n C.1.1 C.1.2.1 dX17_make_46 rfl (lv_at hl 0 rfl) ?_
    refine mr_getI C hw kc_17 26 (by decide) tf_869 wd_2357 dX17_make_47 (by decide) rfl ?_
    refine lv_iload_n C.1.1 C.1.2.1 dX17_make_50 rfl (lv_at hl 3 rfl) ?_
    obtain ⟨q7, hD⟩ := g_ck hD
    obtain ⟨M8, eM8, hD⟩ := g_let hD
    refine mr_iast C hw (by decide) tf_894 q7 dX17_make_51 (fun H locs hw => ?_)
    replace hw : mw_W G ad NF TF FF M8 L H locs := by rw [eM8]; exact hw
    refine lv_aload_n C.1.1 C.1.2.1 dX17_make_52 rfl (lv_at hl 0 rfl) ?_
    refine mr_getR C hw kc_17 30 (by decide) tf_869 ff_869_30 wd_2361 dX17_make_53 (by decide) rfl ?_
    refine lv_aload_n C.1.1 C.1.2.1 dX17_make_56 rfl (lv_at hl 0 rfl) ?_
    refine mr_getI C hw kc_17 26 (by decide) tf_869 wd_2357 dX17_make_57 (by decide) rfl ?_
    refine lv_iload C.1.1 C.1.2.1 dX17_make_60 (lv_at hl 4 rfl) ?_
    obtain ⟨q9, hD⟩ := g_ck hD
    obtain ⟨M10, eM10, hD⟩ := g_let hD
    refine mr_iast C hw (by decide) tf_895 q9 dX17_make_62 (fun H locs hw => ?_)
    replace hw : mw_W G ad NF TF FF M10 L H locs := by rw [eM10]; exact hw
    refine lv_aload_n C.1.1 C.1.2.1 dX17_make_63 rfl (lv_at hl 0 rfl) ?_
    refine mr_getR C hw kc_17 31 (by decide) tf_869 ff_869_31 wd_2362 dX17_make_64 (by decide) rfl ?_
    refine lv_aload_n C.1.1 C.1.2.1 dX17_make_67 rfl (lv_at hl 0 rfl) ?_
    refine mr_getI C hw kc_17 26 (by decide) tf_869 wd_2357 dX17_make_68 (by decide) rfl ?_
    refine lv_iload C.1.1 C.1.2.1 dX17_make_71 (lv_at hl 5 rfl) ?_
    obtain ⟨q11, hD⟩ := g_ck hD
    obtain ⟨M12, eM12, hD⟩ := g_let hD
    refine mr_iast C hw (by decide) tf_896 q11 dX17_make_73 (fun H locs hw => ?_)
    replace hw : mw_W G ad NF TF FF M12 L H locs := by rw [eM12]; exact hw
    refine lv_aload_n C.1.1 C.1.2.1 dX17_make_74 rfl (lv_at hl 0 rfl) ?_
    refine mr_getR C hw kc_17 32 (by decide) tf_869 ff_869_32 wd_2363 dX17_make_75 (by decide) rfl ?_
    refine lv_aload_n C.1.1 C.1.2.1 dX17_make_78 rfl (lv_at hl 0 rfl) ?_
    refine mr_getI C hw kc_17 26 (by decide) tf_869 wd_2357 dX17_make_79 (by decide) rfl ?_
    refine lv_aload_n C.1.1 C.1.2.1 dX17_make_82 rfl (lv_at hl 0 rfl) ?_
    refine mr_getL C hw kc_17 2 (by decide) tf_869 wd_2333 dX17_make_83 (by decide) rfl ?_
    obtain ⟨q13, hD⟩ := g_ck hD
    obtain ⟨L14, eL14, hD⟩ := g_let hD
    refine mr_last C hw (by decide) tf_897 q13 dX17_make_86 (fun H locs hw => ?_)
    replace hw : mw_W G ad NF TF FF M12 L14 H locs := by rw [eL14]; exact hw
    refine lv_aload_n C.1.1 C.1.2.1 dX17_make_87 rfl (lv_at hl 0 rfl) ?_
    refine mr_getR C hw kc_17 33 (by decide) tf_869 ff_869_33 wd_2364 dX17_make_88 (by decide) rfl ?_
    refine lv_aload_n C.1.1 C.1.2.1 dX17_make_91 rfl (lv_at hl 0 rfl) ?_
    refine mr_getI C hw kc_17 26 (by decide) tf_869 wd_2357 dX17_make_92 (by decide) rfl ?_
    refine lv_iconst (v := 0) C.1.1 C.1.2.1 dX17_make_95 (by decide) ?_
    obtain ⟨q15, hD⟩ := g_ck hD
    obtain ⟨M16, eM16, hD⟩ := g_let hD
    refine mr_zast C hw (by decide) tf_898 q15 dX17_make_96 (fun H locs hw => ?_)
    replace hw : mw_W G ad NF TF FF M16 L14 H locs := by rw [eM16]; exact hw
    refine lv_aload_n C.1.1 C.1.2.1 dX17_make_97 rfl (lv_at hl 0 rfl) ?_
    refine mr_getI C hw kc_17 26 (by decide) tf_869 wd_2357 dX17_make_98 (by decide) rfl ?_
    exact mr_iret C hr hlocks hw rfl (Option.some.inj hD) dX17_make_101
  · replace hD := g_pos c1 hD
    refine lv_iconst (v := 0) C.1.1 C.1.2.1 dX17_make_10 (by decide) ?_
    exact mr_iret C hr hlocks hw rfl (Option.some.inj hD) dX17_make_11

theorem dX17_fill_0 : decode cX17_fill 0 = .ok (.iconst 0, 1) := by decide +kernel
theorem dX17_fill_1 : decode cX17_fill 1 = .ok (.istore 5, 2) := by decide +kernel
theorem dX17_fill_3 : decode cX17_fill 3 = .ok (.iload 5, 2) := by decide +kernel
theorem dX17_fill_5 : decode cX17_fill 5 = .ok (.iload 4, 2) := by decide +kernel
theorem dX17_fill_7 : decode cX17_fill 7 = .ok (.if_icmp .ge 41, 3) := by decide +kernel
theorem dX17_fill_10 : decode cX17_fill 10 = .ok (.iload_n 1, 1) := by decide +kernel
theorem dX17_fill_11 : decode cX17_fill 11 = .ok (.ifCond .le 37, 3) := by decide +kernel
theorem dX17_fill_14 : decode cX17_fill 14 = .ok (.aload_n 0, 1) := by decide +kernel
theorem dX17_fill_15 : decode cX17_fill 15 = .ok (.getfield 102, 3) := by decide +kernel
theorem dX17_fill_18 : decode cX17_fill 18 = .ok (.bipush 7, 2) := by decide +kernel
theorem dX17_fill_20 : decode cX17_fill 20 = .ok (.iload_n 1, 1) := by decide +kernel
theorem dX17_fill_21 : decode cX17_fill 21 = .ok (.imul, 1) := by decide +kernel
theorem dX17_fill_22 : decode cX17_fill 22 = .ok (.iload 5, 2) := by decide +kernel
theorem dX17_fill_24 : decode cX17_fill 24 = .ok (.iadd, 1) := by decide +kernel
theorem dX17_fill_25 : decode cX17_fill 25 = .ok (.aload_n 0, 1) := by decide +kernel
theorem dX17_fill_26 : decode cX17_fill 26 = .ok (.getfield 13, 3) := by decide +kernel
theorem dX17_fill_29 : decode cX17_fill 29 = .ok (.aload_n 0, 1) := by decide +kernel
theorem dX17_fill_30 : decode cX17_fill 30 = .ok (.getfield 7, 3) := by decide +kernel
theorem dX17_fill_33 : decode cX17_fill 33 = .ok (.iload_n 2, 1) := by decide +kernel
theorem dX17_fill_34 : decode cX17_fill 34 = .ok (.iaload, 1) := by decide +kernel
theorem dX17_fill_35 : decode cX17_fill 35 = .ok (.iload_n 3, 1) := by decide +kernel
theorem dX17_fill_36 : decode cX17_fill 36 = .ok (.iadd, 1) := by decide +kernel
theorem dX17_fill_37 : decode cX17_fill 37 = .ok (.iload 5, 2) := by decide +kernel
theorem dX17_fill_39 : decode cX17_fill 39 = .ok (.iadd, 1) := by decide +kernel
theorem dX17_fill_40 : decode cX17_fill 40 = .ok (.baload, 1) := by decide +kernel
theorem dX17_fill_41 : decode cX17_fill 41 = .ok (.bastore, 1) := by decide +kernel
theorem dX17_fill_42 : decode cX17_fill 42 = .ok (.iinc 5 1, 3) := by decide +kernel
theorem dX17_fill_45 : decode cX17_fill 45 = .ok (.goto (-42), 3) := by decide +kernel
theorem dX17_fill_48 : decode cX17_fill 48 = .ok (.return_, 1) := by decide +kernel
theorem cwX17_fill : mw_cwV yX17_fill cX17_fill 6 (none) 4 := ⟨⟨wd_17, wd_4167, by decide +kernel⟩, wd_4166, sl_336⟩
set_option maxHeartbeats 4000000 in
set_option maxRecDepth 100000 in
theorem tX17_fill (l : Launch) (G : mwG) (ad : Nat → Nat) (fu : Nat) (a1 : Int32) (a2 : Int32) (a3 : Int32) (a4 : Int32) (M : mwM) (L : mwL) {M0 : mwM} {L0 : mwL} (hD : DX17_fill fu a1 a2 a3 a4 M L = some (M0, L0)) : Met l yX17_fill (Cond.code yX17_fill cX17_fill 6 (none) :: GT) ({ frames := 0, cells := 0, slots := 0, locals := 0 }) (mw_Pre G ad NF TF FF M L [.ref (ad 869), .int a1, .int a2, .int a3, .int a4]) (mw_Qv G ad NF TF FF (mw_eqV M0 L0)) 0 0 (mw_fr G) := by
  refine mw_enter (by decide) (Nat.le_of_ble_eq_true rfl) ?_
  intro p e s m below meth c ls C hr hlocks hnm hw hl
  have hl : lv_has ls 6 [(0, .ref (ad 869)), (1, .int a1), (2, .int a2), (3, .int a3), (4, .int a4)] := hl
  have hb48 : ∀ (M : mwM) (L : mwL) (H : Heap) (locs : List Loc) (ls : Array Slot), fX17_fill_b48 fu a1 a2 a3 a4 M L = some (M0, L0) → mw_W G ad NF TF FF M L H locs → lv_has ls 6 [] → W p l e ({ frames := 0, cells := 0, slots := 0, locals := 0 }) s m [.ref (ad 869), .int a1, .int a2, .int a3, .int a4].toArray below meth c H locs 0 0 (MQ below (mw_Qv G ad NF TF FF (mw_eqV M0 L0)) [.ref (ad 869), .int a1, .int a2, .int a3, .int a4].toArray s 0 0 (mw_fr G)) (F0 m 48 ls []) := by
    intro M L H locs ls hD hw hl
    unfold fX17_fill_b48 at hD
    exact mr_vret C hr hlocks hw (Option.some.inj hD) dX17_fill_48
  have hh3 : ∀ (f : Nat) (v5 : Int32) (M : mwM) (L : mwL) (H : Heap) (locs : List Loc) (ls : Array Slot), fX17_fill_h3 fu a1 a2 a3 a4 f (v5, M, L) = some (M0, L0) → mw_W G ad NF TF FF M L H locs → lv_has ls 6 [(0, .ref (ad 869)), (1, .int a1), (2, .int a2), (3, .int a3), (4, .int a4), (5, .int v5)] → W p l e ({ frames := 0, cells := 0, slots := 0, locals := 0 }) s m [.ref (ad 869), .int a1, .int a2, .int a3, .int a4].toArray below meth c H locs 0 0 (MQ below (mw_Qv G ad NF TF FF (mw_eqV M0 L0)) [.ref (ad 869), .int a1, .int a2, .int a3, .int a4].toArray s 0 0 (mw_fr G)) (F0 m 3 ls []) := by
    intro f
    induction f with
    | zero => intro v5 M L H locs ls hD; cases hD
    | succ f3 ih3 =>
      intro v5 M L H locs ls hD hw hl
      replace hD : fX17_fill_i3 fu a1 a2 a3 a4 (fX17_fill_h3 fu a1 a2 a3 a4 f3) v5 M L = some (M0, L0) := hD
      unfold fX17_fill_i3 at hD
      refine lv_iload C.1.1 C.1.2.1 dX17_fill_3 (lv_at hl 5 rfl) ?_
      refine lv_iload C.1.1 C.1.2.1 dX17_fill_5 (lv_at hl 4 rfl) ?_
      refine lv_icmp_ge (tgt := 48) C.1.1 C.1.2.1 dX17_fill_7 (by decide) (fun c1 => ?_) (fun c1 => ?_)
      · replace hD := g_pos c1 hD
        exact hb48 M L _ _ ls hD hw (lv_sub hl [] rfl)
      · replace hD := g_neg c1 hD
        refine lv_iload_n C.1.1 C.1.2.1 dX17_fill_10 rfl (lv_at hl 1 rfl) ?_
        refine lv_if_le (tgt := 48) C.1.1 C.1.2.1 dX17_fill_11 (by decide) (fun c2 => ?_) (fun c2 => ?_)
        · replace hD := g_pos c2 hD
          exact hb48 M L _ _ ls hD hw (lv_sub hl [] rfl)
        · replace hD := g_neg c2 hD
          refine lv_aload_n C.1.1 C.1.2.1 dX17_fill_14 rfl (lv_at hl 0 rfl) ?_
          refine mr_getR C hw kc_17 34 (by decide) tf_869 ff_869_34 wd_2365 dX17_fill_15 (by decide) rfl ?_
          refine lv_bipush (v := 7) C.1.1 C.1.2.1 dX17_fill_18 (by decide) ?_
          refine lv_iload_n C.1.1 C.1.2.1 dX17_fill_20 rfl (lv_at hl 1 rfl) ?_
          refine lv_imul C.1.1 C.1.2.1 dX17_fill_21 ?_
          refine lv_iload C.1.1 C.1.2.1 dX17_fill_22 (lv_at hl 5 rfl) ?_
          refine lv_iadd C.1.1 C.1.2.1 dX17_fill_24 ?_
          refine lv_aload_n C.1.1 C.1.2.1 dX17_fill_25 rfl (lv_at hl 0 rfl) ?_
          refine mr_getR C hw kc_17 5 (by decide) tf_869 ff_869_5 wd_2336 dX17_fill_26 (by decide) rfl ?_
          refine lv_aload_n C.1.1 C.1.2.1 dX17_fill_29 rfl (lv_at hl 0 rfl) ?_
          refine mr_getR C hw kc_17 4 (by decide) tf_869 ff_869_4 wd_2335 dX17_fill_30 (by decide) rfl ?_
          refine lv_iload_n C.1.1 C.1.2.1 dX17_fill_33 rfl (lv_at hl 2 rfl) ?_
          obtain ⟨q3, hD⟩ := g_ck hD
          refine mr_iald C hw (by decide) tf_870 q3 dX17_fill_34 ?_
          refine lv_iload_n C.1.1 C.1.2.1 dX17_fill_35 rfl (lv_at hl 3 rfl) ?_
          refine lv_iadd C.1.1 C.1.2.1 dX17_fill_36 ?_
          refine lv_iload C.1.1 C.1.2.1 dX17_fill_37 (lv_at hl 5 rfl) ?_
          refine lv_iadd C.1.1 C.1.2.1 dX17_fill_39 ?_
          obtain ⟨q4, hD⟩ := g_ck hD
          refine mr_bald C hw (by decide) tf_871 q4 dX17_fill_40 ?_
          obtain ⟨q5, hD⟩ := g_ck hD
          obtain ⟨M6, eM6, hD⟩ := g_let hD
          refine mr_bast C hw (by decide) tf_899 q5 dX17_fill_41 (fun H locs hw => ?_)
          replace hw : mw_W G ad NF TF FF M6 L H locs := by rw [eM6]; exact hw
          obtain ⟨x7, ex7, hD⟩ := g_let hD
          refine lv_iinc (v := x7) (lv' := [(5, .int x7), (0, .ref (ad 869)), (1, .int a1), (2, .int a2), (3, .int a3), (4, .int a4)]) C.1.1 C.1.2.1 dX17_fill_42 hl (k := 5) rfl (by rw [ex7]; rfl) (by decide) rfl (fun ls hl => ?_)
          refine lv_goto (tgt := 3) C.1.1 C.1.2.1 dX17_fill_45 (by decide) ?_
          exact ih3 x7 M6 L _ _ ls hD hw (lv_sub hl [1, 2, 3, 4, 5, 0] rfl)
  unfold DX17_fill at hD
  refine lv_iconst (v := 0) C.1.1 C.1.2.1 dX17_fill_0 (by decide) ?_
  refine lv_istore (lv' := [(5, .int 0), (0, .ref (ad 869)), (1, .int a1), (2, .int a2), (3, .int a3), (4, .int a4)]) C.1.1 C.1.2.1 dX17_fill_1 hl (by decide) rfl (fun ls hl => ?_)
  exact hh3 fu 0 M L _ _ ls hD hw (lv_sub hl [1, 2, 3, 4, 5, 0] rfl)

theorem dX17_endSender_0 : decode cX17_endSender 0 = .ok (.aload_n 0, 1) := by decide +kernel
theorem dX17_endSender_1 : decode cX17_endSender 1 = .ok (.getfield 21, 3) := by decide +kernel
theorem dX17_endSender_4 : decode cX17_endSender 4 = .ok (.iload_n 1, 1) := by decide +kernel
theorem dX17_endSender_5 : decode cX17_endSender 5 = .ok (.iconst 4, 1) := by decide +kernel
theorem dX17_endSender_6 : decode cX17_endSender 6 = .ok (.iastore, 1) := by decide +kernel
theorem dX17_endSender_7 : decode cX17_endSender 7 = .ok (.aload_n 0, 1) := by decide +kernel
theorem dX17_endSender_8 : decode cX17_endSender 8 = .ok (.getfield 112, 3) := by decide +kernel
theorem dX17_endSender_11 : decode cX17_endSender 11 = .ok (.iload_n 2, 1) := by decide +kernel
theorem dX17_endSender_12 : decode cX17_endSender 12 = .ok (.dup2, 1) := by decide +kernel
theorem dX17_endSender_13 : decode cX17_endSender 13 = .ok (.iaload, 1) := by decide +kernel
theorem dX17_endSender_14 : decode cX17_endSender 14 = .ok (.iconst 1, 1) := by decide +kernel
theorem dX17_endSender_15 : decode cX17_endSender 15 = .ok (.iadd, 1) := by decide +kernel
theorem dX17_endSender_16 : decode cX17_endSender 16 = .ok (.iastore, 1) := by decide +kernel
theorem dX17_endSender_17 : decode cX17_endSender 17 = .ok (.return_, 1) := by decide +kernel
theorem cwX17_endSender : mw_cwV yX17_endSender cX17_endSender 3 (none) 2 := ⟨⟨wd_17, wd_3943, by decide +kernel⟩, wd_3942, sl_293⟩
set_option maxHeartbeats 4000000 in
set_option maxRecDepth 100000 in
theorem tX17_endSender (l : Launch) (G : mwG) (ad : Nat → Nat) (fu : Nat) (a1 : Int32) (a2 : Int32) (M : mwM) (L : mwL) {M0 : mwM} {L0 : mwL} (hD : DX17_endSender fu a1 a2 M L = some (M0, L0)) : Met l yX17_endSender (Cond.code yX17_endSender cX17_endSender 3 (none) :: GT) ({ frames := 0, cells := 0, slots := 0, locals := 0 }) (mw_Pre G ad NF TF FF M L [.ref (ad 869), .int a1, .int a2]) (mw_Qv G ad NF TF FF (mw_eqV M0 L0)) 0 0 (mw_fr G) := by
  refine mw_enter (by decide) (Nat.le_of_ble_eq_true rfl) ?_
  intro p e s m below meth c ls C hr hlocks hnm hw hl
  have hl : lv_has ls 3 [(0, .ref (ad 869)), (1, .int a1), (2, .int a2)] := hl
  unfold DX17_endSender at hD
  refine lv_aload_n C.1.1 C.1.2.1 dX17_endSender_0 rfl (lv_at hl 0 rfl) ?_
  refine mr_getR C hw kc_17 7 (by decide) tf_869 ff_869_7 wd_2338 dX17_endSender_1 (by decide) rfl ?_
  refine lv_iload_n C.1.1 C.1.2.1 dX17_endSender_4 rfl (lv_at hl 1 rfl) ?_
  refine lv_iconst (v := 4) C.1.1 C.1.2.1 dX17_endSender_5 (by decide) ?_
  obtain ⟨q1, hD⟩ := g_ck hD
  obtain ⟨M2, eM2, hD⟩ := g_let hD
  refine mr_iast C hw (by decide) tf_873 q1 dX17_endSender_6 (fun H locs hw => ?_)
  replace hw : mw_W G ad NF TF FF M2 L H locs := by rw [eM2]; exact hw
  refine lv_aload_n C.1.1 C.1.2.1 dX17_endSender_7 rfl (lv_at hl 0 rfl) ?_
  refine mr_getR C hw kc_17 42 (by decide) tf_869 ff_869_42 wd_2373 dX17_endSender_8 (by decide) rfl ?_
  refine lv_iload_n C.1.1 C.1.2.1 dX17_endSender_11 rfl (lv_at hl 2 rfl) ?_
  refine lv_dup2_11 C.1.1 C.1.2.1 dX17_endSender_12 rfl rfl ?_
  obtain ⟨q3, hD⟩ := g_ck hD
  refine mr_iald C hw (by decide) tf_901 q3 dX17_endSender_13 ?_
  refine lv_iconst (v := 1) C.1.1 C.1.2.1 dX17_endSender_14 (by decide) ?_
  refine lv_iadd C.1.1 C.1.2.1 dX17_endSender_15 ?_
  obtain ⟨q4, hD⟩ := g_ck hD
  obtain ⟨M5, eM5, hD⟩ := g_let hD
  refine mr_iast C hw (by decide) tf_901 q4 dX17_endSender_16 (fun H locs hw => ?_)
  replace hw : mw_W G ad NF TF FF M5 L H locs := by rw [eM5]; exact hw
  exact mr_vret C hr hlocks hw (Option.some.inj hD) dX17_endSender_17

theorem dX17_start_0 : decode cX17_start 0 = .ok (.aload_n 0, 1) := by decide +kernel
theorem dX17_start_1 : decode cX17_start 1 = .ok (.iload_n 1, 1) := by decide +kernel
theorem dX17_start_2 : decode cX17_start 2 = .ok (.invokevirtual 147, 3) := by decide +kernel
theorem dX17_start_5 : decode cX17_start 5 = .ok (.bipush 8, 2) := by decide +kernel
theorem dX17_start_7 : decode cX17_start 7 = .ok (.if_icmp .ge 11, 3) := by decide +kernel
theorem dX17_start_10 : decode cX17_start 10 = .ok (.aload_n 0, 1) := by decide +kernel
theorem dX17_start_11 : decode cX17_start 11 = .ok (.iload_n 1, 1) := by decide +kernel
theorem dX17_start_12 : decode cX17_start 12 = .ok (.invokevirtual 147, 3) := by decide +kernel
theorem dX17_start_15 : decode cX17_start 15 = .ok (.goto 20, 3) := by decide +kernel
theorem dX17_start_18 : decode cX17_start 18 = .ok (.aload_n 0, 1) := by decide +kernel
theorem dX17_start_19 : decode cX17_start 19 = .ok (.iload_n 1, 1) := by decide +kernel
theorem dX17_start_20 : decode cX17_start 20 = .ok (.invokevirtual 147, 3) := by decide +kernel
theorem dX17_start_23 : decode cX17_start 23 = .ok (.sipush 4095, 3) := by decide +kernel
theorem dX17_start_26 : decode cX17_start 26 = .ok (.if_icmp .le 7, 3) := by decide +kernel
theorem dX17_start_29 : decode cX17_start 29 = .ok (.iconst 2, 1) := by decide +kernel
theorem dX17_start_30 : decode cX17_start 30 = .ok (.goto 5, 3) := by decide +kernel
theorem dX17_start_33 : decode cX17_start 33 = .ok (.bipush 6, 2) := by decide +kernel
theorem dX17_start_35 : decode cX17_start 35 = .ok (.istore_n 2, 1) := by decide +kernel
theorem dX17_start_36 : decode cX17_start 36 = .ok (.aload_n 0, 1) := by decide +kernel
theorem dX17_start_37 : decode cX17_start 37 = .ok (.iload_n 1, 1) := by decide +kernel
theorem dX17_start_38 : decode cX17_start 38 = .ok (.invokevirtual 147, 3) := by decide +kernel
theorem dX17_start_41 : decode cX17_start 41 = .ok (.bipush 8, 2) := by decide +kernel
theorem dX17_start_43 : decode cX17_start 43 = .ok (.if_icmp .ge 7, 3) := by decide +kernel
theorem dX17_start_46 : decode cX17_start 46 = .ok (.iconst 1, 1) := by decide +kernel
theorem dX17_start_47 : decode cX17_start 47 = .ok (.goto 4, 3) := by decide +kernel
theorem dX17_start_50 : decode cX17_start 50 = .ok (.iconst 0, 1) := by decide +kernel
theorem dX17_start_51 : decode cX17_start 51 = .ok (.istore_n 3, 1) := by decide +kernel
theorem dX17_start_52 : decode cX17_start 52 = .ok (.aload_n 0, 1) := by decide +kernel
theorem dX17_start_53 : decode cX17_start 53 = .ok (.iload_n 3, 1) := by decide +kernel
theorem dX17_start_54 : decode cX17_start 54 = .ok (.ifCond .eq 7, 3) := by decide +kernel
theorem dX17_start_57 : decode cX17_start 57 = .ok (.iconst 0, 1) := by decide +kernel
theorem dX17_start_58 : decode cX17_start 58 = .ok (.goto 4, 3) := by decide +kernel
theorem dX17_start_61 : decode cX17_start 61 = .ok (.iconst 1, 1) := by decide +kernel
theorem dX17_start_62 : decode cX17_start 62 = .ok (.iload_n 1, 1) := by decide +kernel
theorem dX17_start_63 : decode cX17_start 63 = .ok (.iload_n 3, 1) := by decide +kernel
theorem dX17_start_64 : decode cX17_start 64 = .ok (.ifCond .eq 7, 3) := by decide +kernel
theorem dX17_start_67 : decode cX17_start 67 = .ok (.iconst 0, 1) := by decide +kernel
theorem dX17_start_68 : decode cX17_start 68 = .ok (.goto 8, 3) := by decide +kernel
theorem dX17_start_71 : decode cX17_start 71 = .ok (.aload_n 0, 1) := by decide +kernel
theorem dX17_start_72 : decode cX17_start 72 = .ok (.iload_n 1, 1) := by decide +kernel
theorem dX17_start_73 : decode cX17_start 73 = .ok (.invokevirtual 147, 3) := by decide +kernel
theorem dX17_start_76 : decode cX17_start 76 = .ok (.iload_n 2, 1) := by decide +kernel
theorem dX17_start_77 : decode cX17_start 77 = .ok (.iconst 0, 1) := by decide +kernel
theorem dX17_start_78 : decode cX17_start 78 = .ok (.invokevirtual 151, 3) := by decide +kernel
theorem dX17_start_81 : decode cX17_start 81 = .ok (.istore 4, 2) := by decide +kernel
theorem dX17_start_83 : decode cX17_start 83 = .ok (.aload_n 0, 1) := by decide +kernel
theorem dX17_start_84 : decode cX17_start 84 = .ok (.iload 4, 2) := by decide +kernel
theorem dX17_start_86 : decode cX17_start 86 = .ok (.iload_n 1, 1) := by decide +kernel
theorem dX17_start_87 : decode cX17_start 87 = .ok (.iconst 0, 1) := by decide +kernel
theorem dX17_start_88 : decode cX17_start 88 = .ok (.iload_n 2, 1) := by decide +kernel
theorem dX17_start_89 : decode cX17_start 89 = .ok (.invokevirtual 155, 3) := by decide +kernel
theorem dX17_start_92 : decode cX17_start 92 = .ok (.aload_n 0, 1) := by decide +kernel
theorem dX17_start_93 : decode cX17_start 93 = .ok (.getfield 17, 3) := by decide +kernel
theorem dX17_start_96 : decode cX17_start 96 = .ok (.iload_n 1, 1) := by decide +kernel
theorem dX17_start_97 : decode cX17_start 97 = .ok (.iconst 1, 1) := by decide +kernel
theorem dX17_start_98 : decode cX17_start 98 = .ok (.bastore, 1) := by decide +kernel
theorem dX17_start_99 : decode cX17_start 99 = .ok (.aload_n 0, 1) := by decide +kernel
theorem dX17_start_100 : decode cX17_start 100 = .ok (.getfield 24, 3) := by decide +kernel
theorem dX17_start_103 : decode cX17_start 103 = .ok (.iload_n 1, 1) := by decide +kernel
theorem dX17_start_104 : decode cX17_start 104 = .ok (.iload_n 2, 1) := by decide +kernel
theorem dX17_start_105 : decode cX17_start 105 = .ok (.iastore, 1) := by decide +kernel
theorem dX17_start_106 : decode cX17_start 106 = .ok (.aload_n 0, 1) := by decide +kernel
theorem dX17_start_107 : decode cX17_start 107 = .ok (.getfield 42, 3) := by decide +kernel
theorem dX17_start_110 : decode cX17_start 110 = .ok (.iload_n 1, 1) := by decide +kernel
theorem dX17_start_111 : decode cX17_start 111 = .ok (.aload_n 0, 1) := by decide +kernel
theorem dX17_start_112 : decode cX17_start 112 = .ok (.getfield 118, 3) := by decide +kernel
theorem dX17_start_115 : decode cX17_start 115 = .ok (.lastore, 1) := by decide +kernel
theorem dX17_start_116 : decode cX17_start 116 = .ok (.aload_n 0, 1) := by decide +kernel
theorem dX17_start_117 : decode cX17_start 117 = .ok (.getfield 21, 3) := by decide +kernel
theorem dX17_start_120 : decode cX17_start 120 = .ok (.iload_n 1, 1) := by decide +kernel
theorem dX17_start_121 : decode cX17_start 121 = .ok (.iload_n 3, 1) := by decide +kernel
theorem dX17_start_122 : decode cX17_start 122 = .ok (.ifCond .eq 7, 3) := by decide +kernel
theorem dX17_start_125 : decode cX17_start 125 = .ok (.iconst 3, 1) := by decide +kernel
theorem dX17_start_126 : decode cX17_start 126 = .ok (.goto 4, 3) := by decide +kernel
theorem dX17_start_129 : decode cX17_start 129 = .ok (.iconst 1, 1) := by decide +kernel
theorem dX17_start_130 : decode cX17_start 130 = .ok (.iastore, 1) := by decide +kernel
theorem dX17_start_131 : decode cX17_start 131 = .ok (.iload 4, 2) := by decide +kernel
theorem dX17_start_133 : decode cX17_start 133 = .ok (.ifCond .ne 10, 3) := by decide +kernel
theorem dX17_start_136 : decode cX17_start 136 = .ok (.aload_n 0, 1) := by decide +kernel
theorem dX17_start_137 : decode cX17_start 137 = .ok (.iload_n 1, 1) := by decide +kernel
theorem dX17_start_138 : decode cX17_start 138 = .ok (.bipush 7, 2) := by decide +kernel
theorem dX17_start_140 : decode cX17_start 140 = .ok (.invokevirtual 159, 3) := by decide +kernel
theorem dX17_start_143 : decode cX17_start 143 = .ok (.return_, 1) := by decide +kernel
theorem cwX17_start : mw_cwV yX17_start cX17_start 5 (none) 1 := ⟨⟨wd_17, wd_4163, by decide +kernel⟩, wd_4162, sl_335⟩
set_option maxHeartbeats 4000000 in
set_option maxRecDepth 100000 in
theorem tX17_start (l : Launch) (G : mwG) (ad : Nat → Nat) (fu : Nat) (a1 : Int32) (M : mwM) (L : mwL) {M0 : mwM} {L0 : mwL} (hD : DX17_start fu a1 M L = some (M0, L0)) : Met l yX17_start (Cond.code yX17_start cX17_start 5 (none) :: GT) ({ frames := 1, cells := 0, slots := 0, locals := 25 }) (mw_Pre G ad NF TF FF M L [.ref (ad 869), .int a1]) (mw_Qv G ad NF TF FF (mw_eqV M0 L0)) 0 0 (mw_fr G) := by
  refine mw_enter (by decide) (Nat.le_of_ble_eq_true rfl) ?_
  intro p e s m below meth c ls C hr hlocks hnm hw hl
  have hl : lv_has ls 5 [(0, .ref (ad 869)), (1, .int a1)] := hl
  have hb143 : ∀ (M : mwM) (L : mwL) (H : Heap) (locs : List Loc) (ls : Array Slot), fX17_start_b143 fu a1 M L = some (M0, L0) → mw_W G ad NF TF FF M L H locs → lv_has ls 5 [] → W p l e ({ frames := 1, cells := 0, slots := 0, locals := 25 }) s m [.ref (ad 869), .int a1].toArray below meth c H locs 0 0 (MQ below (mw_Qv G ad NF TF FF (mw_eqV M0 L0)) [.ref (ad 869), .int a1].toArray s 0 0 (mw_fr G)) (F0 m 143 ls []) := by
    intro M L H locs ls hD hw hl
    unfold fX17_start_b143 at hD
    exact mr_vret C hr hlocks hw (Option.some.inj hD) dX17_start_143
  have hb130 : ∀ (v4 : Int32) (s2 : Int32) (M : mwM) (L : mwL) (H : Heap) (locs : List Loc) (ls : Array Slot), fX17_start_b130 fu a1 v4 s2 M L = some (M0, L0) → mw_W G ad NF TF FF M L H locs → lv_has ls 5 [(0, .ref (ad 869)), (1, .int a1), (4, .int v4)] → W p l e ({ frames := 1, cells := 0, slots := 0, locals := 25 }) s m [.ref (ad 869), .int a1].toArray below meth c H locs 0 0 (MQ below (mw_Qv G ad NF TF FF (mw_eqV M0 L0)) [.ref (ad 869), .int a1].toArray s 0 0 (mw_fr G)) (F0 m 130 ls [.int s2, .int a1, .ref (ad 873)]) := by
    intro v4 s2 M L H locs ls hD hw hl
    unfold fX17_start_b130 at hD
    obtain ⟨q22, hD⟩ := g_ck hD
    obtain ⟨M23, eM23, hD⟩ := g_let hD
    refine mr_iast C hw (by decide) tf_873 q22 dX17_start_130 (fun H locs hw => ?_)
    replace hw : mw_W G ad NF TF FF M23 L H locs := by rw [eM23]; exact hw
    refine lv_iload C.1.1 C.1.2.1 dX17_start_131 (lv_at hl 2 rfl) ?_
    refine lv_if_ne (tgt := 143) C.1.1 C.1.2.1 dX17_start_133 (by decide) (fun c24 => ?_) (fun c24 => ?_)
    · replace hD := g_neg c24 hD
      exact hb143 M23 L _ _ ls hD hw (lv_sub hl [] rfl)
    · replace hD := g_pos c24 hD
      refine lv_aload_n C.1.1 C.1.2.1 dX17_start_136 rfl (lv_at hl 0 rfl) ?_
      refine lv_iload_n C.1.1 C.1.2.1 dX17_start_137 rfl (lv_at hl 1 rfl) ?_
      refine lv_bipush (v := 7) C.1.1 C.1.2.1 dX17_start_138 (by decide) ?_
      obtain ⟨M25, L26, h1, hD⟩ := g_b2 hD
      refine md_cvV (As := [.int a1, .int 7]) (rest := []) C hw (tX17_endSender l G ad fu a1 7 M23 L h1) kc_17 (by decide) tf_869 wd_3940 cwX17_endSender ⟨Nat.le_of_ble_eq_true rfl, Nat.le_of_ble_eq_true rfl⟩ rfl hl.1 (Nat.le_of_ble_eq_true rfl) dX17_start_140 rfl rfl ⟨Nat.zero_le _, Nat.zero_le _⟩ rfl (fun H locs hw => ?_)
      exact hb143 M25 L26 _ _ ls hD hw (lv_sub hl [] rfl)
  have hb76 : ∀ (v2 : Int32) (v3 : Int32) (s1 : Int32) (s3 : Int32) (M : mwM) (L : mwL) (H : Heap) (locs : List Loc) (ls : Array Slot), fX17_start_b76 fu a1 v2 v3 s1 s3 M L = some (M0, L0) → mw_W G ad NF TF FF M L H locs → lv_has ls 5 [(0, .ref (ad 869)), (1, .int a1), (2, .int v2), (3, .int v3)] → W p l e ({ frames := 1, cells := 0, slots := 0, locals := 25 }) s m [.ref (ad 869), .int a1].toArray below meth c H locs 0 0 (MQ below (mw_Qv G ad NF TF FF (mw_eqV M0 L0)) [.ref (ad 869), .int a1].toArray s 0 0 (mw_fr G)) (F0 m 76 ls [.int s3, .int a1, .int s1, .ref (ad 869)]) := by
    intro v2 v3 s1 s3 M L H locs ls hD hw hl
    unfold fX17_start_b76 at hD
    refine lv_iload_n C.1.1 C.1.2.1 dX17_start_76 rfl (lv_at hl 2 rfl) ?_
    refine lv_iconst (v := 0) C.1.1 C.1.2.1 dX17_start_77 (by decide) ?_
    obtain ⟨r12, M10, L11, h1, hD⟩ := g_b3 hD
    refine md_cvI (As := [.int s1, .int a1, .int s3, .int v2, .int 0]) (rest := []) C hw (tX17_make l G ad fu s1 a1 s3 v2 0 M L h1) kc_17 (by decide) tf_869 wd_3968 cwX17_make ⟨Nat.le_of_ble_eq_true rfl, Nat.le_of_ble_eq_true rfl⟩ rfl hl.1 (Nat.le_of_ble_eq_true rfl) dX17_start_78 rfl rfl ⟨Nat.zero_le _, Nat.zero_le _⟩ rfl (fun H locs hw => ?_)
    refine lv_istore (lv' := [(4, .int r12), (0, .ref (ad 869)), (1, .int a1), (2, .int v2), (3, .int v3)]) C.1.1 C.1.2.1 dX17_start_81 hl (by decide) rfl (fun ls hl => ?_)
    refine lv_aload_n C.1.1 C.1.2.1 dX17_start_83 rfl (lv_at hl 1 rfl) ?_
    refine lv_iload C.1.1 C.1.2.1 dX17_start_84 (lv_at hl 0 rfl) ?_
    refine lv_iload_n C.1.1 C.1.2.1 dX17_start_86 rfl (lv_at hl 2 rfl) ?_
    refine lv_iconst (v := 0) C.1.1 C.1.2.1 dX17_start_87 (by decide) ?_
    refine lv_iload_n C.1.1 C.1.2.1 dX17_start_88 rfl (lv_at hl 3 rfl) ?_
    obtain ⟨M13, L14, h1, hD⟩ := g_b2 hD
    refine md_cvV (As := [.int r12, .int a1, .int 0, .int v2]) (rest := []) C hw (tX17_fill l G ad fu r12 a1 0 v2 M10 L11 h1) kc_17 (by decide) tf_869 wd_4164 cwX17_fill ⟨Nat.le_of_ble_eq_true rfl, Nat.le_of_ble_eq_true rfl⟩ rfl hl.1 (Nat.le_of_ble_eq_true rfl) dX17_start_89 rfl rfl ⟨Nat.zero_le _, Nat.zero_le _⟩ rfl (fun H locs hw => ?_)
    refine lv_aload_n C.1.1 C.1.2.1 dX17_start_92 rfl (lv_at hl 1 rfl) ?_
    refine mr_getR C hw kc_17 6 (by decide) tf_869 ff_869_6 wd_2337 dX17_start_93 (by decide) rfl ?_
    refine lv_iload_n C.1.1 C.1.2.1 dX17_start_96 rfl (lv_at hl 2 rfl) ?_
    refine lv_iconst (v := 1) C.1.1 C.1.2.1 dX17_start_97 (by decide) ?_
    obtain ⟨q15, hD⟩ := g_ck hD
    obtain ⟨M16, eM16, hD⟩ := g_let hD
    refine mr_zast C hw (by decide) tf_872 q15 dX17_start_98 (fun H locs hw => ?_)
    replace hw : mw_W G ad NF TF FF M16 L14 H locs := by rw [eM16]; exact hw
    refine lv_aload_n C.1.1 C.1.2.1 dX17_start_99 rfl (lv_at hl 1 rfl) ?_
    refine mr_getR C hw kc_17 8 (by decide) tf_869 ff_869_8 wd_2339 dX17_start_100 (by decide) rfl ?_
    refine lv_iload_n C.1.1 C.1.2.1 dX17_start_103 rfl (lv_at hl 2 rfl) ?_
    refine lv_iload_n C.1.1 C.1.2.1 dX17_start_104 rfl (lv_at hl 3 rfl) ?_
    obtain ⟨q17, hD⟩ := g_ck hD
    obtain ⟨M18, eM18, hD⟩ := g_let hD
    refine mr_iast C hw (by decide) tf_874 q17 dX17_start_105 (fun H locs hw => ?_)
    replace hw : mw_W G ad NF TF FF M18 L14 H locs := by rw [eM18]; exact hw
    refine lv_aload_n C.1.1 C.1.2.1 dX17_start_106 rfl (lv_at hl 1 rfl) ?_
    refine mr_getR C hw kc_17 14 (by decide) tf_869 ff_869_14 wd_2345 dX17_start_107 (by decide) rfl ?_
    refine lv_iload_n C.1.1 C.1.2.1 dX17_start_110 rfl (lv_at hl 2 rfl) ?_
    refine lv_aload_n C.1.1 C.1.2.1 dX17_start_111 rfl (lv_at hl 1 rfl) ?_
    refine mr_getL C hw kc_17 2 (by decide) tf_869 wd_2333 dX17_start_112 (by decide) rfl ?_
    obtain ⟨q19, hD⟩ := g_ck hD
    obtain ⟨L20, eL20, hD⟩ := g_let hD
    refine mr_last C hw (by decide) tf_880 q19 dX17_start_115 (fun H locs hw => ?_)
    replace hw : mw_W G ad NF TF FF M18 L20 H locs := by rw [eL20]; exact hw
    refine lv_aload_n C.1.1 C.1.2.1 dX17_start_116 rfl (lv_at hl 1 rfl) ?_
    refine mr_getR C hw kc_17 7 (by decide) tf_869 ff_869_7 wd_2338 dX17_start_117 (by decide) rfl ?_
    refine lv_iload_n C.1.1 C.1.2.1 dX17_start_120 rfl (lv_at hl 2 rfl) ?_
    refine lv_iload_n C.1.1 C.1.2.1 dX17_start_121 rfl (lv_at hl 4 rfl) ?_
    refine lv_if_eq (tgt := 129) C.1.1 C.1.2.1 dX17_start_122 (by decide) (fun c21 => ?_) (fun c21 => ?_)
    · replace hD := g_pos c21 hD
      refine lv_iconst (v := 1) C.1.1 C.1.2.1 dX17_start_129 (by decide) ?_
      exact hb130 r12 1 M18 L20 _ _ ls hD hw (lv_sub hl [1, 2, 0] rfl)
    · replace hD := g_neg c21 hD
      refine lv_iconst (v := 3) C.1.1 C.1.2.1 dX17_start_125 (by decide) ?_
      refine lv_goto (tgt := 130) C.1.1 C.1.2.1 dX17_start_126 (by decide) ?_
      exact hb130 r12 3 M18 L20 _ _ ls hD hw (lv_sub hl [1, 2, 0] rfl)
  have hb62 : ∀ (v2 : Int32) (v3 : Int32) (s1 : Int32) (M : mwM) (L : mwL) (H : Heap) (locs : List Loc) (ls : Array Slot), fX17_start_b62 fu a1 v2 v3 s1 M L = some (M0, L0) → mw_W G ad NF TF FF M L H locs → lv_has ls 5 [(0, .ref (ad 869)), (1, .int a1), (2, .int v2), (3, .int v3)] → W p l e ({ frames := 1, cells := 0, slots := 0, locals := 25 }) s m [.ref (ad 869), .int a1].toArray below meth c H locs 0 0 (MQ below (mw_Qv G ad NF TF FF (mw_eqV M0 L0)) [.ref (ad 869), .int a1].toArray s 0 0 (mw_fr G)) (F0 m 62 ls [.int s1, .ref (ad 869)]) := by
    intro v2 v3 s1 M L H locs ls hD hw hl
    unfold fX17_start_b62 at hD
    refine lv_iload_n C.1.1 C.1.2.1 dX17_start_62 rfl (lv_at hl 1 rfl) ?_
    refine lv_iload_n C.1.1 C.1.2.1 dX17_start_63 rfl (lv_at hl 3 rfl) ?_
    refine lv_if_eq (tgt := 71) C.1.1 C.1.2.1 dX17_start_64 (by decide) (fun c6 => ?_) (fun c6 => ?_)
    · replace hD := g_pos c6 hD
      refine lv_aload_n C.1.1 C.1.2.1 dX17_start_71 rfl (lv_at hl 0 rfl) ?_
      refine lv_iload_n C.1.1 C.1.2.1 dX17_start_72 rfl (lv_at hl 1 rfl) ?_
      obtain ⟨r9, M7, L8, h1, hD⟩ := g_b3 hD
      refine md_cvI (As := [.int a1]) (rest := [.int a1, .int s1, .ref (ad 869)]) C hw (tX17_size l G ad fu a1 M L h1) kc_17 (by decide) tf_869 wd_4054 cwX17_size ⟨Nat.le_of_ble_eq_true rfl, Nat.le_of_ble_eq_true rfl⟩ rfl hl.1 (Nat.le_of_ble_eq_true rfl) dX17_start_73 rfl rfl ⟨Nat.zero_le _, Nat.zero_le _⟩ rfl (fun H locs hw => ?_)
      exact hb76 v2 v3 s1 r9 M7 L8 _ _ ls hD hw (lv_sub hl [0, 1, 2, 3] rfl)
    · replace hD := g_neg c6 hD
      refine lv_iconst (v := 0) C.1.1 C.1.2.1 dX17_start_67 (by decide) ?_
      refine lv_goto (tgt := 76) C.1.1 C.1.2.1 dX17_start_68 (by decide) ?_
      exact hb76 v2 v3 s1 0 M L _ _ ls hD hw (lv_sub hl [0, 1, 2, 3] rfl)
  have hb51 : ∀ (v2 : Int32) (s0 : Int32) (M : mwM) (L : mwL) (H : Heap) (locs : List Loc) (ls : Array Slot), fX17_start_b51 fu a1 v2 s0 M L = some (M0, L0) → mw_W G ad NF TF FF M L H locs → lv_has ls 5 [(0, .ref (ad 869)), (1, .int a1), (2, .int v2)] → W p l e ({ frames := 1, cells := 0, slots := 0, locals := 25 }) s m [.ref (ad 869), .int a1].toArray below meth c H locs 0 0 (MQ below (mw_Qv G ad NF TF FF (mw_eqV M0 L0)) [.ref (ad 869), .int a1].toArray s 0 0 (mw_fr G)) (F0 m 51 ls [.int s0]) := by
    intro v2 s0 M L H locs ls hD hw hl
    unfold fX17_start_b51 at hD
    refine lv_istore_n (lv' := [(3, .int s0), (0, .ref (ad 869)), (1, .int a1), (2, .int v2)]) C.1.1 C.1.2.1 dX17_start_51 rfl hl (by decide) rfl (fun ls hl => ?_)
    refine lv_aload_n C.1.1 C.1.2.1 dX17_start_52 rfl (lv_at hl 1 rfl) ?_
    refine lv_iload_n C.1.1 C.1.2.1 dX17_start_53 rfl (lv_at hl 0 rfl) ?_
    refine lv_if_eq (tgt := 61) C.1.1 C.1.2.1 dX17_start_54 (by decide) (fun c5 => ?_) (fun c5 => ?_)
    · replace hD := g_pos c5 hD
      refine lv_iconst (v := 1) C.1.1 C.1.2.1 dX17_start_61 (by decide) ?_
      exact hb62 v2 s0 1 M L _ _ ls hD hw (lv_sub hl [1, 2, 3, 0] rfl)
    · replace hD := g_neg c5 hD
      refine lv_iconst (v := 0) C.1.1 C.1.2.1 dX17_start_57 (by decide) ?_
      refine lv_goto (tgt := 62) C.1.1 C.1.2.1 dX17_start_58 (by decide) ?_
      exact hb62 v2 s0 0 M L _ _ ls hD hw (lv_sub hl [1, 2, 3, 0] rfl)
  have hb35 : ∀ (s0 : Int32) (M : mwM) (L : mwL) (H : Heap) (locs : List Loc) (ls : Array Slot), fX17_start_b35 fu a1 s0 M L = some (M0, L0) → mw_W G ad NF TF FF M L H locs → lv_has ls 5 [(0, .ref (ad 869)), (1, .int a1)] → W p l e ({ frames := 1, cells := 0, slots := 0, locals := 25 }) s m [.ref (ad 869), .int a1].toArray below meth c H locs 0 0 (MQ below (mw_Qv G ad NF TF FF (mw_eqV M0 L0)) [.ref (ad 869), .int a1].toArray s 0 0 (mw_fr G)) (F0 m 35 ls [.int s0]) := by
    intro s0 M L H locs ls hD hw hl
    unfold fX17_start_b35 at hD
    refine lv_istore_n (lv' := [(2, .int s0), (0, .ref (ad 869)), (1, .int a1)]) C.1.1 C.1.2.1 dX17_start_35 rfl hl (by decide) rfl (fun ls hl => ?_)
    refine lv_aload_n C.1.1 C.1.2.1 dX17_start_36 rfl (lv_at hl 1 rfl) ?_
    refine lv_iload_n C.1.1 C.1.2.1 dX17_start_37 rfl (lv_at hl 2 rfl) ?_
    obtain ⟨r3, M1, L2, h1, hD⟩ := g_b3 hD
    refine md_cvI (As := [.int a1]) (rest := []) C hw (tX17_size l G ad fu a1 M L h1) kc_17 (by decide) tf_869 wd_4054 cwX17_size ⟨Nat.le_of_ble_eq_true rfl, Nat.le_of_ble_eq_true rfl⟩ rfl hl.1 (Nat.le_of_ble_eq_true rfl) dX17_start_38 rfl rfl ⟨Nat.zero_le _, Nat.zero_le _⟩ rfl (fun H locs hw => ?_)
    refine lv_bipush (v := 8) C.1.1 C.1.2.1 dX17_start_41 (by decide) ?_
    refine lv_icmp_ge (tgt := 50) C.1.1 C.1.2.1 dX17_start_43 (by decide) (fun c4 => ?_) (fun c4 => ?_)
    · replace hD := g_pos c4 hD
      refine lv_iconst (v := 0) C.1.1 C.1.2.1 dX17_start_50 (by decide) ?_
      exact hb51 s0 0 M1 L2 _ _ ls hD hw (lv_sub hl [1, 2, 0] rfl)
    · replace hD := g_neg c4 hD
      refine lv_iconst (v := 1) C.1.1 C.1.2.1 dX17_start_46 (by decide) ?_
      refine lv_goto (tgt := 51) C.1.1 C.1.2.1 dX17_start_47 (by decide) ?_
      exact hb51 s0 1 M1 L2 _ _ ls hD hw (lv_sub hl [1, 2, 0] rfl)
  unfold DX17_start at hD
  refine lv_aload_n C.1.1 C.1.2.1 dX17_start_0 rfl (lv_at hl 0 rfl) ?_
  refine lv_iload_n C.1.1 C.1.2.1 dX17_start_1 rfl (lv_at hl 1 rfl) ?_
  obtain ⟨r29, M27, L28, h1, hD⟩ := g_b3 hD
  refine md_cvI (As := [.int a1]) (rest := []) C hw (tX17_size l G ad fu a1 M L h1) kc_17 (by decide) tf_869 wd_4054 cwX17_size ⟨Nat.le_of_ble_eq_true rfl, Nat.le_of_ble_eq_true rfl⟩ rfl hl.1 (Nat.le_of_ble_eq_true rfl) dX17_start_2 rfl rfl ⟨Nat.zero_le _, Nat.zero_le _⟩ rfl (fun H locs hw => ?_)
  refine lv_bipush (v := 8) C.1.1 C.1.2.1 dX17_start_5 (by decide) ?_
  refine lv_icmp_ge (tgt := 18) C.1.1 C.1.2.1 dX17_start_7 (by decide) (fun c30 => ?_) (fun c30 => ?_)
  · replace hD := g_pos c30 hD
    refine lv_aload_n C.1.1 C.1.2.1 dX17_start_18 rfl (lv_at hl 0 rfl) ?_
    refine lv_iload_n C.1.1 C.1.2.1 dX17_start_19 rfl (lv_at hl 1 rfl) ?_
    obtain ⟨r33, M31, L32, h1, hD⟩ := g_b3 hD
    refine md_cvI (As := [.int a1]) (rest := []) C hw (tX17_size l G ad fu a1 M27 L28 h1) kc_17 (by decide) tf_869 wd_4054 cwX17_size ⟨Nat.le_of_ble_eq_true rfl, Nat.le_of_ble_eq_true rfl⟩ rfl hl.1 (Nat.le_of_ble_eq_true rfl) dX17_start_20 rfl rfl ⟨Nat.zero_le _, Nat.zero_le _⟩ rfl (fun H locs hw => ?_)
    refine lv_sipush (v := 4095) C.1.1 C.1.2.1 dX17_start_23 (by decide) ?_
    refine lv_icmp_le (tgt := 33) C.1.1 C.1.2.1 dX17_start_26 (by decide) (fun c34 => ?_) (fun c34 => ?_)
    · replace hD := g_pos c34 hD
      refine lv_bipush (v := 6) C.1.1 C.1.2.1 dX17_start_33 (by decide) ?_
      exact hb35 6 M31 L32 _ _ ls hD hw (lv_sub hl [0, 1] rfl)
    · replace hD := g_neg c34 hD
      refine lv_iconst (v := 2) C.1.1 C.1.2.1 dX17_start_29 (by decide) ?_
      refine lv_goto (tgt := 35) C.1.1 C.1.2.1 dX17_start_30 (by decide) ?_
      exact hb35 2 M31 L32 _ _ ls hD hw (lv_sub hl [0, 1] rfl)
  · replace hD := g_neg c30 hD
    refine lv_aload_n C.1.1 C.1.2.1 dX17_start_10 rfl (lv_at hl 0 rfl) ?_
    refine lv_iload_n C.1.1 C.1.2.1 dX17_start_11 rfl (lv_at hl 1 rfl) ?_
    obtain ⟨r37, M35, L36, h1, hD⟩ := g_b3 hD
    refine md_cvI (As := [.int a1]) (rest := []) C hw (tX17_size l G ad fu a1 M27 L28 h1) kc_17 (by decide) tf_869 wd_4054 cwX17_size ⟨Nat.le_of_ble_eq_true rfl, Nat.le_of_ble_eq_true rfl⟩ rfl hl.1 (Nat.le_of_ble_eq_true rfl) dX17_start_12 rfl rfl ⟨Nat.zero_le _, Nat.zero_le _⟩ rfl (fun H locs hw => ?_)
    refine lv_goto (tgt := 35) C.1.1 C.1.2.1 dX17_start_15 (by decide) ?_
    exact hb35 r37 M35 L36 _ _ ls hD hw (lv_sub hl [0, 1] rfl)

theorem dX17_sendNext_0 : decode cX17_sendNext 0 = .ok (.aload_n 0, 1) := by decide +kernel
theorem dX17_sendNext_1 : decode cX17_sendNext 1 = .ok (.iload_n 1, 1) := by decide +kernel
theorem dX17_sendNext_2 : decode cX17_sendNext 2 = .ok (.invokevirtual 147, 3) := by decide +kernel
theorem dX17_sendNext_5 : decode cX17_sendNext 5 = .ok (.aload_n 0, 1) := by decide +kernel
theorem dX17_sendNext_6 : decode cX17_sendNext 6 = .ok (.getfield 24, 3) := by decide +kernel
theorem dX17_sendNext_9 : decode cX17_sendNext 9 = .ok (.iload_n 1, 1) := by decide +kernel
theorem dX17_sendNext_10 : decode cX17_sendNext 10 = .ok (.iaload, 1) := by decide +kernel
theorem dX17_sendNext_11 : decode cX17_sendNext 11 = .ok (.isub, 1) := by decide +kernel
theorem dX17_sendNext_12 : decode cX17_sendNext 12 = .ok (.istore_n 2, 1) := by decide +kernel
theorem dX17_sendNext_13 : decode cX17_sendNext 13 = .ok (.iload_n 2, 1) := by decide +kernel
theorem dX17_sendNext_14 : decode cX17_sendNext 14 = .ok (.bipush 7, 2) := by decide +kernel
theorem dX17_sendNext_16 : decode cX17_sendNext 16 = .ok (.if_icmp .le 8, 3) := by decide +kernel
theorem dX17_sendNext_19 : decode cX17_sendNext 19 = .ok (.bipush 7, 2) := by decide +kernel
theorem dX17_sendNext_21 : decode cX17_sendNext 21 = .ok (.goto 4, 3) := by decide +kernel
theorem dX17_sendNext_24 : decode cX17_sendNext 24 = .ok (.iload_n 2, 1) := by decide +kernel
theorem dX17_sendNext_25 : decode cX17_sendNext 25 = .ok (.istore_n 3, 1) := by decide +kernel
theorem dX17_sendNext_26 : decode cX17_sendNext 26 = .ok (.aload_n 0, 1) := by decide +kernel
theorem dX17_sendNext_27 : decode cX17_sendNext 27 = .ok (.getfield 27, 3) := by decide +kernel
theorem dX17_sendNext_30 : decode cX17_sendNext 30 = .ok (.iload_n 1, 1) := by decide +kernel
theorem dX17_sendNext_31 : decode cX17_sendNext 31 = .ok (.aload_n 0, 1) := by decide +kernel
theorem dX17_sendNext_32 : decode cX17_sendNext 32 = .ok (.getfield 27, 3) := by decide +kernel
theorem dX17_sendNext_35 : decode cX17_sendNext 35 = .ok (.iload_n 1, 1) := by decide +kernel
theorem dX17_sendNext_36 : decode cX17_sendNext 36 = .ok (.iaload, 1) := by decide +kernel
theorem dX17_sendNext_37 : decode cX17_sendNext 37 = .ok (.iconst 1, 1) := by decide +kernel
theorem dX17_sendNext_38 : decode cX17_sendNext 38 = .ok (.iadd, 1) := by decide +kernel
theorem dX17_sendNext_39 : decode cX17_sendNext 39 = .ok (.bipush 16, 2) := by decide +kernel
theorem dX17_sendNext_41 : decode cX17_sendNext 41 = .ok (.irem, 1) := by decide +kernel
theorem dX17_sendNext_42 : decode cX17_sendNext 42 = .ok (.iastore, 1) := by decide +kernel
theorem dX17_sendNext_43 : decode cX17_sendNext 43 = .ok (.aload_n 0, 1) := by decide +kernel
theorem dX17_sendNext_44 : decode cX17_sendNext 44 = .ok (.iconst 2, 1) := by decide +kernel
theorem dX17_sendNext_45 : decode cX17_sendNext 45 = .ok (.iload_n 1, 1) := by decide +kernel
theorem dX17_sendNext_46 : decode cX17_sendNext 46 = .ok (.aload_n 0, 1) := by decide +kernel
theorem dX17_sendNext_47 : decode cX17_sendNext 47 = .ok (.getfield 27, 3) := by decide +kernel
theorem dX17_sendNext_50 : decode cX17_sendNext 50 = .ok (.iload_n 1, 1) := by decide +kernel
theorem dX17_sendNext_51 : decode cX17_sendNext 51 = .ok (.iaload, 1) := by decide +kernel
theorem dX17_sendNext_52 : decode cX17_sendNext 52 = .ok (.iload_n 3, 1) := by decide +kernel
theorem dX17_sendNext_53 : decode cX17_sendNext 53 = .ok (.iconst 0, 1) := by decide +kernel
theorem dX17_sendNext_54 : decode cX17_sendNext 54 = .ok (.invokevirtual 151, 3) := by decide +kernel
theorem dX17_sendNext_57 : decode cX17_sendNext 57 = .ok (.istore 4, 2) := by decide +kernel
theorem dX17_sendNext_59 : decode cX17_sendNext 59 = .ok (.iload 4, 2) := by decide +kernel
theorem dX17_sendNext_61 : decode cX17_sendNext 61 = .ok (.ifCond .ne 11, 3) := by decide +kernel
theorem dX17_sendNext_64 : decode cX17_sendNext 64 = .ok (.aload_n 0, 1) := by decide +kernel
theorem dX17_sendNext_65 : decode cX17_sendNext 65 = .ok (.iload_n 1, 1) := by decide +kernel
theorem dX17_sendNext_66 : decode cX17_sendNext 66 = .ok (.bipush 7, 2) := by decide +kernel
theorem dX17_sendNext_68 : decode cX17_sendNext 68 = .ok (.invokevirtual 159, 3) := by decide +kernel
theorem dX17_sendNext_71 : decode cX17_sendNext 71 = .ok (.return_, 1) := by decide +kernel
theorem dX17_sendNext_72 : decode cX17_sendNext 72 = .ok (.aload_n 0, 1) := by decide +kernel
theorem dX17_sendNext_73 : decode cX17_sendNext 73 = .ok (.iload 4, 2) := by decide +kernel
theorem dX17_sendNext_75 : decode cX17_sendNext 75 = .ok (.iload_n 1, 1) := by decide +kernel
theorem dX17_sendNext_76 : decode cX17_sendNext 76 = .ok (.aload_n 0, 1) := by decide +kernel
theorem dX17_sendNext_77 : decode cX17_sendNext 77 = .ok (.getfield 24, 3) := by decide +kernel
theorem dX17_sendNext_80 : decode cX17_sendNext 80 = .ok (.iload_n 1, 1) := by decide +kernel
theorem dX17_sendNext_81 : decode cX17_sendNext 81 = .ok (.iaload, 1) := by decide +kernel
theorem dX17_sendNext_82 : decode cX17_sendNext 82 = .ok (.iload_n 3, 1) := by decide +kernel
theorem dX17_sendNext_83 : decode cX17_sendNext 83 = .ok (.invokevirtual 155, 3) := by decide +kernel
theorem dX17_sendNext_86 : decode cX17_sendNext 86 = .ok (.aload_n 0, 1) := by decide +kernel
theorem dX17_sendNext_87 : decode cX17_sendNext 87 = .ok (.getfield 24, 3) := by decide +kernel
theorem dX17_sendNext_90 : decode cX17_sendNext 90 = .ok (.iload_n 1, 1) := by decide +kernel
theorem dX17_sendNext_91 : decode cX17_sendNext 91 = .ok (.aload_n 0, 1) := by decide +kernel
theorem dX17_sendNext_92 : decode cX17_sendNext 92 = .ok (.getfield 24, 3) := by decide +kernel
theorem dX17_sendNext_95 : decode cX17_sendNext 95 = .ok (.iload_n 1, 1) := by decide +kernel
theorem dX17_sendNext_96 : decode cX17_sendNext 96 = .ok (.iaload, 1) := by decide +kernel
theorem dX17_sendNext_97 : decode cX17_sendNext 97 = .ok (.iload_n 3, 1) := by decide +kernel
theorem dX17_sendNext_98 : decode cX17_sendNext 98 = .ok (.iadd, 1) := by decide +kernel
theorem dX17_sendNext_99 : decode cX17_sendNext 99 = .ok (.iastore, 1) := by decide +kernel
theorem dX17_sendNext_100 : decode cX17_sendNext 100 = .ok (.aload_n 0, 1) := by decide +kernel
theorem dX17_sendNext_101 : decode cX17_sendNext 101 = .ok (.getfield 46, 3) := by decide +kernel
theorem dX17_sendNext_104 : decode cX17_sendNext 104 = .ok (.iload_n 1, 1) := by decide +kernel
theorem dX17_sendNext_105 : decode cX17_sendNext 105 = .ok (.aload_n 0, 1) := by decide +kernel
theorem dX17_sendNext_106 : decode cX17_sendNext 106 = .ok (.getfield 118, 3) := by decide +kernel
theorem dX17_sendNext_109 : decode cX17_sendNext 109 = .ok (.aload_n 0, 1) := by decide +kernel
theorem dX17_sendNext_110 : decode cX17_sendNext 110 = .ok (.getfield 36, 3) := by decide +kernel
theorem dX17_sendNext_113 : decode cX17_sendNext 113 = .ok (.iload_n 1, 1) := by decide +kernel
theorem dX17_sendNext_114 : decode cX17_sendNext 114 = .ok (.iaload, 1) := by decide +kernel
theorem dX17_sendNext_115 : decode cX17_sendNext 115 = .ok (.i2l, 1) := by decide +kernel
theorem dX17_sendNext_116 : decode cX17_sendNext 116 = .ok (.ladd, 1) := by decide +kernel
theorem dX17_sendNext_117 : decode cX17_sendNext 117 = .ok (.lastore, 1) := by decide +kernel
theorem dX17_sendNext_118 : decode cX17_sendNext 118 = .ok (.iload_n 3, 1) := by decide +kernel
theorem dX17_sendNext_119 : decode cX17_sendNext 119 = .ok (.iload_n 2, 1) := by decide +kernel
theorem dX17_sendNext_120 : decode cX17_sendNext 120 = .ok (.if_icmp .ne 11, 3) := by decide +kernel
theorem dX17_sendNext_123 : decode cX17_sendNext 123 = .ok (.aload_n 0, 1) := by decide +kernel
theorem dX17_sendNext_124 : decode cX17_sendNext 124 = .ok (.getfield 21, 3) := by decide +kernel
theorem dX17_sendNext_127 : decode cX17_sendNext 127 = .ok (.iload_n 1, 1) := by decide +kernel
theorem dX17_sendNext_128 : decode cX17_sendNext 128 = .ok (.iconst 3, 1) := by decide +kernel
theorem dX17_sendNext_129 : decode cX17_sendNext 129 = .ok (.iastore, 1) := by decide +kernel
theorem dX17_sendNext_130 : decode cX17_sendNext 130 = .ok (.return_, 1) := by decide +kernel
theorem dX17_sendNext_131 : decode cX17_sendNext 131 = .ok (.aload_n 0, 1) := by decide +kernel
theorem dX17_sendNext_132 : decode cX17_sendNext 132 = .ok (.getfield 30, 3) := by decide +kernel
theorem dX17_sendNext_135 : decode cX17_sendNext 135 = .ok (.iload_n 1, 1) := by decide +kernel
theorem dX17_sendNext_136 : decode cX17_sendNext 136 = .ok (.iaload, 1) := by decide +kernel
theorem dX17_sendNext_137 : decode cX17_sendNext 137 = .ok (.ifCond .ne 4, 3) := by decide +kernel
theorem dX17_sendNext_140 : decode cX17_sendNext 140 = .ok (.return_, 1) := by decide +kernel
theorem dX17_sendNext_141 : decode cX17_sendNext 141 = .ok (.aload_n 0, 1) := by decide +kernel
theorem dX17_sendNext_142 : decode cX17_sendNext 142 = .ok (.getfield 33, 3) := by decide +kernel
theorem dX17_sendNext_145 : decode cX17_sendNext 145 = .ok (.iload_n 1, 1) := by decide +kernel
theorem dX17_sendNext_146 : decode cX17_sendNext 146 = .ok (.dup2, 1) := by decide +kernel
theorem dX17_sendNext_147 : decode cX17_sendNext 147 = .ok (.iaload, 1) := by decide +kernel
theorem dX17_sendNext_148 : decode cX17_sendNext 148 = .ok (.iconst 1, 1) := by decide +kernel
theorem dX17_sendNext_149 : decode cX17_sendNext 149 = .ok (.isub, 1) := by decide +kernel
theorem dX17_sendNext_150 : decode cX17_sendNext 150 = .ok (.iastore, 1) := by decide +kernel
theorem dX17_sendNext_151 : decode cX17_sendNext 151 = .ok (.aload_n 0, 1) := by decide +kernel
theorem dX17_sendNext_152 : decode cX17_sendNext 152 = .ok (.getfield 33, 3) := by decide +kernel
theorem dX17_sendNext_155 : decode cX17_sendNext 155 = .ok (.iload_n 1, 1) := by decide +kernel
theorem dX17_sendNext_156 : decode cX17_sendNext 156 = .ok (.iaload, 1) := by decide +kernel
theorem dX17_sendNext_157 : decode cX17_sendNext 157 = .ok (.ifCond .ne 20, 3) := by decide +kernel
theorem dX17_sendNext_160 : decode cX17_sendNext 160 = .ok (.aload_n 0, 1) := by decide +kernel
theorem dX17_sendNext_161 : decode cX17_sendNext 161 = .ok (.getfield 21, 3) := by decide +kernel
theorem dX17_sendNext_164 : decode cX17_sendNext 164 = .ok (.iload_n 1, 1) := by decide +kernel
theorem dX17_sendNext_165 : decode cX17_sendNext 165 = .ok (.iconst 1, 1) := by decide +kernel
theorem dX17_sendNext_166 : decode cX17_sendNext 166 = .ok (.iastore, 1) := by decide +kernel
theorem dX17_sendNext_167 : decode cX17_sendNext 167 = .ok (.aload_n 0, 1) := by decide +kernel
theorem dX17_sendNext_168 : decode cX17_sendNext 168 = .ok (.getfield 42, 3) := by decide +kernel
theorem dX17_sendNext_171 : decode cX17_sendNext 171 = .ok (.iload_n 1, 1) := by decide +kernel
theorem dX17_sendNext_172 : decode cX17_sendNext 172 = .ok (.aload_n 0, 1) := by decide +kernel
theorem dX17_sendNext_173 : decode cX17_sendNext 173 = .ok (.getfield 118, 3) := by decide +kernel
theorem dX17_sendNext_176 : decode cX17_sendNext 176 = .ok (.lastore, 1) := by decide +kernel
theorem dX17_sendNext_177 : decode cX17_sendNext 177 = .ok (.return_, 1) := by decide +kernel
theorem cwX17_sendNext : mw_cwV yX17_sendNext cX17_sendNext 5 (none) 1 := ⟨⟨wd_17, wd_4180, by decide +kernel⟩, wd_4179, sl_339⟩
set_option maxHeartbeats 4000000 in
set_option maxRecDepth 100000 in
theorem tX17_sendNext (l : Launch) (G : mwG) (ad : Nat → Nat) (fu : Nat) (a1 : Int32) (M : mwM) (L : mwL) {M0 : mwM} {L0 : mwL} (hD : DX17_sendNext fu a1 M L = some (M0, L0)) : Met l yX17_sendNext (Cond.code yX17_sendNext cX17_sendNext 5 (none) :: GT) ({ frames := 1, cells := 0, slots := 0, locals := 25 }) (mw_Pre G ad NF TF FF M L [.ref (ad 869), .int a1]) (mw_Qv G ad NF TF FF (mw_eqV M0 L0)) 0 0 (mw_fr G) := by
  refine mw_enter (by decide) (Nat.le_of_ble_eq_true rfl) ?_
  intro p e s m below meth c ls C hr hlocks hnm hw hl
  have hl : lv_has ls 5 [(0, .ref (ad 869)), (1, .int a1)] := hl
  have hb177 : ∀ (M : mwM) (L : mwL) (H : Heap) (locs : List Loc) (ls : Array Slot), fX17_sendNext_b177 fu a1 M L = some (M0, L0) → mw_W G ad NF TF FF M L H locs → lv_has ls 5 [] → W p l e ({ frames := 1, cells := 0, slots := 0, locals := 25 }) s m [.ref (ad 869), .int a1].toArray below meth c H locs 0 0 (MQ below (mw_Qv G ad NF TF FF (mw_eqV M0 L0)) [.ref (ad 869), .int a1].toArray s 0 0 (mw_fr G)) (F0 m 177 ls []) := by
    intro M L H locs ls hD hw hl
    unfold fX17_sendNext_b177 at hD
    exact mr_vret C hr hlocks hw (Option.some.inj hD) dX17_sendNext_177
  have hb25 : ∀ (v2 : Int32) (s0 : Int32) (M : mwM) (L : mwL) (H : Heap) (locs : List Loc) (ls : Array Slot), fX17_sendNext_b25 fu a1 v2 s0 M L = some (M0, L0) → mw_W G ad NF TF FF M L H locs → lv_has ls 5 [(0, .ref (ad 869)), (1, .int a1), (2, .int v2)] → W p l e ({ frames := 1, cells := 0, slots := 0, locals := 25 }) s m [.ref (ad 869), .int a1].toArray below meth c H locs 0 0 (MQ below (mw_Qv G ad NF TF FF (mw_eqV M0 L0)) [.ref (ad 869), .int a1].toArray s 0 0 (mw_fr G)) (F0 m 25 ls [.int s0]) := by
    intro v2 s0 M L H locs ls hD hw hl
    unfold fX17_sendNext_b25 at hD
    refine lv_istore_n (lv' := [(3, .int s0), (0, .ref (ad 869)), (1, .int a1), (2, .int v2)]) C.1.1 C.1.2.1 dX17_sendNext_25 rfl hl (by decide) rfl (fun ls hl => ?_)
    refine lv_aload_n C.1.1 C.1.2.1 dX17_sendNext_26 rfl (lv_at hl 1 rfl) ?_
    refine mr_getR C hw kc_17 9 (by decide) tf_869 ff_869_9 wd_2340 dX17_sendNext_27 (by decide) rfl ?_
    refine lv_iload_n C.1.1 C.1.2.1 dX17_sendNext_30 rfl (lv_at hl 2 rfl) ?_
    refine lv_aload_n C.1.1 C.1.2.1 dX17_sendNext_31 rfl (lv_at hl 1 rfl) ?_
    refine mr_getR C hw kc_17 9 (by decide) tf_869 ff_869_9 wd_2340 dX17_sendNext_32 (by decide) rfl ?_
    refine lv_iload_n C.1.1 C.1.2.1 dX17_sendNext_35 rfl (lv_at hl 2 rfl) ?_
    obtain ⟨q1, hD⟩ := g_ck hD
    refine mr_iald C hw (by decide) tf_875 q1 dX17_sendNext_36 ?_
    refine lv_iconst (v := 1) C.1.1 C.1.2.1 dX17_sendNext_37 (by decide) ?_
    refine lv_iadd C.1.1 C.1.2.1 dX17_sendNext_38 ?_
    refine lv_bipush (v := 16) C.1.1 C.1.2.1 dX17_sendNext_39 (by decide) ?_
    refine lv_irem C.1.1 C.1.2.1 dX17_sendNext_41 (by decide) ?_
    obtain ⟨q3, hD⟩ := g_ck hD
    obtain ⟨M4, eM4, hD⟩ := g_let hD
    refine mr_iast C hw (by decide) tf_875 q3 dX17_sendNext_42 (fun H locs hw => ?_)
    replace hw : mw_W G ad NF TF FF M4 L H locs := by rw [eM4]; exact hw
    refine lv_aload_n C.1.1 C.1.2.1 dX17_sendNext_43 rfl (lv_at hl 1 rfl) ?_
    refine lv_iconst (v := 2) C.1.1 C.1.2.1 dX17_sendNext_44 (by decide) ?_
    refine lv_iload_n C.1.1 C.1.2.1 dX17_sendNext_45 rfl (lv_at hl 2 rfl) ?_
    refine lv_aload_n C.1.1 C.1.2.1 dX17_sendNext_46 rfl (lv_at hl 1 rfl) ?_
    refine mr_getR C hw kc_17 9 (by decide) tf_869 ff_869_9 wd_2340 dX17_sendNext_47 (by decide) rfl ?_
    refine lv_iload_n C.1.1 C.1.2.1 dX17_sendNext_50 rfl (lv_at hl 2 rfl) ?_
    obtain ⟨q5, hD⟩ := g_ck hD
    refine mr_iald C hw (by decide) tf_875 q5 dX17_sendNext_51 ?_
    refine lv_iload_n C.1.1 C.1.2.1 dX17_sendNext_52 rfl (lv_at hl 0 rfl) ?_
    refine lv_iconst (v := 0) C.1.1 C.1.2.1 dX17_sendNext_53 (by decide) ?_
    obtain ⟨r8, M6, L7, h1, hD⟩ := g_b3 hD
    refine md_cvI (As := [.int 2, .int a1, .int (M4 875 a1.toNatClampNeg), .int s0, .int 0]) (rest := []) C hw (tX17_make l G ad fu 2 a1 (M4 875 a1.toNatClampNeg) s0 0 M4 L h1) kc_17 (by decide) tf_869 wd_3968 cwX17_make ⟨Nat.le_of_ble_eq_true rfl, Nat.le_of_ble_eq_true rfl⟩ rfl hl.1 (Nat.le_of_ble_eq_true rfl) dX17_sendNext_54 rfl rfl ⟨Nat.zero_le _, Nat.zero_le _⟩ rfl (fun H locs hw => ?_)
    refine lv_istore (lv' := [(4, .int r8), (3, .int s0), (0, .ref (ad 869)), (1, .int a1), (2, .int v2)]) C.1.1 C.1.2.1 dX17_sendNext_57 hl (by decide) rfl (fun ls hl => ?_)
    refine lv_iload C.1.1 C.1.2.1 dX17_sendNext_59 (lv_at hl 0 rfl) ?_
    refine lv_if_ne (tgt := 72) C.1.1 C.1.2.1 dX17_sendNext_61 (by decide) (fun c9 => ?_) (fun c9 => ?_)
    · replace hD := g_neg c9 hD
      refine lv_aload_n C.1.1 C.1.2.1 dX17_sendNext_72 rfl (lv_at hl 2 rfl) ?_
      refine lv_iload C.1.1 C.1.2.1 dX17_sendNext_73 (lv_at hl 0 rfl) ?_
      refine lv_iload_n C.1.1 C.1.2.1 dX17_sendNext_75 rfl (lv_at hl 3 rfl) ?_
      refine lv_aload_n C.1.1 C.1.2.1 dX17_sendNext_76 rfl (lv_at hl 2 rfl) ?_
      refine mr_getR C hw kc_17 8 (by decide) tf_869 ff_869_8 wd_2339 dX17_sendNext_77 (by decide) rfl ?_
      refine lv_iload_n C.1.1 C.1.2.1 dX17_sendNext_80 rfl (lv_at hl 3 rfl) ?_
      obtain ⟨q10, hD⟩ := g_ck hD
      refine mr_iald C hw (by decide) tf_874 q10 dX17_sendNext_81 ?_
      refine lv_iload_n C.1.1 C.1.2.1 dX17_sendNext_82 rfl (lv_at hl 1 rfl) ?_
      obtain ⟨M11, L12, h1, hD⟩ := g_b2 hD
      refine md_cvV (As := [.int r8, .int a1, .int (M6 874 a1.toNatClampNeg), .int s0]) (rest := []) C hw (tX17_fill l G ad fu r8 a1 (M6 874 a1.toNatClampNeg) s0 M6 L7 h1) kc_17 (by decide) tf_869 wd_4164 cwX17_fill ⟨Nat.le_of_ble_eq_true rfl, Nat.le_of_ble_eq_true rfl⟩ rfl hl.1 (Nat.le_of_ble_eq_true rfl) dX17_sendNext_83 rfl rfl ⟨Nat.zero_le _, Nat.zero_le _⟩ rfl (fun H locs hw => ?_)
      refine lv_aload_n C.1.1 C.1.2.1 dX17_sendNext_86 rfl (lv_at hl 2 rfl) ?_
      refine mr_getR C hw kc_17 8 (by decide) tf_869 ff_869_8 wd_2339 dX17_sendNext_87 (by decide) rfl ?_
      refine lv_iload_n C.1.1 C.1.2.1 dX17_sendNext_90 rfl (lv_at hl 3 rfl) ?_
      refine lv_aload_n C.1.1 C.1.2.1 dX17_sendNext_91 rfl (lv_at hl 2 rfl) ?_
      refine mr_getR C hw kc_17 8 (by decide) tf_869 ff_869_8 wd_2339 dX17_sendNext_92 (by decide) rfl ?_
      refine lv_iload_n C.1.1 C.1.2.1 dX17_sendNext_95 rfl (lv_at hl 3 rfl) ?_
      obtain ⟨q13, hD⟩ := g_ck hD
      refine mr_iald C hw (by decide) tf_874 q13 dX17_sendNext_96 ?_
      refine lv_iload_n C.1.1 C.1.2.1 dX17_sendNext_97 rfl (lv_at hl 1 rfl) ?_
      refine lv_iadd C.1.1 C.1.2.1 dX17_sendNext_98 ?_
      obtain ⟨q14, hD⟩ := g_ck hD
      obtain ⟨M15, eM15, hD⟩ := g_let hD
      refine mr_iast C hw (by decide) tf_874 q14 dX17_sendNext_99 (fun H locs hw => ?_)
      replace hw : mw_W G ad NF TF FF M15 L12 H locs := by rw [eM15]; exact hw
      refine lv_aload_n C.1.1 C.1.2.1 dX17_sendNext_100 rfl (lv_at hl 2 rfl) ?_
      refine mr_getR C hw kc_17 15 (by decide) tf_869 ff_869_15 wd_2346 dX17_sendNext_101 (by decide) rfl ?_
      refine lv_iload_n C.1.1 C.1.2.1 dX17_sendNext_104 rfl (lv_at hl 3 rfl) ?_
      refine lv_aload_n C.1.1 C.1.2.1 dX17_sendNext_105 rfl (lv_at hl 2 rfl) ?_
      refine mr_getL C hw kc_17 2 (by decide) tf_869 wd_2333 dX17_sendNext_106 (by decide) rfl ?_
      refine lv_aload_n C.1.1 C.1.2.1 dX17_sendNext_109 rfl (lv_at hl 2 rfl) ?_
      refine mr_getR C hw kc_17 12 (by decide) tf_869 ff_869_12 wd_2343 dX17_sendNext_110 (by decide) rfl ?_
      refine lv_iload_n C.1.1 C.1.2.1 dX17_sendNext_113 rfl (lv_at hl 3 rfl) ?_
      obtain ⟨q16, hD⟩ := g_ck hD
      refine mr_iald C hw (by decide) tf_878 q16 dX17_sendNext_114 ?_
      refine lv_i2l C.1.1 C.1.2.1 dX17_sendNext_115 rfl ?_
      refine lv_ladd C.1.1 C.1.2.1 dX17_sendNext_116 ?_
      obtain ⟨q17, hD⟩ := g_ck hD
      obtain ⟨L18, eL18, hD⟩ := g_let hD
      refine mr_last C hw (by decide) tf_881 q17 dX17_sendNext_117 (fun H locs hw => ?_)
      replace hw : mw_W G ad NF TF FF M15 L18 H locs := by rw [eL18]; exact hw
      refine lv_iload_n C.1.1 C.1.2.1 dX17_sendNext_118 rfl (lv_at hl 1 rfl) ?_
      refine lv_iload_n C.1.1 C.1.2.1 dX17_sendNext_119 rfl (lv_at hl 4 rfl) ?_
      refine lv_icmp_ne (tgt := 131) C.1.1 C.1.2.1 dX17_sendNext_120 (by decide) (fun c19 => ?_) (fun c19 => ?_)
      · replace hD := g_neg c19 hD
        refine lv_aload_n C.1.1 C.1.2.1 dX17_sendNext_131 rfl (lv_at hl 2 rfl) ?_
        refine mr_getR C hw kc_17 10 (by decide) tf_869 ff_869_10 wd_2341 dX17_sendNext_132 (by decide) rfl ?_
        refine lv_iload_n C.1.1 C.1.2.1 dX17_sendNext_135 rfl (lv_at hl 3 rfl) ?_
        obtain ⟨q20, hD⟩ := g_ck hD
        refine mr_iald C hw (by decide) tf_876 q20 dX17_sendNext_136 ?_
        refine lv_if_ne (tgt := 141) C.1.1 C.1.2.1 dX17_sendNext_137 (by decide) (fun c21 => ?_) (fun c21 => ?_)
        · replace hD := g_neg c21 hD
          refine lv_aload_n C.1.1 C.1.2.1 dX17_sendNext_141 rfl (lv_at hl 2 rfl) ?_
          refine mr_getR C hw kc_17 11 (by decide) tf_869 ff_869_11 wd_2342 dX17_sendNext_142 (by decide) rfl ?_
          refine lv_iload_n C.1.1 C.1.2.1 dX17_sendNext_145 rfl (lv_at hl 3 rfl) ?_
          refine lv_dup2_11 C.1.1 C.1.2.1 dX17_sendNext_146 rfl rfl ?_
          obtain ⟨q22, hD⟩ := g_ck hD
          refine mr_iald C hw (by decide) tf_877 q22 dX17_sendNext_147 ?_
          refine lv_iconst (v := 1) C.1.1 C.1.2.1 dX17_sendNext_148 (by decide) ?_
          refine lv_isub C.1.1 C.1.2.1 dX17_sendNext_149 ?_
          obtain ⟨q23, hD⟩ := g_ck hD
          obtain ⟨M24, eM24, hD⟩ := g_let hD
          refine mr_iast C hw (by decide) tf_877 q23 dX17_sendNext_150 (fun H locs hw => ?_)
          replace hw : mw_W G ad NF TF FF M24 L18 H locs := by rw [eM24]; exact hw
          refine lv_aload_n C.1.1 C.1.2.1 dX17_sendNext_151 rfl (lv_at hl 2 rfl) ?_
          refine mr_getR C hw kc_17 11 (by decide) tf_869 ff_869_11 wd_2342 dX17_sendNext_152 (by decide) rfl ?_
          refine lv_iload_n C.1.1 C.1.2.1 dX17_sendNext_155 rfl (lv_at hl 3 rfl) ?_
          obtain ⟨q25, hD⟩ := g_ck hD
          refine mr_iald C hw (by decide) tf_877 q25 dX17_sendNext_156 ?_
          refine lv_if_ne (tgt := 177) C.1.1 C.1.2.1 dX17_sendNext_157 (by decide) (fun c26 => ?_) (fun c26 => ?_)
          · replace hD := g_neg c26 hD
            exact hb177 M24 L18 _ _ ls hD hw (lv_sub hl [] rfl)
          · replace hD := g_pos c26 hD
            refine lv_aload_n C.1.1 C.1.2.1 dX17_sendNext_160 rfl (lv_at hl 2 rfl) ?_
            refine mr_getR C hw kc_17 7 (by decide) tf_869 ff_869_7 wd_2338 dX17_sendNext_161 (by decide) rfl ?_
            refine lv_iload_n C.1.1 C.1.2.1 dX17_sendNext_164 rfl (lv_at hl 3 rfl) ?_
            refine lv_iconst (v := 1) C.1.1 C.1.2.1 dX17_sendNext_165 (by decide) ?_
            obtain ⟨q27, hD⟩ := g_ck hD
            obtain ⟨M28, eM28, hD⟩ := g_let hD
            refine mr_iast C hw (by decide) tf_873 q27 dX17_sendNext_166 (fun H locs hw => ?_)
            replace hw : mw_W G ad NF TF FF M28 L18 H locs := by rw [eM28]; exact hw
            refine lv_aload_n C.1.1 C.1.2.1 dX17_sendNext_167 rfl (lv_at hl 2 rfl) ?_
            refine mr_getR C hw kc_17 14 (by decide) tf_869 ff_869_14 wd_2345 dX17_sendNext_168 (by decide) rfl ?_
            refine lv_iload_n C.1.1 C.1.2.1 dX17_sendNext_171 rfl (lv_at hl 3 rfl) ?_
            refine lv_aload_n C.1.1 C.1.2.1 dX17_sendNext_172 rfl (lv_at hl 2 rfl) ?_
            refine mr_getL C hw kc_17 2 (by decide) tf_869 wd_2333 dX17_sendNext_173 (by decide) rfl ?_
            obtain ⟨q29, hD⟩ := g_ck hD
            obtain ⟨L30, eL30, hD⟩ := g_let hD
            refine mr_last C hw (by decide) tf_880 q29 dX17_sendNext_176 (fun H locs hw => ?_)
            replace hw : mw_W G ad NF TF FF M28 L30 H locs := by rw [eL30]; exact hw
            exact hb177 M28 L30 _ _ ls hD hw (lv_sub hl [] rfl)
        · replace hD := g_pos c21 hD
          exact mr_vret C hr hlocks hw (Option.some.inj hD) dX17_sendNext_140
      · replace hD := g_pos c19 hD
        refine lv_aload_n C.1.1 C.1.2.1 dX17_sendNext_123 rfl (lv_at hl 2 rfl) ?_
        refine mr_getR C hw kc_17 7 (by decide) tf_869 ff_869_7 wd_2338 dX17_sendNext_124 (by decide) rfl ?_
        refine lv_iload_n C.1.1 C.1.2.1 dX17_sendNext_127 rfl (lv_at hl 3 rfl) ?_
        refine lv_iconst (v := 3) C.1.1 C.1.2.1 dX17_sendNext_128 (by decide) ?_
        obtain ⟨q31, hD⟩ := g_ck hD
        obtain ⟨M32, eM32, hD⟩ := g_let hD
        refine mr_iast C hw (by decide) tf_873 q31 dX17_sendNext_129 (fun H locs hw => ?_)
        replace hw : mw_W G ad NF TF FF M32 L18 H locs := by rw [eM32]; exact hw
        exact mr_vret C hr hlocks hw (Option.some.inj hD) dX17_sendNext_130
    · replace hD := g_pos c9 hD
      refine lv_aload_n C.1.1 C.1.2.1 dX17_sendNext_64 rfl (lv_at hl 2 rfl) ?_
      refine lv_iload_n C.1.1 C.1.2.1 dX17_sendNext_65 rfl (lv_at hl 3 rfl) ?_
      refine lv_bipush (v := 7) C.1.1 C.1.2.1 dX17_sendNext_66 (by decide) ?_
      obtain ⟨M33, L34, h1, hD⟩ := g_b2 hD
      refine md_cvV (As := [.int a1, .int 7]) (rest := []) C hw (tX17_endSender l G ad fu a1 7 M6 L7 h1) kc_17 (by decide) tf_869 wd_3940 cwX17_endSender ⟨Nat.le_of_ble_eq_true rfl, Nat.le_of_ble_eq_true rfl⟩ rfl hl.1 (Nat.le_of_ble_eq_true rfl) dX17_sendNext_68 rfl rfl ⟨Nat.zero_le _, Nat.zero_le _⟩ rfl (fun H locs hw => ?_)
      exact mr_vret C hr hlocks hw (Option.some.inj hD) dX17_sendNext_71
  unfold DX17_sendNext at hD
  refine lv_aload_n C.1.1 C.1.2.1 dX17_sendNext_0 rfl (lv_at hl 0 rfl) ?_
  refine lv_iload_n C.1.1 C.1.2.1 dX17_sendNext_1 rfl (lv_at hl 1 rfl) ?_
  obtain ⟨r37, M35, L36, h1, hD⟩ := g_b3 hD
  refine md_cvI (As := [.int a1]) (rest := []) C hw (tX17_size l G ad fu a1 M L h1) kc_17 (by decide) tf_869 wd_4054 cwX17_size ⟨Nat.le_of_ble_eq_true rfl, Nat.le_of_ble_eq_true rfl⟩ rfl hl.1 (Nat.le_of_ble_eq_true rfl) dX17_sendNext_2 rfl rfl ⟨Nat.zero_le _, Nat.zero_le _⟩ rfl (fun H locs hw => ?_)
  refine lv_aload_n C.1.1 C.1.2.1 dX17_sendNext_5 rfl (lv_at hl 0 rfl) ?_
  refine mr_getR C hw kc_17 8 (by decide) tf_869 ff_869_8 wd_2339 dX17_sendNext_6 (by decide) rfl ?_
  refine lv_iload_n C.1.1 C.1.2.1 dX17_sendNext_9 rfl (lv_at hl 1 rfl) ?_
  obtain ⟨q38, hD⟩ := g_ck hD
  refine mr_iald C hw (by decide) tf_874 q38 dX17_sendNext_10 ?_
  refine lv_isub C.1.1 C.1.2.1 dX17_sendNext_11 ?_
  obtain ⟨x39, ex39, hD⟩ := g_let hD
  refine W.eq (g2 := F0 m 12 ls (.int x39 :: [])) (by rw [ex39]) ?_
  refine lv_istore_n (lv' := [(2, .int x39), (0, .ref (ad 869)), (1, .int a1)]) C.1.1 C.1.2.1 dX17_sendNext_12 rfl hl (by decide) rfl (fun ls hl => ?_)
  refine lv_iload_n C.1.1 C.1.2.1 dX17_sendNext_13 rfl (lv_at hl 0 rfl) ?_
  refine lv_bipush (v := 7) C.1.1 C.1.2.1 dX17_sendNext_14 (by decide) ?_
  refine lv_icmp_le (tgt := 24) C.1.1 C.1.2.1 dX17_sendNext_16 (by decide) (fun c40 => ?_) (fun c40 => ?_)
  · replace hD := g_pos c40 hD
    refine lv_iload_n C.1.1 C.1.2.1 dX17_sendNext_24 rfl (lv_at hl 0 rfl) ?_
    exact hb25 x39 x39 M35 L36 _ _ ls hD hw (lv_sub hl [1, 2, 0] rfl)
  · replace hD := g_neg c40 hD
    refine lv_bipush (v := 7) C.1.1 C.1.2.1 dX17_sendNext_19 (by decide) ?_
    refine lv_goto (tgt := 25) C.1.1 C.1.2.1 dX17_sendNext_21 (by decide) ?_
    exact hb25 x39 7 M35 L36 _ _ ls hD hw (lv_sub hl [1, 2, 0] rfl)

theorem dX17_takeFlow_0 : decode cX17_takeFlow 0 = .ok (.aload_n 0, 1) := by decide +kernel
theorem dX17_takeFlow_1 : decode cX17_takeFlow 1 = .ok (.getfield 83, 3) := by decide +kernel
theorem dX17_takeFlow_4 : decode cX17_takeFlow 4 = .ok (.iload_n 1, 1) := by decide +kernel
theorem dX17_takeFlow_5 : decode cX17_takeFlow 5 = .ok (.iaload, 1) := by decide +kernel
theorem dX17_takeFlow_6 : decode cX17_takeFlow 6 = .ok (.istore_n 2, 1) := by decide +kernel
theorem dX17_takeFlow_7 : decode cX17_takeFlow 7 = .ok (.aload_n 0, 1) := by decide +kernel
theorem dX17_takeFlow_8 : decode cX17_takeFlow 8 = .ok (.getfield 21, 3) := by decide +kernel
theorem dX17_takeFlow_11 : decode cX17_takeFlow 11 = .ok (.iload_n 2, 1) := by decide +kernel
theorem dX17_takeFlow_12 : decode cX17_takeFlow 12 = .ok (.iaload, 1) := by decide +kernel
theorem dX17_takeFlow_13 : decode cX17_takeFlow 13 = .ok (.iconst 1, 1) := by decide +kernel
theorem dX17_takeFlow_14 : decode cX17_takeFlow 14 = .ok (.if_icmp .eq 10, 3) := by decide +kernel
theorem dX17_takeFlow_17 : decode cX17_takeFlow 17 = .ok (.aload_n 0, 1) := by decide +kernel
theorem dX17_takeFlow_18 : decode cX17_takeFlow 18 = .ok (.getfield 21, 3) := by decide +kernel
theorem dX17_takeFlow_21 : decode cX17_takeFlow 21 = .ok (.iload_n 2, 1) := by decide +kernel
theorem dX17_takeFlow_22 : decode cX17_takeFlow 22 = .ok (.iaload, 1) := by decide +kernel
theorem dX17_takeFlow_23 : decode cX17_takeFlow 23 = .ok (.ireturn, 1) := by decide +kernel
theorem dX17_takeFlow_24 : decode cX17_takeFlow 24 = .ok (.aload_n 0, 1) := by decide +kernel
theorem dX17_takeFlow_25 : decode cX17_takeFlow 25 = .ok (.getfield 92, 3) := by decide +kernel
theorem dX17_takeFlow_28 : decode cX17_takeFlow 28 = .ok (.iload_n 1, 1) := by decide +kernel
theorem dX17_takeFlow_29 : decode cX17_takeFlow 29 = .ok (.iaload, 1) := by decide +kernel
theorem dX17_takeFlow_30 : decode cX17_takeFlow 30 = .ok (.istore_n 3, 1) := by decide +kernel
theorem dX17_takeFlow_31 : decode cX17_takeFlow 31 = .ok (.aload_n 0, 1) := by decide +kernel
theorem dX17_takeFlow_32 : decode cX17_takeFlow 32 = .ok (.getfield 86, 3) := by decide +kernel
theorem dX17_takeFlow_35 : decode cX17_takeFlow 35 = .ok (.iload_n 1, 1) := by decide +kernel
theorem dX17_takeFlow_36 : decode cX17_takeFlow 36 = .ok (.iaload, 1) := by decide +kernel
theorem dX17_takeFlow_37 : decode cX17_takeFlow 37 = .ok (.ifCond .ne 84, 3) := by decide +kernel
theorem dX17_takeFlow_40 : decode cX17_takeFlow 40 = .ok (.aload_n 0, 1) := by decide +kernel
theorem dX17_takeFlow_41 : decode cX17_takeFlow 41 = .ok (.getfield 21, 3) := by decide +kernel
theorem dX17_takeFlow_44 : decode cX17_takeFlow 44 = .ok (.iload_n 2, 1) := by decide +kernel
theorem dX17_takeFlow_45 : decode cX17_takeFlow 45 = .ok (.iconst 2, 1) := by decide +kernel
theorem dX17_takeFlow_46 : decode cX17_takeFlow 46 = .ok (.iastore, 1) := by decide +kernel
theorem dX17_takeFlow_47 : decode cX17_takeFlow 47 = .ok (.aload_n 0, 1) := by decide +kernel
theorem dX17_takeFlow_48 : decode cX17_takeFlow 48 = .ok (.getfield 30, 3) := by decide +kernel
theorem dX17_takeFlow_51 : decode cX17_takeFlow 51 = .ok (.iload_n 2, 1) := by decide +kernel
theorem dX17_takeFlow_52 : decode cX17_takeFlow 52 = .ok (.aload_n 0, 1) := by decide +kernel
theorem dX17_takeFlow_53 : decode cX17_takeFlow 53 = .ok (.getfield 89, 3) := by decide +kernel
theorem dX17_takeFlow_56 : decode cX17_takeFlow 56 = .ok (.iload_n 1, 1) := by decide +kernel
theorem dX17_takeFlow_57 : decode cX17_takeFlow 57 = .ok (.iaload, 1) := by decide +kernel
theorem dX17_takeFlow_58 : decode cX17_takeFlow 58 = .ok (.iastore, 1) := by decide +kernel
theorem dX17_takeFlow_59 : decode cX17_takeFlow 59 = .ok (.aload_n 0, 1) := by decide +kernel
theorem dX17_takeFlow_60 : decode cX17_takeFlow 60 = .ok (.getfield 33, 3) := by decide +kernel
theorem dX17_takeFlow_63 : decode cX17_takeFlow 63 = .ok (.iload_n 2, 1) := by decide +kernel
theorem dX17_takeFlow_64 : decode cX17_takeFlow 64 = .ok (.aload_n 0, 1) := by decide +kernel
theorem dX17_takeFlow_65 : decode cX17_takeFlow 65 = .ok (.getfield 89, 3) := by decide +kernel
theorem dX17_takeFlow_68 : decode cX17_takeFlow 68 = .ok (.iload_n 1, 1) := by decide +kernel
theorem dX17_takeFlow_69 : decode cX17_takeFlow 69 = .ok (.iaload, 1) := by decide +kernel
theorem dX17_takeFlow_70 : decode cX17_takeFlow 70 = .ok (.iastore, 1) := by decide +kernel
theorem dX17_takeFlow_71 : decode cX17_takeFlow 71 = .ok (.aload_n 0, 1) := by decide +kernel
theorem dX17_takeFlow_72 : decode cX17_takeFlow 72 = .ok (.getfield 36, 3) := by decide +kernel
theorem dX17_takeFlow_75 : decode cX17_takeFlow 75 = .ok (.iload_n 2, 1) := by decide +kernel
theorem dX17_takeFlow_76 : decode cX17_takeFlow 76 = .ok (.iload_n 3, 1) := by decide +kernel
theorem dX17_takeFlow_77 : decode cX17_takeFlow 77 = .ok (.sipush 128, 3) := by decide +kernel
theorem dX17_takeFlow_80 : decode cX17_takeFlow 80 = .ok (.if_icmp .ge 7, 3) := by decide +kernel
theorem dX17_takeFlow_83 : decode cX17_takeFlow 83 = .ok (.iload_n 3, 1) := by decide +kernel
theorem dX17_takeFlow_84 : decode cX17_takeFlow 84 = .ok (.goto 23, 3) := by decide +kernel
theorem dX17_takeFlow_87 : decode cX17_takeFlow 87 = .ok (.iload_n 3, 1) := by decide +kernel
theorem dX17_takeFlow_88 : decode cX17_takeFlow 88 = .ok (.sipush 241, 3) := by decide +kernel
theorem dX17_takeFlow_91 : decode cX17_takeFlow 91 = .ok (.if_icmp .lt 14, 3) := by decide +kernel
theorem dX17_takeFlow_94 : decode cX17_takeFlow 94 = .ok (.iload_n 3, 1) := by decide +kernel
theorem dX17_takeFlow_95 : decode cX17_takeFlow 95 = .ok (.sipush 249, 3) := by decide +kernel
theorem dX17_takeFlow_98 : decode cX17_takeFlow 98 = .ok (.if_icmp .gt 7, 3) := by decide +kernel
theorem dX17_takeFlow_101 : decode cX17_takeFlow 101 = .ok (.iconst 1, 1) := by decide +kernel
theorem dX17_takeFlow_102 : decode cX17_takeFlow 102 = .ok (.goto 5, 3) := by decide +kernel
theorem dX17_takeFlow_105 : decode cX17_takeFlow 105 = .ok (.bipush 127, 2) := by decide +kernel
theorem dX17_takeFlow_107 : decode cX17_takeFlow 107 = .ok (.iastore, 1) := by decide +kernel
theorem dX17_takeFlow_108 : decode cX17_takeFlow 108 = .ok (.aload_n 0, 1) := by decide +kernel
theorem dX17_takeFlow_109 : decode cX17_takeFlow 109 = .ok (.getfield 46, 3) := by decide +kernel
theorem dX17_takeFlow_112 : decode cX17_takeFlow 112 = .ok (.iload_n 2, 1) := by decide +kernel
theorem dX17_takeFlow_113 : decode cX17_takeFlow 113 = .ok (.aload_n 0, 1) := by decide +kernel
theorem dX17_takeFlow_114 : decode cX17_takeFlow 114 = .ok (.getfield 118, 3) := by decide +kernel
theorem dX17_takeFlow_117 : decode cX17_takeFlow 117 = .ok (.lastore, 1) := by decide +kernel
theorem dX17_takeFlow_118 : decode cX17_takeFlow 118 = .ok (.goto 61, 3) := by decide +kernel
theorem dX17_takeFlow_121 : decode cX17_takeFlow 121 = .ok (.aload_n 0, 1) := by decide +kernel
theorem dX17_takeFlow_122 : decode cX17_takeFlow 122 = .ok (.getfield 86, 3) := by decide +kernel
theorem dX17_takeFlow_125 : decode cX17_takeFlow 125 = .ok (.iload_n 1, 1) := by decide +kernel
theorem dX17_takeFlow_126 : decode cX17_takeFlow 126 = .ok (.iaload, 1) := by decide +kernel
theorem dX17_takeFlow_127 : decode cX17_takeFlow 127 = .ok (.iconst 1, 1) := by decide +kernel
theorem dX17_takeFlow_128 : decode cX17_takeFlow 128 = .ok (.if_icmp .ne 45, 3) := by decide +kernel
theorem dX17_takeFlow_131 : decode cX17_takeFlow 131 = .ok (.aload_n 0, 1) := by decide +kernel
theorem dX17_takeFlow_132 : decode cX17_takeFlow 132 = .ok (.getfield 39, 3) := by decide +kernel
theorem dX17_takeFlow_135 : decode cX17_takeFlow 135 = .ok (.iload_n 2, 1) := by decide +kernel
theorem dX17_takeFlow_136 : decode cX17_takeFlow 136 = .ok (.dup2, 1) := by decide +kernel
theorem dX17_takeFlow_137 : decode cX17_takeFlow 137 = .ok (.iaload, 1) := by decide +kernel
theorem dX17_takeFlow_138 : decode cX17_takeFlow 138 = .ok (.iconst 1, 1) := by decide +kernel
theorem dX17_takeFlow_139 : decode cX17_takeFlow 139 = .ok (.iadd, 1) := by decide +kernel
theorem dX17_takeFlow_140 : decode cX17_takeFlow 140 = .ok (.iastore, 1) := by decide +kernel
theorem dX17_takeFlow_141 : decode cX17_takeFlow 141 = .ok (.aload_n 0, 1) := by decide +kernel
theorem dX17_takeFlow_142 : decode cX17_takeFlow 142 = .ok (.getfield 42, 3) := by decide +kernel
theorem dX17_takeFlow_145 : decode cX17_takeFlow 145 = .ok (.iload_n 2, 1) := by decide +kernel
theorem dX17_takeFlow_146 : decode cX17_takeFlow 146 = .ok (.aload_n 0, 1) := by decide +kernel
theorem dX17_takeFlow_147 : decode cX17_takeFlow 147 = .ok (.getfield 118, 3) := by decide +kernel
theorem dX17_takeFlow_150 : decode cX17_takeFlow 150 = .ok (.lastore, 1) := by decide +kernel
theorem dX17_takeFlow_151 : decode cX17_takeFlow 151 = .ok (.aload_n 0, 1) := by decide +kernel
theorem dX17_takeFlow_152 : decode cX17_takeFlow 152 = .ok (.getfield 39, 3) := by decide +kernel
theorem dX17_takeFlow_155 : decode cX17_takeFlow 155 = .ok (.iload_n 2, 1) := by decide +kernel
theorem dX17_takeFlow_156 : decode cX17_takeFlow 156 = .ok (.iaload, 1) := by decide +kernel
theorem dX17_takeFlow_157 : decode cX17_takeFlow 157 = .ok (.aload_n 0, 1) := by decide +kernel
theorem dX17_takeFlow_158 : decode cX17_takeFlow 158 = .ok (.getfield 105, 3) := by decide +kernel
theorem dX17_takeFlow_161 : decode cX17_takeFlow 161 = .ok (.if_icmp .le 18, 3) := by decide +kernel
theorem dX17_takeFlow_164 : decode cX17_takeFlow 164 = .ok (.aload_n 0, 1) := by decide +kernel
theorem dX17_takeFlow_165 : decode cX17_takeFlow 165 = .ok (.iload_n 2, 1) := by decide +kernel
theorem dX17_takeFlow_166 : decode cX17_takeFlow 166 = .ok (.iconst 5, 1) := by decide +kernel
theorem dX17_takeFlow_167 : decode cX17_takeFlow 167 = .ok (.invokevirtual 159, 3) := by decide +kernel
theorem dX17_takeFlow_170 : decode cX17_takeFlow 170 = .ok (.goto 9, 3) := by decide +kernel
theorem dX17_takeFlow_173 : decode cX17_takeFlow 173 = .ok (.aload_n 0, 1) := by decide +kernel
theorem dX17_takeFlow_174 : decode cX17_takeFlow 174 = .ok (.iload_n 2, 1) := by decide +kernel
theorem dX17_takeFlow_175 : decode cX17_takeFlow 175 = .ok (.iconst 4, 1) := by decide +kernel
theorem dX17_takeFlow_176 : decode cX17_takeFlow 176 = .ok (.invokevirtual 159, 3) := by decide +kernel
theorem dX17_takeFlow_179 : decode cX17_takeFlow 179 = .ok (.aload_n 0, 1) := by decide +kernel
theorem dX17_takeFlow_180 : decode cX17_takeFlow 180 = .ok (.getfield 21, 3) := by decide +kernel
theorem dX17_takeFlow_183 : decode cX17_takeFlow 183 = .ok (.iload_n 2, 1) := by decide +kernel
theorem dX17_takeFlow_184 : decode cX17_takeFlow 184 = .ok (.iaload, 1) := by decide +kernel
theorem dX17_takeFlow_185 : decode cX17_takeFlow 185 = .ok (.ireturn, 1) := by decide +kernel
theorem cwX17_takeFlow : mw_cwV yX17_takeFlow cX17_takeFlow 4 ((some .int)) 1 := ⟨⟨wd_17, wd_3939, by decide +kernel⟩, wd_3938, sl_292⟩
set_option maxHeartbeats 4000000 in
set_option maxRecDepth 100000 in
theorem tX17_takeFlow (l : Launch) (G : mwG) (ad : Nat → Nat) (fu : Nat) (a1 : Int32) (M : mwM) (L : mwL) {r0 : Int32} {M0 : mwM} {L0 : mwL} (hD : DX17_takeFlow fu a1 M L = some (r0, M0, L0)) : Met l yX17_takeFlow (Cond.code yX17_takeFlow cX17_takeFlow 4 ((some .int)) :: GT) ({ frames := 1, cells := 0, slots := 0, locals := 22 }) (mw_Pre G ad NF TF FF M L [.ref (ad 869), .int a1]) (mw_Qi G ad NF TF FF (mw_eqI r0 M0 L0)) 0 0 (mw_fr G) := by
  refine mw_enter (by decide) (Nat.le_of_ble_eq_true rfl) ?_
  intro p e s m below meth c ls C hr hlocks hnm hw hl
  have hl : lv_has ls 4 [(0, .ref (ad 869)), (1, .int a1)] := hl
  have hb179 : ∀ (v2 : Int32) (M : mwM) (L : mwL) (H : Heap) (locs : List Loc) (ls : Array Slot), fX17_takeFlow_b179 fu a1 v2 M L = some (r0, M0, L0) → mw_W G ad NF TF FF M L H locs → lv_has ls 4 [(0, .ref (ad 869)), (2, .int v2)] → W p l e ({ frames := 1, cells := 0, slots := 0, locals := 22 }) s m [.ref (ad 869), .int a1].toArray below meth c H locs 0 0 (MQ below (mw_Qi G ad NF TF FF (mw_eqI r0 M0 L0)) [.ref (ad 869), .int a1].toArray s 0 0 (mw_fr G)) (F0 m 179 ls []) := by
    intro v2 M L H locs ls hD hw hl
    unfold fX17_takeFlow_b179 at hD
    refine lv_aload_n C.1.1 C.1.2.1 dX17_takeFlow_179 rfl (lv_at hl 0 rfl) ?_
    refine mr_getR C hw kc_17 7 (by decide) tf_869 ff_869_7 wd_2338 dX17_takeFlow_180 (by decide) rfl ?_
    refine lv_iload_n C.1.1 C.1.2.1 dX17_takeFlow_183 rfl (lv_at hl 1 rfl) ?_
    obtain ⟨q5, hD⟩ := g_ck hD
    refine mr_iald C hw (by decide) tf_873 q5 dX17_takeFlow_184 ?_
    exact mr_iret C hr hlocks hw rfl (Option.some.inj hD) dX17_takeFlow_185
  have hb107 : ∀ (v2 : Int32) (s1 : Int32) (s2 : Int32) (M : mwM) (L : mwL) (H : Heap) (locs : List Loc) (ls : Array Slot), fX17_takeFlow_b107 fu a1 v2 s1 s2 M L = some (r0, M0, L0) → mw_W G ad NF TF FF M L H locs → lv_has ls 4 [(0, .ref (ad 869)), (2, .int v2)] → W p l e ({ frames := 1, cells := 0, slots := 0, locals := 22 }) s m [.ref (ad 869), .int a1].toArray below meth c H locs 0 0 (MQ below (mw_Qi G ad NF TF FF (mw_eqI r0 M0 L0)) [.ref (ad 869), .int a1].toArray s 0 0 (mw_fr G)) (F0 m 107 ls [.int s2, .int s1, .ref (ad 878)]) := by
    intro v2 s1 s2 M L H locs ls hD hw hl
    unfold fX17_takeFlow_b107 at hD
    obtain ⟨q1, hD⟩ := g_ck hD
    obtain ⟨M2, eM2, hD⟩ := g_let hD
    refine mr_iast C hw (by decide) tf_878 q1 dX17_takeFlow_107 (fun H locs hw => ?_)
    replace hw : mw_W G ad NF TF FF M2 L H locs := by rw [eM2]; exact hw
    refine lv_aload_n C.1.1 C.1.2.1 dX17_takeFlow_108 rfl (lv_at hl 0 rfl) ?_
    refine mr_getR C hw kc_17 15 (by decide) tf_869 ff_869_15 wd_2346 dX17_takeFlow_109 (by decide) rfl ?_
    refine lv_iload_n C.1.1 C.1.2.1 dX17_takeFlow_112 rfl (lv_at hl 1 rfl) ?_
    refine lv_aload_n C.1.1 C.1.2.1 dX17_takeFlow_113 rfl (lv_at hl 0 rfl) ?_
    refine mr_getL C hw kc_17 2 (by decide) tf_869 wd_2333 dX17_takeFlow_114 (by decide) rfl ?_
    obtain ⟨q3, hD⟩ := g_ck hD
    obtain ⟨L4, eL4, hD⟩ := g_let hD
    refine mr_last C hw (by decide) tf_881 q3 dX17_takeFlow_117 (fun H locs hw => ?_)
    replace hw : mw_W G ad NF TF FF M2 L4 H locs := by rw [eL4]; exact hw
    refine lv_goto (tgt := 179) C.1.1 C.1.2.1 dX17_takeFlow_118 (by decide) ?_
    exact hb179 v2 M2 L4 _ _ ls hD hw (lv_sub hl [0, 1] rfl)
  have hb105 : ∀ (v2 : Int32) (s1 : Int32) (M : mwM) (L : mwL) (H : Heap) (locs : List Loc) (ls : Array Slot), fX17_takeFlow_b105 fu a1 v2 s1 M L = some (r0, M0, L0) → mw_W G ad NF TF FF M L H locs → lv_has ls 4 [(0, .ref (ad 869)), (2, .int v2)] → W p l e ({ frames := 1, cells := 0, slots := 0, locals := 22 }) s m [.ref (ad 869), .int a1].toArray below meth c H locs 0 0 (MQ below (mw_Qi G ad NF TF FF (mw_eqI r0 M0 L0)) [.ref (ad 869), .int a1].toArray s 0 0 (mw_fr G)) (F0 m 105 ls [.int s1, .ref (ad 878)]) := by
    intro v2 s1 M L H locs ls hD hw hl
    unfold fX17_takeFlow_b105 at hD
    refine lv_bipush (v := 127) C.1.1 C.1.2.1 dX17_takeFlow_105 (by decide) ?_
    exact hb107 v2 s1 127 M L _ _ ls hD hw (lv_sub hl [0, 1] rfl)
  unfold DX17_takeFlow at hD
  refine lv_aload_n C.1.1 C.1.2.1 dX17_takeFlow_0 rfl (lv_at hl 0 rfl) ?_
  refine mr_getR C hw kc_17 28 (by decide) tf_869 ff_869_28 wd_2359 dX17_takeFlow_1 (by decide) rfl ?_
  refine lv_iload_n C.1.1 C.1.2.1 dX17_takeFlow_4 rfl (lv_at hl 1 rfl) ?_
  obtain ⟨q6, hD⟩ := g_ck hD
  refine mr_iald C hw (by decide) tf_893 q6 dX17_takeFlow_5 ?_
  obtain ⟨x7, ex7, hD⟩ := g_let hD
  refine W.eq (g2 := F0 m 6 ls (.int x7 :: [])) (by rw [ex7]) ?_
  refine lv_istore_n (lv' := [(2, .int x7), (0, .ref (ad 869)), (1, .int a1)]) C.1.1 C.1.2.1 dX17_takeFlow_6 rfl hl (by decide) rfl (fun ls hl => ?_)
  refine lv_aload_n C.1.1 C.1.2.1 dX17_takeFlow_7 rfl (lv_at hl 1 rfl) ?_
  refine mr_getR C hw kc_17 7 (by decide) tf_869 ff_869_7 wd_2338 dX17_takeFlow_8 (by decide) rfl ?_
  refine lv_iload_n C.1.1 C.1.2.1 dX17_takeFlow_11 rfl (lv_at hl 0 rfl) ?_
  obtain ⟨q8, hD⟩ := g_ck hD
  refine mr_iald C hw (by decide) tf_873 q8 dX17_takeFlow_12 ?_
  refine lv_iconst (v := 1) C.1.1 C.1.2.1 dX17_takeFlow_13 (by decide) ?_
  refine lv_icmp_eq (tgt := 24) C.1.1 C.1.2.1 dX17_takeFlow_14 (by decide) (fun c9 => ?_) (fun c9 => ?_)
  · replace hD := g_pos c9 hD
    refine lv_aload_n C.1.1 C.1.2.1 dX17_takeFlow_24 rfl (lv_at hl 1 rfl) ?_
    refine mr_getR C hw kc_17 31 (by decide) tf_869 ff_869_31 wd_2362 dX17_takeFlow_25 (by decide) rfl ?_
    refine lv_iload_n C.1.1 C.1.2.1 dX17_takeFlow_28 rfl (lv_at hl 2 rfl) ?_
    obtain ⟨q10, hD⟩ := g_ck hD
    refine mr_iald C hw (by decide) tf_896 q10 dX17_takeFlow_29 ?_
    obtain ⟨x11, ex11, hD⟩ := g_let hD
    refine W.eq (g2 := F0 m 30 ls (.int x11 :: [])) (by rw [ex11]) ?_
    refine lv_istore_n (lv' := [(3, .int x11), (2, .int x7), (0, .ref (ad 869)), (1, .int a1)]) C.1.1 C.1.2.1 dX17_takeFlow_30 rfl hl (by decide) rfl (fun ls hl => ?_)
    refine lv_aload_n C.1.1 C.1.2.1 dX17_takeFlow_31 rfl (lv_at hl 2 rfl) ?_
    refine mr_getR C hw kc_17 29 (by decide) tf_869 ff_869_29 wd_2360 dX17_takeFlow_32 (by decide) rfl ?_
    refine lv_iload_n C.1.1 C.1.2.1 dX17_takeFlow_35 rfl (lv_at hl 3 rfl) ?_
    obtain ⟨q12, hD⟩ := g_ck hD
    refine mr_iald C hw (by decide) tf_894 q12 dX17_takeFlow_36 ?_
    refine lv_if_ne (tgt := 121) C.1.1 C.1.2.1 dX17_takeFlow_37 (by decide) (fun c13 => ?_) (fun c13 => ?_)
    · replace hD := g_neg c13 hD
      refine lv_aload_n C.1.1 C.1.2.1 dX17_takeFlow_121 rfl (lv_at hl 2 rfl) ?_
      refine mr_getR C hw kc_17 29 (by decide) tf_869 ff_869_29 wd_2360 dX17_takeFlow_122 (by decide) rfl ?_
      refine lv_iload_n C.1.1 C.1.2.1 dX17_takeFlow_125 rfl (lv_at hl 3 rfl) ?_
      obtain ⟨q14, hD⟩ := g_ck hD
      refine mr_iald C hw (by decide) tf_894 q14 dX17_takeFlow_126 ?_
      refine lv_iconst (v := 1) C.1.1 C.1.2.1 dX17_takeFlow_127 (by decide) ?_
      refine lv_icmp_ne (tgt := 173) C.1.1 C.1.2.1 dX17_takeFlow_128 (by decide) (fun c15 => ?_) (fun c15 => ?_)
      · replace hD := g_neg c15 hD
        refine lv_aload_n C.1.1 C.1.2.1 dX17_takeFlow_173 rfl (lv_at hl 2 rfl) ?_
        refine lv_iload_n C.1.1 C.1.2.1 dX17_takeFlow_174 rfl (lv_at hl 1 rfl) ?_
        refine lv_iconst (v := 4) C.1.1 C.1.2.1 dX17_takeFlow_175 (by decide) ?_
        obtain ⟨M16, L17, h1, hD⟩ := g_b2 hD
        refine md_cvV (As := [.int x7, .int 4]) (rest := []) C hw (tX17_endSender l G ad fu x7 4 M L h1) kc_17 (by decide) tf_869 wd_3940 cwX17_endSender ⟨Nat.le_of_ble_eq_true rfl, Nat.le_of_ble_eq_true rfl⟩ rfl hl.1 (Nat.le_of_ble_eq_true rfl) dX17_takeFlow_176 rfl rfl ⟨Nat.zero_le _, Nat.zero_le _⟩ rfl (fun H locs hw => ?_)
        exact hb179 x7 M16 L17 _ _ ls hD hw (lv_sub hl [2, 1] rfl)
      · replace hD := g_pos c15 hD
        refine lv_aload_n C.1.1 C.1.2.1 dX17_takeFlow_131 rfl (lv_at hl 2 rfl) ?_
        refine mr_getR C hw kc_17 13 (by decide) tf_869 ff_869_13 wd_2344 dX17_takeFlow_132 (by decide) rfl ?_
        refine lv_iload_n C.1.1 C.1.2.1 dX17_takeFlow_135 rfl (lv_at hl 1 rfl) ?_
        refine lv_dup2_11 C.1.1 C.1.2.1 dX17_takeFlow_136 rfl rfl ?_
        obtain ⟨q18, hD⟩ := g_ck hD
        refine mr_iald C hw (by decide) tf_879 q18 dX17_takeFlow_137 ?_
        refine lv_iconst (v := 1) C.1.1 C.1.2.1 dX17_takeFlow_138 (by decide) ?_
        refine lv_iadd C.1.1 C.1.2.1 dX17_takeFlow_139 ?_
        obtain ⟨q19, hD⟩ := g_ck hD
        obtain ⟨M20, eM20, hD⟩ := g_let hD
        refine mr_iast C hw (by decide) tf_879 q19 dX17_takeFlow_140 (fun H locs hw => ?_)
        replace hw : mw_W G ad NF TF FF M20 L H locs := by rw [eM20]; exact hw
        refine lv_aload_n C.1.1 C.1.2.1 dX17_takeFlow_141 rfl (lv_at hl 2 rfl) ?_
        refine mr_getR C hw kc_17 14 (by decide) tf_869 ff_869_14 wd_2345 dX17_takeFlow_142 (by decide) rfl ?_
        refine lv_iload_n C.1.1 C.1.2.1 dX17_takeFlow_145 rfl (lv_at hl 1 rfl) ?_
        refine lv_aload_n C.1.1 C.1.2.1 dX17_takeFlow_146 rfl (lv_at hl 2 rfl) ?_
        refine mr_getL C hw kc_17 2 (by decide) tf_869 wd_2333 dX17_takeFlow_147 (by decide) rfl ?_
        obtain ⟨q21, hD⟩ := g_ck hD
        obtain ⟨L22, eL22, hD⟩ := g_let hD
        refine mr_last C hw (by decide) tf_880 q21 dX17_takeFlow_150 (fun H locs hw => ?_)
        replace hw : mw_W G ad NF TF FF M20 L22 H locs := by rw [eL22]; exact hw
        refine lv_aload_n C.1.1 C.1.2.1 dX17_takeFlow_151 rfl (lv_at hl 2 rfl) ?_
        refine mr_getR C hw kc_17 13 (by decide) tf_869 ff_869_13 wd_2344 dX17_takeFlow_152 (by decide) rfl ?_
        refine lv_iload_n C.1.1 C.1.2.1 dX17_takeFlow_155 rfl (lv_at hl 1 rfl) ?_
        obtain ⟨q23, hD⟩ := g_ck hD
        refine mr_iald C hw (by decide) tf_879 q23 dX17_takeFlow_156 ?_
        refine lv_aload_n C.1.1 C.1.2.1 dX17_takeFlow_157 rfl (lv_at hl 2 rfl) ?_
        refine mr_getI C hw kc_17 38 (by decide) tf_869 wd_2369 dX17_takeFlow_158 (by decide) rfl ?_
        refine lv_icmp_le (tgt := 179) C.1.1 C.1.2.1 dX17_takeFlow_161 (by decide) (fun c24 => ?_) (fun c24 => ?_)
        · replace hD := g_pos c24 hD
          exact hb179 x7 M20 L22 _ _ ls hD hw (lv_sub hl [2, 1] rfl)
        · replace hD := g_neg c24 hD
          refine lv_aload_n C.1.1 C.1.2.1 dX17_takeFlow_164 rfl (lv_at hl 2 rfl) ?_
          refine lv_iload_n C.1.1 C.1.2.1 dX17_takeFlow_165 rfl (lv_at hl 1 rfl) ?_
          refine lv_iconst (v := 5) C.1.1 C.1.2.1 dX17_takeFlow_166 (by decide) ?_
          obtain ⟨M25, L26, h1, hD⟩ := g_b2 hD
          refine md_cvV (As := [.int x7, .int 5]) (rest := []) C hw (tX17_endSender l G ad fu x7 5 M20 L22 h1) kc_17 (by decide) tf_869 wd_3940 cwX17_endSender ⟨Nat.le_of_ble_eq_true rfl, Nat.le_of_ble_eq_true rfl⟩ rfl hl.1 (Nat.le_of_ble_eq_true rfl) dX17_takeFlow_167 rfl rfl ⟨Nat.zero_le _, Nat.zero_le _⟩ rfl (fun H locs hw => ?_)
          refine lv_goto (tgt := 179) C.1.1 C.1.2.1 dX17_takeFlow_170 (by decide) ?_
          exact hb179 x7 M25 L26 _ _ ls hD hw (lv_sub hl [2, 1] rfl)
    · replace hD := g_pos c13 hD
      refine lv_aload_n C.1.1 C.1.2.1 dX17_takeFlow_40 rfl (lv_at hl 2 rfl) ?_
      refine mr_getR C hw kc_17 7 (by decide) tf_869 ff_869_7 wd_2338 dX17_takeFlow_41 (by decide) rfl ?_
      refine lv_iload_n C.1.1 C.1.2.1 dX17_takeFlow_44 rfl (lv_at hl 1 rfl) ?_
      refine lv_iconst (v := 2) C.1.1 C.1.2.1 dX17_takeFlow_45 (by decide) ?_
      obtain ⟨q27, hD⟩ := g_ck hD
      obtain ⟨M28, eM28, hD⟩ := g_let hD
      refine mr_iast C hw (by decide) tf_873 q27 dX17_takeFlow_46 (fun H locs hw => ?_)
      replace hw : mw_W G ad NF TF FF M28 L H locs := by rw [eM28]; exact hw
      refine lv_aload_n C.1.1 C.1.2.1 dX17_takeFlow_47 rfl (lv_at hl 2 rfl) ?_
      refine mr_getR C hw kc_17 10 (by decide) tf_869 ff_869_10 wd_2341 dX17_takeFlow_48 (by decide) rfl ?_
      refine lv_iload_n C.1.1 C.1.2.1 dX17_takeFlow_51 rfl (lv_at hl 1 rfl) ?_
      refine lv_aload_n C.1.1 C.1.2.1 dX17_takeFlow_52 rfl (lv_at hl 2 rfl) ?_
      refine mr_getR C hw kc_17 30 (by decide) tf_869 ff_869_30 wd_2361 dX17_takeFlow_53 (by decide) rfl ?_
      refine lv_iload_n C.1.1 C.1.2.1 dX17_takeFlow_56 rfl (lv_at hl 3 rfl) ?_
      obtain ⟨q29, hD⟩ := g_ck hD
      refine mr_iald C hw (by decide) tf_895 q29 dX17_takeFlow_57 ?_
      obtain ⟨q30, hD⟩ := g_ck hD
      obtain ⟨M31, eM31, hD⟩ := g_let hD
      refine mr_iast C hw (by decide) tf_876 q30 dX17_takeFlow_58 (fun H locs hw => ?_)
      replace hw : mw_W G ad NF TF FF M31 L H locs := by rw [eM31]; exact hw
      refine lv_aload_n C.1.1 C.1.2.1 dX17_takeFlow_59 rfl (lv_at hl 2 rfl) ?_
      refine mr_getR C hw kc_17 11 (by decide) tf_869 ff_869_11 wd_2342 dX17_takeFlow_60 (by decide) rfl ?_
      refine lv_iload_n C.1.1 C.1.2.1 dX17_takeFlow_63 rfl (lv_at hl 1 rfl) ?_
      refine lv_aload_n C.1.1 C.1.2.1 dX17_takeFlow_64 rfl (lv_at hl 2 rfl) ?_
      refine mr_getR C hw kc_17 30 (by decide) tf_869 ff_869_30 wd_2361 dX17_takeFlow_65 (by decide) rfl ?_
      refine lv_iload_n C.1.1 C.1.2.1 dX17_takeFlow_68 rfl (lv_at hl 3 rfl) ?_
      obtain ⟨q32, hD⟩ := g_ck hD
      refine mr_iald C hw (by decide) tf_895 q32 dX17_takeFlow_69 ?_
      obtain ⟨q33, hD⟩ := g_ck hD
      obtain ⟨M34, eM34, hD⟩ := g_let hD
      refine mr_iast C hw (by decide) tf_877 q33 dX17_takeFlow_70 (fun H locs hw => ?_)
      replace hw : mw_W G ad NF TF FF M34 L H locs := by rw [eM34]; exact hw
      refine lv_aload_n C.1.1 C.1.2.1 dX17_takeFlow_71 rfl (lv_at hl 2 rfl) ?_
      refine mr_getR C hw kc_17 12 (by decide) tf_869 ff_869_12 wd_2343 dX17_takeFlow_72 (by decide) rfl ?_
      refine lv_iload_n C.1.1 C.1.2.1 dX17_takeFlow_75 rfl (lv_at hl 1 rfl) ?_
      refine lv_iload_n C.1.1 C.1.2.1 dX17_takeFlow_76 rfl (lv_at hl 0 rfl) ?_
      refine lv_sipush (v := 128) C.1.1 C.1.2.1 dX17_takeFlow_77 (by decide) ?_
      refine lv_icmp_ge (tgt := 87) C.1.1 C.1.2.1 dX17_takeFlow_80 (by decide) (fun c35 => ?_) (fun c35 => ?_)
      · replace hD := g_pos c35 hD
        refine lv_iload_n C.1.1 C.1.2.1 dX17_takeFlow_87 rfl (lv_at hl 0 rfl) ?_
        refine lv_sipush (v := 241) C.1.1 C.1.2.1 dX17_takeFlow_88 (by decide) ?_
        refine lv_icmp_lt (tgt := 105) C.1.1 C.1.2.1 dX17_takeFlow_91 (by decide) (fun c36 => ?_) (fun c36 => ?_)
        · replace hD := g_pos c36 hD
          exact hb105 x7 x7 M34 L _ _ ls hD hw (lv_sub hl [2, 1] rfl)
        · replace hD := g_neg c36 hD
          refine lv_iload_n C.1.1 C.1.2.1 dX17_takeFlow_94 rfl (lv_at hl 0 rfl) ?_
          refine lv_sipush (v := 249) C.1.1 C.1.2.1 dX17_takeFlow_95 (by decide) ?_
          refine lv_icmp_gt (tgt := 105) C.1.1 C.1.2.1 dX17_takeFlow_98 (by decide) (fun c37 => ?_) (fun c37 => ?_)
          · replace hD := g_pos c37 hD
            exact hb105 x7 x7 M34 L _ _ ls hD hw (lv_sub hl [2, 1] rfl)
          · replace hD := g_neg c37 hD
            refine lv_iconst (v := 1) C.1.1 C.1.2.1 dX17_takeFlow_101 (by decide) ?_
            refine lv_goto (tgt := 107) C.1.1 C.1.2.1 dX17_takeFlow_102 (by decide) ?_
            exact hb107 x7 x7 1 M34 L _ _ ls hD hw (lv_sub hl [2, 1] rfl)
      · replace hD := g_neg c35 hD
        refine lv_iload_n C.1.1 C.1.2.1 dX17_takeFlow_83 rfl (lv_at hl 0 rfl) ?_
        refine lv_goto (tgt := 107) C.1.1 C.1.2.1 dX17_takeFlow_84 (by decide) ?_
        exact hb107 x7 x7 x11 M34 L _ _ ls hD hw (lv_sub hl [2, 1] rfl)
  · replace hD := g_neg c9 hD
    refine lv_aload_n C.1.1 C.1.2.1 dX17_takeFlow_17 rfl (lv_at hl 1 rfl) ?_
    refine mr_getR C hw kc_17 7 (by decide) tf_869 ff_869_7 wd_2338 dX17_takeFlow_18 (by decide) rfl ?_
    refine lv_iload_n C.1.1 C.1.2.1 dX17_takeFlow_21 rfl (lv_at hl 0 rfl) ?_
    obtain ⟨q38, hD⟩ := g_ck hD
    refine mr_iald C hw (by decide) tf_873 q38 dX17_takeFlow_22 ?_
    exact mr_iret C hr hlocks hw rfl (Option.some.inj hD) dX17_takeFlow_23

theorem dX17_endReceiver_0 : decode cX17_endReceiver 0 = .ok (.aload_n 0, 1) := by decide +kernel
theorem dX17_endReceiver_1 : decode cX17_endReceiver 1 = .ok (.getfield 49, 3) := by decide +kernel
theorem dX17_endReceiver_4 : decode cX17_endReceiver 4 = .ok (.iload_n 1, 1) := by decide +kernel
theorem dX17_endReceiver_5 : decode cX17_endReceiver 5 = .ok (.iconst 3, 1) := by decide +kernel
theorem dX17_endReceiver_6 : decode cX17_endReceiver 6 = .ok (.iastore, 1) := by decide +kernel
theorem dX17_endReceiver_7 : decode cX17_endReceiver 7 = .ok (.aload_n 0, 1) := by decide +kernel
theorem dX17_endReceiver_8 : decode cX17_endReceiver 8 = .ok (.getfield 112, 3) := by decide +kernel
theorem dX17_endReceiver_11 : decode cX17_endReceiver 11 = .ok (.iload_n 2, 1) := by decide +kernel
theorem dX17_endReceiver_12 : decode cX17_endReceiver 12 = .ok (.dup2, 1) := by decide +kernel
theorem dX17_endReceiver_13 : decode cX17_endReceiver 13 = .ok (.iaload, 1) := by decide +kernel
theorem dX17_endReceiver_14 : decode cX17_endReceiver 14 = .ok (.iconst 1, 1) := by decide +kernel
theorem dX17_endReceiver_15 : decode cX17_endReceiver 15 = .ok (.iadd, 1) := by decide +kernel
theorem dX17_endReceiver_16 : decode cX17_endReceiver 16 = .ok (.iastore, 1) := by decide +kernel
theorem dX17_endReceiver_17 : decode cX17_endReceiver 17 = .ok (.return_, 1) := by decide +kernel
theorem cwX17_endReceiver : mw_cwV yX17_endReceiver cX17_endReceiver 3 (none) 2 := ⟨⟨wd_17, wd_3955, by decide +kernel⟩, wd_3954, sl_296⟩
set_option maxHeartbeats 4000000 in
set_option maxRecDepth 100000 in
theorem tX17_endReceiver (l : Launch) (G : mwG) (ad : Nat → Nat) (fu : Nat) (a1 : Int32) (a2 : Int32) (M : mwM) (L : mwL) {M0 : mwM} {L0 : mwL} (hD : DX17_endReceiver fu a1 a2 M L = some (M0, L0)) : Met l yX17_endReceiver (Cond.code yX17_endReceiver cX17_endReceiver 3 (none) :: GT) ({ frames := 0, cells := 0, slots := 0, locals := 0 }) (mw_Pre G ad NF TF FF M L [.ref (ad 869), .int a1, .int a2]) (mw_Qv G ad NF TF FF (mw_eqV M0 L0)) 0 0 (mw_fr G) := by
  refine mw_enter (by decide) (Nat.le_of_ble_eq_true rfl) ?_
  intro p e s m below meth c ls C hr hlocks hnm hw hl
  have hl : lv_has ls 3 [(0, .ref (ad 869)), (1, .int a1), (2, .int a2)] := hl
  unfold DX17_endReceiver at hD
  refine lv_aload_n C.1.1 C.1.2.1 dX17_endReceiver_0 rfl (lv_at hl 0 rfl) ?_
  refine mr_getR C hw kc_17 16 (by decide) tf_869 ff_869_16 wd_2347 dX17_endReceiver_1 (by decide) rfl ?_
  refine lv_iload_n C.1.1 C.1.2.1 dX17_endReceiver_4 rfl (lv_at hl 1 rfl) ?_
  refine lv_iconst (v := 3) C.1.1 C.1.2.1 dX17_endReceiver_5 (by decide) ?_
  obtain ⟨q1, hD⟩ := g_ck hD
  obtain ⟨M2, eM2, hD⟩ := g_let hD
  refine mr_iast C hw (by decide) tf_882 q1 dX17_endReceiver_6 (fun H locs hw => ?_)
  replace hw : mw_W G ad NF TF FF M2 L H locs := by rw [eM2]; exact hw
  refine lv_aload_n C.1.1 C.1.2.1 dX17_endReceiver_7 rfl (lv_at hl 0 rfl) ?_
  refine mr_getR C hw kc_17 42 (by decide) tf_869 ff_869_42 wd_2373 dX17_endReceiver_8 (by decide) rfl ?_
  refine lv_iload_n C.1.1 C.1.2.1 dX17_endReceiver_11 rfl (lv_at hl 2 rfl) ?_
  refine lv_dup2_11 C.1.1 C.1.2.1 dX17_endReceiver_12 rfl rfl ?_
  obtain ⟨q3, hD⟩ := g_ck hD
  refine mr_iald C hw (by decide) tf_901 q3 dX17_endReceiver_13 ?_
  refine lv_iconst (v := 1) C.1.1 C.1.2.1 dX17_endReceiver_14 (by decide) ?_
  refine lv_iadd C.1.1 C.1.2.1 dX17_endReceiver_15 ?_
  obtain ⟨q4, hD⟩ := g_ck hD
  obtain ⟨M5, eM5, hD⟩ := g_let hD
  refine mr_iast C hw (by decide) tf_901 q4 dX17_endReceiver_16 (fun H locs hw => ?_)
  replace hw : mw_W G ad NF TF FF M5 L H locs := by rw [eM5]; exact hw
  exact mr_vret C hr hlocks hw (Option.some.inj hD) dX17_endReceiver_17

theorem dX17_answer_0 : decode cX17_answer 0 = .ok (.aload_n 0, 1) := by decide +kernel
theorem dX17_answer_1 : decode cX17_answer 1 = .ok (.iconst 3, 1) := by decide +kernel
theorem dX17_answer_2 : decode cX17_answer 2 = .ok (.aload_n 0, 1) := by decide +kernel
theorem dX17_answer_3 : decode cX17_answer 3 = .ok (.getfield 52, 3) := by decide +kernel
theorem dX17_answer_6 : decode cX17_answer 6 = .ok (.iload_n 1, 1) := by decide +kernel
theorem dX17_answer_7 : decode cX17_answer 7 = .ok (.iaload, 1) := by decide +kernel
theorem dX17_answer_8 : decode cX17_answer 8 = .ok (.aload_n 0, 1) := by decide +kernel
theorem dX17_answer_9 : decode cX17_answer 9 = .ok (.getfield 134, 3) := by decide +kernel
theorem dX17_answer_12 : decode cX17_answer 12 = .ok (.aload_n 0, 1) := by decide +kernel
theorem dX17_answer_13 : decode cX17_answer 13 = .ok (.getfield 128, 3) := by decide +kernel
theorem dX17_answer_16 : decode cX17_answer 16 = .ok (.aload_n 0, 1) := by decide +kernel
theorem dX17_answer_17 : decode cX17_answer 17 = .ok (.getfield 131, 3) := by decide +kernel
theorem dX17_answer_20 : decode cX17_answer 20 = .ok (.invokevirtual 151, 3) := by decide +kernel
theorem dX17_answer_23 : decode cX17_answer 23 = .ok (.ifCond .ne 11, 3) := by decide +kernel
theorem dX17_answer_26 : decode cX17_answer 26 = .ok (.aload_n 0, 1) := by decide +kernel
theorem dX17_answer_27 : decode cX17_answer 27 = .ok (.iload_n 1, 1) := by decide +kernel
theorem dX17_answer_28 : decode cX17_answer 28 = .ok (.bipush 7, 2) := by decide +kernel
theorem dX17_answer_30 : decode cX17_answer 30 = .ok (.invokevirtual 163, 3) := by decide +kernel
theorem dX17_answer_33 : decode cX17_answer 33 = .ok (.return_, 1) := by decide +kernel
theorem dX17_answer_34 : decode cX17_answer 34 = .ok (.aload_n 0, 1) := by decide +kernel
theorem dX17_answer_35 : decode cX17_answer 35 = .ok (.getfield 70, 3) := by decide +kernel
theorem dX17_answer_38 : decode cX17_answer 38 = .ok (.iload_n 1, 1) := by decide +kernel
theorem dX17_answer_39 : decode cX17_answer 39 = .ok (.aload_n 0, 1) := by decide +kernel
theorem dX17_answer_40 : decode cX17_answer 40 = .ok (.getfield 118, 3) := by decide +kernel
theorem dX17_answer_43 : decode cX17_answer 43 = .ok (.lastore, 1) := by decide +kernel
theorem dX17_answer_44 : decode cX17_answer 44 = .ok (.aload_n 0, 1) := by decide +kernel
theorem dX17_answer_45 : decode cX17_answer 45 = .ok (.getfield 73, 3) := by decide +kernel
theorem dX17_answer_48 : decode cX17_answer 48 = .ok (.iload_n 1, 1) := by decide +kernel
theorem dX17_answer_49 : decode cX17_answer 49 = .ok (.aload_n 0, 1) := by decide +kernel
theorem dX17_answer_50 : decode cX17_answer 50 = .ok (.getfield 134, 3) := by decide +kernel
theorem dX17_answer_53 : decode cX17_answer 53 = .ok (.iconst 1, 1) := by decide +kernel
theorem dX17_answer_54 : decode cX17_answer 54 = .ok (.if_icmp .ne 7, 3) := by decide +kernel
theorem dX17_answer_57 : decode cX17_answer 57 = .ok (.iconst 1, 1) := by decide +kernel
theorem dX17_answer_58 : decode cX17_answer 58 = .ok (.goto 4, 3) := by decide +kernel
theorem dX17_answer_61 : decode cX17_answer 61 = .ok (.iconst 0, 1) := by decide +kernel
theorem dX17_answer_62 : decode cX17_answer 62 = .ok (.bastore, 1) := by decide +kernel
theorem dX17_answer_63 : decode cX17_answer 63 = .ok (.aload_n 0, 1) := by decide +kernel
theorem dX17_answer_64 : decode cX17_answer 64 = .ok (.getfield 134, 3) := by decide +kernel
theorem dX17_answer_67 : decode cX17_answer 67 = .ok (.ifCond .ne 23, 3) := by decide +kernel
theorem dX17_answer_70 : decode cX17_answer 70 = .ok (.aload_n 0, 1) := by decide +kernel
theorem dX17_answer_71 : decode cX17_answer 71 = .ok (.getfield 64, 3) := by decide +kernel
theorem dX17_answer_74 : decode cX17_answer 74 = .ok (.iload_n 1, 1) := by decide +kernel
theorem dX17_answer_75 : decode cX17_answer 75 = .ok (.aload_n 0, 1) := by decide +kernel
theorem dX17_answer_76 : decode cX17_answer 76 = .ok (.getfield 128, 3) := by decide +kernel
theorem dX17_answer_79 : decode cX17_answer 79 = .ok (.iastore, 1) := by decide +kernel
theorem dX17_answer_80 : decode cX17_answer 80 = .ok (.aload_n 0, 1) := by decide +kernel
theorem dX17_answer_81 : decode cX17_answer 81 = .ok (.getfield 67, 3) := by decide +kernel
theorem dX17_answer_84 : decode cX17_answer 84 = .ok (.iload_n 1, 1) := by decide +kernel
theorem dX17_answer_85 : decode cX17_answer 85 = .ok (.aload_n 0, 1) := by decide +kernel
theorem dX17_answer_86 : decode cX17_answer 86 = .ok (.getfield 128, 3) := by decide +kernel
theorem dX17_answer_89 : decode cX17_answer 89 = .ok (.iastore, 1) := by decide +kernel
theorem dX17_answer_90 : decode cX17_answer 90 = .ok (.aload_n 0, 1) := by decide +kernel
theorem dX17_answer_91 : decode cX17_answer 91 = .ok (.getfield 134, 3) := by decide +kernel
theorem dX17_answer_94 : decode cX17_answer 94 = .ok (.iconst 2, 1) := by decide +kernel
theorem dX17_answer_95 : decode cX17_answer 95 = .ok (.if_icmp .ne 9, 3) := by decide +kernel
theorem dX17_answer_98 : decode cX17_answer 98 = .ok (.aload_n 0, 1) := by decide +kernel
theorem dX17_answer_99 : decode cX17_answer 99 = .ok (.iload_n 1, 1) := by decide +kernel
theorem dX17_answer_100 : decode cX17_answer 100 = .ok (.iconst 4, 1) := by decide +kernel
theorem dX17_answer_101 : decode cX17_answer 101 = .ok (.invokevirtual 163, 3) := by decide +kernel
theorem dX17_answer_104 : decode cX17_answer 104 = .ok (.return_, 1) := by decide +kernel
theorem cwX17_answer : mw_cwV yX17_answer cX17_answer 2 (none) 1 := ⟨⟨wd_17, wd_3967, by decide +kernel⟩, wd_3966, sl_299⟩
set_option maxHeartbeats 4000000 in
set_option maxRecDepth 100000 in
theorem tX17_answer (l : Launch) (G : mwG) (ad : Nat → Nat) (fu : Nat) (a1 : Int32) (M : mwM) (L : mwL) {M0 : mwM} {L0 : mwL} (hD : DX17_answer fu a1 M L = some (M0, L0)) : Met l yX17_answer (Cond.code yX17_answer cX17_answer 2 (none) :: GT) ({ frames := 1, cells := 0, slots := 0, locals := 25 }) (mw_Pre G ad NF TF FF M L [.ref (ad 869), .int a1]) (mw_Qv G ad NF TF FF (mw_eqV M0 L0)) 0 0 (mw_fr G) := by
  refine mw_enter (by decide) (Nat.le_of_ble_eq_true rfl) ?_
  intro p e s m below meth c ls C hr hlocks hnm hw hl
  have hl : lv_has ls 2 [(0, .ref (ad 869)), (1, .int a1)] := hl
  have hb104 : ∀ (M : mwM) (L : mwL) (H : Heap) (locs : List Loc) (ls : Array Slot), fX17_answer_b104 fu a1 M L = some (M0, L0) → mw_W G ad NF TF FF M L H locs → lv_has ls 2 [] → W p l e ({ frames := 1, cells := 0, slots := 0, locals := 25 }) s m [.ref (ad 869), .int a1].toArray below meth c H locs 0 0 (MQ below (mw_Qv G ad NF TF FF (mw_eqV M0 L0)) [.ref (ad 869), .int a1].toArray s 0 0 (mw_fr G)) (F0 m 104 ls []) := by
    intro M L H locs ls hD hw hl
    unfold fX17_answer_b104 at hD
    exact mr_vret C hr hlocks hw (Option.some.inj hD) dX17_answer_104
  have hb90 : ∀ (M : mwM) (L : mwL) (H : Heap) (locs : List Loc) (ls : Array Slot), fX17_answer_b90 fu a1 M L = some (M0, L0) → mw_W G ad NF TF FF M L H locs → lv_has ls 2 [(0, .ref (ad 869)), (1, .int a1)] → W p l e ({ frames := 1, cells := 0, slots := 0, locals := 25 }) s m [.ref (ad 869), .int a1].toArray below meth c H locs 0 0 (MQ below (mw_Qv G ad NF TF FF (mw_eqV M0 L0)) [.ref (ad 869), .int a1].toArray s 0 0 (mw_fr G)) (F0 m 90 ls []) := by
    intro M L H locs ls hD hw hl
    unfold fX17_answer_b90 at hD
    refine lv_aload_n C.1.1 C.1.2.1 dX17_answer_90 rfl (lv_at hl 0 rfl) ?_
    refine mr_getI C hw kc_17 37 (by decide) tf_869 wd_2368 dX17_answer_91 (by decide) rfl ?_
    refine lv_iconst (v := 2) C.1.1 C.1.2.1 dX17_answer_94 (by decide) ?_
    refine lv_icmp_ne (tgt := 104) C.1.1 C.1.2.1 dX17_answer_95 (by decide) (fun c8 => ?_) (fun c8 => ?_)
    · replace hD := g_neg c8 hD
      exact hb104 M L _ _ ls hD hw (lv_sub hl [] rfl)
    · replace hD := g_pos c8 hD
      refine lv_aload_n C.1.1 C.1.2.1 dX17_answer_98 rfl (lv_at hl 0 rfl) ?_
      refine lv_iload_n C.1.1 C.1.2.1 dX17_answer_99 rfl (lv_at hl 1 rfl) ?_
      refine lv_iconst (v := 4) C.1.1 C.1.2.1 dX17_answer_100 (by decide) ?_
      obtain ⟨M9, L10, h1, hD⟩ := g_b2 hD
      refine md_cvV (As := [.int a1, .int 4]) (rest := []) C hw (tX17_endReceiver l G ad fu a1 4 M L h1) kc_17 (by decide) tf_869 wd_3952 cwX17_endReceiver ⟨Nat.le_of_ble_eq_true rfl, Nat.le_of_ble_eq_true rfl⟩ rfl hl.1 (Nat.le_of_ble_eq_true rfl) dX17_answer_101 rfl rfl ⟨Nat.zero_le _, Nat.zero_le _⟩ rfl (fun H locs hw => ?_)
      exact hb104 M9 L10 _ _ ls hD hw (lv_sub hl [] rfl)
  have hb62 : ∀ (s2 : Int32) (M : mwM) (L : mwL) (H : Heap) (locs : List Loc) (ls : Array Slot), fX17_answer_b62 fu a1 s2 M L = some (M0, L0) → mw_W G ad NF TF FF M L H locs → lv_has ls 2 [(0, .ref (ad 869)), (1, .int a1)] → W p l e ({ frames := 1, cells := 0, slots := 0, locals := 25 }) s m [.ref (ad 869), .int a1].toArray below meth c H locs 0 0 (MQ below (mw_Qv G ad NF TF FF (mw_eqV M0 L0)) [.ref (ad 869), .int a1].toArray s 0 0 (mw_fr G)) (F0 m 62 ls [.int s2, .int a1, .ref (ad 890)]) := by
    intro s2 M L H locs ls hD hw hl
    unfold fX17_answer_b62 at hD
    obtain ⟨q1, hD⟩ := g_ck hD
    obtain ⟨M2, eM2, hD⟩ := g_let hD
    refine mr_zast C hw (by decide) tf_890 q1 dX17_answer_62 (fun H locs hw => ?_)
    replace hw : mw_W G ad NF TF FF M2 L H locs := by rw [eM2]; exact hw
    refine lv_aload_n C.1.1 C.1.2.1 dX17_answer_63 rfl (lv_at hl 0 rfl) ?_
    refine mr_getI C hw kc_17 37 (by decide) tf_869 wd_2368 dX17_answer_64 (by decide) rfl ?_
    refine lv_if_ne (tgt := 90) C.1.1 C.1.2.1 dX17_answer_67 (by decide) (fun c3 => ?_) (fun c3 => ?_)
    · replace hD := g_neg c3 hD
      exact hb90 M2 L _ _ ls hD hw (lv_sub hl [0, 1] rfl)
    · replace hD := g_pos c3 hD
      refine lv_aload_n C.1.1 C.1.2.1 dX17_answer_70 rfl (lv_at hl 0 rfl) ?_
      refine mr_getR C hw kc_17 21 (by decide) tf_869 ff_869_21 wd_2352 dX17_answer_71 (by decide) rfl ?_
      refine lv_iload_n C.1.1 C.1.2.1 dX17_answer_74 rfl (lv_at hl 1 rfl) ?_
      refine lv_aload_n C.1.1 C.1.2.1 dX17_answer_75 rfl (lv_at hl 0 rfl) ?_
      refine mr_getI C hw kc_17 35 (by decide) tf_869 wd_2366 dX17_answer_76 (by decide) rfl ?_
      obtain ⟨q4, hD⟩ := g_ck hD
      obtain ⟨M5, eM5, hD⟩ := g_let hD
      refine mr_iast C hw (by decide) tf_887 q4 dX17_answer_79 (fun H locs hw => ?_)
      replace hw : mw_W G ad NF TF FF M5 L H locs := by rw [eM5]; exact hw
      refine lv_aload_n C.1.1 C.1.2.1 dX17_answer_80 rfl (lv_at hl 0 rfl) ?_
      refine mr_getR C hw kc_17 22 (by decide) tf_869 ff_869_22 wd_2353 dX17_answer_81 (by decide) rfl ?_
      refine lv_iload_n C.1.1 C.1.2.1 dX17_answer_84 rfl (lv_at hl 1 rfl) ?_
      refine lv_aload_n C.1.1 C.1.2.1 dX17_answer_85 rfl (lv_at hl 0 rfl) ?_
      refine mr_getI C hw kc_17 35 (by decide) tf_869 wd_2366 dX17_answer_86 (by decide) rfl ?_
      obtain ⟨q6, hD⟩ := g_ck hD
      obtain ⟨M7, eM7, hD⟩ := g_let hD
      refine mr_iast C hw (by decide) tf_888 q6 dX17_answer_89 (fun H locs hw => ?_)
      replace hw : mw_W G ad NF TF FF M7 L H locs := by rw [eM7]; exact hw
      exact hb90 M7 L _ _ ls hD hw (lv_sub hl [0, 1] rfl)
  unfold DX17_answer at hD
  refine lv_aload_n C.1.1 C.1.2.1 dX17_answer_0 rfl (lv_at hl 0 rfl) ?_
  refine lv_iconst (v := 3) C.1.1 C.1.2.1 dX17_answer_1 (by decide) ?_
  refine lv_aload_n C.1.1 C.1.2.1 dX17_answer_2 rfl (lv_at hl 0 rfl) ?_
  refine mr_getR C hw kc_17 17 (by decide) tf_869 ff_869_17 wd_2348 dX17_answer_3 (by decide) rfl ?_
  refine lv_iload_n C.1.1 C.1.2.1 dX17_answer_6 rfl (lv_at hl 1 rfl) ?_
  obtain ⟨q11, hD⟩ := g_ck hD
  refine mr_iald C hw (by decide) tf_883 q11 dX17_answer_7 ?_
  refine lv_aload_n C.1.1 C.1.2.1 dX17_answer_8 rfl (lv_at hl 0 rfl) ?_
  refine mr_getI C hw kc_17 37 (by decide) tf_869 wd_2368 dX17_answer_9 (by decide) rfl ?_
  refine lv_aload_n C.1.1 C.1.2.1 dX17_answer_12 rfl (lv_at hl 0 rfl) ?_
  refine mr_getI C hw kc_17 35 (by decide) tf_869 wd_2366 dX17_answer_13 (by decide) rfl ?_
  refine lv_aload_n C.1.1 C.1.2.1 dX17_answer_16 rfl (lv_at hl 0 rfl) ?_
  refine mr_getI C hw kc_17 36 (by decide) tf_869 wd_2367 dX17_answer_17 (by decide) rfl ?_
  obtain ⟨r14, M12, L13, h1, hD⟩ := g_b3 hD
  refine md_cvI (As := [.int 3, .int (M 883 a1.toNatClampNeg), .int (M 869 37), .int (M 869 35), .int (M 869 36)]) (rest := []) C hw (tX17_make l G ad fu 3 (M 883 a1.toNatClampNeg) (M 869 37) (M 869 35) (M 869 36) M L h1) kc_17 (by decide) tf_869 wd_3968 cwX17_make ⟨Nat.le_of_ble_eq_true rfl, Nat.le_of_ble_eq_true rfl⟩ rfl hl.1 (Nat.le_of_ble_eq_true rfl) dX17_answer_20 rfl rfl ⟨Nat.zero_le _, Nat.zero_le _⟩ rfl (fun H locs hw => ?_)
  refine lv_if_ne (tgt := 34) C.1.1 C.1.2.1 dX17_answer_23 (by decide) (fun c15 => ?_) (fun c15 => ?_)
  · replace hD := g_neg c15 hD
    refine lv_aload_n C.1.1 C.1.2.1 dX17_answer_34 rfl (lv_at hl 0 rfl) ?_
    refine mr_getR C hw kc_17 23 (by decide) tf_869 ff_869_23 wd_2354 dX17_answer_35 (by decide) rfl ?_
    refine lv_iload_n C.1.1 C.1.2.1 dX17_answer_38 rfl (lv_at hl 1 rfl) ?_
    refine lv_aload_n C.1.1 C.1.2.1 dX17_answer_39 rfl (lv_at hl 0 rfl) ?_
    refine mr_getL C hw kc_17 2 (by decide) tf_869 wd_2333 dX17_answer_40 (by decide) rfl ?_
    obtain ⟨q16, hD⟩ := g_ck hD
    obtain ⟨L17, eL17, hD⟩ := g_let hD
    refine mr_last C hw (by decide) tf_889 q16 dX17_answer_43 (fun H locs hw => ?_)
    replace hw : mw_W G ad NF TF FF M12 L17 H locs := by rw [eL17]; exact hw
    refine lv_aload_n C.1.1 C.1.2.1 dX17_answer_44 rfl (lv_at hl 0 rfl) ?_
    refine mr_getR C hw kc_17 24 (by decide) tf_869 ff_869_24 wd_2355 dX17_answer_45 (by decide) rfl ?_
    refine lv_iload_n C.1.1 C.1.2.1 dX17_answer_48 rfl (lv_at hl 1 rfl) ?_
    refine lv_aload_n C.1.1 C.1.2.1 dX17_answer_49 rfl (lv_at hl 0 rfl) ?_
    refine mr_getI C hw kc_17 37 (by decide) tf_869 wd_2368 dX17_answer_50 (by decide) rfl ?_
    refine lv_iconst (v := 1) C.1.1 C.1.2.1 dX17_answer_53 (by decide) ?_
    refine lv_icmp_ne (tgt := 61) C.1.1 C.1.2.1 dX17_answer_54 (by decide) (fun c18 => ?_) (fun c18 => ?_)
    · replace hD := g_neg c18 hD
      refine lv_iconst (v := 0) C.1.1 C.1.2.1 dX17_answer_61 (by decide) ?_
      exact hb62 0 M12 L17 _ _ ls hD hw (lv_sub hl [0, 1] rfl)
    · replace hD := g_pos c18 hD
      refine lv_iconst (v := 1) C.1.1 C.1.2.1 dX17_answer_57 (by decide) ?_
      refine lv_goto (tgt := 62) C.1.1 C.1.2.1 dX17_answer_58 (by decide) ?_
      exact hb62 1 M12 L17 _ _ ls hD hw (lv_sub hl [0, 1] rfl)
  · replace hD := g_pos c15 hD
    refine lv_aload_n C.1.1 C.1.2.1 dX17_answer_26 rfl (lv_at hl 0 rfl) ?_
    refine lv_iload_n C.1.1 C.1.2.1 dX17_answer_27 rfl (lv_at hl 1 rfl) ?_
    refine lv_bipush (v := 7) C.1.1 C.1.2.1 dX17_answer_28 (by decide) ?_
    obtain ⟨M19, L20, h1, hD⟩ := g_b2 hD
    refine md_cvV (As := [.int a1, .int 7]) (rest := []) C hw (tX17_endReceiver l G ad fu a1 7 M12 L13 h1) kc_17 (by decide) tf_869 wd_3952 cwX17_endReceiver ⟨Nat.le_of_ble_eq_true rfl, Nat.le_of_ble_eq_true rfl⟩ rfl hl.1 (Nat.le_of_ble_eq_true rfl) dX17_answer_30 rfl rfl ⟨Nat.zero_le _, Nat.zero_le _⟩ rfl (fun H locs hw => ?_)
    exact mr_vret C hr hlocks hw (Option.some.inj hD) dX17_answer_33

theorem dX17_put_0 : decode cX17_put 0 = .ok (.iconst 0, 1) := by decide +kernel
theorem dX17_put_1 : decode cX17_put 1 = .ok (.istore_n 3, 1) := by decide +kernel
theorem dX17_put_2 : decode cX17_put 2 = .ok (.iload_n 3, 1) := by decide +kernel
theorem dX17_put_3 : decode cX17_put 3 = .ok (.aload_n 0, 1) := by decide +kernel
theorem dX17_put_4 : decode cX17_put 4 = .ok (.getfield 89, 3) := by decide +kernel
theorem dX17_put_7 : decode cX17_put 7 = .ok (.iload_n 2, 1) := by decide +kernel
theorem dX17_put_8 : decode cX17_put 8 = .ok (.iaload, 1) := by decide +kernel
theorem dX17_put_9 : decode cX17_put 9 = .ok (.if_icmp .ge 47, 3) := by decide +kernel
theorem dX17_put_12 : decode cX17_put 12 = .ok (.aload_n 0, 1) := by decide +kernel
theorem dX17_put_13 : decode cX17_put 13 = .ok (.getfield 77, 3) := by decide +kernel
theorem dX17_put_16 : decode cX17_put 16 = .ok (.sipush 10000, 3) := by decide +kernel
theorem dX17_put_19 : decode cX17_put 19 = .ok (.iload_n 1, 1) := by decide +kernel
theorem dX17_put_20 : decode cX17_put 20 = .ok (.imul, 1) := by decide +kernel
theorem dX17_put_21 : decode cX17_put 21 = .ok (.aload_n 0, 1) := by decide +kernel
theorem dX17_put_22 : decode cX17_put 22 = .ok (.getfield 58, 3) := by decide +kernel
theorem dX17_put_25 : decode cX17_put 25 = .ok (.iload_n 1, 1) := by decide +kernel
theorem dX17_put_26 : decode cX17_put 26 = .ok (.iaload, 1) := by decide +kernel
theorem dX17_put_27 : decode cX17_put 27 = .ok (.iadd, 1) := by decide +kernel
theorem dX17_put_28 : decode cX17_put 28 = .ok (.aload_n 0, 1) := by decide +kernel
theorem dX17_put_29 : decode cX17_put 29 = .ok (.getfield 102, 3) := by decide +kernel
theorem dX17_put_32 : decode cX17_put 32 = .ok (.bipush 7, 2) := by decide +kernel
theorem dX17_put_34 : decode cX17_put 34 = .ok (.iload_n 2, 1) := by decide +kernel
theorem dX17_put_35 : decode cX17_put 35 = .ok (.imul, 1) := by decide +kernel
theorem dX17_put_36 : decode cX17_put 36 = .ok (.iload_n 3, 1) := by decide +kernel
theorem dX17_put_37 : decode cX17_put 37 = .ok (.iadd, 1) := by decide +kernel
theorem dX17_put_38 : decode cX17_put 38 = .ok (.baload, 1) := by decide +kernel
theorem dX17_put_39 : decode cX17_put 39 = .ok (.bastore, 1) := by decide +kernel
theorem dX17_put_40 : decode cX17_put 40 = .ok (.aload_n 0, 1) := by decide +kernel
theorem dX17_put_41 : decode cX17_put 41 = .ok (.getfield 58, 3) := by decide +kernel
theorem dX17_put_44 : decode cX17_put 44 = .ok (.iload_n 1, 1) := by decide +kernel
theorem dX17_put_45 : decode cX17_put 45 = .ok (.dup2, 1) := by decide +kernel
theorem dX17_put_46 : decode cX17_put 46 = .ok (.iaload, 1) := by decide +kernel
theorem dX17_put_47 : decode cX17_put 47 = .ok (.iconst 1, 1) := by decide +kernel
theorem dX17_put_48 : decode cX17_put 48 = .ok (.iadd, 1) := by decide +kernel
theorem dX17_put_49 : decode cX17_put 49 = .ok (.iastore, 1) := by decide +kernel
theorem dX17_put_50 : decode cX17_put 50 = .ok (.iinc 3 1, 3) := by decide +kernel
theorem dX17_put_53 : decode cX17_put 53 = .ok (.goto (-51), 3) := by decide +kernel
theorem dX17_put_56 : decode cX17_put 56 = .ok (.return_, 1) := by decide +kernel
theorem cwX17_put : mw_cwV yX17_put cX17_put 4 (none) 2 := ⟨⟨wd_17, wd_3959, by decide +kernel⟩, wd_3958, sl_297⟩
set_option maxHeartbeats 4000000 in
set_option maxRecDepth 100000 in
theorem tX17_put (l : Launch) (G : mwG) (ad : Nat → Nat) (fu : Nat) (a1 : Int32) (a2 : Int32) (M : mwM) (L : mwL) {M0 : mwM} {L0 : mwL} (hD : DX17_put fu a1 a2 M L = some (M0, L0)) : Met l yX17_put (Cond.code yX17_put cX17_put 4 (none) :: GT) ({ frames := 0, cells := 0, slots := 0, locals := 0 }) (mw_Pre G ad NF TF FF M L [.ref (ad 869), .int a1, .int a2]) (mw_Qv G ad NF TF FF (mw_eqV M0 L0)) 0 0 (mw_fr G) := by
  refine mw_enter (by decide) (Nat.le_of_ble_eq_true rfl) ?_
  intro p e s m below meth c ls C hr hlocks hnm hw hl
  have hl : lv_has ls 4 [(0, .ref (ad 869)), (1, .int a1), (2, .int a2)] := hl
  have hh2 : ∀ (f : Nat) (v3 : Int32) (M : mwM) (L : mwL) (H : Heap) (locs : List Loc) (ls : Array Slot), fX17_put_h2 fu a1 a2 f (v3, M, L) = some (M0, L0) → mw_W G ad NF TF FF M L H locs → lv_has ls 4 [(0, .ref (ad 869)), (1, .int a1), (2, .int a2), (3, .int v3)] → W p l e ({ frames := 0, cells := 0, slots := 0, locals := 0 }) s m [.ref (ad 869), .int a1, .int a2].toArray below meth c H locs 0 0 (MQ below (mw_Qv G ad NF TF FF (mw_eqV M0 L0)) [.ref (ad 869), .int a1, .int a2].toArray s 0 0 (mw_fr G)) (F0 m 2 ls []) := by
    intro f
    induction f with
    | zero => intro v3 M L H locs ls hD; cases hD
    | succ f2 ih2 =>
      intro v3 M L H locs ls hD hw hl
      replace hD : fX17_put_i2 fu a1 a2 (fX17_put_h2 fu a1 a2 f2) v3 M L = some (M0, L0) := hD
      unfold fX17_put_i2 at hD
      refine lv_iload_n C.1.1 C.1.2.1 dX17_put_2 rfl (lv_at hl 3 rfl) ?_
      refine lv_aload_n C.1.1 C.1.2.1 dX17_put_3 rfl (lv_at hl 0 rfl) ?_
      refine mr_getR C hw kc_17 30 (by decide) tf_869 ff_869_30 wd_2361 dX17_put_4 (by decide) rfl ?_
      refine lv_iload_n C.1.1 C.1.2.1 dX17_put_7 rfl (lv_at hl 2 rfl) ?_
      obtain ⟨q1, hD⟩ := g_ck hD
      refine mr_iald C hw (by decide) tf_895 q1 dX17_put_8 ?_
      refine lv_icmp_ge (tgt := 56) C.1.1 C.1.2.1 dX17_put_9 (by decide) (fun c2 => ?_) (fun c2 => ?_)
      · replace hD := g_pos c2 hD
        exact mr_vret C hr hlocks hw (Option.some.inj hD) dX17_put_56
      · replace hD := g_neg c2 hD
        refine lv_aload_n C.1.1 C.1.2.1 dX17_put_12 rfl (lv_at hl 0 rfl) ?_
        refine mr_getR C hw kc_17 25 (by decide) tf_869 ff_869_25 wd_2356 dX17_put_13 (by decide) rfl ?_
        refine lv_sipush (v := 10000) C.1.1 C.1.2.1 dX17_put_16 (by decide) ?_
        refine lv_iload_n C.1.1 C.1.2.1 dX17_put_19 rfl (lv_at hl 1 rfl) ?_
        refine lv_imul C.1.1 C.1.2.1 dX17_put_20 ?_
        refine lv_aload_n C.1.1 C.1.2.1 dX17_put_21 rfl (lv_at hl 0 rfl) ?_
        refine mr_getR C hw kc_17 19 (by decide) tf_869 ff_869_19 wd_2350 dX17_put_22 (by decide) rfl ?_
        refine lv_iload_n C.1.1 C.1.2.1 dX17_put_25 rfl (lv_at hl 1 rfl) ?_
        obtain ⟨q3, hD⟩ := g_ck hD
        refine mr_iald C hw (by decide) tf_885 q3 dX17_put_26 ?_
        refine lv_iadd C.1.1 C.1.2.1 dX17_put_27 ?_
        refine lv_aload_n C.1.1 C.1.2.1 dX17_put_28 rfl (lv_at hl 0 rfl) ?_
        refine mr_getR C hw kc_17 34 (by decide) tf_869 ff_869_34 wd_2365 dX17_put_29 (by decide) rfl ?_
        refine lv_bipush (v := 7) C.1.1 C.1.2.1 dX17_put_32 (by decide) ?_
        refine lv_iload_n C.1.1 C.1.2.1 dX17_put_34 rfl (lv_at hl 2 rfl) ?_
        refine lv_imul C.1.1 C.1.2.1 dX17_put_35 ?_
        refine lv_iload_n C.1.1 C.1.2.1 dX17_put_36 rfl (lv_at hl 3 rfl) ?_
        refine lv_iadd C.1.1 C.1.2.1 dX17_put_37 ?_
        obtain ⟨q4, hD⟩ := g_ck hD
        refine mr_bald C hw (by decide) tf_899 q4 dX17_put_38 ?_
        obtain ⟨q5, hD⟩ := g_ck hD
        obtain ⟨M6, eM6, hD⟩ := g_let hD
        refine mr_bast C hw (by decide) tf_891 q5 dX17_put_39 (fun H locs hw => ?_)
        replace hw : mw_W G ad NF TF FF M6 L H locs := by rw [eM6]; exact hw
        refine lv_aload_n C.1.1 C.1.2.1 dX17_put_40 rfl (lv_at hl 0 rfl) ?_
        refine mr_getR C hw kc_17 19 (by decide) tf_869 ff_869_19 wd_2350 dX17_put_41 (by decide) rfl ?_
        refine lv_iload_n C.1.1 C.1.2.1 dX17_put_44 rfl (lv_at hl 1 rfl) ?_
        refine lv_dup2_11 C.1.1 C.1.2.1 dX17_put_45 rfl rfl ?_
        obtain ⟨q7, hD⟩ := g_ck hD
        refine mr_iald C hw (by decide) tf_885 q7 dX17_put_46 ?_
        refine lv_iconst (v := 1) C.1.1 C.1.2.1 dX17_put_47 (by decide) ?_
        refine lv_iadd C.1.1 C.1.2.1 dX17_put_48 ?_
        obtain ⟨q8, hD⟩ := g_ck hD
        obtain ⟨M9, eM9, hD⟩ := g_let hD
        refine mr_iast C hw (by decide) tf_885 q8 dX17_put_49 (fun H locs hw => ?_)
        replace hw : mw_W G ad NF TF FF M9 L H locs := by rw [eM9]; exact hw
        obtain ⟨x10, ex10, hD⟩ := g_let hD
        refine lv_iinc (v := x10) (lv' := [(3, .int x10), (0, .ref (ad 869)), (1, .int a1), (2, .int a2)]) C.1.1 C.1.2.1 dX17_put_50 hl (k := 3) rfl (by rw [ex10]; rfl) (by decide) rfl (fun ls hl => ?_)
        refine lv_goto (tgt := 2) C.1.1 C.1.2.1 dX17_put_53 (by decide) ?_
        exact ih2 x10 M9 L _ _ ls hD hw (lv_sub hl [1, 2, 3, 0] rfl)
  unfold DX17_put at hD
  refine lv_iconst (v := 0) C.1.1 C.1.2.1 dX17_put_0 (by decide) ?_
  refine lv_istore_n (lv' := [(3, .int 0), (0, .ref (ad 869)), (1, .int a1), (2, .int a2)]) C.1.1 C.1.2.1 dX17_put_1 rfl hl (by decide) rfl (fun ls hl => ?_)
  exact hh2 fu 0 M L _ _ ls hD hw (lv_sub hl [1, 2, 3, 0] rfl)

theorem dX17_whole_0 : decode cX17_whole 0 = .ok (.aload_n 0, 1) := by decide +kernel
theorem dX17_whole_1 : decode cX17_whole 1 = .ok (.getfield 49, 3) := by decide +kernel
theorem dX17_whole_4 : decode cX17_whole 4 = .ok (.iload_n 1, 1) := by decide +kernel
theorem dX17_whole_5 : decode cX17_whole 5 = .ok (.iconst 2, 1) := by decide +kernel
theorem dX17_whole_6 : decode cX17_whole 6 = .ok (.iastore, 1) := by decide +kernel
theorem dX17_whole_7 : decode cX17_whole 7 = .ok (.aload_n 0, 1) := by decide +kernel
theorem dX17_whole_8 : decode cX17_whole 8 = .ok (.getfield 112, 3) := by decide +kernel
theorem dX17_whole_11 : decode cX17_whole 11 = .ok (.iconst 0, 1) := by decide +kernel
theorem dX17_whole_12 : decode cX17_whole 12 = .ok (.dup2, 1) := by decide +kernel
theorem dX17_whole_13 : decode cX17_whole 13 = .ok (.iaload, 1) := by decide +kernel
theorem dX17_whole_14 : decode cX17_whole 14 = .ok (.iconst 1, 1) := by decide +kernel
theorem dX17_whole_15 : decode cX17_whole 15 = .ok (.iadd, 1) := by decide +kernel
theorem dX17_whole_16 : decode cX17_whole 16 = .ok (.iastore, 1) := by decide +kernel
theorem dX17_whole_17 : decode cX17_whole 17 = .ok (.aload_n 0, 1) := by decide +kernel
theorem dX17_whole_18 : decode cX17_whole 18 = .ok (.aload_n 0, 1) := by decide +kernel
theorem dX17_whole_19 : decode cX17_whole 19 = .ok (.getfield 55, 3) := by decide +kernel
theorem dX17_whole_22 : decode cX17_whole 22 = .ok (.iload_n 1, 1) := by decide +kernel
theorem dX17_whole_23 : decode cX17_whole 23 = .ok (.iaload, 1) := by decide +kernel
theorem dX17_whole_24 : decode cX17_whole 24 = .ok (.putfield 141, 3) := by decide +kernel
theorem dX17_whole_27 : decode cX17_whole 27 = .ok (.iconst 0, 1) := by decide +kernel
theorem dX17_whole_28 : decode cX17_whole 28 = .ok (.istore_n 2, 1) := by decide +kernel
theorem dX17_whole_29 : decode cX17_whole 29 = .ok (.iload_n 2, 1) := by decide +kernel
theorem dX17_whole_30 : decode cX17_whole 30 = .ok (.aload_n 0, 1) := by decide +kernel
theorem dX17_whole_31 : decode cX17_whole 31 = .ok (.getfield 141, 3) := by decide +kernel
theorem dX17_whole_34 : decode cX17_whole 34 = .ok (.if_icmp .ge 27, 3) := by decide +kernel
theorem dX17_whole_37 : decode cX17_whole 37 = .ok (.aload_n 0, 1) := by decide +kernel
theorem dX17_whole_38 : decode cX17_whole 38 = .ok (.getfield 109, 3) := by decide +kernel
theorem dX17_whole_41 : decode cX17_whole 41 = .ok (.iload_n 2, 1) := by decide +kernel
theorem dX17_whole_42 : decode cX17_whole 42 = .ok (.aload_n 0, 1) := by decide +kernel
theorem dX17_whole_43 : decode cX17_whole 43 = .ok (.getfield 77, 3) := by decide +kernel
theorem dX17_whole_46 : decode cX17_whole 46 = .ok (.sipush 10000, 3) := by decide +kernel
theorem dX17_whole_49 : decode cX17_whole 49 = .ok (.iload_n 1, 1) := by decide +kernel
theorem dX17_whole_50 : decode cX17_whole 50 = .ok (.imul, 1) := by decide +kernel
theorem dX17_whole_51 : decode cX17_whole 51 = .ok (.iload_n 2, 1) := by decide +kernel
theorem dX17_whole_52 : decode cX17_whole 52 = .ok (.iadd, 1) := by decide +kernel
theorem dX17_whole_53 : decode cX17_whole 53 = .ok (.baload, 1) := by decide +kernel
theorem dX17_whole_54 : decode cX17_whole 54 = .ok (.bastore, 1) := by decide +kernel
theorem dX17_whole_55 : decode cX17_whole 55 = .ok (.iinc 2 1, 3) := by decide +kernel
theorem dX17_whole_58 : decode cX17_whole 58 = .ok (.goto (-29), 3) := by decide +kernel
theorem dX17_whole_61 : decode cX17_whole 61 = .ok (.return_, 1) := by decide +kernel
theorem cwX17_whole : mw_cwV yX17_whole cX17_whole 3 (none) 1 := ⟨⟨wd_17, wd_3963, by decide +kernel⟩, wd_3962, sl_298⟩
set_option maxHeartbeats 4000000 in
set_option maxRecDepth 100000 in
theorem tX17_whole (l : Launch) (G : mwG) (ad : Nat → Nat) (fu : Nat) (a1 : Int32) (M : mwM) (L : mwL) {M0 : mwM} {L0 : mwL} (hD : DX17_whole fu a1 M L = some (M0, L0)) : Met l yX17_whole (Cond.code yX17_whole cX17_whole 3 (none) :: GT) ({ frames := 0, cells := 0, slots := 0, locals := 0 }) (mw_Pre G ad NF TF FF M L [.ref (ad 869), .int a1]) (mw_Qv G ad NF TF FF (mw_eqV M0 L0)) 0 0 (mw_fr G) := by
  refine mw_enter (by decide) (Nat.le_of_ble_eq_true rfl) ?_
  intro p e s m below meth c ls C hr hlocks hnm hw hl
  have hl : lv_has ls 3 [(0, .ref (ad 869)), (1, .int a1)] := hl
  have hh29 : ∀ (f : Nat) (v2 : Int32) (M : mwM) (L : mwL) (H : Heap) (locs : List Loc) (ls : Array Slot), fX17_whole_h29 fu a1 f (v2, M, L) = some (M0, L0) → mw_W G ad NF TF FF M L H locs → lv_has ls 3 [(0, .ref (ad 869)), (1, .int a1), (2, .int v2)] → W p l e ({ frames := 0, cells := 0, slots := 0, locals := 0 }) s m [.ref (ad 869), .int a1].toArray below meth c H locs 0 0 (MQ below (mw_Qv G ad NF TF FF (mw_eqV M0 L0)) [.ref (ad 869), .int a1].toArray s 0 0 (mw_fr G)) (F0 m 29 ls []) := by
    intro f
    induction f with
    | zero => intro v2 M L H locs ls hD; cases hD
    | succ f29 ih29 =>
      intro v2 M L H locs ls hD hw hl
      replace hD : fX17_whole_i29 fu a1 (fX17_whole_h29 fu a1 f29) v2 M L = some (M0, L0) := hD
      unfold fX17_whole_i29 at hD
      refine lv_iload_n C.1.1 C.1.2.1 dX17_whole_29 rfl (lv_at hl 2 rfl) ?_
      refine lv_aload_n C.1.1 C.1.2.1 dX17_whole_30 rfl (lv_at hl 0 rfl) ?_
      refine mr_getI C hw kc_17 40 (by decide) tf_869 wd_2371 dX17_whole_31 (by decide) rfl ?_
      refine lv_icmp_ge (tgt := 61) C.1.1 C.1.2.1 dX17_whole_34 (by decide) (fun c1 => ?_) (fun c1 => ?_)
      · replace hD := g_pos c1 hD
        exact mr_vret C hr hlocks hw (Option.some.inj hD) dX17_whole_61
      · replace hD := g_neg c1 hD
        refine lv_aload_n C.1.1 C.1.2.1 dX17_whole_37 rfl (lv_at hl 0 rfl) ?_
        refine mr_getR C hw kc_17 41 (by decide) tf_869 ff_869_41 wd_2372 dX17_whole_38 (by decide) rfl ?_
        refine lv_iload_n C.1.1 C.1.2.1 dX17_whole_41 rfl (lv_at hl 2 rfl) ?_
        refine lv_aload_n C.1.1 C.1.2.1 dX17_whole_42 rfl (lv_at hl 0 rfl) ?_
        refine mr_getR C hw kc_17 25 (by decide) tf_869 ff_869_25 wd_2356 dX17_whole_43 (by decide) rfl ?_
        refine lv_sipush (v := 10000) C.1.1 C.1.2.1 dX17_whole_46 (by decide) ?_
        refine lv_iload_n C.1.1 C.1.2.1 dX17_whole_49 rfl (lv_at hl 1 rfl) ?_
        refine lv_imul C.1.1 C.1.2.1 dX17_whole_50 ?_
        refine lv_iload_n C.1.1 C.1.2.1 dX17_whole_51 rfl (lv_at hl 2 rfl) ?_
        refine lv_iadd C.1.1 C.1.2.1 dX17_whole_52 ?_
        obtain ⟨q2, hD⟩ := g_ck hD
        refine mr_bald C hw (by decide) tf_891 q2 dX17_whole_53 ?_
        obtain ⟨q3, hD⟩ := g_ck hD
        obtain ⟨M4, eM4, hD⟩ := g_let hD
        refine mr_bast C hw (by decide) tf_900 q3 dX17_whole_54 (fun H locs hw => ?_)
        replace hw : mw_W G ad NF TF FF M4 L H locs := by rw [eM4]; exact hw
        obtain ⟨x5, ex5, hD⟩ := g_let hD
        refine lv_iinc (v := x5) (lv' := [(2, .int x5), (0, .ref (ad 869)), (1, .int a1)]) C.1.1 C.1.2.1 dX17_whole_55 hl (k := 2) rfl (by rw [ex5]; rfl) (by decide) rfl (fun ls hl => ?_)
        refine lv_goto (tgt := 29) C.1.1 C.1.2.1 dX17_whole_58 (by decide) ?_
        exact ih29 x5 M4 L _ _ ls hD hw (lv_sub hl [1, 2, 0] rfl)
  unfold DX17_whole at hD
  refine lv_aload_n C.1.1 C.1.2.1 dX17_whole_0 rfl (lv_at hl 0 rfl) ?_
  refine mr_getR C hw kc_17 16 (by decide) tf_869 ff_869_16 wd_2347 dX17_whole_1 (by decide) rfl ?_
  refine lv_iload_n C.1.1 C.1.2.1 dX17_whole_4 rfl (lv_at hl 1 rfl) ?_
  refine lv_iconst (v := 2) C.1.1 C.1.2.1 dX17_whole_5 (by decide) ?_
  obtain ⟨q6, hD⟩ := g_ck hD
  obtain ⟨M7, eM7, hD⟩ := g_let hD
  refine mr_iast C hw (by decide) tf_882 q6 dX17_whole_6 (fun H locs hw => ?_)
  replace hw : mw_W G ad NF TF FF M7 L H locs := by rw [eM7]; exact hw
  refine lv_aload_n C.1.1 C.1.2.1 dX17_whole_7 rfl (lv_at hl 0 rfl) ?_
  refine mr_getR C hw kc_17 42 (by decide) tf_869 ff_869_42 wd_2373 dX17_whole_8 (by decide) rfl ?_
  refine lv_iconst (v := 0) C.1.1 C.1.2.1 dX17_whole_11 (by decide) ?_
  refine lv_dup2_11 C.1.1 C.1.2.1 dX17_whole_12 rfl rfl ?_
  refine mr_iald C hw (by decide) tf_901 (show vp_in 0 8 from by unfold vp_in; decide) dX17_whole_13 ?_
  refine lv_iconst (v := 1) C.1.1 C.1.2.1 dX17_whole_14 (by decide) ?_
  refine lv_iadd C.1.1 C.1.2.1 dX17_whole_15 ?_
  obtain ⟨M10, eM10, hD⟩ := g_let hD
  refine mr_iast C hw (by decide) tf_901 (show vp_in 0 8 from by unfold vp_in; decide) dX17_whole_16 (fun H locs hw => ?_)
  replace hw : mw_W G ad NF TF FF M10 L H locs := by rw [eM10]; exact hw
  refine lv_aload_n C.1.1 C.1.2.1 dX17_whole_17 rfl (lv_at hl 0 rfl) ?_
  refine lv_aload_n C.1.1 C.1.2.1 dX17_whole_18 rfl (lv_at hl 0 rfl) ?_
  refine mr_getR C hw kc_17 18 (by decide) tf_869 ff_869_18 wd_2349 dX17_whole_19 (by decide) rfl ?_
  refine lv_iload_n C.1.1 C.1.2.1 dX17_whole_22 rfl (lv_at hl 1 rfl) ?_
  obtain ⟨q11, hD⟩ := g_ck hD
  refine mr_iald C hw (by decide) tf_884 q11 dX17_whole_23 ?_
  obtain ⟨M12, eM12, hD⟩ := g_let hD
  refine mr_putI C hw kc_17 40 (by decide) tf_869 wd_2371 dX17_whole_24 (by decide) rfl rfl rfl rfl (fun H locs hw => ?_)
  replace hw : mw_W G ad NF TF FF M12 L H locs := by rw [eM12]; exact hw
  refine lv_iconst (v := 0) C.1.1 C.1.2.1 dX17_whole_27 (by decide) ?_
  refine lv_istore_n (lv' := [(2, .int 0), (0, .ref (ad 869)), (1, .int a1)]) C.1.1 C.1.2.1 dX17_whole_28 rfl hl (by decide) rfl (fun ls hl => ?_)
  exact hh29 fu 0 M12 L _ _ ls hD hw (lv_sub hl [1, 2, 0] rfl)
