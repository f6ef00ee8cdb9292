theorem dX15_anew_0 : decode cX15_anew 0 = .ok (.aload_n 0, 1) := by decide +kernel
theorem dX15_anew_1 : decode cX15_anew 1 = .ok (.iload_n 1, 1) := by decide +kernel
theorem dX15_anew_2 : decode cX15_anew 2 = .ok (.putfield 113, 3) := by decide +kernel
theorem dX15_anew_5 : decode cX15_anew 5 = .ok (.aload_n 0, 1) := by decide +kernel
theorem dX15_anew_6 : decode cX15_anew 6 = .ok (.iconst 0, 1) := by decide +kernel
theorem dX15_anew_7 : decode cX15_anew 7 = .ok (.putfield 117, 3) := by decide +kernel
theorem dX15_anew_10 : decode cX15_anew 10 = .ok (.aload_n 0, 1) := by decide +kernel
theorem dX15_anew_11 : decode cX15_anew 11 = .ok (.iconst 0, 1) := by decide +kernel
theorem dX15_anew_12 : decode cX15_anew 12 = .ok (.putfield 120, 3) := by decide +kernel
theorem dX15_anew_15 : decode cX15_anew 15 = .ok (.aload_n 0, 1) := by decide +kernel
theorem dX15_anew_16 : decode cX15_anew 16 = .ok (.lconst 0, 1) := by decide +kernel
theorem dX15_anew_17 : decode cX15_anew 17 = .ok (.putfield 123, 3) := by decide +kernel
theorem dX15_anew_20 : decode cX15_anew 20 = .ok (.aload_n 0, 1) := by decide +kernel
theorem dX15_anew_21 : decode cX15_anew 21 = .ok (.lconst 0, 1) := by decide +kernel
theorem dX15_anew_22 : decode cX15_anew 22 = .ok (.putfield 127, 3) := by decide +kernel
theorem dX15_anew_25 : decode cX15_anew 25 = .ok (.aload_n 0, 1) := by decide +kernel
theorem dX15_anew_26 : decode cX15_anew 26 = .ok (.iconst 0, 1) := by decide +kernel
theorem dX15_anew_27 : decode cX15_anew 27 = .ok (.putfield 130, 3) := by decide +kernel
theorem dX15_anew_30 : decode cX15_anew 30 = .ok (.aload_n 0, 1) := by decide +kernel
theorem dX15_anew_31 : decode cX15_anew 31 = .ok (.iconst 0, 1) := by decide +kernel
theorem dX15_anew_32 : decode cX15_anew 32 = .ok (.putfield 133, 3) := by decide +kernel
theorem dX15_anew_35 : decode cX15_anew 35 = .ok (.aload_n 0, 1) := by decide +kernel
theorem dX15_anew_36 : decode cX15_anew 36 = .ok (.iconst 0, 1) := by decide +kernel
theorem dX15_anew_37 : decode cX15_anew 37 = .ok (.putfield 137, 3) := by decide +kernel
theorem dX15_anew_40 : decode cX15_anew 40 = .ok (.aload_n 0, 1) := by decide +kernel
theorem dX15_anew_41 : decode cX15_anew 41 = .ok (.iconst 0, 1) := by decide +kernel
theorem dX15_anew_42 : decode cX15_anew 42 = .ok (.putfield 140, 3) := by decide +kernel
theorem dX15_anew_45 : decode cX15_anew 45 = .ok (.aload_n 0, 1) := by decide +kernel
theorem dX15_anew_46 : decode cX15_anew 46 = .ok (.iconst 0, 1) := by decide +kernel
theorem dX15_anew_47 : decode cX15_anew 47 = .ok (.putfield 143, 3) := by decide +kernel
theorem dX15_anew_50 : decode cX15_anew 50 = .ok (.aload_n 0, 1) := by decide +kernel
theorem dX15_anew_51 : decode cX15_anew 51 = .ok (.lconst 0, 1) := by decide +kernel
theorem dX15_anew_52 : decode cX15_anew 52 = .ok (.putfield 146, 3) := by decide +kernel
theorem dX15_anew_55 : decode cX15_anew 55 = .ok (.iconst 0, 1) := by decide +kernel
theorem dX15_anew_56 : decode cX15_anew 56 = .ok (.istore_n 2, 1) := by decide +kernel
theorem dX15_anew_57 : decode cX15_anew 57 = .ok (.iload_n 2, 1) := by decide +kernel
theorem dX15_anew_58 : decode cX15_anew 58 = .ok (.bipush 101, 2) := by decide +kernel
theorem dX15_anew_60 : decode cX15_anew 60 = .ok (.if_icmp .ge 79, 3) := by decide +kernel
theorem dX15_anew_63 : decode cX15_anew 63 = .ok (.aload_n 0, 1) := by decide +kernel
theorem dX15_anew_64 : decode cX15_anew 64 = .ok (.getfield 36, 3) := by decide +kernel
theorem dX15_anew_67 : decode cX15_anew 67 = .ok (.iload_n 2, 1) := by decide +kernel
theorem dX15_anew_68 : decode cX15_anew 68 = .ok (.iconst 0, 1) := by decide +kernel
theorem dX15_anew_69 : decode cX15_anew 69 = .ok (.iastore, 1) := by decide +kernel
theorem dX15_anew_70 : decode cX15_anew 70 = .ok (.aload_n 0, 1) := by decide +kernel
theorem dX15_anew_71 : decode cX15_anew 71 = .ok (.getfield 42, 3) := by decide +kernel
theorem dX15_anew_74 : decode cX15_anew 74 = .ok (.iload_n 2, 1) := by decide +kernel
theorem dX15_anew_75 : decode cX15_anew 75 = .ok (.iconst 0, 1) := by decide +kernel
theorem dX15_anew_76 : decode cX15_anew 76 = .ok (.iastore, 1) := by decide +kernel
theorem dX15_anew_77 : decode cX15_anew 77 = .ok (.aload_n 0, 1) := by decide +kernel
theorem dX15_anew_78 : decode cX15_anew 78 = .ok (.getfield 45, 3) := by decide +kernel
theorem dX15_anew_81 : decode cX15_anew 81 = .ok (.iload_n 2, 1) := by decide +kernel
theorem dX15_anew_82 : decode cX15_anew 82 = .ok (.iconst 0, 1) := by decide +kernel
theorem dX15_anew_83 : decode cX15_anew 83 = .ok (.iastore, 1) := by decide +kernel
theorem dX15_anew_84 : decode cX15_anew 84 = .ok (.aload_n 0, 1) := by decide +kernel
theorem dX15_anew_85 : decode cX15_anew 85 = .ok (.getfield 48, 3) := by decide +kernel
theorem dX15_anew_88 : decode cX15_anew 88 = .ok (.iload_n 2, 1) := by decide +kernel
theorem dX15_anew_89 : decode cX15_anew 89 = .ok (.lconst 0, 1) := by decide +kernel
theorem dX15_anew_90 : decode cX15_anew 90 = .ok (.lastore, 1) := by decide +kernel
theorem dX15_anew_91 : decode cX15_anew 91 = .ok (.aload_n 0, 1) := by decide +kernel
theorem dX15_anew_92 : decode cX15_anew 92 = .ok (.getfield 51, 3) := by decide +kernel
theorem dX15_anew_95 : decode cX15_anew 95 = .ok (.iload_n 2, 1) := by decide +kernel
theorem dX15_anew_96 : decode cX15_anew 96 = .ok (.iconst 0, 1) := by decide +kernel
theorem dX15_anew_97 : decode cX15_anew 97 = .ok (.bastore, 1) := by decide +kernel
theorem dX15_anew_98 : decode cX15_anew 98 = .ok (.aload_n 0, 1) := by decide +kernel
theorem dX15_anew_99 : decode cX15_anew 99 = .ok (.getfield 54, 3) := by decide +kernel
theorem dX15_anew_102 : decode cX15_anew 102 = .ok (.iload_n 2, 1) := by decide +kernel
theorem dX15_anew_103 : decode cX15_anew 103 = .ok (.iconst 0, 1) := by decide +kernel
theorem dX15_anew_104 : decode cX15_anew 104 = .ok (.iastore, 1) := by decide +kernel
theorem dX15_anew_105 : decode cX15_anew 105 = .ok (.aload_n 0, 1) := by decide +kernel
theorem dX15_anew_106 : decode cX15_anew 106 = .ok (.getfield 57, 3) := by decide +kernel
theorem dX15_anew_109 : decode cX15_anew 109 = .ok (.iload_n 2, 1) := by decide +kernel
theorem dX15_anew_110 : decode cX15_anew 110 = .ok (.iconst 0, 1) := by decide +kernel
theorem dX15_anew_111 : decode cX15_anew 111 = .ok (.iastore, 1) := by decide +kernel
theorem dX15_anew_112 : decode cX15_anew 112 = .ok (.aload_n 0, 1) := by decide +kernel
theorem dX15_anew_113 : decode cX15_anew 113 = .ok (.getfield 60, 3) := by decide +kernel
theorem dX15_anew_116 : decode cX15_anew 116 = .ok (.iload_n 2, 1) := by decide +kernel
theorem dX15_anew_117 : decode cX15_anew 117 = .ok (.iconst 0, 1) := by decide +kernel
theorem dX15_anew_118 : decode cX15_anew 118 = .ok (.bastore, 1) := by decide +kernel
theorem dX15_anew_119 : decode cX15_anew 119 = .ok (.aload_n 0, 1) := by decide +kernel
theorem dX15_anew_120 : decode cX15_anew 120 = .ok (.getfield 63, 3) := by decide +kernel
theorem dX15_anew_123 : decode cX15_anew 123 = .ok (.iload_n 2, 1) := by decide +kernel
theorem dX15_anew_124 : decode cX15_anew 124 = .ok (.lconst 0, 1) := by decide +kernel
theorem dX15_anew_125 : decode cX15_anew 125 = .ok (.lastore, 1) := by decide +kernel
theorem dX15_anew_126 : decode cX15_anew 126 = .ok (.aload_n 0, 1) := by decide +kernel
theorem dX15_anew_127 : decode cX15_anew 127 = .ok (.getfield 78, 3) := by decide +kernel
theorem dX15_anew_130 : decode cX15_anew 130 = .ok (.iload_n 2, 1) := by decide +kernel
theorem dX15_anew_131 : decode cX15_anew 131 = .ok (.iconst 0, 1) := by decide +kernel
theorem dX15_anew_132 : decode cX15_anew 132 = .ok (.iastore, 1) := by decide +kernel
theorem dX15_anew_133 : decode cX15_anew 133 = .ok (.iinc 2 1, 3) := by decide +kernel
theorem dX15_anew_136 : decode cX15_anew 136 = .ok (.goto (-79), 3) := by decide +kernel
theorem dX15_anew_139 : decode cX15_anew 139 = .ok (.iconst 0, 1) := by decide +kernel
theorem dX15_anew_140 : decode cX15_anew 140 = .ok (.istore_n 2, 1) := by decide +kernel
theorem dX15_anew_141 : decode cX15_anew 141 = .ok (.iload_n 2, 1) := by decide +kernel
theorem dX15_anew_142 : decode cX15_anew 142 = .ok (.bipush 33, 2) := by decide +kernel
theorem dX15_anew_144 : decode cX15_anew 144 = .ok (.if_icmp .ge 16, 3) := by decide +kernel
theorem dX15_anew_147 : decode cX15_anew 147 = .ok (.aload_n 0, 1) := by decide +kernel
theorem dX15_anew_148 : decode cX15_anew 148 = .ok (.getfield 66, 3) := by decide +kernel
theorem dX15_anew_151 : decode cX15_anew 151 = .ok (.iload_n 2, 1) := by decide +kernel
theorem dX15_anew_152 : decode cX15_anew 152 = .ok (.iconst 0, 1) := by decide +kernel
theorem dX15_anew_153 : decode cX15_anew 153 = .ok (.iastore, 1) := by decide +kernel
theorem dX15_anew_154 : decode cX15_anew 154 = .ok (.iinc 2 1, 3) := by decide +kernel
theorem dX15_anew_157 : decode cX15_anew 157 = .ok (.goto (-16), 3) := by decide +kernel
theorem dX15_anew_160 : decode cX15_anew 160 = .ok (.iconst 0, 1) := by decide +kernel
theorem dX15_anew_161 : decode cX15_anew 161 = .ok (.istore_n 2, 1) := by decide +kernel
theorem dX15_anew_162 : decode cX15_anew 162 = .ok (.iload_n 2, 1) := by decide +kernel
theorem dX15_anew_163 : decode cX15_anew 163 = .ok (.bipush 17, 2) := by decide +kernel
theorem dX15_anew_165 : decode cX15_anew 165 = .ok (.if_icmp .ge 16, 3) := by decide +kernel
theorem dX15_anew_168 : decode cX15_anew 168 = .ok (.aload_n 0, 1) := by decide +kernel
theorem dX15_anew_169 : decode cX15_anew 169 = .ok (.getfield 75, 3) := by decide +kernel
theorem dX15_anew_172 : decode cX15_anew 172 = .ok (.iload_n 2, 1) := by decide +kernel
theorem dX15_anew_173 : decode cX15_anew 173 = .ok (.iconst 0, 1) := by decide +kernel
theorem dX15_anew_174 : decode cX15_anew 174 = .ok (.iastore, 1) := by decide +kernel
theorem dX15_anew_175 : decode cX15_anew 175 = .ok (.iinc 2 1, 3) := by decide +kernel
theorem dX15_anew_178 : decode cX15_anew 178 = .ok (.goto (-16), 3) := by decide +kernel
theorem dX15_anew_181 : decode cX15_anew 181 = .ok (.return_, 1) := by decide +kernel
theorem cwX15_anew : mw_cwV yX15_anew cX15_anew 3 (none) 1 := ⟨⟨wd_14, wd_3498, by decide +kernel⟩, wd_3496, wd_3497⟩
set_option maxHeartbeats 4000000 in
set_option maxRecDepth 100000 in
theorem tX15_anew (l : Launch) (G : mwG) (ad : Nat → Nat) (fu : Nat) (a1 : Int32) (M : mwM) (L : mwL) {M0 : mwM} {L0 : mwL} (hD : DX15_anew fu a1 M L = some (M0, L0)) : Met l yX15_anew (Cond.code yX15_anew cX15_anew 3 (none) :: GT) ({ frames := 0, cells := 0, slots := 0, locals := 0 }) (mw_Pre G ad NF TF FF M L [.ref (ad 787), .int a1]) (mw_Qv G ad NF TF FF (mw_eqV M0 L0)) 0 0 (mw_fr G) := by
  refine mw_enter (by decide) (Nat.le_of_ble_eq_true rfl) ?_
  intro p e s m below meth c ls C hr hlocks hnm hw hl
  have hl : lv_has ls 3 [(0, .ref (ad 787)), (1, .int a1)] := hl
  have hh162 : ∀ (f : Nat) (v2 : Int32) (M : mwM) (L : mwL) (H : Heap) (locs : List Loc) (ls : Array Slot), fX15_anew_h162 fu a1 f (v2, M, L) = some (M0, L0) → mw_W G ad NF TF FF M L H locs → lv_has ls 3 [(0, .ref (ad 787)), (2, .int v2)] → W p l e ({ frames := 0, cells := 0, slots := 0, locals := 0 }) s m [.ref (ad 787), .int a1].toArray below meth c H locs 0 0 (MQ below (mw_Qv G ad NF TF FF (mw_eqV M0 L0)) [.ref (ad 787), .int a1].toArray s 0 0 (mw_fr G)) (F0 m 162 ls []) := by
    intro f
    induction f with
    | zero => intro v2 M L H locs ls hD; cases hD
    | succ f162 ih162 =>
      intro v2 M L H locs ls hD hw hl
      replace hD : fX15_anew_i162 fu a1 (fX15_anew_h162 fu a1 f162) v2 M L = some (M0, L0) := hD
      unfold fX15_anew_i162 at hD
      refine lv_iload_n C.1.1 C.1.2.1 dX15_anew_162 rfl (lv_at hl 1 rfl) ?_
      refine lv_bipush (v := 17) C.1.1 C.1.2.1 dX15_anew_163 (by decide) ?_
      refine lv_icmp_ge (tgt := 181) C.1.1 C.1.2.1 dX15_anew_165 (by decide) (fun c27 => ?_) (fun c27 => ?_)
      · replace hD := g_pos c27 hD
        exact mr_vret C hr hlocks hw (Option.some.inj hD) dX15_anew_181
      · replace hD := g_neg c27 hD
        refine lv_aload_n C.1.1 C.1.2.1 dX15_anew_168 rfl (lv_at hl 0 rfl) ?_
        refine mr_getR C hw kc_15 25 (by decide) tf_787 ff_787_25 wd_1980 dX15_anew_169 (by decide) rfl ?_
        refine lv_iload_n C.1.1 C.1.2.1 dX15_anew_172 rfl (lv_at hl 1 rfl) ?_
        refine lv_iconst (v := 0) C.1.1 C.1.2.1 dX15_anew_173 (by decide) ?_
        obtain ⟨q28, hD⟩ := g_ck hD
        obtain ⟨M29, eM29, hD⟩ := g_let hD
        refine mr_iast C hw (by decide) tf_809 q28 dX15_anew_174 (fun H locs hw => ?_)
        replace hw : mw_W G ad NF TF FF M29 L H locs := by rw [eM29]; exact hw
        obtain ⟨x30, ex30, hD⟩ := g_let hD
        refine lv_iinc (v := x30) (lv' := [(2, .int x30), (0, .ref (ad 787))]) C.1.1 C.1.2.1 dX15_anew_175 hl (k := 1) rfl (by rw [ex30]; rfl) (by decide) rfl (fun ls hl => ?_)
        refine lv_goto (tgt := 162) C.1.1 C.1.2.1 dX15_anew_178 (by decide) ?_
        exact ih162 x30 M29 L _ _ ls hD hw (lv_sub hl [1, 0] rfl)
  have hh141 : ∀ (f : Nat) (v2 : Int32) (M : mwM) (L : mwL) (H : Heap) (locs : List Loc) (ls : Array Slot), fX15_anew_h141 fu a1 f (v2, M, L) = some (M0, L0) → mw_W G ad NF TF FF M L H locs → lv_has ls 3 [(0, .ref (ad 787)), (2, .int v2)] → W p l e ({ frames := 0, cells := 0, slots := 0, locals := 0 }) s m [.ref (ad 787), .int a1].toArray below meth c H locs 0 0 (MQ below (mw_Qv G ad NF TF FF (mw_eqV M0 L0)) [.ref (ad 787), .int a1].toArray s 0 0 (mw_fr G)) (F0 m 141 ls []) := by
    intro f
    induction f with
    | zero => intro v2 M L H locs ls hD; cases hD
    | succ f141 ih141 =>
      intro v2 M L H locs ls hD hw hl
      replace hD : fX15_anew_i141 fu a1 (fX15_anew_h141 fu a1 f141) v2 M L = some (M0, L0) := hD
      unfold fX15_anew_i141 at hD
      refine lv_iload_n C.1.1 C.1.2.1 dX15_anew_141 rfl (lv_at hl 1 rfl) ?_
      refine lv_bipush (v := 33) C.1.1 C.1.2.1 dX15_anew_142 (by decide) ?_
      refine lv_icmp_ge (tgt := 160) C.1.1 C.1.2.1 dX15_anew_144 (by decide) (fun c23 => ?_) (fun c23 => ?_)
      · replace hD := g_pos c23 hD
        refine lv_iconst (v := 0) C.1.1 C.1.2.1 dX15_anew_160 (by decide) ?_
        refine lv_istore_n (lv' := [(2, .int 0), (0, .ref (ad 787))]) C.1.1 C.1.2.1 dX15_anew_161 rfl hl (by decide) rfl (fun ls hl => ?_)
        exact hh162 fu 0 M L _ _ ls hD hw (lv_sub hl [1, 0] rfl)
      · replace hD := g_neg c23 hD
        refine lv_aload_n C.1.1 C.1.2.1 dX15_anew_147 rfl (lv_at hl 0 rfl) ?_
        refine mr_getR C hw kc_15 22 (by decide) tf_787 ff_787_22 wd_1977 dX15_anew_148 (by decide) rfl ?_
        refine lv_iload_n C.1.1 C.1.2.1 dX15_anew_151 rfl (lv_at hl 1 rfl) ?_
        refine lv_iconst (v := 0) C.1.1 C.1.2.1 dX15_anew_152 (by decide) ?_
        obtain ⟨q24, hD⟩ := g_ck hD
        obtain ⟨M25, eM25, hD⟩ := g_let hD
        refine mr_iast C hw (by decide) tf_806 q24 dX15_anew_153 (fun H locs hw => ?_)
        replace hw : mw_W G ad NF TF FF M25 L H locs := by rw [eM25]; exact hw
        obtain ⟨x26, ex26, hD⟩ := g_let hD
        refine lv_iinc (v := x26) (lv' := [(2, .int x26), (0, .ref (ad 787))]) C.1.1 C.1.2.1 dX15_anew_154 hl (k := 1) rfl (by rw [ex26]; rfl) (by decide) rfl (fun ls hl => ?_)
        refine lv_goto (tgt := 141) C.1.1 C.1.2.1 dX15_anew_157 (by decide) ?_
        exact ih141 x26 M25 L _ _ ls hD hw (lv_sub hl [1, 0] rfl)
  have hh57 : ∀ (f : Nat) (v2 : Int32) (M : mwM) (L : mwL) (H : Heap) (locs : List Loc) (ls : Array Slot), fX15_anew_h57 fu a1 f (v2, M, L) = some (M0, L0) → mw_W G ad NF TF FF M L H locs → lv_has ls 3 [(0, .ref (ad 787)), (2, .int v2)] → W p l e ({ frames := 0, cells := 0, slots := 0, locals := 0 }) s m [.ref (ad 787), .int a1].toArray below meth c H locs 0 0 (MQ below (mw_Qv G ad NF TF FF (mw_eqV M0 L0)) [.ref (ad 787), .int a1].toArray s 0 0 (mw_fr G)) (F0 m 57 ls []) := by
    intro f
    induction f with
    | zero => intro v2 M L H locs ls hD; cases hD
    | succ f57 ih57 =>
      intro v2 M L H locs ls hD hw hl
      replace hD : fX15_anew_i57 fu a1 (fX15_anew_h57 fu a1 f57) v2 M L = some (M0, L0) := hD
      unfold fX15_anew_i57 at hD
      refine lv_iload_n C.1.1 C.1.2.1 dX15_anew_57 rfl (lv_at hl 1 rfl) ?_
      refine lv_bipush (v := 101) C.1.1 C.1.2.1 dX15_anew_58 (by decide) ?_
      refine lv_icmp_ge (tgt := 139) C.1.1 C.1.2.1 dX15_anew_60 (by decide) (fun c1 => ?_) (fun c1 => ?_)
      · replace hD := g_pos c1 hD
        refine lv_iconst (v := 0) C.1.1 C.1.2.1 dX15_anew_139 (by decide) ?_
        refine lv_istore_n (lv' := [(2, .int 0), (0, .ref (ad 787))]) C.1.1 C.1.2.1 dX15_anew_140 rfl hl (by decide) rfl (fun ls hl => ?_)
        exact hh141 fu 0 M L _ _ ls hD hw (lv_sub hl [1, 0] rfl)
      · replace hD := g_neg c1 hD
        refine lv_aload_n C.1.1 C.1.2.1 dX15_anew_63 rfl (lv_at hl 0 rfl) ?_
        refine mr_getR C hw kc_15 11 (by decide) tf_787 ff_787_11 wd_1966 dX15_anew_64 (by decide) rfl ?_
        refine lv_iload_n C.1.1 C.1.2.1 dX15_anew_67 rfl (lv_at hl 1 rfl) ?_
        refine lv_iconst (v := 0) C.1.1 C.1.2.1 dX15_anew_68 (by decide) ?_
        obtain ⟨q2, hD⟩ := g_ck hD
        obtain ⟨M3, eM3, hD⟩ := g_let hD
        refine mr_iast C hw (by decide) tf_796 q2 dX15_anew_69 (fun H locs hw => ?_)
        replace hw : mw_W G ad NF TF FF M3 L H locs := by rw [eM3]; exact hw
        refine lv_aload_n C.1.1 C.1.2.1 dX15_anew_70 rfl (lv_at hl 0 rfl) ?_
        refine mr_getR C hw kc_15 13 (by decide) tf_787 ff_787_13 wd_1968 dX15_anew_71 (by decide) rfl ?_
        refine lv_iload_n C.1.1 C.1.2.1 dX15_anew_74 rfl (lv_at hl 1 rfl) ?_
        refine lv_iconst (v := 0) C.1.1 C.1.2.1 dX15_anew_75 (by decide) ?_
        obtain ⟨q4, hD⟩ := g_ck hD
        obtain ⟨M5, eM5, hD⟩ := g_let hD
        refine mr_iast C hw (by decide) tf_798 q4 dX15_anew_76 (fun H locs hw => ?_)
        replace hw : mw_W G ad NF TF FF M5 L H locs := by rw [eM5]; exact hw
        refine lv_aload_n C.1.1 C.1.2.1 dX15_anew_77 rfl (lv_at hl 0 rfl) ?_
        refine mr_getR C hw kc_15 14 (by decide) tf_787 ff_787_14 wd_1969 dX15_anew_78 (by decide) rfl ?_
        refine lv_iload_n C.1.1 C.1.2.1 dX15_anew_81 rfl (lv_at hl 1 rfl) ?_
        refine lv_iconst (v := 0) C.1.1 C.1.2.1 dX15_anew_82 (by decide) ?_
        obtain ⟨q6, hD⟩ := g_ck hD
        obtain ⟨M7, eM7, hD⟩ := g_let hD
        refine mr_iast C hw (by decide) tf_799 q6 dX15_anew_83 (fun H locs hw => ?_)
        replace hw : mw_W G ad NF TF FF M7 L H locs := by rw [eM7]; exact hw
        refine lv_aload_n C.1.1 C.1.2.1 dX15_anew_84 rfl (lv_at hl 0 rfl) ?_
        refine mr_getR C hw kc_15 15 (by decide) tf_787 ff_787_15 wd_1970 dX15_anew_85 (by decide) rfl ?_
        refine lv_iload_n C.1.1 C.1.2.1 dX15_anew_88 rfl (lv_at hl 1 rfl) ?_
        refine lv_lconst (v := 0) C.1.1 C.1.2.1 dX15_anew_89 (by decide) ?_
        obtain ⟨q8, hD⟩ := g_ck hD
        obtain ⟨L9, eL9, hD⟩ := g_let hD
        refine mr_last C hw (by decide) tf_800 q8 dX15_anew_90 (fun H locs hw => ?_)
        replace hw : mw_W G ad NF TF FF M7 L9 H locs := by rw [eL9]; exact hw
        refine lv_aload_n C.1.1 C.1.2.1 dX15_anew_91 rfl (lv_at hl 0 rfl) ?_
        refine mr_getR C hw kc_15 16 (by decide) tf_787 ff_787_16 wd_1971 dX15_anew_92 (by decide) rfl ?_
        refine lv_iload_n C.1.1 C.1.2.1 dX15_anew_95 rfl (lv_at hl 1 rfl) ?_
        refine lv_iconst (v := 0) C.1.1 C.1.2.1 dX15_anew_96 (by decide) ?_
        obtain ⟨q10, hD⟩ := g_ck hD
        obtain ⟨M11, eM11, hD⟩ := g_let hD
        refine mr_zast C hw (by decide) tf_801 q10 dX15_anew_97 (fun H locs hw => ?_)
        replace hw : mw_W G ad NF TF FF M11 L9 H locs := by rw [eM11]; exact hw
        refine lv_aload_n C.1.1 C.1.2.1 dX15_anew_98 rfl (lv_at hl 0 rfl) ?_
        refine mr_getR C hw kc_15 17 (by decide) tf_787 ff_787_17 wd_1972 dX15_anew_99 (by decide) rfl ?_
        refine lv_iload_n C.1.1 C.1.2.1 dX15_anew_102 rfl (lv_at hl 1 rfl) ?_
        refine lv_iconst (v := 0) C.1.1 C.1.2.1 dX15_anew_103 (by decide) ?_
        obtain ⟨q12, hD⟩ := g_ck hD
        obtain ⟨M13, eM13, hD⟩ := g_let hD
        refine mr_iast C hw (by decide) tf_802 q12 dX15_anew_104 (fun H locs hw => ?_)
        replace hw : mw_W G ad NF TF FF M13 L9 H locs := by rw [eM13]; exact hw
        refine lv_aload_n C.1.1 C.1.2.1 dX15_anew_105 rfl (lv_at hl 0 rfl) ?_
        refine mr_getR C hw kc_15 18 (by decide) tf_787 ff_787_18 wd_1973 dX15_anew_106 (by decide) rfl ?_
        refine lv_iload_n C.1.1 C.1.2.1 dX15_anew_109 rfl (lv_at hl 1 rfl) ?_
        refine lv_iconst (v := 0) C.1.1 C.1.2.1 dX15_anew_110 (by decide) ?_
        obtain ⟨q14, hD⟩ := g_ck hD
        obtain ⟨M15, eM15, hD⟩ := g_let hD
        refine mr_iast C hw (by decide) tf_803 q14 dX15_anew_111 (fun H locs hw => ?_)
        replace hw : mw_W G ad NF TF FF M15 L9 H locs := by rw [eM15]; exact hw
        refine lv_aload_n C.1.1 C.1.2.1 dX15_anew_112 rfl (lv_at hl 0 rfl) ?_
        refine mr_getR C hw kc_15 19 (by decide) tf_787 ff_787_19 wd_1974 dX15_anew_113 (by decide) rfl ?_
        refine lv_iload_n C.1.1 C.1.2.1 dX15_anew_116 rfl (lv_at hl 1 rfl) ?_
        refine lv_iconst (v := 0) C.1.1 C.1.2.1 dX15_anew_117 (by decide) ?_
        obtain ⟨q16, hD⟩ := g_ck hD
        obtain ⟨M17, eM17, hD⟩ := g_let hD
        refine mr_zast C hw (by decide) tf_804 q16 dX15_anew_118 (fun H locs hw => ?_)
        replace hw : mw_W G ad NF TF FF M17 L9 H locs := by rw [eM17]; exact hw
        refine lv_aload_n C.1.1 C.1.2.1 dX15_anew_119 rfl (lv_at hl 0 rfl) ?_
        refine mr_getR C hw kc_15 20 (by decide) tf_787 ff_787_20 wd_1975 dX15_anew_120 (by decide) rfl ?_
        refine lv_iload_n C.1.1 C.1.2.1 dX15_anew_123 rfl (lv_at hl 1 rfl) ?_
        refine lv_lconst (v := 0) C.1.1 C.1.2.1 dX15_anew_124 (by decide) ?_
        obtain ⟨q18, hD⟩ := g_ck hD
        obtain ⟨L19, eL19, hD⟩ := g_let hD
        refine mr_last C hw (by decide) tf_805 q18 dX15_anew_125 (fun H locs hw => ?_)
        replace hw : mw_W G ad NF TF FF M17 L19 H locs := by rw [eL19]; exact hw
        refine lv_aload_n C.1.1 C.1.2.1 dX15_anew_126 rfl (lv_at hl 0 rfl) ?_
        refine mr_getR C hw kc_15 26 (by decide) tf_787 ff_787_26 wd_1981 dX15_anew_127 (by decide) rfl ?_
        refine lv_iload_n C.1.1 C.1.2.1 dX15_anew_130 rfl (lv_at hl 1 rfl) ?_
        refine lv_iconst (v := 0) C.1.1 C.1.2.1 dX15_anew_131 (by decide) ?_
        obtain ⟨q20, hD⟩ := g_ck hD
        obtain ⟨M21, eM21, hD⟩ := g_let hD
        refine mr_iast C hw (by decide) tf_810 q20 dX15_anew_132 (fun H locs hw => ?_)
        replace hw : mw_W G ad NF TF FF M21 L19 H locs := by rw [eM21]; exact hw
        obtain ⟨x22, ex22, hD⟩ := g_let hD
        refine lv_iinc (v := x22) (lv' := [(2, .int x22), (0, .ref (ad 787))]) C.1.1 C.1.2.1 dX15_anew_133 hl (k := 1) rfl (by rw [ex22]; rfl) (by decide) rfl (fun ls hl => ?_)
        refine lv_goto (tgt := 57) C.1.1 C.1.2.1 dX15_anew_136 (by decide) ?_
        exact ih57 x22 M21 L19 _ _ ls hD hw (lv_sub hl [1, 0] rfl)
  unfold DX15_anew at hD
  refine lv_aload_n C.1.1 C.1.2.1 dX15_anew_0 rfl (lv_at hl 0 rfl) ?_
  refine lv_iload_n C.1.1 C.1.2.1 dX15_anew_1 rfl (lv_at hl 1 rfl) ?_
  obtain ⟨M31, eM31, hD⟩ := g_let hD
  refine mr_putI C hw kc_15 0 (by decide) tf_787 wd_1955 dX15_anew_2 (by decide) rfl rfl rfl rfl (fun H locs hw => ?_)
  replace hw : mw_W G ad NF TF FF M31 L H locs := by rw [eM31]; exact hw
  refine lv_aload_n C.1.1 C.1.2.1 dX15_anew_5 rfl (lv_at hl 0 rfl) ?_
  refine lv_iconst (v := 0) C.1.1 C.1.2.1 dX15_anew_6 (by decide) ?_
  obtain ⟨M32, eM32, hD⟩ := g_let hD
  refine mr_putI C hw kc_15 1 (by decide) tf_787 wd_1956 dX15_anew_7 (by decide) rfl rfl rfl rfl (fun H locs hw => ?_)
  replace hw : mw_W G ad NF TF FF M32 L H locs := by rw [eM32]; exact hw
  refine lv_aload_n C.1.1 C.1.2.1 dX15_anew_10 rfl (lv_at hl 0 rfl) ?_
  refine lv_iconst (v := 0) C.1.1 C.1.2.1 dX15_anew_11 (by decide) ?_
  obtain ⟨M33, eM33, hD⟩ := g_let hD
  refine mr_putI C hw kc_15 7 (by decide) tf_787 wd_1962 dX15_anew_12 (by decide) rfl rfl rfl rfl (fun H locs hw => ?_)
  replace hw : mw_W G ad NF TF FF M33 L H locs := by rw [eM33]; exact hw
  refine lv_aload_n C.1.1 C.1.2.1 dX15_anew_15 rfl (lv_at hl 0 rfl) ?_
  refine lv_lconst (v := 0) C.1.1 C.1.2.1 dX15_anew_16 (by decide) ?_
  obtain ⟨L34, eL34, hD⟩ := g_let hD
  refine mr_putL C hw kc_15 21 (by decide) tf_787 wd_1976 dX15_anew_17 (by decide) rfl rfl rfl rfl (fun H locs hw => ?_)
  replace hw : mw_W G ad NF TF FF M33 L34 H locs := by rw [eL34]; exact hw
  refine lv_aload_n C.1.1 C.1.2.1 dX15_anew_20 rfl (lv_at hl 0 rfl) ?_
  refine lv_lconst (v := 0) C.1.1 C.1.2.1 dX15_anew_21 (by decide) ?_
  obtain ⟨L35, eL35, hD⟩ := g_let hD
  refine mr_putL C hw kc_15 28 (by decide) tf_787 wd_1983 dX15_anew_22 (by decide) rfl rfl rfl rfl (fun H locs hw => ?_)
  replace hw : mw_W G ad NF TF FF M33 L35 H locs := by rw [eL35]; exact hw
  refine lv_aload_n C.1.1 C.1.2.1 dX15_anew_25 rfl (lv_at hl 0 rfl) ?_
  refine lv_iconst (v := 0) C.1.1 C.1.2.1 dX15_anew_26 (by decide) ?_
  obtain ⟨M36, eM36, hD⟩ := g_let hD
  refine mr_putI C hw kc_15 29 (by decide) tf_787 wd_1984 dX15_anew_27 (by decide) rfl rfl rfl rfl (fun H locs hw => ?_)
  replace hw : mw_W G ad NF TF FF M36 L35 H locs := by rw [eM36]; exact hw
  refine lv_aload_n C.1.1 C.1.2.1 dX15_anew_30 rfl (lv_at hl 0 rfl) ?_
  refine lv_iconst (v := 0) C.1.1 C.1.2.1 dX15_anew_31 (by decide) ?_
  obtain ⟨M37, eM37, hD⟩ := g_let hD
  refine mr_putI C hw kc_15 31 (by decide) tf_787 wd_1986 dX15_anew_32 (by decide) rfl rfl (by decide +kernel) (by decide +kernel) (fun H locs hw => ?_)
  replace hw : mw_W G ad NF TF FF M37 L35 H locs := by rw [eM37]; exact hw
  refine lv_aload_n C.1.1 C.1.2.1 dX15_anew_35 rfl (lv_at hl 0 rfl) ?_
  refine lv_iconst (v := 0) C.1.1 C.1.2.1 dX15_anew_36 (by decide) ?_
  obtain ⟨M38, eM38, hD⟩ := g_let hD
  refine mr_putI C hw kc_15 32 (by decide) tf_787 wd_1987 dX15_anew_37 (by decide) rfl rfl rfl rfl (fun H locs hw => ?_)
  replace hw : mw_W G ad NF TF FF M38 L35 H locs := by rw [eM38]; exact hw
  refine lv_aload_n C.1.1 C.1.2.1 dX15_anew_40 rfl (lv_at hl 0 rfl) ?_
  refine lv_iconst (v := 0) C.1.1 C.1.2.1 dX15_anew_41 (by decide) ?_
  obtain ⟨M39, eM39, hD⟩ := g_let hD
  refine mr_putI C hw kc_15 35 (by decide) tf_787 wd_1990 dX15_anew_42 (by decide) rfl rfl rfl rfl (fun H locs hw => ?_)
  replace hw : mw_W G ad NF TF FF M39 L35 H locs := by rw [eM39]; exact hw
  refine lv_aload_n C.1.1 C.1.2.1 dX15_anew_45 rfl (lv_at hl 0 rfl) ?_
  refine lv_iconst (v := 0) C.1.1 C.1.2.1 dX15_anew_46 (by decide) ?_
  obtain ⟨M40, eM40, hD⟩ := g_let hD
  refine mr_putI C hw kc_15 39 (by decide) tf_787 wd_1994 dX15_anew_47 (by decide) rfl rfl rfl rfl (fun H locs hw => ?_)
  replace hw : mw_W G ad NF TF FF M40 L35 H locs := by rw [eM40]; exact hw
  refine lv_aload_n C.1.1 C.1.2.1 dX15_anew_50 rfl (lv_at hl 0 rfl) ?_
  refine lv_lconst (v := 0) C.1.1 C.1.2.1 dX15_anew_51 (by decide) ?_
  obtain ⟨L41, eL41, hD⟩ := g_let hD
  refine mr_putL C hw kc_15 43 (by decide) tf_787 wd_1998 dX15_anew_52 (by decide) rfl rfl rfl rfl (fun H locs hw => ?_)
  replace hw : mw_W G ad NF TF FF M40 L41 H locs := by rw [eL41]; exact hw
  refine lv_iconst (v := 0) C.1.1 C.1.2.1 dX15_anew_55 (by decide) ?_
  refine lv_istore_n (lv' := [(2, .int 0), (0, .ref (ad 787)), (1, .int a1)]) C.1.1 C.1.2.1 dX15_anew_56 rfl hl (by decide) rfl (fun ls hl => ?_)
  exact hh57 fu 0 M40 L41 _ _ ls hD hw (lv_sub hl [1, 0] rfl)

theorem dX15_no_0 : decode cX15_no 0 = .ok (.iload_n 1, 1) := by decide +kernel
theorem dX15_no_1 : decode cX15_no 1 = .ok (.iconst 1, 1) := by decide +kernel
theorem dX15_no_2 : decode cX15_no 2 = .ok (.if_icmp .lt 11, 3) := by decide +kernel
theorem dX15_no_5 : decode cX15_no 5 = .ok (.iload_n 1, 1) := by decide +kernel
theorem dX15_no_6 : decode cX15_no 6 = .ok (.aload_n 0, 1) := by decide +kernel
theorem dX15_no_7 : decode cX15_no 7 = .ok (.getfield 117, 3) := by decide +kernel
theorem dX15_no_10 : decode cX15_no 10 = .ok (.if_icmp .le 7, 3) := by decide +kernel
theorem dX15_no_13 : decode cX15_no 13 = .ok (.iconst 1, 1) := by decide +kernel
theorem dX15_no_14 : decode cX15_no 14 = .ok (.goto 4, 3) := by decide +kernel
theorem dX15_no_17 : decode cX15_no 17 = .ok (.iconst 0, 1) := by decide +kernel
theorem dX15_no_18 : decode cX15_no 18 = .ok (.ireturn, 1) := by decide +kernel
theorem cwX15_no : mw_cwV yX15_no cX15_no 2 ((some .boolean)) 1 := ⟨⟨wd_14, wd_3518, by decide +kernel⟩, wd_3517, sl_214⟩
set_option maxHeartbeats 4000000 in
set_option maxRecDepth 100000 in
theorem tX15_no (l : Launch) (G : mwG) (ad : Nat → Nat) (fu : Nat) (a1 : Int32) (M : mwM) (L : mwL) {r0 : Int32} {M0 : mwM} {L0 : mwL} (hD : DX15_no fu a1 M L = some (r0, M0, L0)) : Met l yX15_no (Cond.code yX15_no cX15_no 2 ((some .boolean)) :: GT) ({ frames := 0, cells := 0, slots := 0, locals := 0 }) (mw_Pre G ad NF TF FF M L [.ref (ad 787), .int a1]) (mw_Qi G ad NF TF FF (mw_eqI r0 M0 L0)) 0 0 (mw_fr G) := by
  refine mw_enter (by decide) (Nat.le_of_ble_eq_true rfl) ?_
  intro p e s m below meth c ls C hr hlocks hnm hw hl
  have hl : lv_has ls 2 [(0, .ref (ad 787)), (1, .int a1)] := hl
  have hb18 : ∀ (s0 : Int32) (M : mwM) (L : mwL) (H : Heap) (locs : List Loc) (ls : Array Slot), fX15_no_b18 fu a1 s0 M L = some (r0, M0, L0) → mw_W G ad NF TF FF M L H locs → lv_has ls 2 [] → W p l e ({ frames := 0, cells := 0, slots := 0, locals := 0 }) s m [.ref (ad 787), .int a1].toArray below meth c H locs 0 0 (MQ below (mw_Qi G ad NF TF FF (mw_eqI r0 M0 L0)) [.ref (ad 787), .int a1].toArray s 0 0 (mw_fr G)) (F0 m 18 ls [.int s0]) := by
    intro s0 M L H locs ls hD hw hl
    unfold fX15_no_b18 at hD
    obtain ⟨z1, hD⟩ := g_zz hD
    exact mr_iret C hr hlocks hw (nz_zz z1) (Option.some.inj hD) dX15_no_18
  have hb13 : ∀ (M : mwM) (L : mwL) (H : Heap) (locs : List Loc) (ls : Array Slot), fX15_no_b13 fu a1 M L = some (r0, M0, L0) → mw_W G ad NF TF FF M L H locs → lv_has ls 2 [] → W p l e ({ frames := 0, cells := 0, slots := 0, locals := 0 }) s m [.ref (ad 787), .int a1].toArray below meth c H locs 0 0 (MQ below (mw_Qi G ad NF TF FF (mw_eqI r0 M0 L0)) [.ref (ad 787), .int a1].toArray s 0 0 (mw_fr G)) (F0 m 13 ls []) := by
    intro M L H locs ls hD hw hl
    unfold fX15_no_b13 at hD
    refine lv_iconst (v := 1) C.1.1 C.1.2.1 dX15_no_13 (by decide) ?_
    refine lv_goto (tgt := 18) C.1.1 C.1.2.1 dX15_no_14 (by decide) ?_
    exact hb18 1 M L _ _ ls hD hw (lv_sub hl [] rfl)
  unfold DX15_no at hD
  refine lv_iload_n C.1.1 C.1.2.1 dX15_no_0 rfl (lv_at hl 1 rfl) ?_
  refine lv_iconst (v := 1) C.1.1 C.1.2.1 dX15_no_1 (by decide) ?_
  refine lv_icmp_lt (tgt := 13) C.1.1 C.1.2.1 dX15_no_2 (by decide) (fun c2 => ?_) (fun c2 => ?_)
  · replace hD := g_pos c2 hD
    exact hb13 M L _ _ ls hD hw (lv_sub hl [] rfl)
  · replace hD := g_neg c2 hD
    refine lv_iload_n C.1.1 C.1.2.1 dX15_no_5 rfl (lv_at hl 1 rfl) ?_
    refine lv_aload_n C.1.1 C.1.2.1 dX15_no_6 rfl (lv_at hl 0 rfl) ?_
    refine mr_getI C hw kc_15 1 (by decide) tf_787 wd_1956 dX15_no_7 (by decide) rfl ?_
    refine lv_icmp_le (tgt := 17) C.1.1 C.1.2.1 dX15_no_10 (by decide) (fun c3 => ?_) (fun c3 => ?_)
    · replace hD := g_pos c3 hD
      refine lv_iconst (v := 0) C.1.1 C.1.2.1 dX15_no_17 (by decide) ?_
      exact hb18 0 M L _ _ ls hD hw (lv_sub hl [] rfl)
    · replace hD := g_neg c3 hD
      exact hb13 M L _ _ ls hD hw (lv_sub hl [] rfl)

theorem dX15_task_0 : decode cX15_task 0 = .ok (.iload_n 2, 1) := by decide +kernel
theorem dX15_task_1 : decode cX15_task 1 = .ok (.ifCond .lt 11, 3) := by decide +kernel
theorem dX15_task_4 : decode cX15_task 4 = .ok (.iload_n 2, 1) := by decide +kernel
theorem dX15_task_5 : decode cX15_task 5 = .ok (.aload_n 0, 1) := by decide +kernel
theorem dX15_task_6 : decode cX15_task 6 = .ok (.getfield 113, 3) := by decide +kernel
theorem dX15_task_9 : decode cX15_task 9 = .ok (.if_icmp .lt 5, 3) := by decide +kernel
theorem dX15_task_12 : decode cX15_task 12 = .ok (.iconst (-1), 1) := by decide +kernel
theorem dX15_task_13 : decode cX15_task 13 = .ok (.ireturn, 1) := by decide +kernel
theorem dX15_task_14 : decode cX15_task 14 = .ok (.iload_n 1, 1) := by decide +kernel
theorem dX15_task_15 : decode cX15_task 15 = .ok (.ifCond .lt 31, 3) := by decide +kernel
theorem dX15_task_18 : decode cX15_task 18 = .ok (.iload_n 1, 1) := by decide +kernel
theorem dX15_task_19 : decode cX15_task 19 = .ok (.sipush 255, 3) := by decide +kernel
theorem dX15_task_22 : decode cX15_task 22 = .ok (.if_icmp .gt 24, 3) := by decide +kernel
theorem dX15_task_25 : decode cX15_task 25 = .ok (.iload_n 3, 1) := by decide +kernel
theorem dX15_task_26 : decode cX15_task 26 = .ok (.iconst 1, 1) := by decide +kernel
theorem dX15_task_27 : decode cX15_task 27 = .ok (.if_icmp .lt 19, 3) := by decide +kernel
theorem dX15_task_30 : decode cX15_task 30 = .ok (.iload_n 3, 1) := by decide +kernel
theorem dX15_task_31 : decode cX15_task 31 = .ok (.bipush 100, 2) := by decide +kernel
theorem dX15_task_33 : decode cX15_task 33 = .ok (.if_icmp .gt 13, 3) := by decide +kernel
theorem dX15_task_36 : decode cX15_task 36 = .ok (.iload 4, 2) := by decide +kernel
theorem dX15_task_38 : decode cX15_task 38 = .ok (.ifCond .eq 11, 3) := by decide +kernel
theorem dX15_task_41 : decode cX15_task 41 = .ok (.iload_n 3, 1) := by decide +kernel
theorem dX15_task_42 : decode cX15_task 42 = .ok (.iconst 1, 1) := by decide +kernel
theorem dX15_task_43 : decode cX15_task 43 = .ok (.if_icmp .le 6, 3) := by decide +kernel
theorem dX15_task_46 : decode cX15_task 46 = .ok (.bipush (-2), 2) := by decide +kernel
theorem dX15_task_48 : decode cX15_task 48 = .ok (.ireturn, 1) := by decide +kernel
theorem dX15_task_49 : decode cX15_task 49 = .ok (.aload_n 0, 1) := by decide +kernel
theorem dX15_task_50 : decode cX15_task 50 = .ok (.getfield 146, 3) := by decide +kernel
theorem dX15_task_53 : decode cX15_task 53 = .ok (.lconst 0, 1) := by decide +kernel
theorem dX15_task_54 : decode cX15_task 54 = .ok (.lcmp, 1) := by decide +kernel
theorem dX15_task_55 : decode cX15_task 55 = .ok (.ifCond .le 6, 3) := by decide +kernel
theorem dX15_task_58 : decode cX15_task 58 = .ok (.bipush (-3), 2) := by decide +kernel
theorem dX15_task_60 : decode cX15_task 60 = .ok (.ireturn, 1) := by decide +kernel
theorem dX15_task_61 : decode cX15_task 61 = .ok (.aload_n 0, 1) := by decide +kernel
theorem dX15_task_62 : decode cX15_task 62 = .ok (.getfield 117, 3) := by decide +kernel
theorem dX15_task_65 : decode cX15_task 65 = .ok (.bipush 100, 2) := by decide +kernel
theorem dX15_task_67 : decode cX15_task 67 = .ok (.if_icmp .ne 6, 3) := by decide +kernel
theorem dX15_task_70 : decode cX15_task 70 = .ok (.bipush (-4), 2) := by decide +kernel
theorem dX15_task_72 : decode cX15_task 72 = .ok (.ireturn, 1) := by decide +kernel
theorem dX15_task_73 : decode cX15_task 73 = .ok (.aload_n 0, 1) := by decide +kernel
theorem dX15_task_74 : decode cX15_task 74 = .ok (.dup, 1) := by decide +kernel
theorem dX15_task_75 : decode cX15_task 75 = .ok (.getfield 117, 3) := by decide +kernel
theorem dX15_task_78 : decode cX15_task 78 = .ok (.iconst 1, 1) := by decide +kernel
theorem dX15_task_79 : decode cX15_task 79 = .ok (.iadd, 1) := by decide +kernel
theorem dX15_task_80 : decode cX15_task 80 = .ok (.putfield 117, 3) := by decide +kernel
theorem dX15_task_83 : decode cX15_task 83 = .ok (.aload_n 0, 1) := by decide +kernel
theorem dX15_task_84 : decode cX15_task 84 = .ok (.getfield 7, 3) := by decide +kernel
theorem dX15_task_87 : decode cX15_task 87 = .ok (.aload_n 0, 1) := by decide +kernel
theorem dX15_task_88 : decode cX15_task 88 = .ok (.getfield 117, 3) := by decide +kernel
theorem dX15_task_91 : decode cX15_task 91 = .ok (.iload_n 1, 1) := by decide +kernel
theorem dX15_task_92 : decode cX15_task 92 = .ok (.iastore, 1) := by decide +kernel
theorem dX15_task_93 : decode cX15_task 93 = .ok (.aload_n 0, 1) := by decide +kernel
theorem dX15_task_94 : decode cX15_task 94 = .ok (.getfield 13, 3) := by decide +kernel
theorem dX15_task_97 : decode cX15_task 97 = .ok (.aload_n 0, 1) := by decide +kernel
theorem dX15_task_98 : decode cX15_task 98 = .ok (.getfield 117, 3) := by decide +kernel
theorem dX15_task_101 : decode cX15_task 101 = .ok (.iload_n 2, 1) := by decide +kernel
theorem dX15_task_102 : decode cX15_task 102 = .ok (.iastore, 1) := by decide +kernel
theorem dX15_task_103 : decode cX15_task 103 = .ok (.aload_n 0, 1) := by decide +kernel
theorem dX15_task_104 : decode cX15_task 104 = .ok (.getfield 16, 3) := by decide +kernel
theorem dX15_task_107 : decode cX15_task 107 = .ok (.aload_n 0, 1) := by decide +kernel
theorem dX15_task_108 : decode cX15_task 108 = .ok (.getfield 117, 3) := by decide +kernel
theorem dX15_task_111 : decode cX15_task 111 = .ok (.iload_n 3, 1) := by decide +kernel
theorem dX15_task_112 : decode cX15_task 112 = .ok (.iastore, 1) := by decide +kernel
theorem dX15_task_113 : decode cX15_task 113 = .ok (.aload_n 0, 1) := by decide +kernel
theorem dX15_task_114 : decode cX15_task 114 = .ok (.getfield 19, 3) := by decide +kernel
theorem dX15_task_117 : decode cX15_task 117 = .ok (.aload_n 0, 1) := by decide +kernel
theorem dX15_task_118 : decode cX15_task 118 = .ok (.getfield 117, 3) := by decide +kernel
theorem dX15_task_121 : decode cX15_task 121 = .ok (.iload 4, 2) := by decide +kernel
theorem dX15_task_123 : decode cX15_task 123 = .ok (.bastore, 1) := by decide +kernel
theorem dX15_task_124 : decode cX15_task 124 = .ok (.aload_n 0, 1) := by decide +kernel
theorem dX15_task_125 : decode cX15_task 125 = .ok (.getfield 23, 3) := by decide +kernel
theorem dX15_task_128 : decode cX15_task 128 = .ok (.aload_n 0, 1) := by decide +kernel
theorem dX15_task_129 : decode cX15_task 129 = .ok (.getfield 117, 3) := by decide +kernel
theorem dX15_task_132 : decode cX15_task 132 = .ok (.iconst 1, 1) := by decide +kernel
theorem dX15_task_133 : decode cX15_task 133 = .ok (.bastore, 1) := by decide +kernel
theorem dX15_task_134 : decode cX15_task 134 = .ok (.aload_n 0, 1) := by decide +kernel
theorem dX15_task_135 : decode cX15_task 135 = .ok (.getfield 117, 3) := by decide +kernel
theorem dX15_task_138 : decode cX15_task 138 = .ok (.ireturn, 1) := by decide +kernel
theorem cwX15_task : mw_cwV yX15_task cX15_task 5 ((some .int)) 4 := ⟨⟨wd_14, wd_3510, by decide +kernel⟩, wd_3508, wd_3509⟩
set_option maxHeartbeats 4000000 in
set_option maxRecDepth 100000 in
theorem tX15_task (l : Launch) (G : mwG) (ad : Nat → Nat) (fu : Nat) (a1 : Int32) (a2 : Int32) (a3 : Int32) (a4 : Int32) (M : mwM) (L : mwL) {r0 : Int32} {M0 : mwM} {L0 : mwL} (hD : DX15_task fu a1 a2 a3 a4 M L = some (r0, M0, L0)) : Met l yX15_task (Cond.code yX15_task cX15_task 5 ((some .int)) :: GT) ({ frames := 0, cells := 0, slots := 0, locals := 0 }) (mw_Pre G ad NF TF FF M L [.ref (ad 787), .int a1, .int a2, .int a3, .int a4]) (mw_Qi G ad NF TF FF (mw_eqI r0 M0 L0)) 0 0 (mw_fr G) := by
  refine mw_enter (by decide) (Nat.le_of_ble_eq_true rfl) ?_
  intro p e s m below meth c ls C hr hlocks hnm hw hl
  have hl : lv_has ls 5 [(0, .ref (ad 787)), (1, .int a1), (2, .int a2), (3, .int a3), (4, .int a4)] := hl
  have hb12 : ∀ (M : mwM) (L : mwL) (H : Heap) (locs : List Loc) (ls : Array Slot), fX15_task_b12 fu a1 a2 a3 a4 M L = some (r0, M0, L0) → mw_W G ad NF TF FF M L H locs → lv_has ls 5 [] → W p l e ({ frames := 0, cells := 0, slots := 0, locals := 0 }) s m [.ref (ad 787), .int a1, .int a2, .int a3, .int a4].toArray below meth c H locs 0 0 (MQ below (mw_Qi G ad NF TF FF (mw_eqI r0 M0 L0)) [.ref (ad 787), .int a1, .int a2, .int a3, .int a4].toArray s 0 0 (mw_fr G)) (F0 m 12 ls []) := by
    intro M L H locs ls hD hw hl
    unfold fX15_task_b12 at hD
    refine lv_iconst (v := (-1)) C.1.1 C.1.2.1 dX15_task_12 (by decide) ?_
    exact mr_iret C hr hlocks hw rfl (Option.some.inj hD) dX15_task_13
  have hb46 : ∀ (M : mwM) (L : mwL) (H : Heap) (locs : List Loc) (ls : Array Slot), fX15_task_b46 fu a1 a2 a3 a4 M L = some (r0, M0, L0) → mw_W G ad NF TF FF M L H locs → lv_has ls 5 [] → W p l e ({ frames := 0, cells := 0, slots := 0, locals := 0 }) s m [.ref (ad 787), .int a1, .int a2, .int a3, .int a4].toArray below meth c H locs 0 0 (MQ below (mw_Qi G ad NF TF FF (mw_eqI r0 M0 L0)) [.ref (ad 787), .int a1, .int a2, .int a3, .int a4].toArray s 0 0 (mw_fr G)) (F0 m 46 ls []) := by
    intro M L H locs ls hD hw hl
    unfold fX15_task_b46 at hD
    refine lv_bipush (v := (-2)) C.1.1 C.1.2.1 dX15_task_46 (by decide) ?_
    exact mr_iret C hr hlocks hw rfl (Option.some.inj hD) dX15_task_48
  have hb49 : ∀ (M : mwM) (L : mwL) (H : Heap) (locs : List Loc) (ls : Array Slot), fX15_task_b49 fu a1 a2 a3 a4 M L = some (r0, M0, L0) → mw_W G ad NF TF FF M L H locs → lv_has ls 5 [(0, .ref (ad 787)), (1, .int a1), (2, .int a2), (3, .int a3), (4, .int a4)] → W p l e ({ frames := 0, cells := 0, slots := 0, locals := 0 }) s m [.ref (ad 787), .int a1, .int a2, .int a3, .int a4].toArray below meth c H locs 0 0 (MQ below (mw_Qi G ad NF TF FF (mw_eqI r0 M0 L0)) [.ref (ad 787), .int a1, .int a2, .int a3, .int a4].toArray s 0 0 (mw_fr G)) (F0 m 49 ls []) := by
    intro M L H locs ls hD hw hl
    unfold fX15_task_b49 at hD
    refine lv_aload_n C.1.1 C.1.2.1 dX15_task_49 rfl (lv_at hl 0 rfl) ?_
    refine mr_getL C hw kc_15 43 (by decide) tf_787 wd_1998 dX15_task_50 (by decide) rfl ?_
    refine lv_lconst (v := 0) C.1.1 C.1.2.1 dX15_task_53 (by decide) ?_
    refine W.lcmp C.1.1 C.1.2.1 dX15_task_54 ?_
    refine lv_if_le (tgt := 61) C.1.1 C.1.2.1 dX15_task_55 (by decide) (fun c1 => ?_) (fun c1 => ?_)
    · replace hD := g_pos c1 hD
      refine lv_aload_n C.1.1 C.1.2.1 dX15_task_61 rfl (lv_at hl 0 rfl) ?_
      refine mr_getI C hw kc_15 1 (by decide) tf_787 wd_1956 dX15_task_62 (by decide) rfl ?_
      refine lv_bipush (v := 100) C.1.1 C.1.2.1 dX15_task_65 (by decide) ?_
      refine lv_icmp_ne (tgt := 73) C.1.1 C.1.2.1 dX15_task_67 (by decide) (fun c2 => ?_) (fun c2 => ?_)
      · replace hD := g_neg c2 hD
        refine lv_aload_n C.1.1 C.1.2.1 dX15_task_73 rfl (lv_at hl 0 rfl) ?_
        refine lv_dup C.1.1 C.1.2.1 dX15_task_74 rfl ?_
        refine mr_getI C hw kc_15 1 (by decide) tf_787 wd_1956 dX15_task_75 (by decide) rfl ?_
        refine lv_iconst (v := 1) C.1.1 C.1.2.1 dX15_task_78 (by decide) ?_
        refine lv_iadd C.1.1 C.1.2.1 dX15_task_79 ?_
        obtain ⟨M3, eM3, hD⟩ := g_let hD
        refine mr_putI C hw kc_15 1 (by decide) tf_787 wd_1956 dX15_task_80 (by decide) rfl rfl rfl rfl (fun H locs hw => ?_)
        replace hw : mw_W G ad NF TF FF M3 L H locs := by rw [eM3]; exact hw
        refine lv_aload_n C.1.1 C.1.2.1 dX15_task_83 rfl (lv_at hl 0 rfl) ?_
        refine mr_getR C hw kc_15 2 (by decide) tf_787 ff_787_2 wd_1957 dX15_task_84 (by decide) rfl ?_
        refine lv_aload_n C.1.1 C.1.2.1 dX15_task_87 rfl (lv_at hl 0 rfl) ?_
        refine mr_getI C hw kc_15 1 (by decide) tf_787 wd_1956 dX15_task_88 (by decide) rfl ?_
        refine lv_iload_n C.1.1 C.1.2.1 dX15_task_91 rfl (lv_at hl 1 rfl) ?_
        obtain ⟨q4, hD⟩ := g_ck hD
        obtain ⟨M5, eM5, hD⟩ := g_let hD
        refine mr_iast C hw (by decide) tf_788 q4 dX15_task_92 (fun H locs hw => ?_)
        replace hw : mw_W G ad NF TF FF M5 L H locs := by rw [eM5]; exact hw
        refine lv_aload_n C.1.1 C.1.2.1 dX15_task_93 rfl (lv_at hl 0 rfl) ?_
        refine mr_getR C hw kc_15 3 (by decide) tf_787 ff_787_3 wd_1958 dX15_task_94 (by decide) rfl ?_
        refine lv_aload_n C.1.1 C.1.2.1 dX15_task_97 rfl (lv_at hl 0 rfl) ?_
        refine mr_getI C hw kc_15 1 (by decide) tf_787 wd_1956 dX15_task_98 (by decide) rfl ?_
        refine lv_iload_n C.1.1 C.1.2.1 dX15_task_101 rfl (lv_at hl 2 rfl) ?_
        obtain ⟨q6, hD⟩ := g_ck hD
        obtain ⟨M7, eM7, hD⟩ := g_let hD
        refine mr_iast C hw (by decide) tf_789 q6 dX15_task_102 (fun H locs hw => ?_)
        replace hw : mw_W G ad NF TF FF M7 L H locs := by rw [eM7]; exact hw
        refine lv_aload_n C.1.1 C.1.2.1 dX15_task_103 rfl (lv_at hl 0 rfl) ?_
        refine mr_getR C hw kc_15 4 (by decide) tf_787 ff_787_4 wd_1959 dX15_task_104 (by decide) rfl ?_
        refine lv_aload_n C.1.1 C.1.2.1 dX15_task_107 rfl (lv_at hl 0 rfl) ?_
        refine mr_getI C hw kc_15 1 (by decide) tf_787 wd_1956 dX15_task_108 (by decide) rfl ?_
        refine lv_iload_n C.1.1 C.1.2.1 dX15_task_111 rfl (lv_at hl 3 rfl) ?_
        obtain ⟨q8, hD⟩ := g_ck hD
        obtain ⟨M9, eM9, hD⟩ := g_let hD
        refine mr_iast C hw (by decide) tf_790 q8 dX15_task_112 (fun H locs hw => ?_)
        replace hw : mw_W G ad NF TF FF M9 L H locs := by rw [eM9]; exact hw
        refine lv_aload_n C.1.1 C.1.2.1 dX15_task_113 rfl (lv_at hl 0 rfl) ?_
        refine mr_getR C hw kc_15 5 (by decide) tf_787 ff_787_5 wd_1960 dX15_task_114 (by decide) rfl ?_
        refine lv_aload_n C.1.1 C.1.2.1 dX15_task_117 rfl (lv_at hl 0 rfl) ?_
        refine mr_getI C hw kc_15 1 (by decide) tf_787 wd_1956 dX15_task_118 (by decide) rfl ?_
        refine lv_iload C.1.1 C.1.2.1 dX15_task_121 (lv_at hl 4 rfl) ?_
        obtain ⟨q10, hD⟩ := g_ck hD
        obtain ⟨M11, eM11, hD⟩ := g_let hD
        refine mr_zast C hw (by decide) tf_791 q10 dX15_task_123 (fun H locs hw => ?_)
        replace hw : mw_W G ad NF TF FF M11 L H locs := by rw [eM11]; exact hw
        refine lv_aload_n C.1.1 C.1.2.1 dX15_task_124 rfl (lv_at hl 0 rfl) ?_
        refine mr_getR C hw kc_15 6 (by decide) tf_787 ff_787_6 wd_1961 dX15_task_125 (by decide) rfl ?_
        refine lv_aload_n C.1.1 C.1.2.1 dX15_task_128 rfl (lv_at hl 0 rfl) ?_
        refine mr_getI C hw kc_15 1 (by decide) tf_787 wd_1956 dX15_task_129 (by decide) rfl ?_
        refine lv_iconst (v := 1) C.1.1 C.1.2.1 dX15_task_132 (by decide) ?_
        obtain ⟨q12, hD⟩ := g_ck hD
        obtain ⟨M13, eM13, hD⟩ := g_let hD
        refine mr_zast C hw (by decide) tf_792 q12 dX15_task_133 (fun H locs hw => ?_)
        replace hw : mw_W G ad NF TF FF M13 L H locs := by rw [eM13]; exact hw
        refine lv_aload_n C.1.1 C.1.2.1 dX15_task_134 rfl (lv_at hl 0 rfl) ?_
        refine mr_getI C hw kc_15 1 (by decide) tf_787 wd_1956 dX15_task_135 (by decide) rfl ?_
        exact mr_iret C hr hlocks hw rfl (Option.some.inj hD) dX15_task_138
      · replace hD := g_pos c2 hD
        refine lv_bipush (v := (-4)) C.1.1 C.1.2.1 dX15_task_70 (by decide) ?_
        exact mr_iret C hr hlocks hw rfl (Option.some.inj hD) dX15_task_72
    · replace hD := g_neg c1 hD
      refine lv_bipush (v := (-3)) C.1.1 C.1.2.1 dX15_task_58 (by decide) ?_
      exact mr_iret C hr hlocks hw rfl (Option.some.inj hD) dX15_task_60
  unfold DX15_task at hD
  refine lv_iload_n C.1.1 C.1.2.1 dX15_task_0 rfl (lv_at hl 2 rfl) ?_
  refine lv_if_lt (tgt := 12) C.1.1 C.1.2.1 dX15_task_1 (by decide) (fun c14 => ?_) (fun c14 => ?_)
  · replace hD := g_pos c14 hD
    exact hb12 M L _ _ ls hD hw (lv_sub hl [] rfl)
  · replace hD := g_neg c14 hD
    refine lv_iload_n C.1.1 C.1.2.1 dX15_task_4 rfl (lv_at hl 2 rfl) ?_
    refine lv_aload_n C.1.1 C.1.2.1 dX15_task_5 rfl (lv_at hl 0 rfl) ?_
    refine mr_getI C hw kc_15 0 (by decide) tf_787 wd_1955 dX15_task_6 (by decide) rfl ?_
    refine lv_icmp_lt (tgt := 14) C.1.1 C.1.2.1 dX15_task_9 (by decide) (fun c15 => ?_) (fun c15 => ?_)
    · replace hD := g_pos c15 hD
      refine lv_iload_n C.1.1 C.1.2.1 dX15_task_14 rfl (lv_at hl 1 rfl) ?_
      refine lv_if_lt (tgt := 46) C.1.1 C.1.2.1 dX15_task_15 (by decide) (fun c16 => ?_) (fun c16 => ?_)
      · replace hD := g_pos c16 hD
        exact hb46 M L _ _ ls hD hw (lv_sub hl [] rfl)
      · replace hD := g_neg c16 hD
        refine lv_iload_n C.1.1 C.1.2.1 dX15_task_18 rfl (lv_at hl 1 rfl) ?_
        refine lv_sipush (v := 255) C.1.1 C.1.2.1 dX15_task_19 (by decide) ?_
        refine lv_icmp_gt (tgt := 46) C.1.1 C.1.2.1 dX15_task_22 (by decide) (fun c17 => ?_) (fun c17 => ?_)
        · replace hD := g_pos c17 hD
          exact hb46 M L _ _ ls hD hw (lv_sub hl [] rfl)
        · replace hD := g_neg c17 hD
          refine lv_iload_n C.1.1 C.1.2.1 dX15_task_25 rfl (lv_at hl 3 rfl) ?_
          refine lv_iconst (v := 1) C.1.1 C.1.2.1 dX15_task_26 (by decide) ?_
          refine lv_icmp_lt (tgt := 46) C.1.1 C.1.2.1 dX15_task_27 (by decide) (fun c18 => ?_) (fun c18 => ?_)
          · replace hD := g_pos c18 hD
            exact hb46 M L _ _ ls hD hw (lv_sub hl [] rfl)
          · replace hD := g_neg c18 hD
            refine lv_iload_n C.1.1 C.1.2.1 dX15_task_30 rfl (lv_at hl 3 rfl) ?_
            refine lv_bipush (v := 100) C.1.1 C.1.2.1 dX15_task_31 (by decide) ?_
            refine lv_icmp_gt (tgt := 46) C.1.1 C.1.2.1 dX15_task_33 (by decide) (fun c19 => ?_) (fun c19 => ?_)
            · replace hD := g_pos c19 hD
              exact hb46 M L _ _ ls hD hw (lv_sub hl [] rfl)
            · replace hD := g_neg c19 hD
              refine lv_iload C.1.1 C.1.2.1 dX15_task_36 (lv_at hl 4 rfl) ?_
              refine lv_if_eq (tgt := 49) C.1.1 C.1.2.1 dX15_task_38 (by decide) (fun c20 => ?_) (fun c20 => ?_)
              · replace hD := g_pos c20 hD
                exact hb49 M L _ _ ls hD hw (lv_sub hl [0, 1, 2, 3, 4] rfl)
              · replace hD := g_neg c20 hD
                refine lv_iload_n C.1.1 C.1.2.1 dX15_task_41 rfl (lv_at hl 3 rfl) ?_
                refine lv_iconst (v := 1) C.1.1 C.1.2.1 dX15_task_42 (by decide) ?_
                refine lv_icmp_le (tgt := 49) C.1.1 C.1.2.1 dX15_task_43 (by decide) (fun c21 => ?_) (fun c21 => ?_)
                · replace hD := g_pos c21 hD
                  exact hb49 M L _ _ ls hD hw (lv_sub hl [0, 1, 2, 3, 4] rfl)
                · replace hD := g_neg c21 hD
                  exact hb46 M L _ _ ls hD hw (lv_sub hl [] rfl)
    · replace hD := g_neg c15 hD
      exact hb12 M L _ _ ls hD hw (lv_sub hl [] rfl)

theorem dX15_good_0 : decode cX15_good 0 = .ok (.iload_n 0, 1) := by decide +kernel
theorem dX15_good_1 : decode cX15_good 1 = .ok (.ifCond .eq 9, 3) := by decide +kernel
theorem dX15_good_4 : decode cX15_good 4 = .ok (.iload_n 0, 1) := by decide +kernel
theorem dX15_good_5 : decode cX15_good 5 = .ok (.bipush 12, 2) := by decide +kernel
theorem dX15_good_7 : decode cX15_good 7 = .ok (.if_icmp .ne 23, 3) := by decide +kernel
theorem dX15_good_10 : decode cX15_good 10 = .ok (.lload_n 1, 1) := by decide +kernel
theorem dX15_good_11 : decode cX15_good 11 = .ok (.lconst 1, 1) := by decide +kernel
theorem dX15_good_12 : decode cX15_good 12 = .ok (.lcmp, 1) := by decide +kernel
theorem dX15_good_13 : decode cX15_good 13 = .ok (.ifCond .lt 15, 3) := by decide +kernel
theorem dX15_good_16 : decode cX15_good 16 = .ok (.lload_n 1, 1) := by decide +kernel
theorem dX15_good_17 : decode cX15_good 17 = .ok (.ldc2_w 149, 3) := by decide +kernel
theorem dX15_good_20 : decode cX15_good 20 = .ok (.lcmp, 1) := by decide +kernel
theorem dX15_good_21 : decode cX15_good 21 = .ok (.ifCond .gt 7, 3) := by decide +kernel
theorem dX15_good_24 : decode cX15_good 24 = .ok (.iconst 1, 1) := by decide +kernel
theorem dX15_good_25 : decode cX15_good 25 = .ok (.goto 4, 3) := by decide +kernel
theorem dX15_good_28 : decode cX15_good 28 = .ok (.iconst 0, 1) := by decide +kernel
theorem dX15_good_29 : decode cX15_good 29 = .ok (.ireturn, 1) := by decide +kernel
theorem dX15_good_30 : decode cX15_good 30 = .ok (.iload_n 0, 1) := by decide +kernel
theorem dX15_good_31 : decode cX15_good 31 = .ok (.iconst 1, 1) := by decide +kernel
theorem dX15_good_32 : decode cX15_good 32 = .ok (.if_icmp .eq 8, 3) := by decide +kernel
theorem dX15_good_35 : decode cX15_good 35 = .ok (.iload_n 0, 1) := by decide +kernel
theorem dX15_good_36 : decode cX15_good 36 = .ok (.iconst 2, 1) := by decide +kernel
theorem dX15_good_37 : decode cX15_good 37 = .ok (.if_icmp .ne 23, 3) := by decide +kernel
theorem dX15_good_40 : decode cX15_good 40 = .ok (.lload_n 1, 1) := by decide +kernel
theorem dX15_good_41 : decode cX15_good 41 = .ok (.lconst 1, 1) := by decide +kernel
theorem dX15_good_42 : decode cX15_good 42 = .ok (.lcmp, 1) := by decide +kernel
theorem dX15_good_43 : decode cX15_good 43 = .ok (.ifCond .lt 15, 3) := by decide +kernel
theorem dX15_good_46 : decode cX15_good 46 = .ok (.lload_n 1, 1) := by decide +kernel
theorem dX15_good_47 : decode cX15_good 47 = .ok (.ldc2_w 151, 3) := by decide +kernel
theorem dX15_good_50 : decode cX15_good 50 = .ok (.lcmp, 1) := by decide +kernel
theorem dX15_good_51 : decode cX15_good 51 = .ok (.ifCond .gt 7, 3) := by decide +kernel
theorem dX15_good_54 : decode cX15_good 54 = .ok (.iconst 1, 1) := by decide +kernel
theorem dX15_good_55 : decode cX15_good 55 = .ok (.goto 4, 3) := by decide +kernel
theorem dX15_good_58 : decode cX15_good 58 = .ok (.iconst 0, 1) := by decide +kernel
theorem dX15_good_59 : decode cX15_good 59 = .ok (.ireturn, 1) := by decide +kernel
theorem dX15_good_60 : decode cX15_good 60 = .ok (.iload_n 0, 1) := by decide +kernel
theorem dX15_good_61 : decode cX15_good 61 = .ok (.iconst 3, 1) := by decide +kernel
theorem dX15_good_62 : decode cX15_good 62 = .ok (.if_icmp .eq 8, 3) := by decide +kernel
theorem dX15_good_65 : decode cX15_good 65 = .ok (.iload_n 0, 1) := by decide +kernel
theorem dX15_good_66 : decode cX15_good 66 = .ok (.iconst 5, 1) := by decide +kernel
theorem dX15_good_67 : decode cX15_good 67 = .ok (.if_icmp .ne 23, 3) := by decide +kernel
theorem dX15_good_70 : decode cX15_good 70 = .ok (.lload_n 1, 1) := by decide +kernel
theorem dX15_good_71 : decode cX15_good 71 = .ok (.lconst 1, 1) := by decide +kernel
theorem dX15_good_72 : decode cX15_good 72 = .ok (.lcmp, 1) := by decide +kernel
theorem dX15_good_73 : decode cX15_good 73 = .ok (.ifCond .lt 15, 3) := by decide +kernel
theorem dX15_good_76 : decode cX15_good 76 = .ok (.lload_n 1, 1) := by decide +kernel
theorem dX15_good_77 : decode cX15_good 77 = .ok (.ldc2_w 153, 3) := by decide +kernel
theorem dX15_good_80 : decode cX15_good 80 = .ok (.lcmp, 1) := by decide +kernel
theorem dX15_good_81 : decode cX15_good 81 = .ok (.ifCond .gt 7, 3) := by decide +kernel
theorem dX15_good_84 : decode cX15_good 84 = .ok (.iconst 1, 1) := by decide +kernel
theorem dX15_good_85 : decode cX15_good 85 = .ok (.goto 4, 3) := by decide +kernel
theorem dX15_good_88 : decode cX15_good 88 = .ok (.iconst 0, 1) := by decide +kernel
theorem dX15_good_89 : decode cX15_good 89 = .ok (.ireturn, 1) := by decide +kernel
theorem dX15_good_90 : decode cX15_good 90 = .ok (.iload_n 0, 1) := by decide +kernel
theorem dX15_good_91 : decode cX15_good 91 = .ok (.iconst 4, 1) := by decide +kernel
theorem dX15_good_92 : decode cX15_good 92 = .ok (.if_icmp .ne 35, 3) := by decide +kernel
theorem dX15_good_95 : decode cX15_good 95 = .ok (.lload_n 1, 1) := by decide +kernel
theorem dX15_good_96 : decode cX15_good 96 = .ok (.ldc2_w 155, 3) := by decide +kernel
theorem dX15_good_99 : decode cX15_good 99 = .ok (.lcmp, 1) := by decide +kernel
theorem dX15_good_100 : decode cX15_good 100 = .ok (.ifCond .lt 25, 3) := by decide +kernel
theorem dX15_good_103 : decode cX15_good 103 = .ok (.lload_n 1, 1) := by decide +kernel
theorem dX15_good_104 : decode cX15_good 104 = .ok (.ldc2_w 157, 3) := by decide +kernel
theorem dX15_good_107 : decode cX15_good 107 = .ok (.lcmp, 1) := by decide +kernel
theorem dX15_good_108 : decode cX15_good 108 = .ok (.ifCond .gt 17, 3) := by decide +kernel
theorem dX15_good_111 : decode cX15_good 111 = .ok (.lload_n 1, 1) := by decide +kernel
theorem dX15_good_112 : decode cX15_good 112 = .ok (.ldc2_w 159, 3) := by decide +kernel
theorem dX15_good_115 : decode cX15_good 115 = .ok (.lrem, 1) := by decide +kernel
theorem dX15_good_116 : decode cX15_good 116 = .ok (.lconst 0, 1) := by decide +kernel
theorem dX15_good_117 : decode cX15_good 117 = .ok (.lcmp, 1) := by decide +kernel
theorem dX15_good_118 : decode cX15_good 118 = .ok (.ifCond .le 7, 3) := by decide +kernel
theorem dX15_good_121 : decode cX15_good 121 = .ok (.iconst 1, 1) := by decide +kernel
theorem dX15_good_122 : decode cX15_good 122 = .ok (.goto 4, 3) := by decide +kernel
theorem dX15_good_125 : decode cX15_good 125 = .ok (.iconst 0, 1) := by decide +kernel
theorem dX15_good_126 : decode cX15_good 126 = .ok (.ireturn, 1) := by decide +kernel
theorem dX15_good_127 : decode cX15_good 127 = .ok (.iload_n 0, 1) := by decide +kernel
theorem dX15_good_128 : decode cX15_good 128 = .ok (.bipush 6, 2) := by decide +kernel
theorem dX15_good_130 : decode cX15_good 130 = .ok (.if_icmp .eq 9, 3) := by decide +kernel
theorem dX15_good_133 : decode cX15_good 133 = .ok (.iload_n 0, 1) := by decide +kernel
theorem dX15_good_134 : decode cX15_good 134 = .ok (.bipush 7, 2) := by decide +kernel
theorem dX15_good_136 : decode cX15_good 136 = .ok (.if_icmp .ne 23, 3) := by decide +kernel
theorem dX15_good_139 : decode cX15_good 139 = .ok (.lload_n 1, 1) := by decide +kernel
theorem dX15_good_140 : decode cX15_good 140 = .ok (.lconst 1, 1) := by decide +kernel
theorem dX15_good_141 : decode cX15_good 141 = .ok (.lcmp, 1) := by decide +kernel
theorem dX15_good_142 : decode cX15_good 142 = .ok (.ifCond .lt 15, 3) := by decide +kernel
theorem dX15_good_145 : decode cX15_good 145 = .ok (.lload_n 1, 1) := by decide +kernel
theorem dX15_good_146 : decode cX15_good 146 = .ok (.ldc2_w 161, 3) := by decide +kernel
theorem dX15_good_149 : decode cX15_good 149 = .ok (.lcmp, 1) := by decide +kernel
theorem dX15_good_150 : decode cX15_good 150 = .ok (.ifCond .gt 7, 3) := by decide +kernel
theorem dX15_good_153 : decode cX15_good 153 = .ok (.iconst 1, 1) := by decide +kernel
theorem dX15_good_154 : decode cX15_good 154 = .ok (.goto 4, 3) := by decide +kernel
theorem dX15_good_157 : decode cX15_good 157 = .ok (.iconst 0, 1) := by decide +kernel
theorem dX15_good_158 : decode cX15_good 158 = .ok (.ireturn, 1) := by decide +kernel
theorem dX15_good_159 : decode cX15_good 159 = .ok (.iload_n 0, 1) := by decide +kernel
theorem dX15_good_160 : decode cX15_good 160 = .ok (.bipush 8, 2) := by decide +kernel
theorem dX15_good_162 : decode cX15_good 162 = .ok (.if_icmp .eq 9, 3) := by decide +kernel
theorem dX15_good_165 : decode cX15_good 165 = .ok (.iload_n 0, 1) := by decide +kernel
theorem dX15_good_166 : decode cX15_good 166 = .ok (.bipush 9, 2) := by decide +kernel
theorem dX15_good_168 : decode cX15_good 168 = .ok (.if_icmp .ne 23, 3) := by decide +kernel
theorem dX15_good_171 : decode cX15_good 171 = .ok (.lload_n 1, 1) := by decide +kernel
theorem dX15_good_172 : decode cX15_good 172 = .ok (.lconst 1, 1) := by decide +kernel
theorem dX15_good_173 : decode cX15_good 173 = .ok (.lcmp, 1) := by decide +kernel
theorem dX15_good_174 : decode cX15_good 174 = .ok (.ifCond .lt 15, 3) := by decide +kernel
theorem dX15_good_177 : decode cX15_good 177 = .ok (.lload_n 1, 1) := by decide +kernel
theorem dX15_good_178 : decode cX15_good 178 = .ok (.ldc2_w 163, 3) := by decide +kernel
theorem dX15_good_181 : decode cX15_good 181 = .ok (.lcmp, 1) := by decide +kernel
theorem dX15_good_182 : decode cX15_good 182 = .ok (.ifCond .gt 7, 3) := by decide +kernel
theorem dX15_good_185 : decode cX15_good 185 = .ok (.iconst 1, 1) := by decide +kernel
theorem dX15_good_186 : decode cX15_good 186 = .ok (.goto 4, 3) := by decide +kernel
theorem dX15_good_189 : decode cX15_good 189 = .ok (.iconst 0, 1) := by decide +kernel
theorem dX15_good_190 : decode cX15_good 190 = .ok (.ireturn, 1) := by decide +kernel
theorem dX15_good_191 : decode cX15_good 191 = .ok (.lload_n 1, 1) := by decide +kernel
theorem dX15_good_192 : decode cX15_good 192 = .ok (.lconst 0, 1) := by decide +kernel
theorem dX15_good_193 : decode cX15_good 193 = .ok (.lcmp, 1) := by decide +kernel
theorem dX15_good_194 : decode cX15_good 194 = .ok (.ifCond .ne 7, 3) := by decide +kernel
theorem dX15_good_197 : decode cX15_good 197 = .ok (.iconst 1, 1) := by decide +kernel
theorem dX15_good_198 : decode cX15_good 198 = .ok (.goto 4, 3) := by decide +kernel
theorem dX15_good_201 : decode cX15_good 201 = .ok (.iconst 0, 1) := by decide +kernel
theorem dX15_good_202 : decode cX15_good 202 = .ok (.ireturn, 1) := by decide +kernel
theorem cwX15_good : mw_cwS yX15_good cX15_good 3 ((some .boolean)) 2 := ⟨⟨wd_14, wd_3521, by decide +kernel⟩, wd_3520⟩
set_option maxHeartbeats 4000000 in
set_option maxRecDepth 100000 in
theorem tX15_good (l : Launch) (G : mwG) (ad : Nat → Nat) (fu : Nat) (a1 : Int32) (a2 : Int64) (M : mwM) (L : mwL) {r0 : Int32} {M0 : mwM} {L0 : mwL} (hD : DX15_good fu a1 a2 M L = some (r0, M0, L0)) : Met l yX15_good (Cond.code yX15_good cX15_good 3 ((some .boolean)) :: GT) ({ frames := 0, cells := 0, slots := 0, locals := 0 }) (mw_Pre G ad NF TF FF M L [.int a1, .long a2]) (mw_Qi G ad NF TF FF (mw_eqI r0 M0 L0)) 0 0 (mw_fr G) := by
  refine mw_enter (by decide) (Nat.le_of_ble_eq_true rfl) ?_
  intro p e s m below meth c ls C hr hlocks hnm hw hl
  have hl : lv_has ls 3 [(0, .int a1), (1, .long a2)] := hl
  have hb29 : ∀ (s0 : Int32) (M : mwM) (L : mwL) (H : Heap) (locs : List Loc) (ls : Array Slot), fX15_good_b29 fu a1 a2 s0 M L = some (r0, M0, L0) → mw_W G ad NF TF FF M L H locs → lv_has ls 3 [] → W p l e ({ frames := 0, cells := 0, slots := 0, locals := 0 }) s m [.int a1, .long a2].toArray below meth c H locs 0 0 (MQ below (mw_Qi G ad NF TF FF (mw_eqI r0 M0 L0)) [.int a1, .long a2].toArray s 0 0 (mw_fr G)) (F0 m 29 ls [.int s0]) := by
    intro s0 M L H locs ls hD hw hl
    unfold fX15_good_b29 at hD
    obtain ⟨z3, hD⟩ := g_zz hD
    exact mr_iret C hr hlocks hw (nz_zz z3) (Option.some.inj hD) dX15_good_29
  have hb28 : ∀ (M : mwM) (L : mwL) (H : Heap) (locs : List Loc) (ls : Array Slot), fX15_good_b28 fu a1 a2 M L = some (r0, M0, L0) → mw_W G ad NF TF FF M L H locs → lv_has ls 3 [] → W p l e ({ frames := 0, cells := 0, slots := 0, locals := 0 }) s m [.int a1, .long a2].toArray below meth c H locs 0 0 (MQ below (mw_Qi G ad NF TF FF (mw_eqI r0 M0 L0)) [.int a1, .long a2].toArray s 0 0 (mw_fr G)) (F0 m 28 ls []) := by
    intro M L H locs ls hD hw hl
    unfold fX15_good_b28 at hD
    refine lv_iconst (v := 0) C.1.1 C.1.2.1 dX15_good_28 (by decide) ?_
    exact hb29 0 M L _ _ ls hD hw (lv_sub hl [] rfl)
  have hb10 : ∀ (M : mwM) (L : mwL) (H : Heap) (locs : List Loc) (ls : Array Slot), fX15_good_b10 fu a1 a2 M L = some (r0, M0, L0) → mw_W G ad NF TF FF M L H locs → lv_has ls 3 [(1, .long a2)] → W p l e ({ frames := 0, cells := 0, slots := 0, locals := 0 }) s m [.int a1, .long a2].toArray below meth c H locs 0 0 (MQ below (mw_Qi G ad NF TF FF (mw_eqI r0 M0 L0)) [.int a1, .long a2].toArray s 0 0 (mw_fr G)) (F0 m 10 ls []) := by
    intro M L H locs ls hD hw hl
    unfold fX15_good_b10 at hD
    refine lv_lload_n C.1.1 C.1.2.1 dX15_good_10 rfl (lv_at hl 0 rfl) ?_
    refine lv_lconst (v := 1) C.1.1 C.1.2.1 dX15_good_11 (by decide) ?_
    refine W.lcmp C.1.1 C.1.2.1 dX15_good_12 ?_
    refine lv_if_lt (tgt := 28) C.1.1 C.1.2.1 dX15_good_13 (by decide) (fun c1 => ?_) (fun c1 => ?_)
    · replace hD := g_pos c1 hD
      exact hb28 M L _ _ ls hD hw (lv_sub hl [] rfl)
    · replace hD := g_neg c1 hD
      refine lv_lload_n C.1.1 C.1.2.1 dX15_good_16 rfl (lv_at hl 0 rfl) ?_
      refine lv_ldc2 (v := 50000) C.1.1 C.1.2.1 C.1.2.2.2.1 (C.1.2.2.2.2 _ wd_3522) dX15_good_17 ?_
      refine W.lcmp C.1.1 C.1.2.1 dX15_good_20 ?_
      refine lv_if_gt (tgt := 28) C.1.1 C.1.2.1 dX15_good_21 (by decide) (fun c2 => ?_) (fun c2 => ?_)
      · replace hD := g_pos c2 hD
        exact hb28 M L _ _ ls hD hw (lv_sub hl [] rfl)
      · replace hD := g_neg c2 hD
        refine lv_iconst (v := 1) C.1.1 C.1.2.1 dX15_good_24 (by decide) ?_
        refine lv_goto (tgt := 29) C.1.1 C.1.2.1 dX15_good_25 (by decide) ?_
        exact hb29 1 M L _ _ ls hD hw (lv_sub hl [] rfl)
  have hb59 : ∀ (s0 : Int32) (M : mwM) (L : mwL) (H : Heap) (locs : List Loc) (ls : Array Slot), fX15_good_b59 fu a1 a2 s0 M L = some (r0, M0, L0) → mw_W G ad NF TF FF M L H locs → lv_has ls 3 [] → W p l e ({ frames := 0, cells := 0, slots := 0, locals := 0 }) s m [.int a1, .long a2].toArray below meth c H locs 0 0 (MQ below (mw_Qi G ad NF TF FF (mw_eqI r0 M0 L0)) [.int a1, .long a2].toArray s 0 0 (mw_fr G)) (F0 m 59 ls [.int s0]) := by
    intro s0 M L H locs ls hD hw hl
    unfold fX15_good_b59 at hD
    obtain ⟨z6, hD⟩ := g_zz hD
    exact mr_iret C hr hlocks hw (nz_zz z6) (Option.some.inj hD) dX15_good_59
  have hb58 : ∀ (M : mwM) (L : mwL) (H : Heap) (locs : List Loc) (ls : Array Slot), fX15_good_b58 fu a1 a2 M L = some (r0, M0, L0) → mw_W G ad NF TF FF M L H locs → lv_has ls 3 [] → W p l e ({ frames := 0, cells := 0, slots := 0, locals := 0 }) s m [.int a1, .long a2].toArray below meth c H locs 0 0 (MQ below (mw_Qi G ad NF TF FF (mw_eqI r0 M0 L0)) [.int a1, .long a2].toArray s 0 0 (mw_fr G)) (F0 m 58 ls []) := by
    intro M L H locs ls hD hw hl
    unfold fX15_good_b58 at hD
    refine lv_iconst (v := 0) C.1.1 C.1.2.1 dX15_good_58 (by decide) ?_
    exact hb59 0 M L _ _ ls hD hw (lv_sub hl [] rfl)
  have hb40 : ∀ (M : mwM) (L : mwL) (H : Heap) (locs : List Loc) (ls : Array Slot), fX15_good_b40 fu a1 a2 M L = some (r0, M0, L0) → mw_W G ad NF TF FF M L H locs → lv_has ls 3 [(1, .long a2)] → W p l e ({ frames := 0, cells := 0, slots := 0, locals := 0 }) s m [.int a1, .long a2].toArray below meth c H locs 0 0 (MQ below (mw_Qi G ad NF TF FF (mw_eqI r0 M0 L0)) [.int a1, .long a2].toArray s 0 0 (mw_fr G)) (F0 m 40 ls []) := by
    intro M L H locs ls hD hw hl
    unfold fX15_good_b40 at hD
    refine lv_lload_n C.1.1 C.1.2.1 dX15_good_40 rfl (lv_at hl 0 rfl) ?_
    refine lv_lconst (v := 1) C.1.1 C.1.2.1 dX15_good_41 (by decide) ?_
    refine W.lcmp C.1.1 C.1.2.1 dX15_good_42 ?_
    refine lv_if_lt (tgt := 58) C.1.1 C.1.2.1 dX15_good_43 (by decide) (fun c4 => ?_) (fun c4 => ?_)
    · replace hD := g_pos c4 hD
      exact hb58 M L _ _ ls hD hw (lv_sub hl [] rfl)
    · replace hD := g_neg c4 hD
      refine lv_lload_n C.1.1 C.1.2.1 dX15_good_46 rfl (lv_at hl 0 rfl) ?_
      refine lv_ldc2 (v := 100) C.1.1 C.1.2.1 C.1.2.2.2.1 (C.1.2.2.2.2 _ wd_3523) dX15_good_47 ?_
      refine W.lcmp C.1.1 C.1.2.1 dX15_good_50 ?_
      refine lv_if_gt (tgt := 58) C.1.1 C.1.2.1 dX15_good_51 (by decide) (fun c5 => ?_) (fun c5 => ?_)
      · replace hD := g_pos c5 hD
        exact hb58 M L _ _ ls hD hw (lv_sub hl [] rfl)
      · replace hD := g_neg c5 hD
        refine lv_iconst (v := 1) C.1.1 C.1.2.1 dX15_good_54 (by decide) ?_
        refine lv_goto (tgt := 59) C.1.1 C.1.2.1 dX15_good_55 (by decide) ?_
        exact hb59 1 M L _ _ ls hD hw (lv_sub hl [] rfl)
  have hb89 : ∀ (s0 : Int32) (M : mwM) (L : mwL) (H : Heap) (locs : List Loc) (ls : Array Slot), fX15_good_b89 fu a1 a2 s0 M L = some (r0, M0, L0) → mw_W G ad NF TF FF M L H locs → lv_has ls 3 [] → W p l e ({ frames := 0, cells := 0, slots := 0, locals := 0 }) s m [.int a1, .long a2].toArray below meth c H locs 0 0 (MQ below (mw_Qi G ad NF TF FF (mw_eqI r0 M0 L0)) [.int a1, .long a2].toArray s 0 0 (mw_fr G)) (F0 m 89 ls [.int s0]) := by
    intro s0 M L H locs ls hD hw hl
    unfold fX15_good_b89 at hD
    obtain ⟨z9, hD⟩ := g_zz hD
    exact mr_iret C hr hlocks hw (nz_zz z9) (Option.some.inj hD) dX15_good_89
  have hb88 : ∀ (M : mwM) (L : mwL) (H : Heap) (locs : List Loc) (ls : Array Slot), fX15_good_b88 fu a1 a2 M L = some (r0, M0, L0) → mw_W G ad NF TF FF M L H locs → lv_has ls 3 [] → W p l e ({ frames := 0, cells := 0, slots := 0, locals := 0 }) s m [.int a1, .long a2].toArray below meth c H locs 0 0 (MQ below (mw_Qi G ad NF TF FF (mw_eqI r0 M0 L0)) [.int a1, .long a2].toArray s 0 0 (mw_fr G)) (F0 m 88 ls []) := by
    intro M L H locs ls hD hw hl
    unfold fX15_good_b88 at hD
    refine lv_iconst (v := 0) C.1.1 C.1.2.1 dX15_good_88 (by decide) ?_
    exact hb89 0 M L _ _ ls hD hw (lv_sub hl [] rfl)
  have hb70 : ∀ (M : mwM) (L : mwL) (H : Heap) (locs : List Loc) (ls : Array Slot), fX15_good_b70 fu a1 a2 M L = some (r0, M0, L0) → mw_W G ad NF TF FF M L H locs → lv_has ls 3 [(1, .long a2)] → W p l e ({ frames := 0, cells := 0, slots := 0, locals := 0 }) s m [.int a1, .long a2].toArray below meth c H locs 0 0 (MQ below (mw_Qi G ad NF TF FF (mw_eqI r0 M0 L0)) [.int a1, .long a2].toArray s 0 0 (mw_fr G)) (F0 m 70 ls []) := by
    intro M L H locs ls hD hw hl
    unfold fX15_good_b70 at hD
    refine lv_lload_n C.1.1 C.1.2.1 dX15_good_70 rfl (lv_at hl 0 rfl) ?_
    refine lv_lconst (v := 1) C.1.1 C.1.2.1 dX15_good_71 (by decide) ?_
    refine W.lcmp C.1.1 C.1.2.1 dX15_good_72 ?_
    refine lv_if_lt (tgt := 88) C.1.1 C.1.2.1 dX15_good_73 (by decide) (fun c7 => ?_) (fun c7 => ?_)
    · replace hD := g_pos c7 hD
      exact hb88 M L _ _ ls hD hw (lv_sub hl [] rfl)
    · replace hD := g_neg c7 hD
      refine lv_lload_n C.1.1 C.1.2.1 dX15_good_76 rfl (lv_at hl 0 rfl) ?_
      refine lv_ldc2 (v := 65535) C.1.1 C.1.2.1 C.1.2.2.2.1 (C.1.2.2.2.2 _ wd_3524) dX15_good_77 ?_
      refine W.lcmp C.1.1 C.1.2.1 dX15_good_80 ?_
      refine lv_if_gt (tgt := 88) C.1.1 C.1.2.1 dX15_good_81 (by decide) (fun c8 => ?_) (fun c8 => ?_)
      · replace hD := g_pos c8 hD
        exact hb88 M L _ _ ls hD hw (lv_sub hl [] rfl)
      · replace hD := g_neg c8 hD
        refine lv_iconst (v := 1) C.1.1 C.1.2.1 dX15_good_84 (by decide) ?_
        refine lv_goto (tgt := 89) C.1.1 C.1.2.1 dX15_good_85 (by decide) ?_
        exact hb89 1 M L _ _ ls hD hw (lv_sub hl [] rfl)
  have hb126 : ∀ (s0 : Int32) (M : mwM) (L : mwL) (H : Heap) (locs : List Loc) (ls : Array Slot), fX15_good_b126 fu a1 a2 s0 M L = some (r0, M0, L0) → mw_W G ad NF TF FF M L H locs → lv_has ls 3 [] → W p l e ({ frames := 0, cells := 0, slots := 0, locals := 0 }) s m [.int a1, .long a2].toArray below meth c H locs 0 0 (MQ below (mw_Qi G ad NF TF FF (mw_eqI r0 M0 L0)) [.int a1, .long a2].toArray s 0 0 (mw_fr G)) (F0 m 126 ls [.int s0]) := by
    intro s0 M L H locs ls hD hw hl
    unfold fX15_good_b126 at hD
    obtain ⟨z10, hD⟩ := g_zz hD
    exact mr_iret C hr hlocks hw (nz_zz z10) (Option.some.inj hD) dX15_good_126
  have hb125 : ∀ (M : mwM) (L : mwL) (H : Heap) (locs : List Loc) (ls : Array Slot), fX15_good_b125 fu a1 a2 M L = some (r0, M0, L0) → mw_W G ad NF TF FF M L H locs → lv_has ls 3 [] → W p l e ({ frames := 0, cells := 0, slots := 0, locals := 0 }) s m [.int a1, .long a2].toArray below meth c H locs 0 0 (MQ below (mw_Qi G ad NF TF FF (mw_eqI r0 M0 L0)) [.int a1, .long a2].toArray s 0 0 (mw_fr G)) (F0 m 125 ls []) := by
    intro M L H locs ls hD hw hl
    unfold fX15_good_b125 at hD
    refine lv_iconst (v := 0) C.1.1 C.1.2.1 dX15_good_125 (by decide) ?_
    exact hb126 0 M L _ _ ls hD hw (lv_sub hl [] rfl)
  have hb158 : ∀ (s0 : Int32) (M : mwM) (L : mwL) (H : Heap) (locs : List Loc) (ls : Array Slot), fX15_good_b158 fu a1 a2 s0 M L = some (r0, M0, L0) → mw_W G ad NF TF FF M L H locs → lv_has ls 3 [] → W p l e ({ frames := 0, cells := 0, slots := 0, locals := 0 }) s m [.int a1, .long a2].toArray below meth c H locs 0 0 (MQ below (mw_Qi G ad NF TF FF (mw_eqI r0 M0 L0)) [.int a1, .long a2].toArray s 0 0 (mw_fr G)) (F0 m 158 ls [.int s0]) := by
    intro s0 M L H locs ls hD hw hl
    unfold fX15_good_b158 at hD
    obtain ⟨z13, hD⟩ := g_zz hD
    exact mr_iret C hr hlocks hw (nz_zz z13) (Option.some.inj hD) dX15_good_158
  have hb157 : ∀ (M : mwM) (L : mwL) (H : Heap) (locs : List Loc) (ls : Array Slot), fX15_good_b157 fu a1 a2 M L = some (r0, M0, L0) → mw_W G ad NF TF FF M L H locs → lv_has ls 3 [] → W p l e ({ frames := 0, cells := 0, slots := 0, locals := 0 }) s m [.int a1, .long a2].toArray below meth c H locs 0 0 (MQ below (mw_Qi G ad NF TF FF (mw_eqI r0 M0 L0)) [.int a1, .long a2].toArray s 0 0 (mw_fr G)) (F0 m 157 ls []) := by
    intro M L H locs ls hD hw hl
    unfold fX15_good_b157 at hD
    refine lv_iconst (v := 0) C.1.1 C.1.2.1 dX15_good_157 (by decide) ?_
    exact hb158 0 M L _ _ ls hD hw (lv_sub hl [] rfl)
  have hb139 : ∀ (M : mwM) (L : mwL) (H : Heap) (locs : List Loc) (ls : Array Slot), fX15_good_b139 fu a1 a2 M L = some (r0, M0, L0) → mw_W G ad NF TF FF M L H locs → lv_has ls 3 [(1, .long a2)] → W p l e ({ frames := 0, cells := 0, slots := 0, locals := 0 }) s m [.int a1, .long a2].toArray below meth c H locs 0 0 (MQ below (mw_Qi G ad NF TF FF (mw_eqI r0 M0 L0)) [.int a1, .long a2].toArray s 0 0 (mw_fr G)) (F0 m 139 ls []) := by
    intro M L H locs ls hD hw hl
    unfold fX15_good_b139 at hD
    refine lv_lload_n C.1.1 C.1.2.1 dX15_good_139 rfl (lv_at hl 0 rfl) ?_
    refine lv_lconst (v := 1) C.1.1 C.1.2.1 dX15_good_140 (by decide) ?_
    refine W.lcmp C.1.1 C.1.2.1 dX15_good_141 ?_
    refine lv_if_lt (tgt := 157) C.1.1 C.1.2.1 dX15_good_142 (by decide) (fun c11 => ?_) (fun c11 => ?_)
    · replace hD := g_pos c11 hD
      exact hb157 M L _ _ ls hD hw (lv_sub hl [] rfl)
    · replace hD := g_neg c11 hD
      refine lv_lload_n C.1.1 C.1.2.1 dX15_good_145 rfl (lv_at hl 0 rfl) ?_
      refine lv_ldc2 (v := 32) C.1.1 C.1.2.1 C.1.2.2.2.1 (C.1.2.2.2.2 _ wd_3528) dX15_good_146 ?_
      refine W.lcmp C.1.1 C.1.2.1 dX15_good_149 ?_
      refine lv_if_gt (tgt := 157) C.1.1 C.1.2.1 dX15_good_150 (by decide) (fun c12 => ?_) (fun c12 => ?_)
      · replace hD := g_pos c12 hD
        exact hb157 M L _ _ ls hD hw (lv_sub hl [] rfl)
      · replace hD := g_neg c12 hD
        refine lv_iconst (v := 1) C.1.1 C.1.2.1 dX15_good_153 (by decide) ?_
        refine lv_goto (tgt := 158) C.1.1 C.1.2.1 dX15_good_154 (by decide) ?_
        exact hb158 1 M L _ _ ls hD hw (lv_sub hl [] rfl)
  have hb190 : ∀ (s0 : Int32) (M : mwM) (L : mwL) (H : Heap) (locs : List Loc) (ls : Array Slot), fX15_good_b190 fu a1 a2 s0 M L = some (r0, M0, L0) → mw_W G ad NF TF FF M L H locs → lv_has ls 3 [] → W p l e ({ frames := 0, cells := 0, slots := 0, locals := 0 }) s m [.int a1, .long a2].toArray below meth c H locs 0 0 (MQ below (mw_Qi G ad NF TF FF (mw_eqI r0 M0 L0)) [.int a1, .long a2].toArray s 0 0 (mw_fr G)) (F0 m 190 ls [.int s0]) := by
    intro s0 M L H locs ls hD hw hl
    unfold fX15_good_b190 at hD
    obtain ⟨z16, hD⟩ := g_zz hD
    exact mr_iret C hr hlocks hw (nz_zz z16) (Option.some.inj hD) dX15_good_190
  have hb189 : ∀ (M : mwM) (L : mwL) (H : Heap) (locs : List Loc) (ls : Array Slot), fX15_good_b189 fu a1 a2 M L = some (r0, M0, L0) → mw_W G ad NF TF FF M L H locs → lv_has ls 3 [] → W p l e ({ frames := 0, cells := 0, slots := 0, locals := 0 }) s m [.int a1, .long a2].toArray below meth c H locs 0 0 (MQ below (mw_Qi G ad NF TF FF (mw_eqI r0 M0 L0)) [.int a1, .long a2].toArray s 0 0 (mw_fr G)) (F0 m 189 ls []) := by
    intro M L H locs ls hD hw hl
    unfold fX15_good_b189 at hD
    refine lv_iconst (v := 0) C.1.1 C.1.2.1 dX15_good_189 (by decide) ?_
    exact hb190 0 M L _ _ ls hD hw (lv_sub hl [] rfl)
  have hb171 : ∀ (M : mwM) (L : mwL) (H : Heap) (locs : List Loc) (ls : Array Slot), fX15_good_b171 fu a1 a2 M L = some (r0, M0, L0) → mw_W G ad NF TF FF M L H locs → lv_has ls 3 [(1, .long a2)] → W p l e ({ frames := 0, cells := 0, slots := 0, locals := 0 }) s m [.int a1, .long a2].toArray below meth c H locs 0 0 (MQ below (mw_Qi G ad NF TF FF (mw_eqI r0 M0 L0)) [.int a1, .long a2].toArray s 0 0 (mw_fr G)) (F0 m 171 ls []) := by
    intro M L H locs ls hD hw hl
    unfold fX15_good_b171 at hD
    refine lv_lload_n C.1.1 C.1.2.1 dX15_good_171 rfl (lv_at hl 0 rfl) ?_
    refine lv_lconst (v := 1) C.1.1 C.1.2.1 dX15_good_172 (by decide) ?_
    refine W.lcmp C.1.1 C.1.2.1 dX15_good_173 ?_
    refine lv_if_lt (tgt := 189) C.1.1 C.1.2.1 dX15_good_174 (by decide) (fun c14 => ?_) (fun c14 => ?_)
    · replace hD := g_pos c14 hD
      exact hb189 M L _ _ ls hD hw (lv_sub hl [] rfl)
    · replace hD := g_neg c14 hD
      refine lv_lload_n C.1.1 C.1.2.1 dX15_good_177 rfl (lv_at hl 0 rfl) ?_
      refine lv_ldc2 (v := 16) C.1.1 C.1.2.1 C.1.2.2.2.1 (C.1.2.2.2.2 _ wd_3529) dX15_good_178 ?_
      refine W.lcmp C.1.1 C.1.2.1 dX15_good_181 ?_
      refine lv_if_gt (tgt := 189) C.1.1 C.1.2.1 dX15_good_182 (by decide) (fun c15 => ?_) (fun c15 => ?_)
      · replace hD := g_pos c15 hD
        exact hb189 M L _ _ ls hD hw (lv_sub hl [] rfl)
      · replace hD := g_neg c15 hD
        refine lv_iconst (v := 1) C.1.1 C.1.2.1 dX15_good_185 (by decide) ?_
        refine lv_goto (tgt := 190) C.1.1 C.1.2.1 dX15_good_186 (by decide) ?_
        exact hb190 1 M L _ _ ls hD hw (lv_sub hl [] rfl)
  have hb202 : ∀ (s0 : Int32) (M : mwM) (L : mwL) (H : Heap) (locs : List Loc) (ls : Array Slot), fX15_good_b202 fu a1 a2 s0 M L = some (r0, M0, L0) → mw_W G ad NF TF FF M L H locs → lv_has ls 3 [] → W p l e ({ frames := 0, cells := 0, slots := 0, locals := 0 }) s m [.int a1, .long a2].toArray below meth c H locs 0 0 (MQ below (mw_Qi G ad NF TF FF (mw_eqI r0 M0 L0)) [.int a1, .long a2].toArray s 0 0 (mw_fr G)) (F0 m 202 ls [.int s0]) := by
    intro s0 M L H locs ls hD hw hl
    unfold fX15_good_b202 at hD
    obtain ⟨z17, hD⟩ := g_zz hD
    exact mr_iret C hr hlocks hw (nz_zz z17) (Option.some.inj hD) dX15_good_202
  unfold DX15_good at hD
  refine lv_iload_n C.1.1 C.1.2.1 dX15_good_0 rfl (lv_at hl 0 rfl) ?_
  refine lv_if_eq (tgt := 10) C.1.1 C.1.2.1 dX15_good_1 (by decide) (fun c18 => ?_) (fun c18 => ?_)
  · replace hD := g_pos c18 hD
    exact hb10 M L _ _ ls hD hw (lv_sub hl [1] rfl)
  · replace hD := g_neg c18 hD
    refine lv_iload_n C.1.1 C.1.2.1 dX15_good_4 rfl (lv_at hl 0 rfl) ?_
    refine lv_bipush (v := 12) C.1.1 C.1.2.1 dX15_good_5 (by decide) ?_
    refine lv_icmp_ne (tgt := 30) C.1.1 C.1.2.1 dX15_good_7 (by decide) (fun c19 => ?_) (fun c19 => ?_)
    · replace hD := g_neg c19 hD
      refine lv_iload_n C.1.1 C.1.2.1 dX15_good_30 rfl (lv_at hl 0 rfl) ?_
      refine lv_iconst (v := 1) C.1.1 C.1.2.1 dX15_good_31 (by decide) ?_
      refine lv_icmp_eq (tgt := 40) C.1.1 C.1.2.1 dX15_good_32 (by decide) (fun c20 => ?_) (fun c20 => ?_)
      · replace hD := g_pos c20 hD
        exact hb40 M L _ _ ls hD hw (lv_sub hl [1] rfl)
      · replace hD := g_neg c20 hD
        refine lv_iload_n C.1.1 C.1.2.1 dX15_good_35 rfl (lv_at hl 0 rfl) ?_
        refine lv_iconst (v := 2) C.1.1 C.1.2.1 dX15_good_36 (by decide) ?_
        refine lv_icmp_ne (tgt := 60) C.1.1 C.1.2.1 dX15_good_37 (by decide) (fun c21 => ?_) (fun c21 => ?_)
        · replace hD := g_neg c21 hD
          refine lv_iload_n C.1.1 C.1.2.1 dX15_good_60 rfl (lv_at hl 0 rfl) ?_
          refine lv_iconst (v := 3) C.1.1 C.1.2.1 dX15_good_61 (by decide) ?_
          refine lv_icmp_eq (tgt := 70) C.1.1 C.1.2.1 dX15_good_62 (by decide) (fun c22 => ?_) (fun c22 => ?_)
          · replace hD := g_pos c22 hD
            exact hb70 M L _ _ ls hD hw (lv_sub hl [1] rfl)
          · replace hD := g_neg c22 hD
            refine lv_iload_n C.1.1 C.1.2.1 dX15_good_65 rfl (lv_at hl 0 rfl) ?_
            refine lv_iconst (v := 5) C.1.1 C.1.2.1 dX15_good_66 (by decide) ?_
            refine lv_icmp_ne (tgt := 90) C.1.1 C.1.2.1 dX15_good_67 (by decide) (fun c23 => ?_) (fun c23 => ?_)
            · replace hD := g_neg c23 hD
              refine lv_iload_n C.1.1 C.1.2.1 dX15_good_90 rfl (lv_at hl 0 rfl) ?_
              refine lv_iconst (v := 4) C.1.1 C.1.2.1 dX15_good_91 (by decide) ?_
              refine lv_icmp_ne (tgt := 127) C.1.1 C.1.2.1 dX15_good_92 (by decide) (fun c24 => ?_) (fun c24 => ?_)
              · replace hD := g_neg c24 hD
                refine lv_iload_n C.1.1 C.1.2.1 dX15_good_127 rfl (lv_at hl 0 rfl) ?_
                refine lv_bipush (v := 6) C.1.1 C.1.2.1 dX15_good_128 (by decide) ?_
                refine lv_icmp_eq (tgt := 139) C.1.1 C.1.2.1 dX15_good_130 (by decide) (fun c25 => ?_) (fun c25 => ?_)
                · replace hD := g_pos c25 hD
                  exact hb139 M L _ _ ls hD hw (lv_sub hl [1] rfl)
                · replace hD := g_neg c25 hD
                  refine lv_iload_n C.1.1 C.1.2.1 dX15_good_133 rfl (lv_at hl 0 rfl) ?_
                  refine lv_bipush (v := 7) C.1.1 C.1.2.1 dX15_good_134 (by decide) ?_
                  refine lv_icmp_ne (tgt := 159) C.1.1 C.1.2.1 dX15_good_136 (by decide) (fun c26 => ?_) (fun c26 => ?_)
                  · replace hD := g_neg c26 hD
                    refine lv_iload_n C.1.1 C.1.2.1 dX15_good_159 rfl (lv_at hl 0 rfl) ?_
                    refine lv_bipush (v := 8) C.1.1 C.1.2.1 dX15_good_160 (by decide) ?_
                    refine lv_icmp_eq (tgt := 171) C.1.1 C.1.2.1 dX15_good_162 (by decide) (fun c27 => ?_) (fun c27 => ?_)
                    · replace hD := g_pos c27 hD
                      exact hb171 M L _ _ ls hD hw (lv_sub hl [1] rfl)
                    · replace hD := g_neg c27 hD
                      refine lv_iload_n C.1.1 C.1.2.1 dX15_good_165 rfl (lv_at hl 0 rfl) ?_
                      refine lv_bipush (v := 9) C.1.1 C.1.2.1 dX15_good_166 (by decide) ?_
                      refine lv_icmp_ne (tgt := 191) C.1.1 C.1.2.1 dX15_good_168 (by decide) (fun c28 => ?_) (fun c28 => ?_)
                      · replace hD := g_neg c28 hD
                        refine lv_lload_n C.1.1 C.1.2.1 dX15_good_191 rfl (lv_at hl 1 rfl) ?_
                        refine lv_lconst (v := 0) C.1.1 C.1.2.1 dX15_good_192 (by decide) ?_
                        refine W.lcmp C.1.1 C.1.2.1 dX15_good_193 ?_
                        refine lv_if_ne (tgt := 201) C.1.1 C.1.2.1 dX15_good_194 (by decide) (fun c29 => ?_) (fun c29 => ?_)
                        · replace hD := g_neg c29 hD
                          refine lv_iconst (v := 0) C.1.1 C.1.2.1 dX15_good_201 (by decide) ?_
                          exact hb202 0 M L _ _ ls hD hw (lv_sub hl [] rfl)
                        · replace hD := g_pos c29 hD
                          refine lv_iconst (v := 1) C.1.1 C.1.2.1 dX15_good_197 (by decide) ?_
                          refine lv_goto (tgt := 202) C.1.1 C.1.2.1 dX15_good_198 (by decide) ?_
                          exact hb202 1 M L _ _ ls hD hw (lv_sub hl [] rfl)
                      · replace hD := g_pos c28 hD
                        exact hb171 M L _ _ ls hD hw (lv_sub hl [1] rfl)
                  · replace hD := g_pos c26 hD
                    exact hb139 M L _ _ ls hD hw (lv_sub hl [1] rfl)
              · replace hD := g_pos c24 hD
                refine lv_lload_n C.1.1 C.1.2.1 dX15_good_95 rfl (lv_at hl 1 rfl) ?_
                refine lv_ldc2 (v := 65537) C.1.1 C.1.2.1 C.1.2.2.2.1 (C.1.2.2.2.2 _ wd_3525) dX15_good_96 ?_
                refine W.lcmp C.1.1 C.1.2.1 dX15_good_99 ?_
                refine lv_if_lt (tgt := 125) C.1.1 C.1.2.1 dX15_good_100 (by decide) (fun c30 => ?_) (fun c30 => ?_)
                · replace hD := g_pos c30 hD
                  exact hb125 M L _ _ ls hD hw (lv_sub hl [] rfl)
                · replace hD := g_neg c30 hD
                  refine lv_lload_n C.1.1 C.1.2.1 dX15_good_103 rfl (lv_at hl 1 rfl) ?_
                  refine lv_ldc2 (v := 6619135) C.1.1 C.1.2.1 C.1.2.2.2.1 (C.1.2.2.2.2 _ wd_3526) dX15_good_104 ?_
                  refine W.lcmp C.1.1 C.1.2.1 dX15_good_107 ?_
                  refine lv_if_gt (tgt := 125) C.1.1 C.1.2.1 dX15_good_108 (by decide) (fun c31 => ?_) (fun c31 => ?_)
                  · replace hD := g_pos c31 hD
                    exact hb125 M L _ _ ls hD hw (lv_sub hl [] rfl)
                  · replace hD := g_neg c31 hD
                    refine lv_lload_n C.1.1 C.1.2.1 dX15_good_111 rfl (lv_at hl 1 rfl) ?_
                    refine lv_ldc2 (v := 65536) C.1.1 C.1.2.1 C.1.2.2.2.1 (C.1.2.2.2.2 _ wd_3527) dX15_good_112 ?_
                    obtain ⟨q32, hD⟩ := g_nzL hD
                    refine lv_lrem C.1.1 C.1.2.1 dX15_good_115 q32 ?_
                    refine lv_lconst (v := 0) C.1.1 C.1.2.1 dX15_good_116 (by decide) ?_
                    refine W.lcmp C.1.1 C.1.2.1 dX15_good_117 ?_
                    refine lv_if_le (tgt := 125) C.1.1 C.1.2.1 dX15_good_118 (by decide) (fun c33 => ?_) (fun c33 => ?_)
                    · replace hD := g_pos c33 hD
                      exact hb125 M L _ _ ls hD hw (lv_sub hl [] rfl)
                    · replace hD := g_neg c33 hD
                      refine lv_iconst (v := 1) C.1.1 C.1.2.1 dX15_good_121 (by decide) ?_
                      refine lv_goto (tgt := 126) C.1.1 C.1.2.1 dX15_good_122 (by decide) ?_
                      exact hb126 1 M L _ _ ls hD hw (lv_sub hl [] rfl)
            · replace hD := g_pos c23 hD
              exact hb70 M L _ _ ls hD hw (lv_sub hl [1] rfl)
        · replace hD := g_pos c21 hD
          exact hb40 M L _ _ ls hD hw (lv_sub hl [1] rfl)
    · replace hD := g_pos c19 hD
      exact hb10 M L _ _ ls hD hw (lv_sub hl [1] rfl)

theorem dX15_part_0 : decode cX15_part 0 = .ok (.aload_n 0, 1) := by decide +kernel
theorem dX15_part_1 : decode cX15_part 1 = .ok (.iload_n 1, 1) := by decide +kernel
theorem dX15_part_2 : decode cX15_part 2 = .ok (.invokevirtual 165, 3) := by decide +kernel
theorem dX15_part_5 : decode cX15_part 5 = .ok (.ifCond .eq 5, 3) := by decide +kernel
theorem dX15_part_8 : decode cX15_part 8 = .ok (.iconst (-1), 1) := by decide +kernel
theorem dX15_part_9 : decode cX15_part 9 = .ok (.ireturn, 1) := by decide +kernel
theorem dX15_part_10 : decode cX15_part 10 = .ok (.iload_n 2, 1) := by decide +kernel
theorem dX15_part_11 : decode cX15_part 11 = .ok (.ifCond .lt 17, 3) := by decide +kernel
theorem dX15_part_14 : decode cX15_part 14 = .ok (.iload_n 2, 1) := by decide +kernel
theorem dX15_part_15 : decode cX15_part 15 = .ok (.bipush 13, 2) := by decide +kernel
theorem dX15_part_17 : decode cX15_part 17 = .ok (.if_icmp .gt 11, 3) := by decide +kernel
theorem dX15_part_20 : decode cX15_part 20 = .ok (.iload_n 2, 1) := by decide +kernel
theorem dX15_part_21 : decode cX15_part 21 = .ok (.lload_n 3, 1) := by decide +kernel
theorem dX15_part_22 : decode cX15_part 22 = .ok (.invokestatic 169, 3) := by decide +kernel
theorem dX15_part_25 : decode cX15_part 25 = .ok (.ifCond .ne 6, 3) := by decide +kernel
theorem dX15_part_28 : decode cX15_part 28 = .ok (.bipush (-2), 2) := by decide +kernel
theorem dX15_part_30 : decode cX15_part 30 = .ok (.ireturn, 1) := by decide +kernel
theorem dX15_part_31 : decode cX15_part 31 = .ok (.aload_n 0, 1) := by decide +kernel
theorem dX15_part_32 : decode cX15_part 32 = .ok (.getfield 146, 3) := by decide +kernel
theorem dX15_part_35 : decode cX15_part 35 = .ok (.lconst 0, 1) := by decide +kernel
theorem dX15_part_36 : decode cX15_part 36 = .ok (.lcmp, 1) := by decide +kernel
theorem dX15_part_37 : decode cX15_part 37 = .ok (.ifCond .le 6, 3) := by decide +kernel
theorem dX15_part_40 : decode cX15_part 40 = .ok (.bipush (-3), 2) := by decide +kernel
theorem dX15_part_42 : decode cX15_part 42 = .ok (.ireturn, 1) := by decide +kernel
theorem dX15_part_43 : decode cX15_part 43 = .ok (.aload_n 0, 1) := by decide +kernel
theorem dX15_part_44 : decode cX15_part 44 = .ok (.getfield 120, 3) := by decide +kernel
theorem dX15_part_47 : decode cX15_part 47 = .ok (.sipush 500, 3) := by decide +kernel
theorem dX15_part_50 : decode cX15_part 50 = .ok (.if_icmp .ne 6, 3) := by decide +kernel
theorem dX15_part_53 : decode cX15_part 53 = .ok (.bipush (-4), 2) := by decide +kernel
theorem dX15_part_55 : decode cX15_part 55 = .ok (.ireturn, 1) := by decide +kernel
theorem dX15_part_56 : decode cX15_part 56 = .ok (.aload_n 0, 1) := by decide +kernel
theorem dX15_part_57 : decode cX15_part 57 = .ok (.getfield 26, 3) := by decide +kernel
theorem dX15_part_60 : decode cX15_part 60 = .ok (.aload_n 0, 1) := by decide +kernel
theorem dX15_part_61 : decode cX15_part 61 = .ok (.getfield 120, 3) := by decide +kernel
theorem dX15_part_64 : decode cX15_part 64 = .ok (.iload_n 1, 1) := by decide +kernel
theorem dX15_part_65 : decode cX15_part 65 = .ok (.iastore, 1) := by decide +kernel
theorem dX15_part_66 : decode cX15_part 66 = .ok (.aload_n 0, 1) := by decide +kernel
theorem dX15_part_67 : decode cX15_part 67 = .ok (.getfield 29, 3) := by decide +kernel
theorem dX15_part_70 : decode cX15_part 70 = .ok (.aload_n 0, 1) := by decide +kernel
theorem dX15_part_71 : decode cX15_part 71 = .ok (.getfield 120, 3) := by decide +kernel
theorem dX15_part_74 : decode cX15_part 74 = .ok (.iload_n 2, 1) := by decide +kernel
theorem dX15_part_75 : decode cX15_part 75 = .ok (.iastore, 1) := by decide +kernel
theorem dX15_part_76 : decode cX15_part 76 = .ok (.aload_n 0, 1) := by decide +kernel
theorem dX15_part_77 : decode cX15_part 77 = .ok (.getfield 32, 3) := by decide +kernel
theorem dX15_part_80 : decode cX15_part 80 = .ok (.aload_n 0, 1) := by decide +kernel
theorem dX15_part_81 : decode cX15_part 81 = .ok (.getfield 120, 3) := by decide +kernel
theorem dX15_part_84 : decode cX15_part 84 = .ok (.lload_n 3, 1) := by decide +kernel
theorem dX15_part_85 : decode cX15_part 85 = .ok (.lastore, 1) := by decide +kernel
theorem dX15_part_86 : decode cX15_part 86 = .ok (.aload_n 0, 1) := by decide +kernel
theorem dX15_part_87 : decode cX15_part 87 = .ok (.dup, 1) := by decide +kernel
theorem dX15_part_88 : decode cX15_part 88 = .ok (.getfield 120, 3) := by decide +kernel
theorem dX15_part_91 : decode cX15_part 91 = .ok (.iconst 1, 1) := by decide +kernel
theorem dX15_part_92 : decode cX15_part 92 = .ok (.iadd, 1) := by decide +kernel
theorem dX15_part_93 : decode cX15_part 93 = .ok (.putfield 120, 3) := by decide +kernel
theorem dX15_part_96 : decode cX15_part 96 = .ok (.iconst 0, 1) := by decide +kernel
theorem dX15_part_97 : decode cX15_part 97 = .ok (.istore 5, 2) := by decide +kernel
theorem dX15_part_99 : decode cX15_part 99 = .ok (.iconst 0, 1) := by decide +kernel
theorem dX15_part_100 : decode cX15_part 100 = .ok (.istore 6, 2) := by decide +kernel
theorem dX15_part_102 : decode cX15_part 102 = .ok (.iload 6, 2) := by decide +kernel
theorem dX15_part_104 : decode cX15_part 104 = .ok (.aload_n 0, 1) := by decide +kernel
theorem dX15_part_105 : decode cX15_part 105 = .ok (.getfield 120, 3) := by decide +kernel
theorem dX15_part_108 : decode cX15_part 108 = .ok (.if_icmp .ge 31, 3) := by decide +kernel
theorem dX15_part_111 : decode cX15_part 111 = .ok (.aload_n 0, 1) := by decide +kernel
theorem dX15_part_112 : decode cX15_part 112 = .ok (.getfield 26, 3) := by decide +kernel
theorem dX15_part_115 : decode cX15_part 115 = .ok (.iload 6, 2) := by decide +kernel
theorem dX15_part_117 : decode cX15_part 117 = .ok (.iaload, 1) := by decide +kernel
theorem dX15_part_118 : decode cX15_part 118 = .ok (.iload_n 1, 1) := by decide +kernel
theorem dX15_part_119 : decode cX15_part 119 = .ok (.if_icmp .ne 10, 3) := by decide +kernel
theorem dX15_part_122 : decode cX15_part 122 = .ok (.iload 5, 2) := by decide +kernel
theorem dX15_part_124 : decode cX15_part 124 = .ok (.iconst 1, 1) := by decide +kernel
theorem dX15_part_125 : decode cX15_part 125 = .ok (.iadd, 1) := by decide +kernel
theorem dX15_part_126 : decode cX15_part 126 = .ok (.goto 5, 3) := by decide +kernel
theorem dX15_part_129 : decode cX15_part 129 = .ok (.iload 5, 2) := by decide +kernel
theorem dX15_part_131 : decode cX15_part 131 = .ok (.istore 5, 2) := by decide +kernel
theorem dX15_part_133 : decode cX15_part 133 = .ok (.iinc 6 1, 3) := by decide +kernel
theorem dX15_part_136 : decode cX15_part 136 = .ok (.goto (-34), 3) := by decide +kernel
theorem dX15_part_139 : decode cX15_part 139 = .ok (.iload 5, 2) := by decide +kernel
theorem dX15_part_141 : decode cX15_part 141 = .ok (.ireturn, 1) := by decide +kernel
theorem cwX15_part : mw_cwV yX15_part cX15_part 7 ((some .int)) 3 := ⟨⟨wd_14, wd_3514, by decide +kernel⟩, wd_3512, wd_3513⟩
set_option maxHeartbeats 4000000 in
set_option maxRecDepth 100000 in
theorem tX15_part (l : Launch) (G : mwG) (ad : Nat → Nat) (fu : Nat) (a1 : Int32) (a2 : Int32) (a3 : Int64) (M : mwM) (L : mwL) {r0 : Int32} {M0 : mwM} {L0 : mwL} (hD : DX15_part fu a1 a2 a3 M L = some (r0, M0, L0)) : Met l yX15_part (Cond.code yX15_part cX15_part 7 ((some .int)) :: GT) ({ frames := 1, cells := 0, slots := 0, locals := 22 }) (mw_Pre G ad NF TF FF M L [.ref (ad 787), .int a1, .int a2, .long a3]) (mw_Qi G ad NF TF FF (mw_eqI r0 M0 L0)) 0 0 (mw_fr G) := by
  refine mw_enter (by decide) (Nat.le_of_ble_eq_true rfl) ?_
  intro p e s m below meth c ls C hr hlocks hnm hw hl
  have hl : lv_has ls 7 [(0, .ref (ad 787)), (1, .int a1), (2, .int a2), (3, .long a3)] := hl
  have hb28 : ∀ (M : mwM) (L : mwL) (H : Heap) (locs : List Loc) (ls : Array Slot), fX15_part_b28 fu a1 a2 a3 M L = some (r0, M0, L0) → mw_W G ad NF TF FF M L H locs → lv_has ls 7 [] → W p l e ({ frames := 1, cells := 0, slots := 0, locals := 22 }) s m [.ref (ad 787), .int a1, .int a2, .long a3].toArray below meth c H locs 0 0 (MQ below (mw_Qi G ad NF TF FF (mw_eqI r0 M0 L0)) [.ref (ad 787), .int a1, .int a2, .long a3].toArray s 0 0 (mw_fr G)) (F0 m 28 ls []) := by
    intro M L H locs ls hD hw hl
    unfold fX15_part_b28 at hD
    refine lv_bipush (v := (-2)) C.1.1 C.1.2.1 dX15_part_28 (by decide) ?_
    exact mr_iret C hr hlocks hw rfl (Option.some.inj hD) dX15_part_30
  have hh102 : ∀ (f : Nat) (v5 : Int32) (v6 : Int32) (M : mwM) (L : mwL) (H : Heap) (locs : List Loc) (ls : Array Slot), fX15_part_h102 fu a1 a2 a3 f (v5, v6, M, L) = some (r0, M0, L0) → mw_W G ad NF TF FF M L H locs → lv_has ls 7 [(0, .ref (ad 787)), (1, .int a1), (5, .int v5), (6, .int v6)] → W p l e ({ frames := 1, cells := 0, slots := 0, locals := 22 }) s m [.ref (ad 787), .int a1, .int a2, .long a3].toArray below meth c H locs 0 0 (MQ below (mw_Qi G ad NF TF FF (mw_eqI r0 M0 L0)) [.ref (ad 787), .int a1, .int a2, .long a3].toArray s 0 0 (mw_fr G)) (F0 m 102 ls []) := by
    intro f
    induction f with
    | zero => intro v5 v6 M L H locs ls hD; cases hD
    | succ f102 ih102 =>
      intro v5 v6 M L H locs ls hD hw hl
      replace hD : fX15_part_i102 fu a1 a2 a3 (fX15_part_h102 fu a1 a2 a3 f102) v5 v6 M L = some (r0, M0, L0) := hD
      have hb131 : ∀ (v6 : Int32) (s0 : Int32) (M : mwM) (L : mwL) (H : Heap) (locs : List Loc) (ls : Array Slot), fX15_part_b131 fu a1 a2 a3 (fX15_part_h102 fu a1 a2 a3 f102) v6 s0 M L = some (r0, M0, L0) → mw_W G ad NF TF FF M L H locs → lv_has ls 7 [(0, .ref (ad 787)), (1, .int a1), (6, .int v6)] → W p l e ({ frames := 1, cells := 0, slots := 0, locals := 22 }) s m [.ref (ad 787), .int a1, .int a2, .long a3].toArray below meth c H locs 0 0 (MQ below (mw_Qi G ad NF TF FF (mw_eqI r0 M0 L0)) [.ref (ad 787), .int a1, .int a2, .long a3].toArray s 0 0 (mw_fr G)) (F0 m 131 ls [.int s0]) := by
        intro v6 s0 M L H locs ls hD hw hl
        unfold fX15_part_b131 at hD
        refine lv_istore (lv' := [(5, .int s0), (0, .ref (ad 787)), (1, .int a1), (6, .int v6)]) C.1.1 C.1.2.1 dX15_part_131 hl (by decide) rfl (fun ls hl => ?_)
        obtain ⟨x4, ex4, hD⟩ := g_let hD
        refine lv_iinc (v := x4) (lv' := [(6, .int x4), (5, .int s0), (0, .ref (ad 787)), (1, .int a1)]) C.1.1 C.1.2.1 dX15_part_133 hl (k := 3) rfl (by rw [ex4]; rfl) (by decide) rfl (fun ls hl => ?_)
        refine lv_goto (tgt := 102) C.1.1 C.1.2.1 dX15_part_136 (by decide) ?_
        exact ih102 s0 x4 M L _ _ ls hD hw (lv_sub hl [2, 3, 1, 0] rfl)
      unfold fX15_part_i102 at hD
      refine lv_iload C.1.1 C.1.2.1 dX15_part_102 (lv_at hl 3 rfl) ?_
      refine lv_aload_n C.1.1 C.1.2.1 dX15_part_104 rfl (lv_at hl 0 rfl) ?_
      refine mr_getI C hw kc_15 7 (by decide) tf_787 wd_1962 dX15_part_105 (by decide) rfl ?_
      refine lv_icmp_ge (tgt := 139) C.1.1 C.1.2.1 dX15_part_108 (by decide) (fun c1 => ?_) (fun c1 => ?_)
      · replace hD := g_pos c1 hD
        refine lv_iload C.1.1 C.1.2.1 dX15_part_139 (lv_at hl 2 rfl) ?_
        exact mr_iret C hr hlocks hw rfl (Option.some.inj hD) dX15_part_141
      · replace hD := g_neg c1 hD
        refine lv_aload_n C.1.1 C.1.2.1 dX15_part_111 rfl (lv_at hl 0 rfl) ?_
        refine mr_getR C hw kc_15 8 (by decide) tf_787 ff_787_8 wd_1963 dX15_part_112 (by decide) rfl ?_
        refine lv_iload C.1.1 C.1.2.1 dX15_part_115 (lv_at hl 3 rfl) ?_
        obtain ⟨q2, hD⟩ := g_ck hD
        refine mr_iald C hw (by decide) tf_793 q2 dX15_part_117 ?_
        refine lv_iload_n C.1.1 C.1.2.1 dX15_part_118 rfl (lv_at hl 1 rfl) ?_
        refine lv_icmp_ne (tgt := 129) C.1.1 C.1.2.1 dX15_part_119 (by decide) (fun c3 => ?_) (fun c3 => ?_)
        · replace hD := g_neg c3 hD
          refine lv_iload C.1.1 C.1.2.1 dX15_part_129 (lv_at hl 2 rfl) ?_
          exact hb131 v6 v5 M L _ _ ls hD hw (lv_sub hl [0, 1, 3] rfl)
        · replace hD := g_pos c3 hD
          refine lv_iload C.1.1 C.1.2.1 dX15_part_122 (lv_at hl 2 rfl) ?_
          refine lv_iconst (v := 1) C.1.1 C.1.2.1 dX15_part_124 (by decide) ?_
          refine lv_iadd C.1.1 C.1.2.1 dX15_part_125 ?_
          refine lv_goto (tgt := 131) C.1.1 C.1.2.1 dX15_part_126 (by decide) ?_
          exact hb131 v6 (v5 + 1) M L _ _ ls hD hw (lv_sub hl [0, 1, 3] rfl)
  unfold DX15_part at hD
  refine lv_aload_n C.1.1 C.1.2.1 dX15_part_0 rfl (lv_at hl 0 rfl) ?_
  refine lv_iload_n C.1.1 C.1.2.1 dX15_part_1 rfl (lv_at hl 1 rfl) ?_
  obtain ⟨r7, M5, L6, h1, hD⟩ := g_b3 hD
  refine md_cvI (As := [.int a1]) (rest := []) C hw (tX15_no l G ad fu a1 M L h1) kc_15 (by decide) tf_787 wd_3515 cwX15_no ⟨Nat.le_of_ble_eq_true rfl, Nat.le_of_ble_eq_true rfl⟩ rfl hl.1 (Nat.le_of_ble_eq_true rfl) dX15_part_2 rfl rfl ⟨Nat.zero_le _, Nat.zero_le _⟩ rfl (fun H locs hw => ?_)
  refine lv_if_eq (tgt := 10) C.1.1 C.1.2.1 dX15_part_5 (by decide) (fun c8 => ?_) (fun c8 => ?_)
  · replace hD := g_pos c8 hD
    refine lv_iload_n C.1.1 C.1.2.1 dX15_part_10 rfl (lv_at hl 2 rfl) ?_
    refine lv_if_lt (tgt := 28) C.1.1 C.1.2.1 dX15_part_11 (by decide) (fun c9 => ?_) (fun c9 => ?_)
    · replace hD := g_pos c9 hD
      exact hb28 M5 L6 _ _ ls hD hw (lv_sub hl [] rfl)
    · replace hD := g_neg c9 hD
      refine lv_iload_n C.1.1 C.1.2.1 dX15_part_14 rfl (lv_at hl 2 rfl) ?_
      refine lv_bipush (v := 13) C.1.1 C.1.2.1 dX15_part_15 (by decide) ?_
      refine lv_icmp_gt (tgt := 28) C.1.1 C.1.2.1 dX15_part_17 (by decide) (fun c10 => ?_) (fun c10 => ?_)
      · replace hD := g_pos c10 hD
        exact hb28 M5 L6 _ _ ls hD hw (lv_sub hl [] rfl)
      · replace hD := g_neg c10 hD
        refine lv_iload_n C.1.1 C.1.2.1 dX15_part_20 rfl (lv_at hl 2 rfl) ?_
        refine lv_lload_n C.1.1 C.1.2.1 dX15_part_21 rfl (lv_at hl 3 rfl) ?_
        obtain ⟨r13, M11, L12, h1, hD⟩ := g_b3 hD
        refine md_csI (As := [.int a2, .long a3]) (rest := []) C hw (tX15_good l G ad fu a2 a3 M5 L6 h1) wd_3519 cwX15_good ⟨Nat.le_of_ble_eq_true rfl, Nat.le_of_ble_eq_true rfl⟩ rfl hl.1 (Nat.le_of_ble_eq_true rfl) dX15_part_22 rfl rfl ⟨Nat.zero_le _, Nat.zero_le _⟩ rfl (fun H locs hw => ?_)
        refine lv_if_ne (tgt := 31) C.1.1 C.1.2.1 dX15_part_25 (by decide) (fun c14 => ?_) (fun c14 => ?_)
        · replace hD := g_neg c14 hD
          refine lv_aload_n C.1.1 C.1.2.1 dX15_part_31 rfl (lv_at hl 0 rfl) ?_
          refine mr_getL C hw kc_15 43 (by decide) tf_787 wd_1998 dX15_part_32 (by decide) rfl ?_
          refine lv_lconst (v := 0) C.1.1 C.1.2.1 dX15_part_35 (by decide) ?_
          refine W.lcmp C.1.1 C.1.2.1 dX15_part_36 ?_
          refine lv_if_le (tgt := 43) C.1.1 C.1.2.1 dX15_part_37 (by decide) (fun c15 => ?_) (fun c15 => ?_)
          · replace hD := g_pos c15 hD
            refine lv_aload_n C.1.1 C.1.2.1 dX15_part_43 rfl (lv_at hl 0 rfl) ?_
            refine mr_getI C hw kc_15 7 (by decide) tf_787 wd_1962 dX15_part_44 (by decide) rfl ?_
            refine lv_sipush (v := 500) C.1.1 C.1.2.1 dX15_part_47 (by decide) ?_
            refine lv_icmp_ne (tgt := 56) C.1.1 C.1.2.1 dX15_part_50 (by decide) (fun c16 => ?_) (fun c16 => ?_)
            · replace hD := g_neg c16 hD
              refine lv_aload_n C.1.1 C.1.2.1 dX15_part_56 rfl (lv_at hl 0 rfl) ?_
              refine mr_getR C hw kc_15 8 (by decide) tf_787 ff_787_8 wd_1963 dX15_part_57 (by decide) rfl ?_
              refine lv_aload_n C.1.1 C.1.2.1 dX15_part_60 rfl (lv_at hl 0 rfl) ?_
              refine mr_getI C hw kc_15 7 (by decide) tf_787 wd_1962 dX15_part_61 (by decide) rfl ?_
              refine lv_iload_n C.1.1 C.1.2.1 dX15_part_64 rfl (lv_at hl 1 rfl) ?_
              obtain ⟨q17, hD⟩ := g_ck hD
              obtain ⟨M18, eM18, hD⟩ := g_let hD
              refine mr_iast C hw (by decide) tf_793 q17 dX15_part_65 (fun H locs hw => ?_)
              replace hw : mw_W G ad NF TF FF M18 L12 H locs := by rw [eM18]; exact hw
              refine lv_aload_n C.1.1 C.1.2.1 dX15_part_66 rfl (lv_at hl 0 rfl) ?_
              refine mr_getR C hw kc_15 9 (by decide) tf_787 ff_787_9 wd_1964 dX15_part_67 (by decide) rfl ?_
              refine lv_aload_n C.1.1 C.1.2.1 dX15_part_70 rfl (lv_at hl 0 rfl) ?_
              refine mr_getI C hw kc_15 7 (by decide) tf_787 wd_1962 dX15_part_71 (by decide) rfl ?_
              refine lv_iload_n C.1.1 C.1.2.1 dX15_part_74 rfl (lv_at hl 2 rfl) ?_
              obtain ⟨q19, hD⟩ := g_ck hD
              obtain ⟨M20, eM20, hD⟩ := g_let hD
              refine mr_iast C hw (by decide) tf_794 q19 dX15_part_75 (fun H locs hw => ?_)
              replace hw : mw_W G ad NF TF FF M20 L12 H locs := by rw [eM20]; exact hw
              refine lv_aload_n C.1.1 C.1.2.1 dX15_part_76 rfl (lv_at hl 0 rfl) ?_
              refine mr_getR C hw kc_15 10 (by decide) tf_787 ff_787_10 wd_1965 dX15_part_77 (by decide) rfl ?_
              refine lv_aload_n C.1.1 C.1.2.1 dX15_part_80 rfl (lv_at hl 0 rfl) ?_
              refine mr_getI C hw kc_15 7 (by decide) tf_787 wd_1962 dX15_part_81 (by decide) rfl ?_
              refine lv_lload_n C.1.1 C.1.2.1 dX15_part_84 rfl (lv_at hl 3 rfl) ?_
              obtain ⟨q21, hD⟩ := g_ck hD
              obtain ⟨L22, eL22, hD⟩ := g_let hD
              refine mr_last C hw (by decide) tf_795 q21 dX15_part_85 (fun H locs hw => ?_)
              replace hw : mw_W G ad NF TF FF M20 L22 H locs := by rw [eL22]; exact hw
              refine lv_aload_n C.1.1 C.1.2.1 dX15_part_86 rfl (lv_at hl 0 rfl) ?_
              refine lv_dup C.1.1 C.1.2.1 dX15_part_87 rfl ?_
              refine mr_getI C hw kc_15 7 (by decide) tf_787 wd_1962 dX15_part_88 (by decide) rfl ?_
              refine lv_iconst (v := 1) C.1.1 C.1.2.1 dX15_part_91 (by decide) ?_
              refine lv_iadd C.1.1 C.1.2.1 dX15_part_92 ?_
              obtain ⟨M23, eM23, hD⟩ := g_let hD
              refine mr_putI C hw kc_15 7 (by decide) tf_787 wd_1962 dX15_part_93 (by decide) rfl rfl rfl rfl (fun H locs hw => ?_)
              replace hw : mw_W G ad NF TF FF M23 L22 H locs := by rw [eM23]; exact hw
              refine lv_iconst (v := 0) C.1.1 C.1.2.1 dX15_part_96 (by decide) ?_
              refine lv_istore (lv' := [(5, .int 0), (0, .ref (ad 787)), (1, .int a1), (2, .int a2), (3, .long a3)]) C.1.1 C.1.2.1 dX15_part_97 hl (by decide) rfl (fun ls hl => ?_)
              refine lv_iconst (v := 0) C.1.1 C.1.2.1 dX15_part_99 (by decide) ?_
              refine lv_istore (lv' := [(6, .int 0), (5, .int 0), (0, .ref (ad 787)), (1, .int a1), (2, .int a2), (3, .long a3)]) C.1.1 C.1.2.1 dX15_part_100 hl (by decide) rfl (fun ls hl => ?_)
              exact hh102 fu 0 0 M23 L22 _ _ ls hD hw (lv_sub hl [2, 3, 1, 0] rfl)
            · replace hD := g_pos c16 hD
              refine lv_bipush (v := (-4)) C.1.1 C.1.2.1 dX15_part_53 (by decide) ?_
              exact mr_iret C hr hlocks hw rfl (Option.some.inj hD) dX15_part_55
          · replace hD := g_neg c15 hD
            refine lv_bipush (v := (-3)) C.1.1 C.1.2.1 dX15_part_40 (by decide) ?_
            exact mr_iret C hr hlocks hw rfl (Option.some.inj hD) dX15_part_42
        · replace hD := g_pos c14 hD
          exact hb28 M11 L12 _ _ ls hD hw (lv_sub hl [] rfl)
  · replace hD := g_neg c8 hD
    refine lv_iconst (v := (-1)) C.1.1 C.1.2.1 dX15_part_8 (by decide) ?_
    exact mr_iret C hr hlocks hw rfl (Option.some.inj hD) dX15_part_9

theorem dX15_activate_0 : decode cX15_activate 0 = .ok (.aload_n 0, 1) := by decide +kernel
theorem dX15_activate_1 : decode cX15_activate 1 = .ok (.iload_n 1, 1) := by decide +kernel
theorem dX15_activate_2 : decode cX15_activate 2 = .ok (.invokevirtual 165, 3) := by decide +kernel
theorem dX15_activate_5 : decode cX15_activate 5 = .ok (.ifCond .eq 5, 3) := by decide +kernel
theorem dX15_activate_8 : decode cX15_activate 8 = .ok (.iconst (-1), 1) := by decide +kernel
theorem dX15_activate_9 : decode cX15_activate 9 = .ok (.ireturn, 1) := by decide +kernel
theorem dX15_activate_10 : decode cX15_activate 10 = .ok (.lload_n 2, 1) := by decide +kernel
theorem dX15_activate_11 : decode cX15_activate 11 = .ok (.aload_n 0, 1) := by decide +kernel
theorem dX15_activate_12 : decode cX15_activate 12 = .ok (.getfield 146, 3) := by decide +kernel
theorem dX15_activate_15 : decode cX15_activate 15 = .ok (.lcmp, 1) := by decide +kernel
theorem dX15_activate_16 : decode cX15_activate 16 = .ok (.ifCond .lt 11, 3) := by decide +kernel
theorem dX15_activate_19 : decode cX15_activate 19 = .ok (.lload_n 2, 1) := by decide +kernel
theorem dX15_activate_20 : decode cX15_activate 20 = .ok (.ldc2_w 149, 3) := by decide +kernel
theorem dX15_activate_23 : decode cX15_activate 23 = .ok (.lcmp, 1) := by decide +kernel
theorem dX15_activate_24 : decode cX15_activate 24 = .ok (.ifCond .le 6, 3) := by decide +kernel
theorem dX15_activate_27 : decode cX15_activate 27 = .ok (.bipush (-2), 2) := by decide +kernel
theorem dX15_activate_29 : decode cX15_activate 29 = .ok (.ireturn, 1) := by decide +kernel
theorem dX15_activate_30 : decode cX15_activate 30 = .ok (.aload_n 0, 1) := by decide +kernel
theorem dX15_activate_31 : decode cX15_activate 31 = .ok (.getfield 137, 3) := by decide +kernel
theorem dX15_activate_34 : decode cX15_activate 34 = .ok (.sipush 500, 3) := by decide +kernel
theorem dX15_activate_37 : decode cX15_activate 37 = .ok (.if_icmp .ne 6, 3) := by decide +kernel
theorem dX15_activate_40 : decode cX15_activate 40 = .ok (.bipush (-4), 2) := by decide +kernel
theorem dX15_activate_42 : decode cX15_activate 42 = .ok (.ireturn, 1) := by decide +kernel
theorem dX15_activate_43 : decode cX15_activate 43 = .ok (.aload_n 0, 1) := by decide +kernel
theorem dX15_activate_44 : decode cX15_activate 44 = .ok (.getfield 84, 3) := by decide +kernel
theorem dX15_activate_47 : decode cX15_activate 47 = .ok (.aload_n 0, 1) := by decide +kernel
theorem dX15_activate_48 : decode cX15_activate 48 = .ok (.getfield 137, 3) := by decide +kernel
theorem dX15_activate_51 : decode cX15_activate 51 = .ok (.iload_n 1, 1) := by decide +kernel
theorem dX15_activate_52 : decode cX15_activate 52 = .ok (.iastore, 1) := by decide +kernel
theorem dX15_activate_53 : decode cX15_activate 53 = .ok (.aload_n 0, 1) := by decide +kernel
theorem dX15_activate_54 : decode cX15_activate 54 = .ok (.getfield 87, 3) := by decide +kernel
theorem dX15_activate_57 : decode cX15_activate 57 = .ok (.aload_n 0, 1) := by decide +kernel
theorem dX15_activate_58 : decode cX15_activate 58 = .ok (.getfield 137, 3) := by decide +kernel
theorem dX15_activate_61 : decode cX15_activate 61 = .ok (.lload_n 2, 1) := by decide +kernel
theorem dX15_activate_62 : decode cX15_activate 62 = .ok (.lastore, 1) := by decide +kernel
theorem dX15_activate_63 : decode cX15_activate 63 = .ok (.aload_n 0, 1) := by decide +kernel
theorem dX15_activate_64 : decode cX15_activate 64 = .ok (.dup, 1) := by decide +kernel
theorem dX15_activate_65 : decode cX15_activate 65 = .ok (.getfield 137, 3) := by decide +kernel
theorem dX15_activate_68 : decode cX15_activate 68 = .ok (.iconst 1, 1) := by decide +kernel
theorem dX15_activate_69 : decode cX15_activate 69 = .ok (.iadd, 1) := by decide +kernel
theorem dX15_activate_70 : decode cX15_activate 70 = .ok (.putfield 137, 3) := by decide +kernel
theorem dX15_activate_73 : decode cX15_activate 73 = .ok (.iconst 1, 1) := by decide +kernel
theorem dX15_activate_74 : decode cX15_activate 74 = .ok (.ireturn, 1) := by decide +kernel
theorem cwX15_activate : mw_cwV yX15_activate cX15_activate 4 ((some .int)) 2 := ⟨⟨wd_14, wd_3533, by decide +kernel⟩, wd_3531, wd_3532⟩
set_option maxHeartbeats 4000000 in
set_option maxRecDepth 100000 in
theorem tX15_activate (l : Launch) (G : mwG) (ad : Nat → Nat) (fu : Nat) (a1 : Int32) (a2 : Int64) (M : mwM) (L : mwL) {r0 : Int32} {M0 : mwM} {L0 : mwL} (hD : DX15_activate fu a1 a2 M L = some (r0, M0, L0)) : Met l yX15_activate (Cond.code yX15_activate cX15_activate 4 ((some .int)) :: GT) ({ frames := 1, cells := 0, slots := 0, locals := 21 }) (mw_Pre G ad NF TF FF M L [.ref (ad 787), .int a1, .long a2]) (mw_Qi G ad NF TF FF (mw_eqI r0 M0 L0)) 0 0 (mw_fr G) := by
  refine mw_enter (by decide) (Nat.le_of_ble_eq_true rfl) ?_
  intro p e s m below meth c ls C hr hlocks hnm hw hl
  have hl : lv_has ls 4 [(0, .ref (ad 787)), (1, .int a1), (2, .long a2)] := hl
  have hb27 : ∀ (M : mwM) (L : mwL) (H : Heap) (locs : List Loc) (ls : Array Slot), fX15_activate_b27 fu a1 a2 M L = some (r0, M0, L0) → mw_W G ad NF TF FF M L H locs → lv_has ls 4 [] → W p l e ({ frames := 1, cells := 0, slots := 0, locals := 21 }) s m [.ref (ad 787), .int a1, .long a2].toArray below meth c H locs 0 0 (MQ below (mw_Qi G ad NF TF FF (mw_eqI r0 M0 L0)) [.ref (ad 787), .int a1, .long a2].toArray s 0 0 (mw_fr G)) (F0 m 27 ls []) := by
    intro M L H locs ls hD hw hl
    unfold fX15_activate_b27 at hD
    refine lv_bipush (v := (-2)) C.1.1 C.1.2.1 dX15_activate_27 (by decide) ?_
    exact mr_iret C hr hlocks hw rfl (Option.some.inj hD) dX15_activate_29
  unfold DX15_activate at hD
  refine lv_aload_n C.1.1 C.1.2.1 dX15_activate_0 rfl (lv_at hl 0 rfl) ?_
  refine lv_iload_n C.1.1 C.1.2.1 dX15_activate_1 rfl (lv_at hl 1 rfl) ?_
  obtain ⟨r3, M1, L2, h1, hD⟩ := g_b3 hD
  refine md_cvI (As := [.int a1]) (rest := []) C hw (tX15_no l G ad fu a1 M L h1) kc_15 (by decide) tf_787 wd_3515 cwX15_no ⟨Nat.le_of_ble_eq_true rfl, Nat.le_of_ble_eq_true rfl⟩ rfl hl.1 (Nat.le_of_ble_eq_true rfl) dX15_activate_2 rfl rfl ⟨Nat.zero_le _, Nat.zero_le _⟩ rfl (fun H locs hw => ?_)
  refine lv_if_eq (tgt := 10) C.1.1 C.1.2.1 dX15_activate_5 (by decide) (fun c4 => ?_) (fun c4 => ?_)
  · replace hD := g_pos c4 hD
    refine lv_lload_n C.1.1 C.1.2.1 dX15_activate_10 rfl (lv_at hl 2 rfl) ?_
    refine lv_aload_n C.1.1 C.1.2.1 dX15_activate_11 rfl (lv_at hl 0 rfl) ?_
    refine mr_getL C hw kc_15 43 (by decide) tf_787 wd_1998 dX15_activate_12 (by decide) rfl ?_
    refine W.lcmp C.1.1 C.1.2.1 dX15_activate_15 ?_
    refine lv_if_lt (tgt := 27) C.1.1 C.1.2.1 dX15_activate_16 (by decide) (fun c5 => ?_) (fun c5 => ?_)
    · replace hD := g_pos c5 hD
      exact hb27 M1 L2 _ _ ls hD hw (lv_sub hl [] rfl)
    · replace hD := g_neg c5 hD
      refine lv_lload_n C.1.1 C.1.2.1 dX15_activate_19 rfl (lv_at hl 2 rfl) ?_
      refine lv_ldc2 (v := 50000) C.1.1 C.1.2.1 C.1.2.2.2.1 (C.1.2.2.2.2 _ wd_3522) dX15_activate_20 ?_
      refine W.lcmp C.1.1 C.1.2.1 dX15_activate_23 ?_
      refine lv_if_le (tgt := 30) C.1.1 C.1.2.1 dX15_activate_24 (by decide) (fun c6 => ?_) (fun c6 => ?_)
      · replace hD := g_pos c6 hD
        refine lv_aload_n C.1.1 C.1.2.1 dX15_activate_30 rfl (lv_at hl 0 rfl) ?_
        refine mr_getI C hw kc_15 32 (by decide) tf_787 wd_1987 dX15_activate_31 (by decide) rfl ?_
        refine lv_sipush (v := 500) C.1.1 C.1.2.1 dX15_activate_34 (by decide) ?_
        refine lv_icmp_ne (tgt := 43) C.1.1 C.1.2.1 dX15_activate_37 (by decide) (fun c7 => ?_) (fun c7 => ?_)
        · replace hD := g_neg c7 hD
          refine lv_aload_n C.1.1 C.1.2.1 dX15_activate_43 rfl (lv_at hl 0 rfl) ?_
          refine mr_getR C hw kc_15 33 (by decide) tf_787 ff_787_33 wd_1988 dX15_activate_44 (by decide) rfl ?_
          refine lv_aload_n C.1.1 C.1.2.1 dX15_activate_47 rfl (lv_at hl 0 rfl) ?_
          refine mr_getI C hw kc_15 32 (by decide) tf_787 wd_1987 dX15_activate_48 (by decide) rfl ?_
          refine lv_iload_n C.1.1 C.1.2.1 dX15_activate_51 rfl (lv_at hl 1 rfl) ?_
          obtain ⟨q8, hD⟩ := g_ck hD
          obtain ⟨M9, eM9, hD⟩ := g_let hD
          refine mr_iast C hw (by decide) tf_812 q8 dX15_activate_52 (fun H locs hw => ?_)
          replace hw : mw_W G ad NF TF FF M9 L2 H locs := by rw [eM9]; exact hw
          refine lv_aload_n C.1.1 C.1.2.1 dX15_activate_53 rfl (lv_at hl 0 rfl) ?_
          refine mr_getR C hw kc_15 34 (by decide) tf_787 ff_787_34 wd_1989 dX15_activate_54 (by decide) rfl ?_
          refine lv_aload_n C.1.1 C.1.2.1 dX15_activate_57 rfl (lv_at hl 0 rfl) ?_
          refine mr_getI C hw kc_15 32 (by decide) tf_787 wd_1987 dX15_activate_58 (by decide) rfl ?_
          refine lv_lload_n C.1.1 C.1.2.1 dX15_activate_61 rfl (lv_at hl 2 rfl) ?_
          obtain ⟨q10, hD⟩ := g_ck hD
          obtain ⟨L11, eL11, hD⟩ := g_let hD
          refine mr_last C hw (by decide) tf_813 q10 dX15_activate_62 (fun H locs hw => ?_)
          replace hw : mw_W G ad NF TF FF M9 L11 H locs := by rw [eL11]; exact hw
          refine lv_aload_n C.1.1 C.1.2.1 dX15_activate_63 rfl (lv_at hl 0 rfl) ?_
          refine lv_dup C.1.1 C.1.2.1 dX15_activate_64 rfl ?_
          refine mr_getI C hw kc_15 32 (by decide) tf_787 wd_1987 dX15_activate_65 (by decide) rfl ?_
          refine lv_iconst (v := 1) C.1.1 C.1.2.1 dX15_activate_68 (by decide) ?_
          refine lv_iadd C.1.1 C.1.2.1 dX15_activate_69 ?_
          obtain ⟨M12, eM12, hD⟩ := g_let hD
          refine mr_putI C hw kc_15 32 (by decide) tf_787 wd_1987 dX15_activate_70 (by decide) rfl rfl rfl rfl (fun H locs hw => ?_)
          replace hw : mw_W G ad NF TF FF M12 L11 H locs := by rw [eM12]; exact hw
          refine lv_iconst (v := 1) C.1.1 C.1.2.1 dX15_activate_73 (by decide) ?_
          exact mr_iret C hr hlocks hw rfl (Option.some.inj hD) dX15_activate_74
        · replace hD := g_pos c7 hD
          refine lv_bipush (v := (-4)) C.1.1 C.1.2.1 dX15_activate_40 (by decide) ?_
          exact mr_iret C hr hlocks hw rfl (Option.some.inj hD) dX15_activate_42
      · replace hD := g_neg c6 hD
        exact hb27 M1 L2 _ _ ls hD hw (lv_sub hl [] rfl)
  · replace hD := g_neg c4 hD
    refine lv_iconst (v := (-1)) C.1.1 C.1.2.1 dX15_activate_8 (by decide) ?_
    exact mr_iret C hr hlocks hw rfl (Option.some.inj hD) dX15_activate_9

theorem dX15_tell_0 : decode cX15_tell 0 = .ok (.aload_n 0, 1) := by decide +kernel
theorem dX15_tell_1 : decode cX15_tell 1 = .ok (.getfield 143, 3) := by decide +kernel
theorem dX15_tell_4 : decode cX15_tell 4 = .ok (.sipush 1000, 3) := by decide +kernel
theorem dX15_tell_7 : decode cX15_tell 7 = .ok (.if_icmp .ge 36, 3) := by decide +kernel
theorem dX15_tell_10 : decode cX15_tell 10 = .ok (.aload_n 0, 1) := by decide +kernel
theorem dX15_tell_11 : decode cX15_tell 11 = .ok (.getfield 99, 3) := by decide +kernel
theorem dX15_tell_14 : decode cX15_tell 14 = .ok (.aload_n 0, 1) := by decide +kernel
theorem dX15_tell_15 : decode cX15_tell 15 = .ok (.getfield 143, 3) := by decide +kernel
theorem dX15_tell_18 : decode cX15_tell 18 = .ok (.iload_n 1, 1) := by decide +kernel
theorem dX15_tell_19 : decode cX15_tell 19 = .ok (.iastore, 1) := by decide +kernel
theorem dX15_tell_20 : decode cX15_tell 20 = .ok (.aload_n 0, 1) := by decide +kernel
theorem dX15_tell_21 : decode cX15_tell 21 = .ok (.getfield 102, 3) := by decide +kernel
theorem dX15_tell_24 : decode cX15_tell 24 = .ok (.aload_n 0, 1) := by decide +kernel
theorem dX15_tell_25 : decode cX15_tell 25 = .ok (.getfield 143, 3) := by decide +kernel
theorem dX15_tell_28 : decode cX15_tell 28 = .ok (.iload_n 2, 1) := by decide +kernel
theorem dX15_tell_29 : decode cX15_tell 29 = .ok (.iastore, 1) := by decide +kernel
theorem dX15_tell_30 : decode cX15_tell 30 = .ok (.aload_n 0, 1) := by decide +kernel
theorem dX15_tell_31 : decode cX15_tell 31 = .ok (.getfield 105, 3) := by decide +kernel
theorem dX15_tell_34 : decode cX15_tell 34 = .ok (.aload_n 0, 1) := by decide +kernel
theorem dX15_tell_35 : decode cX15_tell 35 = .ok (.getfield 143, 3) := by decide +kernel
theorem dX15_tell_38 : decode cX15_tell 38 = .ok (.aload_n 0, 1) := by decide +kernel
theorem dX15_tell_39 : decode cX15_tell 39 = .ok (.getfield 146, 3) := by decide +kernel
theorem dX15_tell_42 : decode cX15_tell 42 = .ok (.lastore, 1) := by decide +kernel
theorem dX15_tell_43 : decode cX15_tell 43 = .ok (.aload_n 0, 1) := by decide +kernel
theorem dX15_tell_44 : decode cX15_tell 44 = .ok (.dup, 1) := by decide +kernel
theorem dX15_tell_45 : decode cX15_tell 45 = .ok (.getfield 143, 3) := by decide +kernel
theorem dX15_tell_48 : decode cX15_tell 48 = .ok (.iconst 1, 1) := by decide +kernel
theorem dX15_tell_49 : decode cX15_tell 49 = .ok (.iadd, 1) := by decide +kernel
theorem dX15_tell_50 : decode cX15_tell 50 = .ok (.putfield 143, 3) := by decide +kernel
theorem dX15_tell_53 : decode cX15_tell 53 = .ok (.return_, 1) := by decide +kernel
theorem cwX15_tell : mw_cwV yX15_tell cX15_tell 3 (none) 2 := ⟨⟨wd_14, wd_3792, by decide +kernel⟩, wd_3791, sl_261⟩
set_option maxHeartbeats 4000000 in
set_option maxRecDepth 100000 in
theorem tX15_tell (l : Launch) (G : mwG) (ad : Nat → Nat) (fu : Nat) (a1 : Int32) (a2 : Int32) (M : mwM) (L : mwL) {M0 : mwM} {L0 : mwL} (hD : DX15_tell fu a1 a2 M L = some (M0, L0)) : Met l yX15_tell (Cond.code yX15_tell cX15_tell 3 (none) :: GT) ({ frames := 0, cells := 0, slots := 0, locals := 0 }) (mw_Pre G ad NF TF FF M L [.ref (ad 787), .int a1, .int a2]) (mw_Qv G ad NF TF FF (mw_eqV M0 L0)) 0 0 (mw_fr G) := by
  refine mw_enter (by decide) (Nat.le_of_ble_eq_true rfl) ?_
  intro p e s m below meth c ls C hr hlocks hnm hw hl
  have hl : lv_has ls 3 [(0, .ref (ad 787)), (1, .int a1), (2, .int a2)] := hl
  have hb43 : ∀ (M : mwM) (L : mwL) (H : Heap) (locs : List Loc) (ls : Array Slot), fX15_tell_b43 fu a1 a2 M L = some (M0, L0) → mw_W G ad NF TF FF M L H locs → lv_has ls 3 [(0, .ref (ad 787))] → W p l e ({ frames := 0, cells := 0, slots := 0, locals := 0 }) s m [.ref (ad 787), .int a1, .int a2].toArray below meth c H locs 0 0 (MQ below (mw_Qv G ad NF TF FF (mw_eqV M0 L0)) [.ref (ad 787), .int a1, .int a2].toArray s 0 0 (mw_fr G)) (F0 m 43 ls []) := by
    intro M L H locs ls hD hw hl
    unfold fX15_tell_b43 at hD
    refine lv_aload_n C.1.1 C.1.2.1 dX15_tell_43 rfl (lv_at hl 0 rfl) ?_
    refine lv_dup C.1.1 C.1.2.1 dX15_tell_44 rfl ?_
    refine mr_getI C hw kc_15 39 (by decide) tf_787 wd_1994 dX15_tell_45 (by decide) rfl ?_
    refine lv_iconst (v := 1) C.1.1 C.1.2.1 dX15_tell_48 (by decide) ?_
    refine lv_iadd C.1.1 C.1.2.1 dX15_tell_49 ?_
    obtain ⟨M1, eM1, hD⟩ := g_let hD
    refine mr_putI C hw kc_15 39 (by decide) tf_787 wd_1994 dX15_tell_50 (by decide) rfl rfl rfl rfl (fun H locs hw => ?_)
    replace hw : mw_W G ad NF TF FF M1 L H locs := by rw [eM1]; exact hw
    exact mr_vret C hr hlocks hw (Option.some.inj hD) dX15_tell_53
  unfold DX15_tell at hD
  refine lv_aload_n C.1.1 C.1.2.1 dX15_tell_0 rfl (lv_at hl 0 rfl) ?_
  refine mr_getI C hw kc_15 39 (by decide) tf_787 wd_1994 dX15_tell_1 (by decide) rfl ?_
  refine lv_sipush (v := 1000) C.1.1 C.1.2.1 dX15_tell_4 (by decide) ?_
  refine lv_icmp_ge (tgt := 43) C.1.1 C.1.2.1 dX15_tell_7 (by decide) (fun c2 => ?_) (fun c2 => ?_)
  · replace hD := g_pos c2 hD
    exact hb43 M L _ _ ls hD hw (lv_sub hl [0] rfl)
  · replace hD := g_neg c2 hD
    refine lv_aload_n C.1.1 C.1.2.1 dX15_tell_10 rfl (lv_at hl 0 rfl) ?_
    refine mr_getR C hw kc_15 40 (by decide) tf_787 ff_787_40 wd_1995 dX15_tell_11 (by decide) rfl ?_
    refine lv_aload_n C.1.1 C.1.2.1 dX15_tell_14 rfl (lv_at hl 0 rfl) ?_
    refine mr_getI C hw kc_15 39 (by decide) tf_787 wd_1994 dX15_tell_15 (by decide) rfl ?_
    refine lv_iload_n C.1.1 C.1.2.1 dX15_tell_18 rfl (lv_at hl 1 rfl) ?_
    obtain ⟨q3, hD⟩ := g_ck hD
    obtain ⟨M4, eM4, hD⟩ := g_let hD
    refine mr_iast C hw (by decide) tf_817 q3 dX15_tell_19 (fun H locs hw => ?_)
    replace hw : mw_W G ad NF TF FF M4 L H locs := by rw [eM4]; exact hw
    refine lv_aload_n C.1.1 C.1.2.1 dX15_tell_20 rfl (lv_at hl 0 rfl) ?_
    refine mr_getR C hw kc_15 41 (by decide) tf_787 ff_787_41 wd_1996 dX15_tell_21 (by decide) rfl ?_
    refine lv_aload_n C.1.1 C.1.2.1 dX15_tell_24 rfl (lv_at hl 0 rfl) ?_
    refine mr_getI C hw kc_15 39 (by decide) tf_787 wd_1994 dX15_tell_25 (by decide) rfl ?_
    refine lv_iload_n C.1.1 C.1.2.1 dX15_tell_28 rfl (lv_at hl 2 rfl) ?_
    obtain ⟨q5, hD⟩ := g_ck hD
    obtain ⟨M6, eM6, hD⟩ := g_let hD
    refine mr_iast C hw (by decide) tf_818 q5 dX15_tell_29 (fun H locs hw => ?_)
    replace hw : mw_W G ad NF TF FF M6 L H locs := by rw [eM6]; exact hw
    refine lv_aload_n C.1.1 C.1.2.1 dX15_tell_30 rfl (lv_at hl 0 rfl) ?_
    refine mr_getR C hw kc_15 42 (by decide) tf_787 ff_787_42 wd_1997 dX15_tell_31 (by decide) rfl ?_
    refine lv_aload_n C.1.1 C.1.2.1 dX15_tell_34 rfl (lv_at hl 0 rfl) ?_
    refine mr_getI C hw kc_15 39 (by decide) tf_787 wd_1994 dX15_tell_35 (by decide) rfl ?_
    refine lv_aload_n C.1.1 C.1.2.1 dX15_tell_38 rfl (lv_at hl 0 rfl) ?_
    refine mr_getL C hw kc_15 43 (by decide) tf_787 wd_1998 dX15_tell_39 (by decide) rfl ?_
    obtain ⟨q7, hD⟩ := g_ck hD
    obtain ⟨L8, eL8, hD⟩ := g_let hD
    refine mr_last C hw (by decide) tf_819 q7 dX15_tell_42 (fun H locs hw => ?_)
    replace hw : mw_W G ad NF TF FF M6 L8 H locs := by rw [eL8]; exact hw
    exact hb43 M6 L8 _ _ ls hD hw (lv_sub hl [0] rfl)

theorem dX15_ready_0 : decode cX15_ready 0 = .ok (.aload_n 0, 1) := by decide +kernel
theorem dX15_ready_1 : decode cX15_ready 1 = .ok (.dup, 1) := by decide +kernel
theorem dX15_ready_2 : decode cX15_ready 2 = .ok (.getfield 123, 3) := by decide +kernel
theorem dX15_ready_5 : decode cX15_ready 5 = .ok (.lconst 1, 1) := by decide +kernel
theorem dX15_ready_6 : decode cX15_ready 6 = .ok (.ladd, 1) := by decide +kernel
theorem dX15_ready_7 : decode cX15_ready 7 = .ok (.putfield 123, 3) := by decide +kernel
theorem dX15_ready_10 : decode cX15_ready 10 = .ok (.aload_n 0, 1) := by decide +kernel
theorem dX15_ready_11 : decode cX15_ready 11 = .ok (.getfield 39, 3) := by decide +kernel
theorem dX15_ready_14 : decode cX15_ready 14 = .ok (.iload_n 1, 1) := by decide +kernel
theorem dX15_ready_15 : decode cX15_ready 15 = .ok (.aload_n 0, 1) := by decide +kernel
theorem dX15_ready_16 : decode cX15_ready 16 = .ok (.getfield 123, 3) := by decide +kernel
theorem dX15_ready_19 : decode cX15_ready 19 = .ok (.lastore, 1) := by decide +kernel
theorem dX15_ready_20 : decode cX15_ready 20 = .ok (.aload_n 0, 1) := by decide +kernel
theorem dX15_ready_21 : decode cX15_ready 21 = .ok (.getfield 36, 3) := by decide +kernel
theorem dX15_ready_24 : decode cX15_ready 24 = .ok (.iload_n 1, 1) := by decide +kernel
theorem dX15_ready_25 : decode cX15_ready 25 = .ok (.iconst 1, 1) := by decide +kernel
theorem dX15_ready_26 : decode cX15_ready 26 = .ok (.iastore, 1) := by decide +kernel
theorem dX15_ready_27 : decode cX15_ready 27 = .ok (.return_, 1) := by decide +kernel
theorem cwX15_ready : mw_cwV yX15_ready cX15_ready 2 (none) 1 := ⟨⟨wd_14, wd_3796, by decide +kernel⟩, wd_3795, sl_262⟩
set_option maxHeartbeats 4000000 in
set_option maxRecDepth 100000 in
theorem tX15_ready (l : Launch) (G : mwG) (ad : Nat → Nat) (fu : Nat) (a1 : Int32) (M : mwM) (L : mwL) {M0 : mwM} {L0 : mwL} (hD : DX15_ready fu a1 M L = some (M0, L0)) : Met l yX15_ready (Cond.code yX15_ready cX15_ready 2 (none) :: GT) ({ frames := 0, cells := 0, slots := 0, locals := 0 }) (mw_Pre G ad NF TF FF M L [.ref (ad 787), .int a1]) (mw_Qv G ad NF TF FF (mw_eqV M0 L0)) 0 0 (mw_fr G) := by
  refine mw_enter (by decide) (Nat.le_of_ble_eq_true rfl) ?_
  intro p e s m below meth c ls C hr hlocks hnm hw hl
  have hl : lv_has ls 2 [(0, .ref (ad 787)), (1, .int a1)] := hl
  unfold DX15_ready at hD
  refine lv_aload_n C.1.1 C.1.2.1 dX15_ready_0 rfl (lv_at hl 0 rfl) ?_
  refine lv_dup C.1.1 C.1.2.1 dX15_ready_1 rfl ?_
  refine mr_getL C hw kc_15 21 (by decide) tf_787 wd_1976 dX15_ready_2 (by decide) rfl ?_
  refine lv_lconst (v := 1) C.1.1 C.1.2.1 dX15_ready_5 (by decide) ?_
  refine lv_ladd C.1.1 C.1.2.1 dX15_ready_6 ?_
  obtain ⟨L1, eL1, hD⟩ := g_let hD
  refine mr_putL C hw kc_15 21 (by decide) tf_787 wd_1976 dX15_ready_7 (by decide) rfl rfl rfl rfl (fun H locs hw => ?_)
  replace hw : mw_W G ad NF TF FF M L1 H locs := by rw [eL1]; exact hw
  refine lv_aload_n C.1.1 C.1.2.1 dX15_ready_10 rfl (lv_at hl 0 rfl) ?_
  refine mr_getR C hw kc_15 12 (by decide) tf_787 ff_787_12 wd_1967 dX15_ready_11 (by decide) rfl ?_
  refine lv_iload_n C.1.1 C.1.2.1 dX15_ready_14 rfl (lv_at hl 1 rfl) ?_
  refine lv_aload_n C.1.1 C.1.2.1 dX15_ready_15 rfl (lv_at hl 0 rfl) ?_
  refine mr_getL C hw kc_15 21 (by decide) tf_787 wd_1976 dX15_ready_16 (by decide) rfl ?_
  obtain ⟨q2, hD⟩ := g_ck hD
  obtain ⟨L3, eL3, hD⟩ := g_let hD
  refine mr_last C hw (by decide) tf_797 q2 dX15_ready_19 (fun H locs hw => ?_)
  replace hw : mw_W G ad NF TF FF M L3 H locs := by rw [eL3]; exact hw
  refine lv_aload_n C.1.1 C.1.2.1 dX15_ready_20 rfl (lv_at hl 0 rfl) ?_
  refine mr_getR C hw kc_15 11 (by decide) tf_787 ff_787_11 wd_1966 dX15_ready_21 (by decide) rfl ?_
  refine lv_iload_n C.1.1 C.1.2.1 dX15_ready_24 rfl (lv_at hl 1 rfl) ?_
  refine lv_iconst (v := 1) C.1.1 C.1.2.1 dX15_ready_25 (by decide) ?_
  obtain ⟨q4, hD⟩ := g_ck hD
  obtain ⟨M5, eM5, hD⟩ := g_let hD
  refine mr_iast C hw (by decide) tf_796 q4 dX15_ready_26 (fun H locs hw => ?_)
  replace hw : mw_W G ad NF TF FF M5 L3 H locs := by rw [eM5]; exact hw
  exact mr_vret C hr hlocks hw (Option.some.inj hD) dX15_ready_27

theorem dX15_begin_0 : decode cX15_begin 0 = .ok (.aload_n 0, 1) := by decide +kernel
theorem dX15_begin_1 : decode cX15_begin 1 = .ok (.getfield 36, 3) := by decide +kernel
theorem dX15_begin_4 : decode cX15_begin 4 = .ok (.iload_n 1, 1) := by decide +kernel
theorem dX15_begin_5 : decode cX15_begin 5 = .ok (.iaload, 1) := by decide +kernel
theorem dX15_begin_6 : decode cX15_begin 6 = .ok (.ifCond .eq 40, 3) := by decide +kernel
theorem dX15_begin_9 : decode cX15_begin 9 = .ok (.iconst 1, 1) := by decide +kernel
theorem dX15_begin_10 : decode cX15_begin 10 = .ok (.aload_n 0, 1) := by decide +kernel
theorem dX15_begin_11 : decode cX15_begin 11 = .ok (.getfield 42, 3) := by decide +kernel
theorem dX15_begin_14 : decode cX15_begin 14 = .ok (.iload_n 1, 1) := by decide +kernel
theorem dX15_begin_15 : decode cX15_begin 15 = .ok (.iaload, 1) := by decide +kernel
theorem dX15_begin_16 : decode cX15_begin 16 = .ok (.iadd, 1) := by decide +kernel
theorem dX15_begin_17 : decode cX15_begin 17 = .ok (.aload_n 0, 1) := by decide +kernel
theorem dX15_begin_18 : decode cX15_begin 18 = .ok (.getfield 16, 3) := by decide +kernel
theorem dX15_begin_21 : decode cX15_begin 21 = .ok (.iload_n 1, 1) := by decide +kernel
theorem dX15_begin_22 : decode cX15_begin 22 = .ok (.iaload, 1) := by decide +kernel
theorem dX15_begin_23 : decode cX15_begin 23 = .ok (.if_icmp .lt 12, 3) := by decide +kernel
theorem dX15_begin_26 : decode cX15_begin 26 = .ok (.aload_n 0, 1) := by decide +kernel
theorem dX15_begin_27 : decode cX15_begin 27 = .ok (.iconst 1, 1) := by decide +kernel
theorem dX15_begin_28 : decode cX15_begin 28 = .ok (.iload_n 1, 1) := by decide +kernel
theorem dX15_begin_29 : decode cX15_begin 29 = .ok (.invokevirtual 175, 3) := by decide +kernel
theorem dX15_begin_32 : decode cX15_begin 32 = .ok (.goto 13, 3) := by decide +kernel
theorem dX15_begin_35 : decode cX15_begin 35 = .ok (.aload_n 0, 1) := by decide +kernel
theorem dX15_begin_36 : decode cX15_begin 36 = .ok (.getfield 42, 3) := by decide +kernel
theorem dX15_begin_39 : decode cX15_begin 39 = .ok (.iload_n 1, 1) := by decide +kernel
theorem dX15_begin_40 : decode cX15_begin 40 = .ok (.dup2, 1) := by decide +kernel
theorem dX15_begin_41 : decode cX15_begin 41 = .ok (.iaload, 1) := by decide +kernel
theorem dX15_begin_42 : decode cX15_begin 42 = .ok (.iconst 1, 1) := by decide +kernel
theorem dX15_begin_43 : decode cX15_begin 43 = .ok (.iadd, 1) := by decide +kernel
theorem dX15_begin_44 : decode cX15_begin 44 = .ok (.iastore, 1) := by decide +kernel
theorem dX15_begin_45 : decode cX15_begin 45 = .ok (.return_, 1) := by decide +kernel
theorem dX15_begin_46 : decode cX15_begin 46 = .ok (.aload_n 0, 1) := by decide +kernel
theorem dX15_begin_47 : decode cX15_begin 47 = .ok (.iload_n 1, 1) := by decide +kernel
theorem dX15_begin_48 : decode cX15_begin 48 = .ok (.invokevirtual 179, 3) := by decide +kernel
theorem dX15_begin_51 : decode cX15_begin 51 = .ok (.aload_n 0, 1) := by decide +kernel
theorem dX15_begin_52 : decode cX15_begin 52 = .ok (.getfield 54, 3) := by decide +kernel
theorem dX15_begin_55 : decode cX15_begin 55 = .ok (.iload_n 1, 1) := by decide +kernel
theorem dX15_begin_56 : decode cX15_begin 56 = .ok (.iconst 0, 1) := by decide +kernel
theorem dX15_begin_57 : decode cX15_begin 57 = .ok (.iastore, 1) := by decide +kernel
theorem dX15_begin_58 : decode cX15_begin 58 = .ok (.aload_n 0, 1) := by decide +kernel
theorem dX15_begin_59 : decode cX15_begin 59 = .ok (.getfield 45, 3) := by decide +kernel
theorem dX15_begin_62 : decode cX15_begin 62 = .ok (.iload_n 1, 1) := by decide +kernel
theorem dX15_begin_63 : decode cX15_begin 63 = .ok (.iconst 0, 1) := by decide +kernel
theorem dX15_begin_64 : decode cX15_begin 64 = .ok (.iastore, 1) := by decide +kernel
theorem dX15_begin_65 : decode cX15_begin 65 = .ok (.aload_n 0, 1) := by decide +kernel
theorem dX15_begin_66 : decode cX15_begin 66 = .ok (.getfield 48, 3) := by decide +kernel
theorem dX15_begin_69 : decode cX15_begin 69 = .ok (.iload_n 1, 1) := by decide +kernel
theorem dX15_begin_70 : decode cX15_begin 70 = .ok (.lconst 1, 1) := by decide +kernel
theorem dX15_begin_71 : decode cX15_begin 71 = .ok (.lastore, 1) := by decide +kernel
theorem dX15_begin_72 : decode cX15_begin 72 = .ok (.aload_n 0, 1) := by decide +kernel
theorem dX15_begin_73 : decode cX15_begin 73 = .ok (.getfield 51, 3) := by decide +kernel
theorem dX15_begin_76 : decode cX15_begin 76 = .ok (.iload_n 1, 1) := by decide +kernel
theorem dX15_begin_77 : decode cX15_begin 77 = .ok (.iconst 1, 1) := by decide +kernel
theorem dX15_begin_78 : decode cX15_begin 78 = .ok (.bastore, 1) := by decide +kernel
theorem dX15_begin_79 : decode cX15_begin 79 = .ok (.return_, 1) := by decide +kernel
theorem cwX15_begin : mw_cwV yX15_begin cX15_begin 2 (none) 1 := ⟨⟨wd_14, wd_3788, by decide +kernel⟩, wd_3787, sl_260⟩
set_option maxHeartbeats 4000000 in
set_option maxRecDepth 100000 in
theorem tX15_begin (l : Launch) (G : mwG) (ad : Nat → Nat) (fu : Nat) (a1 : Int32) (M : mwM) (L : mwL) {M0 : mwM} {L0 : mwL} (hD : DX15_begin fu a1 M L = some (M0, L0)) : Met l yX15_begin (Cond.code yX15_begin cX15_begin 2 (none) :: GT) ({ frames := 1, cells := 0, slots := 0, locals := 22 }) (mw_Pre G ad NF TF FF M L [.ref (ad 787), .int a1]) (mw_Qv G ad NF TF FF (mw_eqV M0 L0)) 0 0 (mw_fr G) := by
  refine mw_enter (by decide) (Nat.le_of_ble_eq_true rfl) ?_
  intro p e s m below meth c ls C hr hlocks hnm hw hl
  have hl : lv_has ls 2 [(0, .ref (ad 787)), (1, .int a1)] := hl
  have hb45 : ∀ (M : mwM) (L : mwL) (H : Heap) (locs : List Loc) (ls : Array Slot), fX15_begin_b45 fu a1 M L = some (M0, L0) → mw_W G ad NF TF FF M L H locs → lv_has ls 2 [] → W p l e ({ frames := 1, cells := 0, slots := 0, locals := 22 }) s m [.ref (ad 787), .int a1].toArray below meth c H locs 0 0 (MQ below (mw_Qv G ad NF TF FF (mw_eqV M0 L0)) [.ref (ad 787), .int a1].toArray s 0 0 (mw_fr G)) (F0 m 45 ls []) := by
    intro M L H locs ls hD hw hl
    unfold fX15_begin_b45 at hD
    exact mr_vret C hr hlocks hw (Option.some.inj hD) dX15_begin_45
  unfold DX15_begin at hD
  refine lv_aload_n C.1.1 C.1.2.1 dX15_begin_0 rfl (lv_at hl 0 rfl) ?_
  refine mr_getR C hw kc_15 11 (by decide) tf_787 ff_787_11 wd_1966 dX15_begin_1 (by decide) rfl ?_
  refine lv_iload_n C.1.1 C.1.2.1 dX15_begin_4 rfl (lv_at hl 1 rfl) ?_
  obtain ⟨q1, hD⟩ := g_ck hD
  refine mr_iald C hw (by decide) tf_796 q1 dX15_begin_5 ?_
  refine lv_if_eq (tgt := 46) C.1.1 C.1.2.1 dX15_begin_6 (by decide) (fun c2 => ?_) (fun c2 => ?_)
  · replace hD := g_pos c2 hD
    refine lv_aload_n C.1.1 C.1.2.1 dX15_begin_46 rfl (lv_at hl 0 rfl) ?_
    refine lv_iload_n C.1.1 C.1.2.1 dX15_begin_47 rfl (lv_at hl 1 rfl) ?_
    obtain ⟨M3, L4, h1, hD⟩ := g_b2 hD
    refine md_cvV (As := [.int a1]) (rest := []) C hw (tX15_ready l G ad fu a1 M L h1) kc_15 (by decide) tf_787 wd_3793 cwX15_ready ⟨Nat.le_of_ble_eq_true rfl, Nat.le_of_ble_eq_true rfl⟩ rfl hl.1 (Nat.le_of_ble_eq_true rfl) dX15_begin_48 rfl rfl ⟨Nat.zero_le _, Nat.zero_le _⟩ rfl (fun H locs hw => ?_)
    refine lv_aload_n C.1.1 C.1.2.1 dX15_begin_51 rfl (lv_at hl 0 rfl) ?_
    refine mr_getR C hw kc_15 17 (by decide) tf_787 ff_787_17 wd_1972 dX15_begin_52 (by decide) rfl ?_
    refine lv_iload_n C.1.1 C.1.2.1 dX15_begin_55 rfl (lv_at hl 1 rfl) ?_
    refine lv_iconst (v := 0) C.1.1 C.1.2.1 dX15_begin_56 (by decide) ?_
    obtain ⟨q5, hD⟩ := g_ck hD
    obtain ⟨M6, eM6, hD⟩ := g_let hD
    refine mr_iast C hw (by decide) tf_802 q5 dX15_begin_57 (fun H locs hw => ?_)
    replace hw : mw_W G ad NF TF FF M6 L4 H locs := by rw [eM6]; exact hw
    refine lv_aload_n C.1.1 C.1.2.1 dX15_begin_58 rfl (lv_at hl 0 rfl) ?_
    refine mr_getR C hw kc_15 14 (by decide) tf_787 ff_787_14 wd_1969 dX15_begin_59 (by decide) rfl ?_
    refine lv_iload_n C.1.1 C.1.2.1 dX15_begin_62 rfl (lv_at hl 1 rfl) ?_
    refine lv_iconst (v := 0) C.1.1 C.1.2.1 dX15_begin_63 (by decide) ?_
    obtain ⟨q7, hD⟩ := g_ck hD
    obtain ⟨M8, eM8, hD⟩ := g_let hD
    refine mr_iast C hw (by decide) tf_799 q7 dX15_begin_64 (fun H locs hw => ?_)
    replace hw : mw_W G ad NF TF FF M8 L4 H locs := by rw [eM8]; exact hw
    refine lv_aload_n C.1.1 C.1.2.1 dX15_begin_65 rfl (lv_at hl 0 rfl) ?_
    refine mr_getR C hw kc_15 15 (by decide) tf_787 ff_787_15 wd_1970 dX15_begin_66 (by decide) rfl ?_
    refine lv_iload_n C.1.1 C.1.2.1 dX15_begin_69 rfl (lv_at hl 1 rfl) ?_
    refine lv_lconst (v := 1) C.1.1 C.1.2.1 dX15_begin_70 (by decide) ?_
    obtain ⟨q9, hD⟩ := g_ck hD
    obtain ⟨L10, eL10, hD⟩ := g_let hD
    refine mr_last C hw (by decide) tf_800 q9 dX15_begin_71 (fun H locs hw => ?_)
    replace hw : mw_W G ad NF TF FF M8 L10 H locs := by rw [eL10]; exact hw
    refine lv_aload_n C.1.1 C.1.2.1 dX15_begin_72 rfl (lv_at hl 0 rfl) ?_
    refine mr_getR C hw kc_15 16 (by decide) tf_787 ff_787_16 wd_1971 dX15_begin_73 (by decide) rfl ?_
    refine lv_iload_n C.1.1 C.1.2.1 dX15_begin_76 rfl (lv_at hl 1 rfl) ?_
    refine lv_iconst (v := 1) C.1.1 C.1.2.1 dX15_begin_77 (by decide) ?_
    obtain ⟨q11, hD⟩ := g_ck hD
    obtain ⟨M12, eM12, hD⟩ := g_let hD
    refine mr_zast C hw (by decide) tf_801 q11 dX15_begin_78 (fun H locs hw => ?_)
    replace hw : mw_W G ad NF TF FF M12 L10 H locs := by rw [eM12]; exact hw
    exact mr_vret C hr hlocks hw (Option.some.inj hD) dX15_begin_79
  · replace hD := g_neg c2 hD
    refine lv_iconst (v := 1) C.1.1 C.1.2.1 dX15_begin_9 (by decide) ?_
    refine lv_aload_n C.1.1 C.1.2.1 dX15_begin_10 rfl (lv_at hl 0 rfl) ?_
    refine mr_getR C hw kc_15 13 (by decide) tf_787 ff_787_13 wd_1968 dX15_begin_11 (by decide) rfl ?_
    refine lv_iload_n C.1.1 C.1.2.1 dX15_begin_14 rfl (lv_at hl 1 rfl) ?_
    obtain ⟨q13, hD⟩ := g_ck hD
    refine mr_iald C hw (by decide) tf_798 q13 dX15_begin_15 ?_
    refine lv_iadd C.1.1 C.1.2.1 dX15_begin_16 ?_
    refine lv_aload_n C.1.1 C.1.2.1 dX15_begin_17 rfl (lv_at hl 0 rfl) ?_
    refine mr_getR C hw kc_15 4 (by decide) tf_787 ff_787_4 wd_1959 dX15_begin_18 (by decide) rfl ?_
    refine lv_iload_n C.1.1 C.1.2.1 dX15_begin_21 rfl (lv_at hl 1 rfl) ?_
    obtain ⟨q14, hD⟩ := g_ck hD
    refine mr_iald C hw (by decide) tf_790 q14 dX15_begin_22 ?_
    refine lv_icmp_lt (tgt := 35) C.1.1 C.1.2.1 dX15_begin_23 (by decide) (fun c15 => ?_) (fun c15 => ?_)
    · replace hD := g_pos c15 hD
      refine lv_aload_n C.1.1 C.1.2.1 dX15_begin_35 rfl (lv_at hl 0 rfl) ?_
      refine mr_getR C hw kc_15 13 (by decide) tf_787 ff_787_13 wd_1968 dX15_begin_36 (by decide) rfl ?_
      refine lv_iload_n C.1.1 C.1.2.1 dX15_begin_39 rfl (lv_at hl 1 rfl) ?_
      refine lv_dup2_11 C.1.1 C.1.2.1 dX15_begin_40 rfl rfl ?_
      obtain ⟨q16, hD⟩ := g_ck hD
      refine mr_iald C hw (by decide) tf_798 q16 dX15_begin_41 ?_
      refine lv_iconst (v := 1) C.1.1 C.1.2.1 dX15_begin_42 (by decide) ?_
      refine lv_iadd C.1.1 C.1.2.1 dX15_begin_43 ?_
      obtain ⟨q17, hD⟩ := g_ck hD
      obtain ⟨M18, eM18, hD⟩ := g_let hD
      refine mr_iast C hw (by decide) tf_798 q17 dX15_begin_44 (fun H locs hw => ?_)
      replace hw : mw_W G ad NF TF FF M18 L H locs := by rw [eM18]; exact hw
      exact hb45 M18 L _ _ ls hD hw (lv_sub hl [] rfl)
    · replace hD := g_neg c15 hD
      refine lv_aload_n C.1.1 C.1.2.1 dX15_begin_26 rfl (lv_at hl 0 rfl) ?_
      refine lv_iconst (v := 1) C.1.1 C.1.2.1 dX15_begin_27 (by decide) ?_
      refine lv_iload_n C.1.1 C.1.2.1 dX15_begin_28 rfl (lv_at hl 1 rfl) ?_
      obtain ⟨M19, L20, h1, hD⟩ := g_b2 hD
      refine md_cvV (As := [.int 1, .int a1]) (rest := []) C hw (tX15_tell l G ad fu 1 a1 M L h1) kc_15 (by decide) tf_787 wd_3789 cwX15_tell ⟨Nat.le_of_ble_eq_true rfl, Nat.le_of_ble_eq_true rfl⟩ rfl hl.1 (Nat.le_of_ble_eq_true rfl) dX15_begin_29 rfl rfl ⟨Nat.zero_le _, Nat.zero_le _⟩ rfl (fun H locs hw => ?_)
      refine lv_goto (tgt := 45) C.1.1 C.1.2.1 dX15_begin_32 (by decide) ?_
      exact hb45 M19 L20 _ _ ls hD hw (lv_sub hl [] rfl)

theorem dX15_set_0 : decode cX15_set 0 = .ok (.aload_n 0, 1) := by decide +kernel
theorem dX15_set_1 : decode cX15_set 1 = .ok (.getfield 19, 3) := by decide +kernel
theorem dX15_set_4 : decode cX15_set 4 = .ok (.iload_n 1, 1) := by decide +kernel
theorem dX15_set_5 : decode cX15_set 5 = .ok (.baload, 1) := by decide +kernel
theorem dX15_set_6 : decode cX15_set 6 = .ok (.ifCond .eq 12, 3) := by decide +kernel
theorem dX15_set_9 : decode cX15_set 9 = .ok (.aload_n 0, 1) := by decide +kernel
theorem dX15_set_10 : decode cX15_set 10 = .ok (.getfield 36, 3) := by decide +kernel
theorem dX15_set_13 : decode cX15_set 13 = .ok (.iload_n 1, 1) := by decide +kernel
theorem dX15_set_14 : decode cX15_set 14 = .ok (.iaload, 1) := by decide +kernel
theorem dX15_set_15 : decode cX15_set 15 = .ok (.ifCond .ne 5, 3) := by decide +kernel
theorem dX15_set_18 : decode cX15_set 18 = .ok (.iconst 0, 1) := by decide +kernel
theorem dX15_set_19 : decode cX15_set 19 = .ok (.ireturn, 1) := by decide +kernel
theorem dX15_set_20 : decode cX15_set 20 = .ok (.aload_n 0, 1) := by decide +kernel
theorem dX15_set_21 : decode cX15_set 21 = .ok (.getfield 54, 3) := by decide +kernel
theorem dX15_set_24 : decode cX15_set 24 = .ok (.iload_n 1, 1) := by decide +kernel
theorem dX15_set_25 : decode cX15_set 25 = .ok (.aload_n 0, 1) := by decide +kernel
theorem dX15_set_26 : decode cX15_set 26 = .ok (.getfield 54, 3) := by decide +kernel
theorem dX15_set_29 : decode cX15_set 29 = .ok (.iload_n 1, 1) := by decide +kernel
theorem dX15_set_30 : decode cX15_set 30 = .ok (.iaload, 1) := by decide +kernel
theorem dX15_set_31 : decode cX15_set 31 = .ok (.iload_n 2, 1) := by decide +kernel
theorem dX15_set_32 : decode cX15_set 32 = .ok (.ior, 1) := by decide +kernel
theorem dX15_set_33 : decode cX15_set 33 = .ok (.iastore, 1) := by decide +kernel
theorem dX15_set_34 : decode cX15_set 34 = .ok (.aload_n 0, 1) := by decide +kernel
theorem dX15_set_35 : decode cX15_set 35 = .ok (.getfield 36, 3) := by decide +kernel
theorem dX15_set_38 : decode cX15_set 38 = .ok (.iload_n 1, 1) := by decide +kernel
theorem dX15_set_39 : decode cX15_set 39 = .ok (.iaload, 1) := by decide +kernel
theorem dX15_set_40 : decode cX15_set 40 = .ok (.iconst 3, 1) := by decide +kernel
theorem dX15_set_41 : decode cX15_set 41 = .ok (.if_icmp .ne 24, 3) := by decide +kernel
theorem dX15_set_44 : decode cX15_set 44 = .ok (.aload_n 0, 1) := by decide +kernel
theorem dX15_set_45 : decode cX15_set 45 = .ok (.getfield 54, 3) := by decide +kernel
theorem dX15_set_48 : decode cX15_set 48 = .ok (.iload_n 1, 1) := by decide +kernel
theorem dX15_set_49 : decode cX15_set 49 = .ok (.iaload, 1) := by decide +kernel
theorem dX15_set_50 : decode cX15_set 50 = .ok (.aload_n 0, 1) := by decide +kernel
theorem dX15_set_51 : decode cX15_set 51 = .ok (.getfield 57, 3) := by decide +kernel
theorem dX15_set_54 : decode cX15_set 54 = .ok (.iload_n 1, 1) := by decide +kernel
theorem dX15_set_55 : decode cX15_set 55 = .ok (.iaload, 1) := by decide +kernel
theorem dX15_set_56 : decode cX15_set 56 = .ok (.iand, 1) := by decide +kernel
theorem dX15_set_57 : decode cX15_set 57 = .ok (.ifCond .eq 8, 3) := by decide +kernel
theorem dX15_set_60 : decode cX15_set 60 = .ok (.aload_n 0, 1) := by decide +kernel
theorem dX15_set_61 : decode cX15_set 61 = .ok (.iload_n 1, 1) := by decide +kernel
theorem dX15_set_62 : decode cX15_set 62 = .ok (.invokevirtual 179, 3) := by decide +kernel
theorem dX15_set_65 : decode cX15_set 65 = .ok (.iconst 1, 1) := by decide +kernel
theorem dX15_set_66 : decode cX15_set 66 = .ok (.ireturn, 1) := by decide +kernel
theorem cwX15_set : mw_cwV yX15_set cX15_set 3 ((some .boolean)) 2 := ⟨⟨wd_14, wd_3849, by decide +kernel⟩, wd_3848, sl_275⟩
set_option maxHeartbeats 4000000 in
set_option maxRecDepth 100000 in
theorem tX15_set (l : Launch) (G : mwG) (ad : Nat → Nat) (fu : Nat) (a1 : Int32) (a2 : Int32) (M : mwM) (L : mwL) {r0 : Int32} {M0 : mwM} {L0 : mwL} (hD : DX15_set fu a1 a2 M L = some (r0, M0, L0)) : Met l yX15_set (Cond.code yX15_set cX15_set 3 ((some .boolean)) :: GT) ({ frames := 1, cells := 0, slots := 0, locals := 21 }) (mw_Pre G ad NF TF FF M L [.ref (ad 787), .int a1, .int a2]) (mw_Qi G ad NF TF FF (mw_eqI r0 M0 L0)) 0 0 (mw_fr G) := by
  refine mw_enter (by decide) (Nat.le_of_ble_eq_true rfl) ?_
  intro p e s m below meth c ls C hr hlocks hnm hw hl
  have hl : lv_has ls 3 [(0, .ref (ad 787)), (1, .int a1), (2, .int a2)] := hl
  have hb18 : ∀ (M : mwM) (L : mwL) (H : Heap) (locs : List Loc) (ls : Array Slot), fX15_set_b18 fu a1 a2 M L = some (r0, M0, L0) → mw_W G ad NF TF FF M L H locs → lv_has ls 3 [] → W p l e ({ frames := 1, cells := 0, slots := 0, locals := 21 }) s m [.ref (ad 787), .int a1, .int a2].toArray below meth c H locs 0 0 (MQ below (mw_Qi G ad NF TF FF (mw_eqI r0 M0 L0)) [.ref (ad 787), .int a1, .int a2].toArray s 0 0 (mw_fr G)) (F0 m 18 ls []) := by
    intro M L H locs ls hD hw hl
    unfold fX15_set_b18 at hD
    refine lv_iconst (v := 0) C.1.1 C.1.2.1 dX15_set_18 (by decide) ?_
    exact mr_iret C hr hlocks hw (by decide +kernel) (Option.some.inj hD) dX15_set_19
  have hb65 : ∀ (M : mwM) (L : mwL) (H : Heap) (locs : List Loc) (ls : Array Slot), fX15_set_b65 fu a1 a2 M L = some (r0, M0, L0) → mw_W G ad NF TF FF M L H locs → lv_has ls 3 [] → W p l e ({ frames := 1, cells := 0, slots := 0, locals := 21 }) s m [.ref (ad 787), .int a1, .int a2].toArray below meth c H locs 0 0 (MQ below (mw_Qi G ad NF TF FF (mw_eqI r0 M0 L0)) [.ref (ad 787), .int a1, .int a2].toArray s 0 0 (mw_fr G)) (F0 m 65 ls []) := by
    intro M L H locs ls hD hw hl
    unfold fX15_set_b65 at hD
    refine lv_iconst (v := 1) C.1.1 C.1.2.1 dX15_set_65 (by decide) ?_
    exact mr_iret C hr hlocks hw (by decide +kernel) (Option.some.inj hD) dX15_set_66
  unfold DX15_set at hD
  refine lv_aload_n C.1.1 C.1.2.1 dX15_set_0 rfl (lv_at hl 0 rfl) ?_
  refine mr_getR C hw kc_15 5 (by decide) tf_787 ff_787_5 wd_1960 dX15_set_1 (by decide) rfl ?_
  refine lv_iload_n C.1.1 C.1.2.1 dX15_set_4 rfl (lv_at hl 1 rfl) ?_
  obtain ⟨q1, hD⟩ := g_ck hD
  refine mr_zald C hw (by decide) tf_791 q1 dX15_set_5 ?_
  refine lv_if_eq (tgt := 18) C.1.1 C.1.2.1 dX15_set_6 (by decide) (fun c2 => ?_) (fun c2 => ?_)
  · replace hD := g_pos c2 hD
    exact hb18 M L _ _ ls hD hw (lv_sub hl [] rfl)
  · replace hD := g_neg c2 hD
    refine lv_aload_n C.1.1 C.1.2.1 dX15_set_9 rfl (lv_at hl 0 rfl) ?_
    refine mr_getR C hw kc_15 11 (by decide) tf_787 ff_787_11 wd_1966 dX15_set_10 (by decide) rfl ?_
    refine lv_iload_n C.1.1 C.1.2.1 dX15_set_13 rfl (lv_at hl 1 rfl) ?_
    obtain ⟨q3, hD⟩ := g_ck hD
    refine mr_iald C hw (by decide) tf_796 q3 dX15_set_14 ?_
    refine lv_if_ne (tgt := 20) C.1.1 C.1.2.1 dX15_set_15 (by decide) (fun c4 => ?_) (fun c4 => ?_)
    · replace hD := g_neg c4 hD
      refine lv_aload_n C.1.1 C.1.2.1 dX15_set_20 rfl (lv_at hl 0 rfl) ?_
      refine mr_getR C hw kc_15 17 (by decide) tf_787 ff_787_17 wd_1972 dX15_set_21 (by decide) rfl ?_
      refine lv_iload_n C.1.1 C.1.2.1 dX15_set_24 rfl (lv_at hl 1 rfl) ?_
      refine lv_aload_n C.1.1 C.1.2.1 dX15_set_25 rfl (lv_at hl 0 rfl) ?_
      refine mr_getR C hw kc_15 17 (by decide) tf_787 ff_787_17 wd_1972 dX15_set_26 (by decide) rfl ?_
      refine lv_iload_n C.1.1 C.1.2.1 dX15_set_29 rfl (lv_at hl 1 rfl) ?_
      obtain ⟨q5, hD⟩ := g_ck hD
      refine mr_iald C hw (by decide) tf_802 q5 dX15_set_30 ?_
      refine lv_iload_n C.1.1 C.1.2.1 dX15_set_31 rfl (lv_at hl 2 rfl) ?_
      refine lv_ior C.1.1 C.1.2.1 dX15_set_32 ?_
      obtain ⟨q6, hD⟩ := g_ck hD
      obtain ⟨M7, eM7, hD⟩ := g_let hD
      refine mr_iast C hw (by decide) tf_802 q6 dX15_set_33 (fun H locs hw => ?_)
      replace hw : mw_W G ad NF TF FF M7 L H locs := by rw [eM7]; exact hw
      refine lv_aload_n C.1.1 C.1.2.1 dX15_set_34 rfl (lv_at hl 0 rfl) ?_
      refine mr_getR C hw kc_15 11 (by decide) tf_787 ff_787_11 wd_1966 dX15_set_35 (by decide) rfl ?_
      refine lv_iload_n C.1.1 C.1.2.1 dX15_set_38 rfl (lv_at hl 1 rfl) ?_
      obtain ⟨q8, hD⟩ := g_ck hD
      refine mr_iald C hw (by decide) tf_796 q8 dX15_set_39 ?_
      refine lv_iconst (v := 3) C.1.1 C.1.2.1 dX15_set_40 (by decide) ?_
      refine lv_icmp_ne (tgt := 65) C.1.1 C.1.2.1 dX15_set_41 (by decide) (fun c9 => ?_) (fun c9 => ?_)
      · replace hD := g_neg c9 hD
        exact hb65 M7 L _ _ ls hD hw (lv_sub hl [] rfl)
      · replace hD := g_pos c9 hD
        refine lv_aload_n C.1.1 C.1.2.1 dX15_set_44 rfl (lv_at hl 0 rfl) ?_
        refine mr_getR C hw kc_15 17 (by decide) tf_787 ff_787_17 wd_1972 dX15_set_45 (by decide) rfl ?_
        refine lv_iload_n C.1.1 C.1.2.1 dX15_set_48 rfl (lv_at hl 1 rfl) ?_
        obtain ⟨q10, hD⟩ := g_ck hD
        refine mr_iald C hw (by decide) tf_802 q10 dX15_set_49 ?_
        refine lv_aload_n C.1.1 C.1.2.1 dX15_set_50 rfl (lv_at hl 0 rfl) ?_
        refine mr_getR C hw kc_15 18 (by decide) tf_787 ff_787_18 wd_1973 dX15_set_51 (by decide) rfl ?_
        refine lv_iload_n C.1.1 C.1.2.1 dX15_set_54 rfl (lv_at hl 1 rfl) ?_
        obtain ⟨q11, hD⟩ := g_ck hD
        refine mr_iald C hw (by decide) tf_803 q11 dX15_set_55 ?_
        refine lv_iand C.1.1 C.1.2.1 dX15_set_56 ?_
        refine lv_if_eq (tgt := 65) C.1.1 C.1.2.1 dX15_set_57 (by decide) (fun c12 => ?_) (fun c12 => ?_)
        · replace hD := g_pos c12 hD
          exact hb65 M7 L _ _ ls hD hw (lv_sub hl [] rfl)
        · replace hD := g_neg c12 hD
          refine lv_aload_n C.1.1 C.1.2.1 dX15_set_60 rfl (lv_at hl 0 rfl) ?_
          refine lv_iload_n C.1.1 C.1.2.1 dX15_set_61 rfl (lv_at hl 1 rfl) ?_
          obtain ⟨M13, L14, h1, hD⟩ := g_b2 hD
          refine md_cvV (As := [.int a1]) (rest := []) C hw (tX15_ready l G ad fu a1 M7 L h1) kc_15 (by decide) tf_787 wd_3793 cwX15_ready ⟨Nat.le_of_ble_eq_true rfl, Nat.le_of_ble_eq_true rfl⟩ rfl hl.1 (Nat.le_of_ble_eq_true rfl) dX15_set_62 rfl rfl ⟨Nat.zero_le _, Nat.zero_le _⟩ rfl (fun H locs hw => ?_)
          exact hb65 M13 L14 _ _ ls hD hw (lv_sub hl [] rfl)
    · replace hD := g_pos c4 hD
      exact hb18 M L _ _ ls hD hw (lv_sub hl [] rfl)

theorem dX15_unlock_0 : decode cX15_unlock 0 = .ok (.aload_n 0, 1) := by decide +kernel
theorem dX15_unlock_1 : decode cX15_unlock 1 = .ok (.getfield 75, 3) := by decide +kernel
theorem dX15_unlock_4 : decode cX15_unlock 4 = .ok (.iload_n 1, 1) := by decide +kernel
theorem dX15_unlock_5 : decode cX15_unlock 5 = .ok (.iconst 0, 1) := by decide +kernel
theorem dX15_unlock_6 : decode cX15_unlock 6 = .ok (.iastore, 1) := by decide +kernel
theorem dX15_unlock_7 : decode cX15_unlock 7 = .ok (.iconst 0, 1) := by decide +kernel
theorem dX15_unlock_8 : decode cX15_unlock 8 = .ok (.istore_n 2, 1) := by decide +kernel
theorem dX15_unlock_9 : decode cX15_unlock 9 = .ok (.iconst 1, 1) := by decide +kernel
theorem dX15_unlock_10 : decode cX15_unlock 10 = .ok (.istore_n 3, 1) := by decide +kernel
theorem dX15_unlock_11 : decode cX15_unlock 11 = .ok (.iload_n 3, 1) := by decide +kernel
theorem dX15_unlock_12 : decode cX15_unlock 12 = .ok (.aload_n 0, 1) := by decide +kernel
theorem dX15_unlock_13 : decode cX15_unlock 13 = .ok (.getfield 117, 3) := by decide +kernel
theorem dX15_unlock_16 : decode cX15_unlock 16 = .ok (.if_icmp .gt 41, 3) := by decide +kernel
theorem dX15_unlock_19 : decode cX15_unlock 19 = .ok (.aload_n 0, 1) := by decide +kernel
theorem dX15_unlock_20 : decode cX15_unlock 20 = .ok (.getfield 78, 3) := by decide +kernel
theorem dX15_unlock_23 : decode cX15_unlock 23 = .ok (.iload_n 3, 1) := by decide +kernel
theorem dX15_unlock_24 : decode cX15_unlock 24 = .ok (.iaload, 1) := by decide +kernel
theorem dX15_unlock_25 : decode cX15_unlock 25 = .ok (.iload_n 1, 1) := by decide +kernel
theorem dX15_unlock_26 : decode cX15_unlock 26 = .ok (.if_icmp .ne 25, 3) := by decide +kernel
theorem dX15_unlock_29 : decode cX15_unlock 29 = .ok (.iload_n 2, 1) := by decide +kernel
theorem dX15_unlock_30 : decode cX15_unlock 30 = .ok (.ifCond .eq 19, 3) := by decide +kernel
theorem dX15_unlock_33 : decode cX15_unlock 33 = .ok (.aload_n 0, 1) := by decide +kernel
theorem dX15_unlock_34 : decode cX15_unlock 34 = .ok (.getfield 81, 3) := by decide +kernel
theorem dX15_unlock_37 : decode cX15_unlock 37 = .ok (.iload_n 3, 1) := by decide +kernel
theorem dX15_unlock_38 : decode cX15_unlock 38 = .ok (.laload, 1) := by decide +kernel
theorem dX15_unlock_39 : decode cX15_unlock 39 = .ok (.aload_n 0, 1) := by decide +kernel
theorem dX15_unlock_40 : decode cX15_unlock 40 = .ok (.getfield 81, 3) := by decide +kernel
theorem dX15_unlock_43 : decode cX15_unlock 43 = .ok (.iload_n 2, 1) := by decide +kernel
theorem dX15_unlock_44 : decode cX15_unlock 44 = .ok (.laload, 1) := by decide +kernel
theorem dX15_unlock_45 : decode cX15_unlock 45 = .ok (.lcmp, 1) := by decide +kernel
theorem dX15_unlock_46 : decode cX15_unlock 46 = .ok (.ifCond .ge 5, 3) := by decide +kernel
theorem dX15_unlock_49 : decode cX15_unlock 49 = .ok (.iload_n 3, 1) := by decide +kernel
theorem dX15_unlock_50 : decode cX15_unlock 50 = .ok (.istore_n 2, 1) := by decide +kernel
theorem dX15_unlock_51 : decode cX15_unlock 51 = .ok (.iinc 3 1, 3) := by decide +kernel
theorem dX15_unlock_54 : decode cX15_unlock 54 = .ok (.goto (-43), 3) := by decide +kernel
theorem dX15_unlock_57 : decode cX15_unlock 57 = .ok (.iload_n 2, 1) := by decide +kernel
theorem dX15_unlock_58 : decode cX15_unlock 58 = .ok (.ifCond .ne 4, 3) := by decide +kernel
theorem dX15_unlock_61 : decode cX15_unlock 61 = .ok (.return_, 1) := by decide +kernel
theorem dX15_unlock_62 : decode cX15_unlock 62 = .ok (.aload_n 0, 1) := by decide +kernel
theorem dX15_unlock_63 : decode cX15_unlock 63 = .ok (.getfield 75, 3) := by decide +kernel
theorem dX15_unlock_66 : decode cX15_unlock 66 = .ok (.iload_n 1, 1) := by decide +kernel
theorem dX15_unlock_67 : decode cX15_unlock 67 = .ok (.iload_n 2, 1) := by decide +kernel
theorem dX15_unlock_68 : decode cX15_unlock 68 = .ok (.iastore, 1) := by decide +kernel
theorem dX15_unlock_69 : decode cX15_unlock 69 = .ok (.aload_n 0, 1) := by decide +kernel
theorem dX15_unlock_70 : decode cX15_unlock 70 = .ok (.getfield 78, 3) := by decide +kernel
theorem dX15_unlock_73 : decode cX15_unlock 73 = .ok (.iload_n 2, 1) := by decide +kernel
theorem dX15_unlock_74 : decode cX15_unlock 74 = .ok (.iconst 0, 1) := by decide +kernel
theorem dX15_unlock_75 : decode cX15_unlock 75 = .ok (.iastore, 1) := by decide +kernel
theorem dX15_unlock_76 : decode cX15_unlock 76 = .ok (.aload_n 0, 1) := by decide +kernel
theorem dX15_unlock_77 : decode cX15_unlock 77 = .ok (.getfield 45, 3) := by decide +kernel
theorem dX15_unlock_80 : decode cX15_unlock 80 = .ok (.iload_n 2, 1) := by decide +kernel
theorem dX15_unlock_81 : decode cX15_unlock 81 = .ok (.dup2, 1) := by decide +kernel
theorem dX15_unlock_82 : decode cX15_unlock 82 = .ok (.iaload, 1) := by decide +kernel
theorem dX15_unlock_83 : decode cX15_unlock 83 = .ok (.iconst 1, 1) := by decide +kernel
theorem dX15_unlock_84 : decode cX15_unlock 84 = .ok (.iadd, 1) := by decide +kernel
theorem dX15_unlock_85 : decode cX15_unlock 85 = .ok (.iastore, 1) := by decide +kernel
theorem dX15_unlock_86 : decode cX15_unlock 86 = .ok (.return_, 1) := by decide +kernel
theorem cwX15_unlock : mw_cwV yX15_unlock cX15_unlock 4 (none) 1 := ⟨⟨wd_14, wd_3836, by decide +kernel⟩, wd_3835, sl_272⟩
set_option maxHeartbeats 4000000 in
set_option maxRecDepth 100000 in
theorem tX15_unlock (l : Launch) (G : mwG) (ad : Nat → Nat) (fu : Nat) (a1 : Int32) (M : mwM) (L : mwL) {M0 : mwM} {L0 : mwL} (hD : DX15_unlock fu a1 M L = some (M0, L0)) : Met l yX15_unlock (Cond.code yX15_unlock cX15_unlock 4 (none) :: GT) ({ frames := 0, cells := 0, slots := 0, locals := 0 }) (mw_Pre G ad NF TF FF M L [.ref (ad 787), .int a1]) (mw_Qv G ad NF TF FF (mw_eqV M0 L0)) 0 0 (mw_fr G) := by
  refine mw_enter (by decide) (Nat.le_of_ble_eq_true rfl) ?_
  intro p e s m below meth c ls C hr hlocks hnm hw hl
  have hl : lv_has ls 4 [(0, .ref (ad 787)), (1, .int a1)] := hl
  have hh11 : ∀ (f : Nat) (v2 : Int32) (v3 : Int32) (M : mwM) (L : mwL) (H : Heap) (locs : List Loc) (ls : Array Slot), fX15_unlock_h11 fu a1 f (v2, v3, M, L) = some (M0, L0) → mw_W G ad NF TF FF M L H locs → lv_has ls 4 [(0, .ref (ad 787)), (1, .int a1), (2, .int v2), (3, .int v3)] → W p l e ({ frames := 0, cells := 0, slots := 0, locals := 0 }) s m [.ref (ad 787), .int a1].toArray below meth c H locs 0 0 (MQ below (mw_Qv G ad NF TF FF (mw_eqV M0 L0)) [.ref (ad 787), .int a1].toArray s 0 0 (mw_fr G)) (F0 m 11 ls []) := by
    intro f
    induction f with
    | zero => intro v2 v3 M L H locs ls hD; cases hD
    | succ f11 ih11 =>
      intro v2 v3 M L H locs ls hD hw hl
      replace hD : fX15_unlock_i11 fu a1 (fX15_unlock_h11 fu a1 f11) v2 v3 M L = some (M0, L0) := hD
      have hb51 : ∀ (v2 : Int32) (v3 : Int32) (M : mwM) (L : mwL) (H : Heap) (locs : List Loc) (ls : Array Slot), fX15_unlock_b51 fu a1 (fX15_unlock_h11 fu a1 f11) v2 v3 M L = some (M0, L0) → mw_W G ad NF TF FF M L H locs → lv_has ls 4 [(0, .ref (ad 787)), (1, .int a1), (2, .int v2), (3, .int v3)] → W p l e ({ frames := 0, cells := 0, slots := 0, locals := 0 }) s m [.ref (ad 787), .int a1].toArray below meth c H locs 0 0 (MQ below (mw_Qv G ad NF TF FF (mw_eqV M0 L0)) [.ref (ad 787), .int a1].toArray s 0 0 (mw_fr G)) (F0 m 51 ls []) := by
        intro v2 v3 M L H locs ls hD hw hl
        unfold fX15_unlock_b51 at hD
        obtain ⟨x16, ex16, hD⟩ := g_let hD
        refine lv_iinc (v := x16) (lv' := [(3, .int x16), (0, .ref (ad 787)), (1, .int a1), (2, .int v2)]) C.1.1 C.1.2.1 dX15_unlock_51 hl (k := 3) rfl (by rw [ex16]; rfl) (by decide) rfl (fun ls hl => ?_)
        refine lv_goto (tgt := 11) C.1.1 C.1.2.1 dX15_unlock_54 (by decide) ?_
        exact ih11 v2 x16 M L _ _ ls hD hw (lv_sub hl [1, 2, 3, 0] rfl)
      have hb49 : ∀ (v3 : Int32) (M : mwM) (L : mwL) (H : Heap) (locs : List Loc) (ls : Array Slot), fX15_unlock_b49 fu a1 (fX15_unlock_h11 fu a1 f11) v3 M L = some (M0, L0) → mw_W G ad NF TF FF M L H locs → lv_has ls 4 [(0, .ref (ad 787)), (1, .int a1), (3, .int v3)] → W p l e ({ frames := 0, cells := 0, slots := 0, locals := 0 }) s m [.ref (ad 787), .int a1].toArray below meth c H locs 0 0 (MQ below (mw_Qv G ad NF TF FF (mw_eqV M0 L0)) [.ref (ad 787), .int a1].toArray s 0 0 (mw_fr G)) (F0 m 49 ls []) := by
        intro v3 M L H locs ls hD hw hl
        unfold fX15_unlock_b49 at hD
        refine lv_iload_n C.1.1 C.1.2.1 dX15_unlock_49 rfl (lv_at hl 2 rfl) ?_
        refine lv_istore_n (lv' := [(2, .int v3), (0, .ref (ad 787)), (1, .int a1), (3, .int v3)]) C.1.1 C.1.2.1 dX15_unlock_50 rfl hl (by decide) rfl (fun ls hl => ?_)
        exact hb51 v3 v3 M L _ _ ls hD hw (lv_sub hl [1, 2, 0, 3] rfl)
      unfold fX15_unlock_i11 at hD
      refine lv_iload_n C.1.1 C.1.2.1 dX15_unlock_11 rfl (lv_at hl 3 rfl) ?_
      refine lv_aload_n C.1.1 C.1.2.1 dX15_unlock_12 rfl (lv_at hl 0 rfl) ?_
      refine mr_getI C hw kc_15 1 (by decide) tf_787 wd_1956 dX15_unlock_13 (by decide) rfl ?_
      refine lv_icmp_gt (tgt := 57) C.1.1 C.1.2.1 dX15_unlock_16 (by decide) (fun c1 => ?_) (fun c1 => ?_)
      · replace hD := g_pos c1 hD
        refine lv_iload_n C.1.1 C.1.2.1 dX15_unlock_57 rfl (lv_at hl 2 rfl) ?_
        refine lv_if_ne (tgt := 62) C.1.1 C.1.2.1 dX15_unlock_58 (by decide) (fun c2 => ?_) (fun c2 => ?_)
        · replace hD := g_neg c2 hD
          refine lv_aload_n C.1.1 C.1.2.1 dX15_unlock_62 rfl (lv_at hl 0 rfl) ?_
          refine mr_getR C hw kc_15 25 (by decide) tf_787 ff_787_25 wd_1980 dX15_unlock_63 (by decide) rfl ?_
          refine lv_iload_n C.1.1 C.1.2.1 dX15_unlock_66 rfl (lv_at hl 1 rfl) ?_
          refine lv_iload_n C.1.1 C.1.2.1 dX15_unlock_67 rfl (lv_at hl 2 rfl) ?_
          obtain ⟨q3, hD⟩ := g_ck hD
          obtain ⟨M4, eM4, hD⟩ := g_let hD
          refine mr_iast C hw (by decide) tf_809 q3 dX15_unlock_68 (fun H locs hw => ?_)
          replace hw : mw_W G ad NF TF FF M4 L H locs := by rw [eM4]; exact hw
          refine lv_aload_n C.1.1 C.1.2.1 dX15_unlock_69 rfl (lv_at hl 0 rfl) ?_
          refine mr_getR C hw kc_15 26 (by decide) tf_787 ff_787_26 wd_1981 dX15_unlock_70 (by decide) rfl ?_
          refine lv_iload_n C.1.1 C.1.2.1 dX15_unlock_73 rfl (lv_at hl 2 rfl) ?_
          refine lv_iconst (v := 0) C.1.1 C.1.2.1 dX15_unlock_74 (by decide) ?_
          obtain ⟨q5, hD⟩ := g_ck hD
          obtain ⟨M6, eM6, hD⟩ := g_let hD
          refine mr_iast C hw (by decide) tf_810 q5 dX15_unlock_75 (fun H locs hw => ?_)
          replace hw : mw_W G ad NF TF FF M6 L H locs := by rw [eM6]; exact hw
          refine lv_aload_n C.1.1 C.1.2.1 dX15_unlock_76 rfl (lv_at hl 0 rfl) ?_
          refine mr_getR C hw kc_15 14 (by decide) tf_787 ff_787_14 wd_1969 dX15_unlock_77 (by decide) rfl ?_
          refine lv_iload_n C.1.1 C.1.2.1 dX15_unlock_80 rfl (lv_at hl 2 rfl) ?_
          refine lv_dup2_11 C.1.1 C.1.2.1 dX15_unlock_81 rfl rfl ?_
          obtain ⟨q7, hD⟩ := g_ck hD
          refine mr_iald C hw (by decide) tf_799 q7 dX15_unlock_82 ?_
          refine lv_iconst (v := 1) C.1.1 C.1.2.1 dX15_unlock_83 (by decide) ?_
          refine lv_iadd C.1.1 C.1.2.1 dX15_unlock_84 ?_
          obtain ⟨q8, hD⟩ := g_ck hD
          obtain ⟨M9, eM9, hD⟩ := g_let hD
          refine mr_iast C hw (by decide) tf_799 q8 dX15_unlock_85 (fun H locs hw => ?_)
          replace hw : mw_W G ad NF TF FF M9 L H locs := by rw [eM9]; exact hw
          exact mr_vret C hr hlocks hw (Option.some.inj hD) dX15_unlock_86
        · replace hD := g_pos c2 hD
          exact mr_vret C hr hlocks hw (Option.some.inj hD) dX15_unlock_61
      · replace hD := g_neg c1 hD
        refine lv_aload_n C.1.1 C.1.2.1 dX15_unlock_19 rfl (lv_at hl 0 rfl) ?_
        refine mr_getR C hw kc_15 26 (by decide) tf_787 ff_787_26 wd_1981 dX15_unlock_20 (by decide) rfl ?_
        refine lv_iload_n C.1.1 C.1.2.1 dX15_unlock_23 rfl (lv_at hl 3 rfl) ?_
        obtain ⟨q10, hD⟩ := g_ck hD
        refine mr_iald C hw (by decide) tf_810 q10 dX15_unlock_24 ?_
        refine lv_iload_n C.1.1 C.1.2.1 dX15_unlock_25 rfl (lv_at hl 1 rfl) ?_
        refine lv_icmp_ne (tgt := 51) C.1.1 C.1.2.1 dX15_unlock_26 (by decide) (fun c11 => ?_) (fun c11 => ?_)
        · replace hD := g_neg c11 hD
          exact hb51 v2 v3 M L _ _ ls hD hw (lv_sub hl [0, 1, 2, 3] rfl)
        · replace hD := g_pos c11 hD
          refine lv_iload_n C.1.1 C.1.2.1 dX15_unlock_29 rfl (lv_at hl 2 rfl) ?_
          refine lv_if_eq (tgt := 49) C.1.1 C.1.2.1 dX15_unlock_30 (by decide) (fun c12 => ?_) (fun c12 => ?_)
          · replace hD := g_pos c12 hD
            exact hb49 v3 M L _ _ ls hD hw (lv_sub hl [0, 1, 3] rfl)
          · replace hD := g_neg c12 hD
            refine lv_aload_n C.1.1 C.1.2.1 dX15_unlock_33 rfl (lv_at hl 0 rfl) ?_
            refine mr_getR C hw kc_15 27 (by decide) tf_787 ff_787_27 wd_1982 dX15_unlock_34 (by decide) rfl ?_
            refine lv_iload_n C.1.1 C.1.2.1 dX15_unlock_37 rfl (lv_at hl 3 rfl) ?_
            obtain ⟨q13, hD⟩ := g_ck hD
            refine mr_lald C hw (by decide) tf_811 q13 dX15_unlock_38 ?_
            refine lv_aload_n C.1.1 C.1.2.1 dX15_unlock_39 rfl (lv_at hl 0 rfl) ?_
            refine mr_getR C hw kc_15 27 (by decide) tf_787 ff_787_27 wd_1982 dX15_unlock_40 (by decide) rfl ?_
            refine lv_iload_n C.1.1 C.1.2.1 dX15_unlock_43 rfl (lv_at hl 2 rfl) ?_
            obtain ⟨q14, hD⟩ := g_ck hD
            refine mr_lald C hw (by decide) tf_811 q14 dX15_unlock_44 ?_
            refine W.lcmp C.1.1 C.1.2.1 dX15_unlock_45 ?_
            refine lv_if_ge (tgt := 51) C.1.1 C.1.2.1 dX15_unlock_46 (by decide) (fun c15 => ?_) (fun c15 => ?_)
            · replace hD := g_pos c15 hD
              exact hb51 v2 v3 M L _ _ ls hD hw (lv_sub hl [0, 1, 2, 3] rfl)
            · replace hD := g_neg c15 hD
              exact hb49 v3 M L _ _ ls hD hw (lv_sub hl [0, 1, 3] rfl)
  unfold DX15_unlock at hD
  refine lv_aload_n C.1.1 C.1.2.1 dX15_unlock_0 rfl (lv_at hl 0 rfl) ?_
  refine mr_getR C hw kc_15 25 (by decide) tf_787 ff_787_25 wd_1980 dX15_unlock_1 (by decide) rfl ?_
  refine lv_iload_n C.1.1 C.1.2.1 dX15_unlock_4 rfl (lv_at hl 1 rfl) ?_
  refine lv_iconst (v := 0) C.1.1 C.1.2.1 dX15_unlock_5 (by decide) ?_
  obtain ⟨q17, hD⟩ := g_ck hD
  obtain ⟨M18, eM18, hD⟩ := g_let hD
  refine mr_iast C hw (by decide) tf_809 q17 dX15_unlock_6 (fun H locs hw => ?_)
  replace hw : mw_W G ad NF TF FF M18 L H locs := by rw [eM18]; exact hw
  refine lv_iconst (v := 0) C.1.1 C.1.2.1 dX15_unlock_7 (by decide) ?_
  refine lv_istore_n (lv' := [(2, .int 0), (0, .ref (ad 787)), (1, .int a1)]) C.1.1 C.1.2.1 dX15_unlock_8 rfl hl (by decide) rfl (fun ls hl => ?_)
  refine lv_iconst (v := 1) C.1.1 C.1.2.1 dX15_unlock_9 (by decide) ?_
  refine lv_istore_n (lv' := [(3, .int 1), (2, .int 0), (0, .ref (ad 787)), (1, .int a1)]) C.1.1 C.1.2.1 dX15_unlock_10 rfl hl (by decide) rfl (fun ls hl => ?_)
  exact hh11 fu 0 1 M18 L _ _ ls hD hw (lv_sub hl [2, 3, 1, 0] rfl)

theorem dX15_holdsSome_0 : decode cX15_holdsSome 0 = .ok (.iconst 0, 1) := by decide +kernel
theorem dX15_holdsSome_1 : decode cX15_holdsSome 1 = .ok (.istore_n 2, 1) := by decide +kernel
theorem dX15_holdsSome_2 : decode cX15_holdsSome 2 = .ok (.iconst 1, 1) := by decide +kernel
theorem dX15_holdsSome_3 : decode cX15_holdsSome 3 = .ok (.istore_n 3, 1) := by decide +kernel
theorem dX15_holdsSome_4 : decode cX15_holdsSome 4 = .ok (.iload_n 3, 1) := by decide +kernel
theorem dX15_holdsSome_5 : decode cX15_holdsSome 5 = .ok (.bipush 32, 2) := by decide +kernel
theorem dX15_holdsSome_7 : decode cX15_holdsSome 7 = .ok (.if_icmp .gt 29, 3) := by decide +kernel
theorem dX15_holdsSome_10 : decode cX15_holdsSome 10 = .ok (.iload_n 2, 1) := by decide +kernel
theorem dX15_holdsSome_11 : decode cX15_holdsSome 11 = .ok (.ifCond .ne 13, 3) := by decide +kernel
theorem dX15_holdsSome_14 : decode cX15_holdsSome 14 = .ok (.aload_n 0, 1) := by decide +kernel
theorem dX15_holdsSome_15 : decode cX15_holdsSome 15 = .ok (.getfield 66, 3) := by decide +kernel
theorem dX15_holdsSome_18 : decode cX15_holdsSome 18 = .ok (.iload_n 3, 1) := by decide +kernel
theorem dX15_holdsSome_19 : decode cX15_holdsSome 19 = .ok (.iaload, 1) := by decide +kernel
theorem dX15_holdsSome_20 : decode cX15_holdsSome 20 = .ok (.iload_n 1, 1) := by decide +kernel
theorem dX15_holdsSome_21 : decode cX15_holdsSome 21 = .ok (.if_icmp .ne 7, 3) := by decide +kernel
theorem dX15_holdsSome_24 : decode cX15_holdsSome 24 = .ok (.iconst 1, 1) := by decide +kernel
theorem dX15_holdsSome_25 : decode cX15_holdsSome 25 = .ok (.goto 4, 3) := by decide +kernel
theorem dX15_holdsSome_28 : decode cX15_holdsSome 28 = .ok (.iconst 0, 1) := by decide +kernel
theorem dX15_holdsSome_29 : decode cX15_holdsSome 29 = .ok (.istore_n 2, 1) := by decide +kernel
theorem dX15_holdsSome_30 : decode cX15_holdsSome 30 = .ok (.iinc 3 1, 3) := by decide +kernel
theorem dX15_holdsSome_33 : decode cX15_holdsSome 33 = .ok (.goto (-29), 3) := by decide +kernel
theorem dX15_holdsSome_36 : decode cX15_holdsSome 36 = .ok (.iconst 1, 1) := by decide +kernel
theorem dX15_holdsSome_37 : decode cX15_holdsSome 37 = .ok (.istore_n 3, 1) := by decide +kernel
theorem dX15_holdsSome_38 : decode cX15_holdsSome 38 = .ok (.iload_n 3, 1) := by decide +kernel
theorem dX15_holdsSome_39 : decode cX15_holdsSome 39 = .ok (.bipush 16, 2) := by decide +kernel
theorem dX15_holdsSome_41 : decode cX15_holdsSome 41 = .ok (.if_icmp .gt 29, 3) := by decide +kernel
theorem dX15_holdsSome_44 : decode cX15_holdsSome 44 = .ok (.iload_n 2, 1) := by decide +kernel
theorem dX15_holdsSome_45 : decode cX15_holdsSome 45 = .ok (.ifCond .ne 13, 3) := by decide +kernel
theorem dX15_holdsSome_48 : decode cX15_holdsSome 48 = .ok (.aload_n 0, 1) := by decide +kernel
theorem dX15_holdsSome_49 : decode cX15_holdsSome 49 = .ok (.getfield 75, 3) := by decide +kernel
theorem dX15_holdsSome_52 : decode cX15_holdsSome 52 = .ok (.iload_n 3, 1) := by decide +kernel
theorem dX15_holdsSome_53 : decode cX15_holdsSome 53 = .ok (.iaload, 1) := by decide +kernel
theorem dX15_holdsSome_54 : decode cX15_holdsSome 54 = .ok (.iload_n 1, 1) := by decide +kernel
theorem dX15_holdsSome_55 : decode cX15_holdsSome 55 = .ok (.if_icmp .ne 7, 3) := by decide +kernel
theorem dX15_holdsSome_58 : decode cX15_holdsSome 58 = .ok (.iconst 1, 1) := by decide +kernel
theorem dX15_holdsSome_59 : decode cX15_holdsSome 59 = .ok (.goto 4, 3) := by decide +kernel
theorem dX15_holdsSome_62 : decode cX15_holdsSome 62 = .ok (.iconst 0, 1) := by decide +kernel
theorem dX15_holdsSome_63 : decode cX15_holdsSome 63 = .ok (.istore_n 2, 1) := by decide +kernel
theorem dX15_holdsSome_64 : decode cX15_holdsSome 64 = .ok (.iinc 3 1, 3) := by decide +kernel
theorem dX15_holdsSome_67 : decode cX15_holdsSome 67 = .ok (.goto (-29), 3) := by decide +kernel
theorem dX15_holdsSome_70 : decode cX15_holdsSome 70 = .ok (.iload_n 2, 1) := by decide +kernel
theorem dX15_holdsSome_71 : decode cX15_holdsSome 71 = .ok (.ireturn, 1) := by decide +kernel
theorem cwX15_holdsSome : mw_cwV yX15_holdsSome cX15_holdsSome 4 ((some .boolean)) 1 := ⟨⟨wd_14, wd_3832, by decide +kernel⟩, wd_3831, sl_271⟩
set_option maxHeartbeats 4000000 in
set_option maxRecDepth 100000 in
theorem tX15_holdsSome (l : Launch) (G : mwG) (ad : Nat → Nat) (fu : Nat) (a1 : Int32) (M : mwM) (L : mwL) {r0 : Int32} {M0 : mwM} {L0 : mwL} (hD : DX15_holdsSome fu a1 M L = some (r0, M0, L0)) : Met l yX15_holdsSome (Cond.code yX15_holdsSome cX15_holdsSome 4 ((some .boolean)) :: GT) ({ frames := 0, cells := 0, slots := 0, locals := 0 }) (mw_Pre G ad NF TF FF M L [.ref (ad 787), .int a1]) (mw_Qi G ad NF TF FF (mw_eqI r0 M0 L0)) 0 0 (mw_fr G) := by
  refine mw_enter (by decide) (Nat.le_of_ble_eq_true rfl) ?_
  intro p e s m below meth c ls C hr hlocks hnm hw hl
  have hl : lv_has ls 4 [(0, .ref (ad 787)), (1, .int a1)] := hl
  have hh38 : ∀ (f : Nat) (v2 : Int32) (v3 : Int32) (M : mwM) (L : mwL) (H : Heap) (locs : List Loc) (ls : Array Slot), fX15_holdsSome_h38 fu a1 f (v2, v3, M, L) = some (r0, M0, L0) → mw_W G ad NF TF FF M L H locs → lv_has ls 4 [(0, .ref (ad 787)), (1, .int a1), (2, .int v2), (3, .int v3)] → W p l e ({ frames := 0, cells := 0, slots := 0, locals := 0 }) s m [.ref (ad 787), .int a1].toArray below meth c H locs 0 0 (MQ below (mw_Qi G ad NF TF FF (mw_eqI r0 M0 L0)) [.ref (ad 787), .int a1].toArray s 0 0 (mw_fr G)) (F0 m 38 ls []) := by
    intro f
    induction f with
    | zero => intro v2 v3 M L H locs ls hD; cases hD
    | succ f38 ih38 =>
      intro v2 v3 M L H locs ls hD hw hl
      replace hD : fX15_holdsSome_i38 fu a1 (fX15_holdsSome_h38 fu a1 f38) v2 v3 M L = some (r0, M0, L0) := hD
      have hb63 : ∀ (v3 : Int32) (s0 : Int32) (M : mwM) (L : mwL) (H : Heap) (locs : List Loc) (ls : Array Slot), fX15_holdsSome_b63 fu a1 (fX15_holdsSome_h38 fu a1 f38) v3 s0 M L = some (r0, M0, L0) → mw_W G ad NF TF FF M L H locs → lv_has ls 4 [(0, .ref (ad 787)), (1, .int a1), (3, .int v3)] → W p l e ({ frames := 0, cells := 0, slots := 0, locals := 0 }) s m [.ref (ad 787), .int a1].toArray below meth c H locs 0 0 (MQ below (mw_Qi G ad NF TF FF (mw_eqI r0 M0 L0)) [.ref (ad 787), .int a1].toArray s 0 0 (mw_fr G)) (F0 m 63 ls [.int s0]) := by
        intro v3 s0 M L H locs ls hD hw hl
        unfold fX15_holdsSome_b63 at hD
        refine lv_istore_n (lv' := [(2, .int s0), (0, .ref (ad 787)), (1, .int a1), (3, .int v3)]) C.1.1 C.1.2.1 dX15_holdsSome_63 rfl hl (by decide) rfl (fun ls hl => ?_)
        obtain ⟨x11, ex11, hD⟩ := g_let hD
        refine lv_iinc (v := x11) (lv' := [(3, .int x11), (2, .int s0), (0, .ref (ad 787)), (1, .int a1)]) C.1.1 C.1.2.1 dX15_holdsSome_64 hl (k := 3) rfl (by rw [ex11]; rfl) (by decide) rfl (fun ls hl => ?_)
        refine lv_goto (tgt := 38) C.1.1 C.1.2.1 dX15_holdsSome_67 (by decide) ?_
        exact ih38 s0 x11 M L _ _ ls hD hw (lv_sub hl [2, 3, 1, 0] rfl)
      have hb58 : ∀ (v3 : Int32) (M : mwM) (L : mwL) (H : Heap) (locs : List Loc) (ls : Array Slot), fX15_holdsSome_b58 fu a1 (fX15_holdsSome_h38 fu a1 f38) v3 M L = some (r0, M0, L0) → mw_W G ad NF TF FF M L H locs → lv_has ls 4 [(0, .ref (ad 787)), (1, .int a1), (3, .int v3)] → W p l e ({ frames := 0, cells := 0, slots := 0, locals := 0 }) s m [.ref (ad 787), .int a1].toArray below meth c H locs 0 0 (MQ below (mw_Qi G ad NF TF FF (mw_eqI r0 M0 L0)) [.ref (ad 787), .int a1].toArray s 0 0 (mw_fr G)) (F0 m 58 ls []) := by
        intro v3 M L H locs ls hD hw hl
        unfold fX15_holdsSome_b58 at hD
        refine lv_iconst (v := 1) C.1.1 C.1.2.1 dX15_holdsSome_58 (by decide) ?_
        refine lv_goto (tgt := 63) C.1.1 C.1.2.1 dX15_holdsSome_59 (by decide) ?_
        exact hb63 v3 1 M L _ _ ls hD hw (lv_sub hl [0, 1, 2] rfl)
      unfold fX15_holdsSome_i38 at hD
      refine lv_iload_n C.1.1 C.1.2.1 dX15_holdsSome_38 rfl (lv_at hl 3 rfl) ?_
      refine lv_bipush (v := 16) C.1.1 C.1.2.1 dX15_holdsSome_39 (by decide) ?_
      refine lv_icmp_gt (tgt := 70) C.1.1 C.1.2.1 dX15_holdsSome_41 (by decide) (fun c6 => ?_) (fun c6 => ?_)
      · replace hD := g_pos c6 hD
        refine lv_iload_n C.1.1 C.1.2.1 dX15_holdsSome_70 rfl (lv_at hl 2 rfl) ?_
        obtain ⟨z7, hD⟩ := g_zz hD
        exact mr_iret C hr hlocks hw (nz_zz z7) (Option.some.inj hD) dX15_holdsSome_71
      · replace hD := g_neg c6 hD
        refine lv_iload_n C.1.1 C.1.2.1 dX15_holdsSome_44 rfl (lv_at hl 2 rfl) ?_
        refine lv_if_ne (tgt := 58) C.1.1 C.1.2.1 dX15_holdsSome_45 (by decide) (fun c8 => ?_) (fun c8 => ?_)
        · replace hD := g_neg c8 hD
          exact hb58 v3 M L _ _ ls hD hw (lv_sub hl [0, 1, 3] rfl)
        · replace hD := g_pos c8 hD
          refine lv_aload_n C.1.1 C.1.2.1 dX15_holdsSome_48 rfl (lv_at hl 0 rfl) ?_
          refine mr_getR C hw kc_15 25 (by decide) tf_787 ff_787_25 wd_1980 dX15_holdsSome_49 (by decide) rfl ?_
          refine lv_iload_n C.1.1 C.1.2.1 dX15_holdsSome_52 rfl (lv_at hl 3 rfl) ?_
          obtain ⟨q9, hD⟩ := g_ck hD
          refine mr_iald C hw (by decide) tf_809 q9 dX15_holdsSome_53 ?_
          refine lv_iload_n C.1.1 C.1.2.1 dX15_holdsSome_54 rfl (lv_at hl 1 rfl) ?_
          refine lv_icmp_ne (tgt := 62) C.1.1 C.1.2.1 dX15_holdsSome_55 (by decide) (fun c10 => ?_) (fun c10 => ?_)
          · replace hD := g_neg c10 hD
            refine lv_iconst (v := 0) C.1.1 C.1.2.1 dX15_holdsSome_62 (by decide) ?_
            exact hb63 v3 0 M L _ _ ls hD hw (lv_sub hl [0, 1, 3] rfl)
          · replace hD := g_pos c10 hD
            exact hb58 v3 M L _ _ ls hD hw (lv_sub hl [0, 1, 3] rfl)
  have hh4 : ∀ (f : Nat) (v2 : Int32) (v3 : Int32) (M : mwM) (L : mwL) (H : Heap) (locs : List Loc) (ls : Array Slot), fX15_holdsSome_h4 fu a1 f (v2, v3, M, L) = some (r0, M0, L0) → mw_W G ad NF TF FF M L H locs → lv_has ls 4 [(0, .ref (ad 787)), (1, .int a1), (2, .int v2), (3, .int v3)] → W p l e ({ frames := 0, cells := 0, slots := 0, locals := 0 }) s m [.ref (ad 787), .int a1].toArray below meth c H locs 0 0 (MQ below (mw_Qi G ad NF TF FF (mw_eqI r0 M0 L0)) [.ref (ad 787), .int a1].toArray s 0 0 (mw_fr G)) (F0 m 4 ls []) := by
    intro f
    induction f with
    | zero => intro v2 v3 M L H locs ls hD; cases hD
    | succ f4 ih4 =>
      intro v2 v3 M L H locs ls hD hw hl
      replace hD : fX15_holdsSome_i4 fu a1 (fX15_holdsSome_h4 fu a1 f4) v2 v3 M L = some (r0, M0, L0) := hD
      have hb29 : ∀ (v3 : Int32) (s0 : Int32) (M : mwM) (L : mwL) (H : Heap) (locs : List Loc) (ls : Array Slot), fX15_holdsSome_b29 fu a1 (fX15_holdsSome_h4 fu a1 f4) v3 s0 M L = some (r0, M0, L0) → mw_W G ad NF TF FF M L H locs → lv_has ls 4 [(0, .ref (ad 787)), (1, .int a1), (3, .int v3)] → W p l e ({ frames := 0, cells := 0, slots := 0, locals := 0 }) s m [.ref (ad 787), .int a1].toArray below meth c H locs 0 0 (MQ below (mw_Qi G ad NF TF FF (mw_eqI r0 M0 L0)) [.ref (ad 787), .int a1].toArray s 0 0 (mw_fr G)) (F0 m 29 ls [.int s0]) := by
        intro v3 s0 M L H locs ls hD hw hl
        unfold fX15_holdsSome_b29 at hD
        refine lv_istore_n (lv' := [(2, .int s0), (0, .ref (ad 787)), (1, .int a1), (3, .int v3)]) C.1.1 C.1.2.1 dX15_holdsSome_29 rfl hl (by decide) rfl (fun ls hl => ?_)
        obtain ⟨x5, ex5, hD⟩ := g_let hD
        refine lv_iinc (v := x5) (lv' := [(3, .int x5), (2, .int s0), (0, .ref (ad 787)), (1, .int a1)]) C.1.1 C.1.2.1 dX15_holdsSome_30 hl (k := 3) rfl (by rw [ex5]; rfl) (by decide) rfl (fun ls hl => ?_)
        refine lv_goto (tgt := 4) C.1.1 C.1.2.1 dX15_holdsSome_33 (by decide) ?_
        exact ih4 s0 x5 M L _ _ ls hD hw (lv_sub hl [2, 3, 1, 0] rfl)
      have hb24 : ∀ (v3 : Int32) (M : mwM) (L : mwL) (H : Heap) (locs : List Loc) (ls : Array Slot), fX15_holdsSome_b24 fu a1 (fX15_holdsSome_h4 fu a1 f4) v3 M L = some (r0, M0, L0) → mw_W G ad NF TF FF M L H locs → lv_has ls 4 [(0, .ref (ad 787)), (1, .int a1), (3, .int v3)] → W p l e ({ frames := 0, cells := 0, slots := 0, locals := 0 }) s m [.ref (ad 787), .int a1].toArray below meth c H locs 0 0 (MQ below (mw_Qi G ad NF TF FF (mw_eqI r0 M0 L0)) [.ref (ad 787), .int a1].toArray s 0 0 (mw_fr G)) (F0 m 24 ls []) := by
        intro v3 M L H locs ls hD hw hl
        unfold fX15_holdsSome_b24 at hD
        refine lv_iconst (v := 1) C.1.1 C.1.2.1 dX15_holdsSome_24 (by decide) ?_
        refine lv_goto (tgt := 29) C.1.1 C.1.2.1 dX15_holdsSome_25 (by decide) ?_
        exact hb29 v3 1 M L _ _ ls hD hw (lv_sub hl [0, 1, 2] rfl)
      unfold fX15_holdsSome_i4 at hD
      refine lv_iload_n C.1.1 C.1.2.1 dX15_holdsSome_4 rfl (lv_at hl 3 rfl) ?_
      refine lv_bipush (v := 32) C.1.1 C.1.2.1 dX15_holdsSome_5 (by decide) ?_
      refine lv_icmp_gt (tgt := 36) C.1.1 C.1.2.1 dX15_holdsSome_7 (by decide) (fun c1 => ?_) (fun c1 => ?_)
      · replace hD := g_pos c1 hD
        refine lv_iconst (v := 1) C.1.1 C.1.2.1 dX15_holdsSome_36 (by decide) ?_
        refine lv_istore_n (lv' := [(3, .int 1), (0, .ref (ad 787)), (1, .int a1), (2, .int v2)]) C.1.1 C.1.2.1 dX15_holdsSome_37 rfl hl (by decide) rfl (fun ls hl => ?_)
        exact hh38 fu v2 1 M L _ _ ls hD hw (lv_sub hl [1, 2, 3, 0] rfl)
      · replace hD := g_neg c1 hD
        refine lv_iload_n C.1.1 C.1.2.1 dX15_holdsSome_10 rfl (lv_at hl 2 rfl) ?_
        refine lv_if_ne (tgt := 24) C.1.1 C.1.2.1 dX15_holdsSome_11 (by decide) (fun c2 => ?_) (fun c2 => ?_)
        · replace hD := g_neg c2 hD
          exact hb24 v3 M L _ _ ls hD hw (lv_sub hl [0, 1, 3] rfl)
        · replace hD := g_pos c2 hD
          refine lv_aload_n C.1.1 C.1.2.1 dX15_holdsSome_14 rfl (lv_at hl 0 rfl) ?_
          refine mr_getR C hw kc_15 22 (by decide) tf_787 ff_787_22 wd_1977 dX15_holdsSome_15 (by decide) rfl ?_
          refine lv_iload_n C.1.1 C.1.2.1 dX15_holdsSome_18 rfl (lv_at hl 3 rfl) ?_
          obtain ⟨q3, hD⟩ := g_ck hD
          refine mr_iald C hw (by decide) tf_806 q3 dX15_holdsSome_19 ?_
          refine lv_iload_n C.1.1 C.1.2.1 dX15_holdsSome_20 rfl (lv_at hl 1 rfl) ?_
          refine lv_icmp_ne (tgt := 28) C.1.1 C.1.2.1 dX15_holdsSome_21 (by decide) (fun c4 => ?_) (fun c4 => ?_)
          · replace hD := g_neg c4 hD
            refine lv_iconst (v := 0) C.1.1 C.1.2.1 dX15_holdsSome_28 (by decide) ?_
            exact hb29 v3 0 M L _ _ ls hD hw (lv_sub hl [0, 1, 3] rfl)
          · replace hD := g_pos c4 hD
            exact hb24 v3 M L _ _ ls hD hw (lv_sub hl [0, 1, 3] rfl)
  unfold DX15_holdsSome at hD
  refine lv_iconst (v := 0) C.1.1 C.1.2.1 dX15_holdsSome_0 (by decide) ?_
  refine lv_istore_n (lv' := [(2, .int 0), (0, .ref (ad 787)), (1, .int a1)]) C.1.1 C.1.2.1 dX15_holdsSome_1 rfl hl (by decide) rfl (fun ls hl => ?_)
  refine lv_iconst (v := 1) C.1.1 C.1.2.1 dX15_holdsSome_2 (by decide) ?_
  refine lv_istore_n (lv' := [(3, .int 1), (2, .int 0), (0, .ref (ad 787)), (1, .int a1)]) C.1.1 C.1.2.1 dX15_holdsSome_3 rfl hl (by decide) rfl (fun ls hl => ?_)
  exact hh4 fu 0 1 M L _ _ ls hD hw (lv_sub hl [2, 3, 1, 0] rfl)

theorem dX15_free_0 : decode cX15_free 0 = .ok (.aload_n 0, 1) := by decide +kernel
theorem dX15_free_1 : decode cX15_free 1 = .ok (.iload_n 1, 1) := by decide +kernel
theorem dX15_free_2 : decode cX15_free 2 = .ok (.invokevirtual 183, 3) := by decide +kernel
theorem dX15_free_5 : decode cX15_free 5 = .ok (.ifCond .ne 11, 3) := by decide +kernel
theorem dX15_free_8 : decode cX15_free 8 = .ok (.aload_n 0, 1) := by decide +kernel
theorem dX15_free_9 : decode cX15_free 9 = .ok (.getfield 130, 3) := by decide +kernel
theorem dX15_free_12 : decode cX15_free 12 = .ok (.iload_n 1, 1) := by decide +kernel
theorem dX15_free_13 : decode cX15_free 13 = .ok (.if_icmp .ne 7, 3) := by decide +kernel
theorem dX15_free_16 : decode cX15_free 16 = .ok (.iconst 1, 1) := by decide +kernel
theorem dX15_free_17 : decode cX15_free 17 = .ok (.goto 4, 3) := by decide +kernel
theorem dX15_free_20 : decode cX15_free 20 = .ok (.iconst 0, 1) := by decide +kernel
theorem dX15_free_21 : decode cX15_free 21 = .ok (.istore_n 2, 1) := by decide +kernel
theorem dX15_free_22 : decode cX15_free 22 = .ok (.iconst 1, 1) := by decide +kernel
theorem dX15_free_23 : decode cX15_free 23 = .ok (.istore_n 3, 1) := by decide +kernel
theorem dX15_free_24 : decode cX15_free 24 = .ok (.iload_n 3, 1) := by decide +kernel
theorem dX15_free_25 : decode cX15_free 25 = .ok (.bipush 32, 2) := by decide +kernel
theorem dX15_free_27 : decode cX15_free 27 = .ok (.if_icmp .gt 35, 3) := by decide +kernel
theorem dX15_free_30 : decode cX15_free 30 = .ok (.aload_n 0, 1) := by decide +kernel
theorem dX15_free_31 : decode cX15_free 31 = .ok (.getfield 66, 3) := by decide +kernel
theorem dX15_free_34 : decode cX15_free 34 = .ok (.iload_n 3, 1) := by decide +kernel
theorem dX15_free_35 : decode cX15_free 35 = .ok (.aload_n 0, 1) := by decide +kernel
theorem dX15_free_36 : decode cX15_free 36 = .ok (.getfield 66, 3) := by decide +kernel
theorem dX15_free_39 : decode cX15_free 39 = .ok (.iload_n 3, 1) := by decide +kernel
theorem dX15_free_40 : decode cX15_free 40 = .ok (.iaload, 1) := by decide +kernel
theorem dX15_free_41 : decode cX15_free 41 = .ok (.iload_n 1, 1) := by decide +kernel
theorem dX15_free_42 : decode cX15_free 42 = .ok (.if_icmp .ne 7, 3) := by decide +kernel
theorem dX15_free_45 : decode cX15_free 45 = .ok (.iconst 0, 1) := by decide +kernel
theorem dX15_free_46 : decode cX15_free 46 = .ok (.goto 9, 3) := by decide +kernel
theorem dX15_free_49 : decode cX15_free 49 = .ok (.aload_n 0, 1) := by decide +kernel
theorem dX15_free_50 : decode cX15_free 50 = .ok (.getfield 66, 3) := by decide +kernel
theorem dX15_free_53 : decode cX15_free 53 = .ok (.iload_n 3, 1) := by decide +kernel
theorem dX15_free_54 : decode cX15_free 54 = .ok (.iaload, 1) := by decide +kernel
theorem dX15_free_55 : decode cX15_free 55 = .ok (.iastore, 1) := by decide +kernel
theorem dX15_free_56 : decode cX15_free 56 = .ok (.iinc 3 1, 3) := by decide +kernel
theorem dX15_free_59 : decode cX15_free 59 = .ok (.goto (-35), 3) := by decide +kernel
theorem dX15_free_62 : decode cX15_free 62 = .ok (.iconst 1, 1) := by decide +kernel
theorem dX15_free_63 : decode cX15_free 63 = .ok (.istore_n 3, 1) := by decide +kernel
theorem dX15_free_64 : decode cX15_free 64 = .ok (.iload_n 3, 1) := by decide +kernel
theorem dX15_free_65 : decode cX15_free 65 = .ok (.bipush 16, 2) := by decide +kernel
theorem dX15_free_67 : decode cX15_free 67 = .ok (.if_icmp .gt 24, 3) := by decide +kernel
theorem dX15_free_70 : decode cX15_free 70 = .ok (.aload_n 0, 1) := by decide +kernel
theorem dX15_free_71 : decode cX15_free 71 = .ok (.getfield 75, 3) := by decide +kernel
theorem dX15_free_74 : decode cX15_free 74 = .ok (.iload_n 3, 1) := by decide +kernel
theorem dX15_free_75 : decode cX15_free 75 = .ok (.iaload, 1) := by decide +kernel
theorem dX15_free_76 : decode cX15_free 76 = .ok (.iload_n 1, 1) := by decide +kernel
theorem dX15_free_77 : decode cX15_free 77 = .ok (.if_icmp .ne 8, 3) := by decide +kernel
theorem dX15_free_80 : decode cX15_free 80 = .ok (.aload_n 0, 1) := by decide +kernel
theorem dX15_free_81 : decode cX15_free 81 = .ok (.iload_n 3, 1) := by decide +kernel
theorem dX15_free_82 : decode cX15_free 82 = .ok (.invokevirtual 186, 3) := by decide +kernel
theorem dX15_free_85 : decode cX15_free 85 = .ok (.iinc 3 1, 3) := by decide +kernel
theorem dX15_free_88 : decode cX15_free 88 = .ok (.goto (-24), 3) := by decide +kernel
theorem dX15_free_91 : decode cX15_free 91 = .ok (.aload_n 0, 1) := by decide +kernel
theorem dX15_free_92 : decode cX15_free 92 = .ok (.aload_n 0, 1) := by decide +kernel
theorem dX15_free_93 : decode cX15_free 93 = .ok (.getfield 130, 3) := by decide +kernel
theorem dX15_free_96 : decode cX15_free 96 = .ok (.iload_n 1, 1) := by decide +kernel
theorem dX15_free_97 : decode cX15_free 97 = .ok (.if_icmp .ne 7, 3) := by decide +kernel
theorem dX15_free_100 : decode cX15_free 100 = .ok (.iconst 0, 1) := by decide +kernel
theorem dX15_free_101 : decode cX15_free 101 = .ok (.goto 7, 3) := by decide +kernel
theorem dX15_free_104 : decode cX15_free 104 = .ok (.aload_n 0, 1) := by decide +kernel
theorem dX15_free_105 : decode cX15_free 105 = .ok (.getfield 130, 3) := by decide +kernel
theorem dX15_free_108 : decode cX15_free 108 = .ok (.putfield 130, 3) := by decide +kernel
theorem dX15_free_111 : decode cX15_free 111 = .ok (.iload_n 2, 1) := by decide +kernel
theorem dX15_free_112 : decode cX15_free 112 = .ok (.ifCond .eq 9, 3) := by decide +kernel
theorem dX15_free_115 : decode cX15_free 115 = .ok (.aload_n 0, 1) := by decide +kernel
theorem dX15_free_116 : decode cX15_free 116 = .ok (.iconst 3, 1) := by decide +kernel
theorem dX15_free_117 : decode cX15_free 117 = .ok (.iload_n 1, 1) := by decide +kernel
theorem dX15_free_118 : decode cX15_free 118 = .ok (.invokevirtual 175, 3) := by decide +kernel
theorem dX15_free_121 : decode cX15_free 121 = .ok (.aload_n 0, 1) := by decide +kernel
theorem dX15_free_122 : decode cX15_free 122 = .ok (.getfield 36, 3) := by decide +kernel
theorem dX15_free_125 : decode cX15_free 125 = .ok (.iload_n 1, 1) := by decide +kernel
theorem dX15_free_126 : decode cX15_free 126 = .ok (.iconst 0, 1) := by decide +kernel
theorem dX15_free_127 : decode cX15_free 127 = .ok (.iastore, 1) := by decide +kernel
theorem dX15_free_128 : decode cX15_free 128 = .ok (.aload_n 0, 1) := by decide +kernel
theorem dX15_free_129 : decode cX15_free 129 = .ok (.getfield 60, 3) := by decide +kernel
theorem dX15_free_132 : decode cX15_free 132 = .ok (.iload_n 1, 1) := by decide +kernel
theorem dX15_free_133 : decode cX15_free 133 = .ok (.iconst 0, 1) := by decide +kernel
theorem dX15_free_134 : decode cX15_free 134 = .ok (.bastore, 1) := by decide +kernel
theorem dX15_free_135 : decode cX15_free 135 = .ok (.return_, 1) := by decide +kernel
theorem cwX15_free : mw_cwV yX15_free cX15_free 4 (none) 1 := ⟨⟨wd_14, wd_3828, by decide +kernel⟩, wd_3827, sl_270⟩
set_option maxHeartbeats 4000000 in
set_option maxRecDepth 100000 in
theorem tX15_free (l : Launch) (G : mwG) (ad : Nat → Nat) (fu : Nat) (a1 : Int32) (M : mwM) (L : mwL) {M0 : mwM} {L0 : mwL} (hD : DX15_free fu a1 M L = some (M0, L0)) : Met l yX15_free (Cond.code yX15_free cX15_free 4 (none) :: GT) ({ frames := 1, cells := 0, slots := 0, locals := 23 }) (mw_Pre G ad NF TF FF M L [.ref (ad 787), .int a1]) (mw_Qv G ad NF TF FF (mw_eqV M0 L0)) 0 0 (mw_fr G) := by
  refine mw_enter (by decide) (Nat.le_of_ble_eq_true rfl) ?_
  intro p e s m below meth c ls C hr hlocks hnm hw hl
  have hl : lv_has ls 4 [(0, .ref (ad 787)), (1, .int a1)] := hl
  have hb121 : ∀ (M : mwM) (L : mwL) (H : Heap) (locs : List Loc) (ls : Array Slot), fX15_free_b121 fu a1 M L = some (M0, L0) → mw_W G ad NF TF FF M L H locs → lv_has ls 4 [(0, .ref (ad 787)), (1, .int a1)] → W p l e ({ frames := 1, cells := 0, slots := 0, locals := 23 }) s m [.ref (ad 787), .int a1].toArray below meth c H locs 0 0 (MQ below (mw_Qv G ad NF TF FF (mw_eqV M0 L0)) [.ref (ad 787), .int a1].toArray s 0 0 (mw_fr G)) (F0 m 121 ls []) := by
    intro M L H locs ls hD hw hl
    unfold fX15_free_b121 at hD
    refine lv_aload_n C.1.1 C.1.2.1 dX15_free_121 rfl (lv_at hl 0 rfl) ?_
    refine mr_getR C hw kc_15 11 (by decide) tf_787 ff_787_11 wd_1966 dX15_free_122 (by decide) rfl ?_
    refine lv_iload_n C.1.1 C.1.2.1 dX15_free_125 rfl (lv_at hl 1 rfl) ?_
    refine lv_iconst (v := 0) C.1.1 C.1.2.1 dX15_free_126 (by decide) ?_
    obtain ⟨q19, hD⟩ := g_ck hD
    obtain ⟨M20, eM20, hD⟩ := g_let hD
    refine mr_iast C hw (by decide) tf_796 q19 dX15_free_127 (fun H locs hw => ?_)
    replace hw : mw_W G ad NF TF FF M20 L H locs := by rw [eM20]; exact hw
    refine lv_aload_n C.1.1 C.1.2.1 dX15_free_128 rfl (lv_at hl 0 rfl) ?_
    refine mr_getR C hw kc_15 19 (by decide) tf_787 ff_787_19 wd_1974 dX15_free_129 (by decide) rfl ?_
    refine lv_iload_n C.1.1 C.1.2.1 dX15_free_132 rfl (lv_at hl 1 rfl) ?_
    refine lv_iconst (v := 0) C.1.1 C.1.2.1 dX15_free_133 (by decide) ?_
    obtain ⟨q21, hD⟩ := g_ck hD
    obtain ⟨M22, eM22, hD⟩ := g_let hD
    refine mr_zast C hw (by decide) tf_804 q21 dX15_free_134 (fun H locs hw => ?_)
    replace hw : mw_W G ad NF TF FF M22 L H locs := by rw [eM22]; exact hw
    exact mr_vret C hr hlocks hw (Option.some.inj hD) dX15_free_135
  have hb108 : ∀ (v2 : Int32) (s1 : Int32) (M : mwM) (L : mwL) (H : Heap) (locs : List Loc) (ls : Array Slot), fX15_free_b108 fu a1 v2 s1 M L = some (M0, L0) → mw_W G ad NF TF FF M L H locs → lv_has ls 4 [(0, .ref (ad 787)), (1, .int a1), (2, .int v2)] → W p l e ({ frames := 1, cells := 0, slots := 0, locals := 23 }) s m [.ref (ad 787), .int a1].toArray below meth c H locs 0 0 (MQ below (mw_Qv G ad NF TF FF (mw_eqV M0 L0)) [.ref (ad 787), .int a1].toArray s 0 0 (mw_fr G)) (F0 m 108 ls [.int s1, .ref (ad 787)]) := by
    intro v2 s1 M L H locs ls hD hw hl
    unfold fX15_free_b108 at hD
    obtain ⟨M15, eM15, hD⟩ := g_let hD
    refine mr_putI C hw kc_15 29 (by decide) tf_787 wd_1984 dX15_free_108 (by decide) rfl rfl rfl rfl (fun H locs hw => ?_)
    replace hw : mw_W G ad NF TF FF M15 L H locs := by rw [eM15]; exact hw
    refine lv_iload_n C.1.1 C.1.2.1 dX15_free_111 rfl (lv_at hl 2 rfl) ?_
    refine lv_if_eq (tgt := 121) C.1.1 C.1.2.1 dX15_free_112 (by decide) (fun c16 => ?_) (fun c16 => ?_)
    · replace hD := g_pos c16 hD
      exact hb121 M15 L _ _ ls hD hw (lv_sub hl [0, 1] rfl)
    · replace hD := g_neg c16 hD
      refine lv_aload_n C.1.1 C.1.2.1 dX15_free_115 rfl (lv_at hl 0 rfl) ?_
      refine lv_iconst (v := 3) C.1.1 C.1.2.1 dX15_free_116 (by decide) ?_
      refine lv_iload_n C.1.1 C.1.2.1 dX15_free_117 rfl (lv_at hl 1 rfl) ?_
      obtain ⟨M17, L18, h1, hD⟩ := g_b2 hD
      refine md_cvV (As := [.int 3, .int a1]) (rest := []) C hw (tX15_tell l G ad fu 3 a1 M15 L h1) kc_15 (by decide) tf_787 wd_3789 cwX15_tell ⟨Nat.le_of_ble_eq_true rfl, Nat.le_of_ble_eq_true rfl⟩ rfl hl.1 (Nat.le_of_ble_eq_true rfl) dX15_free_118 rfl rfl ⟨Nat.zero_le _, Nat.zero_le _⟩ rfl (fun H locs hw => ?_)
      exact hb121 M17 L18 _ _ ls hD hw (lv_sub hl [0, 1] rfl)
  have hh64 : ∀ (f : Nat) (v2 : Int32) (v3 : Int32) (M : mwM) (L : mwL) (H : Heap) (locs : List Loc) (ls : Array Slot), fX15_free_h64 fu a1 f (v2, v3, M, L) = some (M0, L0) → mw_W G ad NF TF FF M L H locs → lv_has ls 4 [(0, .ref (ad 787)), (1, .int a1), (2, .int v2), (3, .int v3)] → W p l e ({ frames := 1, cells := 0, slots := 0, locals := 23 }) s m [.ref (ad 787), .int a1].toArray below meth c H locs 0 0 (MQ below (mw_Qv G ad NF TF FF (mw_eqV M0 L0)) [.ref (ad 787), .int a1].toArray s 0 0 (mw_fr G)) (F0 m 64 ls []) := by
    intro f
    induction f with
    | zero => intro v2 v3 M L H locs ls hD; cases hD
    | succ f64 ih64 =>
      intro v2 v3 M L H locs ls hD hw hl
      replace hD : fX15_free_i64 fu a1 (fX15_free_h64 fu a1 f64) v2 v3 M L = some (M0, L0) := hD
      have hb85 : ∀ (v2 : Int32) (v3 : Int32) (M : mwM) (L : mwL) (H : Heap) (locs : List Loc) (ls : Array Slot), fX15_free_b85 fu a1 (fX15_free_h64 fu a1 f64) v2 v3 M L = some (M0, L0) → mw_W G ad NF TF FF M L H locs → lv_has ls 4 [(0, .ref (ad 787)), (1, .int a1), (2, .int v2), (3, .int v3)] → W p l e ({ frames := 1, cells := 0, slots := 0, locals := 23 }) s m [.ref (ad 787), .int a1].toArray below meth c H locs 0 0 (MQ below (mw_Qv G ad NF TF FF (mw_eqV M0 L0)) [.ref (ad 787), .int a1].toArray s 0 0 (mw_fr G)) (F0 m 85 ls []) := by
        intro v2 v3 M L H locs ls hD hw hl
        unfold fX15_free_b85 at hD
        obtain ⟨x14, ex14, hD⟩ := g_let hD
        refine lv_iinc (v := x14) (lv' := [(3, .int x14), (0, .ref (ad 787)), (1, .int a1), (2, .int v2)]) C.1.1 C.1.2.1 dX15_free_85 hl (k := 3) rfl (by rw [ex14]; rfl) (by decide) rfl (fun ls hl => ?_)
        refine lv_goto (tgt := 64) C.1.1 C.1.2.1 dX15_free_88 (by decide) ?_
        exact ih64 v2 x14 M L _ _ ls hD hw (lv_sub hl [1, 2, 3, 0] rfl)
      unfold fX15_free_i64 at hD
      refine lv_iload_n C.1.1 C.1.2.1 dX15_free_64 rfl (lv_at hl 3 rfl) ?_
      refine lv_bipush (v := 16) C.1.1 C.1.2.1 dX15_free_65 (by decide) ?_
      refine lv_icmp_gt (tgt := 91) C.1.1 C.1.2.1 dX15_free_67 (by decide) (fun c8 => ?_) (fun c8 => ?_)
      · replace hD := g_pos c8 hD
        refine lv_aload_n C.1.1 C.1.2.1 dX15_free_91 rfl (lv_at hl 0 rfl) ?_
        refine lv_aload_n C.1.1 C.1.2.1 dX15_free_92 rfl (lv_at hl 0 rfl) ?_
        refine mr_getI C hw kc_15 29 (by decide) tf_787 wd_1984 dX15_free_93 (by decide) rfl ?_
        refine lv_iload_n C.1.1 C.1.2.1 dX15_free_96 rfl (lv_at hl 1 rfl) ?_
        refine lv_icmp_ne (tgt := 104) C.1.1 C.1.2.1 dX15_free_97 (by decide) (fun c9 => ?_) (fun c9 => ?_)
        · replace hD := g_neg c9 hD
          refine lv_aload_n C.1.1 C.1.2.1 dX15_free_104 rfl (lv_at hl 0 rfl) ?_
          refine mr_getI C hw kc_15 29 (by decide) tf_787 wd_1984 dX15_free_105 (by decide) rfl ?_
          exact hb108 v2 (M 787 29) M L _ _ ls hD hw (lv_sub hl [0, 1, 2] rfl)
        · replace hD := g_pos c9 hD
          refine lv_iconst (v := 0) C.1.1 C.1.2.1 dX15_free_100 (by decide) ?_
          refine lv_goto (tgt := 108) C.1.1 C.1.2.1 dX15_free_101 (by decide) ?_
          exact hb108 v2 0 M L _ _ ls hD hw (lv_sub hl [0, 1, 2] rfl)
      · replace hD := g_neg c8 hD
        refine lv_aload_n C.1.1 C.1.2.1 dX15_free_70 rfl (lv_at hl 0 rfl) ?_
        refine mr_getR C hw kc_15 25 (by decide) tf_787 ff_787_25 wd_1980 dX15_free_71 (by decide) rfl ?_
        refine lv_iload_n C.1.1 C.1.2.1 dX15_free_74 rfl (lv_at hl 3 rfl) ?_
        obtain ⟨q10, hD⟩ := g_ck hD
        refine mr_iald C hw (by decide) tf_809 q10 dX15_free_75 ?_
        refine lv_iload_n C.1.1 C.1.2.1 dX15_free_76 rfl (lv_at hl 1 rfl) ?_
        refine lv_icmp_ne (tgt := 85) C.1.1 C.1.2.1 dX15_free_77 (by decide) (fun c11 => ?_) (fun c11 => ?_)
        · replace hD := g_neg c11 hD
          exact hb85 v2 v3 M L _ _ ls hD hw (lv_sub hl [0, 1, 2, 3] rfl)
        · replace hD := g_pos c11 hD
          refine lv_aload_n C.1.1 C.1.2.1 dX15_free_80 rfl (lv_at hl 0 rfl) ?_
          refine lv_iload_n C.1.1 C.1.2.1 dX15_free_81 rfl (lv_at hl 3 rfl) ?_
          obtain ⟨M12, L13, h1, hD⟩ := g_b2 hD
          refine md_cvV (As := [.int v3]) (rest := []) C hw (tX15_unlock l G ad fu v3 M L h1) kc_15 (by decide) tf_787 wd_3833 cwX15_unlock ⟨Nat.le_of_ble_eq_true rfl, Nat.le_of_ble_eq_true rfl⟩ rfl hl.1 (Nat.le_of_ble_eq_true rfl) dX15_free_82 rfl rfl ⟨Nat.zero_le _, Nat.zero_le _⟩ rfl (fun H locs hw => ?_)
          exact hb85 v2 v3 M12 L13 _ _ ls hD hw (lv_sub hl [0, 1, 2, 3] rfl)
  have hh24 : ∀ (f : Nat) (v2 : Int32) (v3 : Int32) (M : mwM) (L : mwL) (H : Heap) (locs : List Loc) (ls : Array Slot), fX15_free_h24 fu a1 f (v2, v3, M, L) = some (M0, L0) → mw_W G ad NF TF FF M L H locs → lv_has ls 4 [(0, .ref (ad 787)), (1, .int a1), (2, .int v2), (3, .int v3)] → W p l e ({ frames := 1, cells := 0, slots := 0, locals := 23 }) s m [.ref (ad 787), .int a1].toArray below meth c H locs 0 0 (MQ below (mw_Qv G ad NF TF FF (mw_eqV M0 L0)) [.ref (ad 787), .int a1].toArray s 0 0 (mw_fr G)) (F0 m 24 ls []) := by
    intro f
    induction f with
    | zero => intro v2 v3 M L H locs ls hD; cases hD
    | succ f24 ih24 =>
      intro v2 v3 M L H locs ls hD hw hl
      replace hD : fX15_free_i24 fu a1 (fX15_free_h24 fu a1 f24) v2 v3 M L = some (M0, L0) := hD
      have hb55 : ∀ (v2 : Int32) (v3 : Int32) (s1 : Int32) (s2 : Int32) (M : mwM) (L : mwL) (H : Heap) (locs : List Loc) (ls : Array Slot), fX15_free_b55 fu a1 (fX15_free_h24 fu a1 f24) v2 v3 s1 s2 M L = some (M0, L0) → mw_W G ad NF TF FF M L H locs → lv_has ls 4 [(0, .ref (ad 787)), (1, .int a1), (2, .int v2), (3, .int v3)] → W p l e ({ frames := 1, cells := 0, slots := 0, locals := 23 }) s m [.ref (ad 787), .int a1].toArray below meth c H locs 0 0 (MQ below (mw_Qv G ad NF TF FF (mw_eqV M0 L0)) [.ref (ad 787), .int a1].toArray s 0 0 (mw_fr G)) (F0 m 55 ls [.int s2, .int s1, .ref (ad 806)]) := by
        intro v2 v3 s1 s2 M L H locs ls hD hw hl
        unfold fX15_free_b55 at hD
        obtain ⟨q5, hD⟩ := g_ck hD
        obtain ⟨M6, eM6, hD⟩ := g_let hD
        refine mr_iast C hw (by decide) tf_806 q5 dX15_free_55 (fun H locs hw => ?_)
        replace hw : mw_W G ad NF TF FF M6 L H locs := by rw [eM6]; exact hw
        obtain ⟨x7, ex7, hD⟩ := g_let hD
        refine lv_iinc (v := x7) (lv' := [(3, .int x7), (0, .ref (ad 787)), (1, .int a1), (2, .int v2)]) C.1.1 C.1.2.1 dX15_free_56 hl (k := 3) rfl (by rw [ex7]; rfl) (by decide) rfl (fun ls hl => ?_)
        refine lv_goto (tgt := 24) C.1.1 C.1.2.1 dX15_free_59 (by decide) ?_
        exact ih24 v2 x7 M6 L _ _ ls hD hw (lv_sub hl [1, 2, 3, 0] rfl)
      unfold fX15_free_i24 at hD
      refine lv_iload_n C.1.1 C.1.2.1 dX15_free_24 rfl (lv_at hl 3 rfl) ?_
      refine lv_bipush (v := 32) C.1.1 C.1.2.1 dX15_free_25 (by decide) ?_
      refine lv_icmp_gt (tgt := 62) C.1.1 C.1.2.1 dX15_free_27 (by decide) (fun c1 => ?_) (fun c1 => ?_)
      · replace hD := g_pos c1 hD
        refine lv_iconst (v := 1) C.1.1 C.1.2.1 dX15_free_62 (by decide) ?_
        refine lv_istore_n (lv' := [(3, .int 1), (0, .ref (ad 787)), (1, .int a1), (2, .int v2)]) C.1.1 C.1.2.1 dX15_free_63 rfl hl (by decide) rfl (fun ls hl => ?_)
        exact hh64 fu v2 1 M L _ _ ls hD hw (lv_sub hl [1, 2, 3, 0] rfl)
      · replace hD := g_neg c1 hD
        refine lv_aload_n C.1.1 C.1.2.1 dX15_free_30 rfl (lv_at hl 0 rfl) ?_
        refine mr_getR C hw kc_15 22 (by decide) tf_787 ff_787_22 wd_1977 dX15_free_31 (by decide) rfl ?_
        refine lv_iload_n C.1.1 C.1.2.1 dX15_free_34 rfl (lv_at hl 3 rfl) ?_
        refine lv_aload_n C.1.1 C.1.2.1 dX15_free_35 rfl (lv_at hl 0 rfl) ?_
        refine mr_getR C hw kc_15 22 (by decide) tf_787 ff_787_22 wd_1977 dX15_free_36 (by decide) rfl ?_
        refine lv_iload_n C.1.1 C.1.2.1 dX15_free_39 rfl (lv_at hl 3 rfl) ?_
        obtain ⟨q2, hD⟩ := g_ck hD
        refine mr_iald C hw (by decide) tf_806 q2 dX15_free_40 ?_
        refine lv_iload_n C.1.1 C.1.2.1 dX15_free_41 rfl (lv_at hl 1 rfl) ?_
        refine lv_icmp_ne (tgt := 49) C.1.1 C.1.2.1 dX15_free_42 (by decide) (fun c3 => ?_) (fun c3 => ?_)
        · replace hD := g_neg c3 hD
          refine lv_aload_n C.1.1 C.1.2.1 dX15_free_49 rfl (lv_at hl 0 rfl) ?_
          refine mr_getR C hw kc_15 22 (by decide) tf_787 ff_787_22 wd_1977 dX15_free_50 (by decide) rfl ?_
          refine lv_iload_n C.1.1 C.1.2.1 dX15_free_53 rfl (lv_at hl 3 rfl) ?_
          obtain ⟨q4, hD⟩ := g_ck hD
          refine mr_iald C hw (by decide) tf_806 q4 dX15_free_54 ?_
          exact hb55 v2 v3 v3 (M 806 v3.toNatClampNeg) M L _ _ ls hD hw (lv_sub hl [0, 1, 2, 3] rfl)
        · replace hD := g_pos c3 hD
          refine lv_iconst (v := 0) C.1.1 C.1.2.1 dX15_free_45 (by decide) ?_
          refine lv_goto (tgt := 55) C.1.1 C.1.2.1 dX15_free_46 (by decide) ?_
          exact hb55 v2 v3 v3 0 M L _ _ ls hD hw (lv_sub hl [0, 1, 2, 3] rfl)
  have hb21 : ∀ (s0 : Int32) (M : mwM) (L : mwL) (H : Heap) (locs : List Loc) (ls : Array Slot), fX15_free_b21 fu a1 s0 M L = some (M0, L0) → mw_W G ad NF TF FF M L H locs → lv_has ls 4 [(0, .ref (ad 787)), (1, .int a1)] → W p l e ({ frames := 1, cells := 0, slots := 0, locals := 23 }) s m [.ref (ad 787), .int a1].toArray below meth c H locs 0 0 (MQ below (mw_Qv G ad NF TF FF (mw_eqV M0 L0)) [.ref (ad 787), .int a1].toArray s 0 0 (mw_fr G)) (F0 m 21 ls [.int s0]) := by
    intro s0 M L H locs ls hD hw hl
    unfold fX15_free_b21 at hD
    refine lv_istore_n (lv' := [(2, .int s0), (0, .ref (ad 787)), (1, .int a1)]) C.1.1 C.1.2.1 dX15_free_21 rfl hl (by decide) rfl (fun ls hl => ?_)
    refine lv_iconst (v := 1) C.1.1 C.1.2.1 dX15_free_22 (by decide) ?_
    refine lv_istore_n (lv' := [(3, .int 1), (2, .int s0), (0, .ref (ad 787)), (1, .int a1)]) C.1.1 C.1.2.1 dX15_free_23 rfl hl (by decide) rfl (fun ls hl => ?_)
    exact hh24 fu s0 1 M L _ _ ls hD hw (lv_sub hl [2, 3, 1, 0] rfl)
  have hb16 : ∀ (M : mwM) (L : mwL) (H : Heap) (locs : List Loc) (ls : Array Slot), fX15_free_b16 fu a1 M L = some (M0, L0) → mw_W G ad NF TF FF M L H locs → lv_has ls 4 [(0, .ref (ad 787)), (1, .int a1)] → W p l e ({ frames := 1, cells := 0, slots := 0, locals := 23 }) s m [.ref (ad 787), .int a1].toArray below meth c H locs 0 0 (MQ below (mw_Qv G ad NF TF FF (mw_eqV M0 L0)) [.ref (ad 787), .int a1].toArray s 0 0 (mw_fr G)) (F0 m 16 ls []) := by
    intro M L H locs ls hD hw hl
    unfold fX15_free_b16 at hD
    refine lv_iconst (v := 1) C.1.1 C.1.2.1 dX15_free_16 (by decide) ?_
    refine lv_goto (tgt := 21) C.1.1 C.1.2.1 dX15_free_17 (by decide) ?_
    exact hb21 1 M L _ _ ls hD hw (lv_sub hl [0, 1] rfl)
  unfold DX15_free at hD
  refine lv_aload_n C.1.1 C.1.2.1 dX15_free_0 rfl (lv_at hl 0 rfl) ?_
  refine lv_iload_n C.1.1 C.1.2.1 dX15_free_1 rfl (lv_at hl 1 rfl) ?_
  obtain ⟨r25, M23, L24, h1, hD⟩ := g_b3 hD
  refine md_cvI (As := [.int a1]) (rest := []) C hw (tX15_holdsSome l G ad fu a1 M L h1) kc_15 (by decide) tf_787 wd_3829 cwX15_holdsSome ⟨Nat.le_of_ble_eq_true rfl, Nat.le_of_ble_eq_true rfl⟩ rfl hl.1 (Nat.le_of_ble_eq_true rfl) dX15_free_2 rfl rfl ⟨Nat.zero_le _, Nat.zero_le _⟩ rfl (fun H locs hw => ?_)
  refine lv_if_ne (tgt := 16) C.1.1 C.1.2.1 dX15_free_5 (by decide) (fun c26 => ?_) (fun c26 => ?_)
  · replace hD := g_neg c26 hD
    exact hb16 M23 L24 _ _ ls hD hw (lv_sub hl [0, 1] rfl)
  · replace hD := g_pos c26 hD
    refine lv_aload_n C.1.1 C.1.2.1 dX15_free_8 rfl (lv_at hl 0 rfl) ?_
    refine mr_getI C hw kc_15 29 (by decide) tf_787 wd_1984 dX15_free_9 (by decide) rfl ?_
    refine lv_iload_n C.1.1 C.1.2.1 dX15_free_12 rfl (lv_at hl 1 rfl) ?_
    refine lv_icmp_ne (tgt := 20) C.1.1 C.1.2.1 dX15_free_13 (by decide) (fun c27 => ?_) (fun c27 => ?_)
    · replace hD := g_neg c27 hD
      refine lv_iconst (v := 0) C.1.1 C.1.2.1 dX15_free_20 (by decide) ?_
      exact hb21 0 M23 L24 _ _ ls hD hw (lv_sub hl [0, 1] rfl)
    · replace hD := g_pos c27 hD
      exact hb16 M23 L24 _ _ ls hD hw (lv_sub hl [0, 1] rfl)
