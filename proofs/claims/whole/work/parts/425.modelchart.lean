theorem dX13_fill_0 : decode cX13_fill 0 = .ok (.aload_n 0, 1) := by decide +kernel
theorem dX13_fill_1 : decode cX13_fill 1 = .ok (.getfield 96, 3) := by decide +kernel
theorem dX13_fill_4 : decode cX13_fill 4 = .ok (.iload_n 1, 1) := by decide +kernel
theorem dX13_fill_5 : decode cX13_fill 5 = .ok (.aload_n 0, 1) := by decide +kernel
theorem dX13_fill_6 : decode cX13_fill 6 = .ok (.getfield 96, 3) := by decide +kernel
theorem dX13_fill_9 : decode cX13_fill 9 = .ok (.iload_n 1, 1) := by decide +kernel
theorem dX13_fill_10 : decode cX13_fill 10 = .ok (.baload, 1) := by decide +kernel
theorem dX13_fill_11 : decode cX13_fill 11 = .ok (.ifCond .ne 22, 3) := by decide +kernel
theorem dX13_fill_14 : decode cX13_fill 14 = .ok (.iload_n 1, 1) := by decide +kernel
theorem dX13_fill_15 : decode cX13_fill 15 = .ok (.iload_n 2, 1) := by decide +kernel
theorem dX13_fill_16 : decode cX13_fill 16 = .ok (.if_icmp .eq 21, 3) := by decide +kernel
theorem dX13_fill_19 : decode cX13_fill 19 = .ok (.aload_n 0, 1) := by decide +kernel
theorem dX13_fill_20 : decode cX13_fill 20 = .ok (.getfield 96, 3) := by decide +kernel
theorem dX13_fill_23 : decode cX13_fill 23 = .ok (.aload_n 0, 1) := by decide +kernel
theorem dX13_fill_24 : decode cX13_fill 24 = .ok (.getfield 13, 3) := by decide +kernel
theorem dX13_fill_27 : decode cX13_fill 27 = .ok (.iload_n 1, 1) := by decide +kernel
theorem dX13_fill_28 : decode cX13_fill 28 = .ok (.iaload, 1) := by decide +kernel
theorem dX13_fill_29 : decode cX13_fill 29 = .ok (.baload, 1) := by decide +kernel
theorem dX13_fill_30 : decode cX13_fill 30 = .ok (.ifCond .eq 7, 3) := by decide +kernel
theorem dX13_fill_33 : decode cX13_fill 33 = .ok (.iconst 1, 1) := by decide +kernel
theorem dX13_fill_34 : decode cX13_fill 34 = .ok (.goto 4, 3) := by decide +kernel
theorem dX13_fill_37 : decode cX13_fill 37 = .ok (.iconst 0, 1) := by decide +kernel
theorem dX13_fill_38 : decode cX13_fill 38 = .ok (.bastore, 1) := by decide +kernel
theorem dX13_fill_39 : decode cX13_fill 39 = .ok (.iconst 0, 1) := by decide +kernel
theorem dX13_fill_40 : decode cX13_fill 40 = .ok (.istore_n 3, 1) := by decide +kernel
theorem dX13_fill_41 : decode cX13_fill 41 = .ok (.iconst 1, 1) := by decide +kernel
theorem dX13_fill_42 : decode cX13_fill 42 = .ok (.istore 4, 2) := by decide +kernel
theorem dX13_fill_44 : decode cX13_fill 44 = .ok (.iload 4, 2) := by decide +kernel
theorem dX13_fill_46 : decode cX13_fill 46 = .ok (.aload_n 0, 1) := by decide +kernel
theorem dX13_fill_47 : decode cX13_fill 47 = .ok (.getfield 103, 3) := by decide +kernel
theorem dX13_fill_50 : decode cX13_fill 50 = .ok (.if_icmp .gt 78, 3) := by decide +kernel
theorem dX13_fill_53 : decode cX13_fill 53 = .ok (.aload_n 0, 1) := by decide +kernel
theorem dX13_fill_54 : decode cX13_fill 54 = .ok (.getfield 13, 3) := by decide +kernel
theorem dX13_fill_57 : decode cX13_fill 57 = .ok (.iload 4, 2) := by decide +kernel
theorem dX13_fill_59 : decode cX13_fill 59 = .ok (.iaload, 1) := by decide +kernel
theorem dX13_fill_60 : decode cX13_fill 60 = .ok (.iload_n 1, 1) := by decide +kernel
theorem dX13_fill_61 : decode cX13_fill 61 = .ok (.if_icmp .ne 30, 3) := by decide +kernel
theorem dX13_fill_64 : decode cX13_fill 64 = .ok (.aload_n 0, 1) := by decide +kernel
theorem dX13_fill_65 : decode cX13_fill 65 = .ok (.getfield 7, 3) := by decide +kernel
theorem dX13_fill_68 : decode cX13_fill 68 = .ok (.iload_n 1, 1) := by decide +kernel
theorem dX13_fill_69 : decode cX13_fill 69 = .ok (.iaload, 1) := by decide +kernel
theorem dX13_fill_70 : decode cX13_fill 70 = .ok (.iconst 1, 1) := by decide +kernel
theorem dX13_fill_71 : decode cX13_fill 71 = .ok (.if_icmp .ne 20, 3) := by decide +kernel
theorem dX13_fill_74 : decode cX13_fill 74 = .ok (.aload_n 0, 1) := by decide +kernel
theorem dX13_fill_75 : decode cX13_fill 75 = .ok (.iload 4, 2) := by decide +kernel
theorem dX13_fill_77 : decode cX13_fill 77 = .ok (.invokevirtual 139, 3) := by decide +kernel
theorem dX13_fill_80 : decode cX13_fill 80 = .ok (.ifCond .ne 11, 3) := by decide +kernel
theorem dX13_fill_83 : decode cX13_fill 83 = .ok (.aload_n 0, 1) := by decide +kernel
theorem dX13_fill_84 : decode cX13_fill 84 = .ok (.getfield 90, 3) := by decide +kernel
theorem dX13_fill_87 : decode cX13_fill 87 = .ok (.iload 4, 2) := by decide +kernel
theorem dX13_fill_89 : decode cX13_fill 89 = .ok (.iconst 1, 1) := by decide +kernel
theorem dX13_fill_90 : decode cX13_fill 90 = .ok (.bastore, 1) := by decide +kernel
theorem dX13_fill_91 : decode cX13_fill 91 = .ok (.iload_n 3, 1) := by decide +kernel
theorem dX13_fill_92 : decode cX13_fill 92 = .ok (.ifCond .ne 24, 3) := by decide +kernel
theorem dX13_fill_95 : decode cX13_fill 95 = .ok (.aload_n 0, 1) := by decide +kernel
theorem dX13_fill_96 : decode cX13_fill 96 = .ok (.getfield 13, 3) := by decide +kernel
theorem dX13_fill_99 : decode cX13_fill 99 = .ok (.iload 4, 2) := by decide +kernel
theorem dX13_fill_101 : decode cX13_fill 101 = .ok (.iaload, 1) := by decide +kernel
theorem dX13_fill_102 : decode cX13_fill 102 = .ok (.iload_n 1, 1) := by decide +kernel
theorem dX13_fill_103 : decode cX13_fill 103 = .ok (.if_icmp .ne 17, 3) := by decide +kernel
theorem dX13_fill_106 : decode cX13_fill 106 = .ok (.aload_n 0, 1) := by decide +kernel
theorem dX13_fill_107 : decode cX13_fill 107 = .ok (.getfield 90, 3) := by decide +kernel
theorem dX13_fill_110 : decode cX13_fill 110 = .ok (.iload 4, 2) := by decide +kernel
theorem dX13_fill_112 : decode cX13_fill 112 = .ok (.baload, 1) := by decide +kernel
theorem dX13_fill_113 : decode cX13_fill 113 = .ok (.ifCond .eq 7, 3) := by decide +kernel
theorem dX13_fill_116 : decode cX13_fill 116 = .ok (.iconst 1, 1) := by decide +kernel
theorem dX13_fill_117 : decode cX13_fill 117 = .ok (.goto 4, 3) := by decide +kernel
theorem dX13_fill_120 : decode cX13_fill 120 = .ok (.iconst 0, 1) := by decide +kernel
theorem dX13_fill_121 : decode cX13_fill 121 = .ok (.istore_n 3, 1) := by decide +kernel
theorem dX13_fill_122 : decode cX13_fill 122 = .ok (.iinc 4 1, 3) := by decide +kernel
theorem dX13_fill_125 : decode cX13_fill 125 = .ok (.goto (-81), 3) := by decide +kernel
theorem dX13_fill_128 : decode cX13_fill 128 = .ok (.iload_n 3, 1) := by decide +kernel
theorem dX13_fill_129 : decode cX13_fill 129 = .ok (.ifCond .ne 12, 3) := by decide +kernel
theorem dX13_fill_132 : decode cX13_fill 132 = .ok (.aload_n 0, 1) := by decide +kernel
theorem dX13_fill_133 : decode cX13_fill 133 = .ok (.getfield 7, 3) := by decide +kernel
theorem dX13_fill_136 : decode cX13_fill 136 = .ok (.iload_n 1, 1) := by decide +kernel
theorem dX13_fill_137 : decode cX13_fill 137 = .ok (.iaload, 1) := by decide +kernel
theorem dX13_fill_138 : decode cX13_fill 138 = .ok (.ifCond .eq 4, 3) := by decide +kernel
theorem dX13_fill_141 : decode cX13_fill 141 = .ok (.return_, 1) := by decide +kernel
theorem dX13_fill_142 : decode cX13_fill 142 = .ok (.aload_n 0, 1) := by decide +kernel
theorem dX13_fill_143 : decode cX13_fill 143 = .ok (.getfield 96, 3) := by decide +kernel
theorem dX13_fill_146 : decode cX13_fill 146 = .ok (.iload_n 1, 1) := by decide +kernel
theorem dX13_fill_147 : decode cX13_fill 147 = .ok (.baload, 1) := by decide +kernel
theorem dX13_fill_148 : decode cX13_fill 148 = .ok (.ifCond .ne 12, 3) := by decide +kernel
theorem dX13_fill_151 : decode cX13_fill 151 = .ok (.aload_n 0, 1) := by decide +kernel
theorem dX13_fill_152 : decode cX13_fill 152 = .ok (.getfield 93, 3) := by decide +kernel
theorem dX13_fill_155 : decode cX13_fill 155 = .ok (.iload_n 1, 1) := by decide +kernel
theorem dX13_fill_156 : decode cX13_fill 156 = .ok (.baload, 1) := by decide +kernel
theorem dX13_fill_157 : decode cX13_fill 157 = .ok (.ifCond .eq 21, 3) := by decide +kernel
theorem dX13_fill_160 : decode cX13_fill 160 = .ok (.aload_n 0, 1) := by decide +kernel
theorem dX13_fill_161 : decode cX13_fill 161 = .ok (.getfield 19, 3) := by decide +kernel
theorem dX13_fill_164 : decode cX13_fill 164 = .ok (.iload_n 1, 1) := by decide +kernel
theorem dX13_fill_165 : decode cX13_fill 165 = .ok (.iaload, 1) := by decide +kernel
theorem dX13_fill_166 : decode cX13_fill 166 = .ok (.ifCond .le 12, 3) := by decide +kernel
theorem dX13_fill_169 : decode cX13_fill 169 = .ok (.aload_n 0, 1) := by decide +kernel
theorem dX13_fill_170 : decode cX13_fill 170 = .ok (.getfield 19, 3) := by decide +kernel
theorem dX13_fill_173 : decode cX13_fill 173 = .ok (.iload_n 1, 1) := by decide +kernel
theorem dX13_fill_174 : decode cX13_fill 174 = .ok (.iaload, 1) := by decide +kernel
theorem dX13_fill_175 : decode cX13_fill 175 = .ok (.goto 9, 3) := by decide +kernel
theorem dX13_fill_178 : decode cX13_fill 178 = .ok (.aload_n 0, 1) := by decide +kernel
theorem dX13_fill_179 : decode cX13_fill 179 = .ok (.iload_n 1, 1) := by decide +kernel
theorem dX13_fill_180 : decode cX13_fill 180 = .ok (.iconst 0, 1) := by decide +kernel
theorem dX13_fill_181 : decode cX13_fill 181 = .ok (.invokevirtual 184, 3) := by decide +kernel
theorem dX13_fill_184 : decode cX13_fill 184 = .ok (.istore 4, 2) := by decide +kernel
theorem dX13_fill_186 : decode cX13_fill 186 = .ok (.iload 4, 2) := by decide +kernel
theorem dX13_fill_188 : decode cX13_fill 188 = .ok (.ifCond .le 11, 3) := by decide +kernel
theorem dX13_fill_191 : decode cX13_fill 191 = .ok (.aload_n 0, 1) := by decide +kernel
theorem dX13_fill_192 : decode cX13_fill 192 = .ok (.getfield 90, 3) := by decide +kernel
theorem dX13_fill_195 : decode cX13_fill 195 = .ok (.iload 4, 2) := by decide +kernel
theorem dX13_fill_197 : decode cX13_fill 197 = .ok (.iconst 1, 1) := by decide +kernel
theorem dX13_fill_198 : decode cX13_fill 198 = .ok (.bastore, 1) := by decide +kernel
theorem dX13_fill_199 : decode cX13_fill 199 = .ok (.return_, 1) := by decide +kernel
theorem cwX13_fill : mw_cwV yX13_fill cX13_fill 5 (none) 2 := ⟨⟨wd_20, wd_4090, by decide +kernel⟩, wd_4089, sl_319⟩
set_option maxHeartbeats 4000000 in
set_option maxRecDepth 100000 in
theorem tX13_fill (l : Launch) (G : mwG) (ad : Nat → Nat) (fu : Nat) (k : Nat) (a1 : Int32) (a2 : Int32) (M : mwM) (L : mwL) {M0 : mwM} {L0 : mwL} (hD : DX13_fill fu k a1 a2 M L = some (M0, L0)) (hk0 : isMc k) : Met l yX13_fill (Cond.code yX13_fill cX13_fill 5 (none) :: GT) ({ frames := 2, cells := 0, slots := 0, locals := 44 }) (mw_Pre G ad NF TF FF M L [.ref (ad k), .int a1, .int a2]) (mw_Qv G ad NF TF FF (mw_eqV M0 L0)) 0 0 (mw_fr G) := by
  refine mw_enter (by decide) (Nat.le_of_ble_eq_true rfl) ?_
  intro p e s m below meth c ls C hr hlocks hnm hw hl
  have hl : lv_has ls 5 [(0, .ref (ad k)), (1, .int a1), (2, .int a2)] := hl
  have hb199 : ∀ (M : mwM) (L : mwL) (H : Heap) (locs : List Loc) (ls : Array Slot), fX13_fill_b199 fu k a1 a2 M L = some (M0, L0) → mw_W G ad NF TF FF M L H locs → lv_has ls 5 [] → W p l e ({ frames := 2, cells := 0, slots := 0, locals := 44 }) s m [.ref (ad k), .int a1, .int a2].toArray below meth c H locs 0 0 (MQ below (mw_Qv G ad NF TF FF (mw_eqV M0 L0)) [.ref (ad k), .int a1, .int a2].toArray s 0 0 (mw_fr G)) (F0 m 199 ls []) := by
    intro M L H locs ls hD hw hl
    unfold fX13_fill_b199 at hD
    exact mr_vret C hr hlocks hw (Option.some.inj hD) dX13_fill_199
  have hb184 : ∀ (s0 : Int32) (M : mwM) (L : mwL) (H : Heap) (locs : List Loc) (ls : Array Slot), fX13_fill_b184 fu k a1 a2 s0 M L = some (M0, L0) → mw_W G ad NF TF FF M L H locs → lv_has ls 5 [(0, .ref (ad k))] → W p l e ({ frames := 2, cells := 0, slots := 0, locals := 44 }) s m [.ref (ad k), .int a1, .int a2].toArray below meth c H locs 0 0 (MQ below (mw_Qv G ad NF TF FF (mw_eqV M0 L0)) [.ref (ad k), .int a1, .int a2].toArray s 0 0 (mw_fr G)) (F0 m 184 ls [.int s0]) := by
    intro s0 M L H locs ls hD hw hl
    unfold fX13_fill_b184 at hD
    refine lv_istore (lv' := [(4, .int s0), (0, .ref (ad k))]) C.1.1 C.1.2.1 dX13_fill_184 hl (by decide) rfl (fun ls hl => ?_)
    refine lv_iload C.1.1 C.1.2.1 dX13_fill_186 (lv_at hl 0 rfl) ?_
    refine lv_if_le (tgt := 199) C.1.1 C.1.2.1 dX13_fill_188 (by decide) (fun c33 => ?_) (fun c33 => ?_)
    · replace hD := g_pos c33 hD
      exact hb199 M L _ _ ls hD hw (lv_sub hl [] rfl)
    · replace hD := g_neg c33 hD
      refine lv_aload_n C.1.1 C.1.2.1 dX13_fill_191 rfl (lv_at hl 1 rfl) ?_
      refine mr_getR C hw kc_13 39 (Mc_N0 hk0) (Mc_T0 hk0) (Mc_F0_39 hk0) wd_2681 dX13_fill_192 (by decide) rfl ?_
      refine lv_iload C.1.1 C.1.2.1 dX13_fill_195 (lv_at hl 0 rfl) ?_
      refine lv_iconst (v := 1) C.1.1 C.1.2.1 dX13_fill_197 (by decide) ?_
      obtain ⟨q34, hD⟩ := g_ck hD
      obtain ⟨M35, eM35, hD⟩ := g_let hD
      refine mr_zast C hw (Mc_N27 hk0) (Mc_T27 hk0) q34 dX13_fill_198 (fun H locs hw => ?_)
      replace hw : mw_W G ad NF TF FF M35 L H locs := by rw [eM35]; exact hw
      exact hb199 M35 L _ _ ls hD hw (lv_sub hl [] rfl)
  have hb178 : ∀ (M : mwM) (L : mwL) (H : Heap) (locs : List Loc) (ls : Array Slot), fX13_fill_b178 fu k a1 a2 M L = some (M0, L0) → mw_W G ad NF TF FF M L H locs → lv_has ls 5 [(0, .ref (ad k)), (1, .int a1)] → W p l e ({ frames := 2, cells := 0, slots := 0, locals := 44 }) s m [.ref (ad k), .int a1, .int a2].toArray below meth c H locs 0 0 (MQ below (mw_Qv G ad NF TF FF (mw_eqV M0 L0)) [.ref (ad k), .int a1, .int a2].toArray s 0 0 (mw_fr G)) (F0 m 178 ls []) := by
    intro M L H locs ls hD hw hl
    unfold fX13_fill_b178 at hD
    refine lv_aload_n C.1.1 C.1.2.1 dX13_fill_178 rfl (lv_at hl 0 rfl) ?_
    refine lv_iload_n C.1.1 C.1.2.1 dX13_fill_179 rfl (lv_at hl 1 rfl) ?_
    refine lv_iconst (v := 0) C.1.1 C.1.2.1 dX13_fill_180 (by decide) ?_
    obtain ⟨r32, M30, L31, h1, hD⟩ := g_b3 hD
    refine md_cvI (As := [.int a1, .int 0]) (rest := []) C hw (tX13_child l G ad fu k a1 0 M L h1 hk0) kc_13 (Mc_N0 hk0) (Mc_T0 hk0) wd_4067 cwX13_child ⟨Nat.le_of_ble_eq_true rfl, Nat.le_of_ble_eq_true rfl⟩ rfl hl.1 (Nat.le_of_ble_eq_true rfl) dX13_fill_181 rfl rfl ⟨Nat.zero_le _, Nat.zero_le _⟩ rfl (fun H locs hw => ?_)
    exact hb184 r32 M30 L31 _ _ ls hD hw (lv_sub hl [0] rfl)
  have hb160 : ∀ (M : mwM) (L : mwL) (H : Heap) (locs : List Loc) (ls : Array Slot), fX13_fill_b160 fu k a1 a2 M L = some (M0, L0) → mw_W G ad NF TF FF M L H locs → lv_has ls 5 [(0, .ref (ad k)), (1, .int a1)] → W p l e ({ frames := 2, cells := 0, slots := 0, locals := 44 }) s m [.ref (ad k), .int a1, .int a2].toArray below meth c H locs 0 0 (MQ below (mw_Qv G ad NF TF FF (mw_eqV M0 L0)) [.ref (ad k), .int a1, .int a2].toArray s 0 0 (mw_fr G)) (F0 m 160 ls []) := by
    intro M L H locs ls hD hw hl
    unfold fX13_fill_b160 at hD
    refine lv_aload_n C.1.1 C.1.2.1 dX13_fill_160 rfl (lv_at hl 0 rfl) ?_
    refine mr_getR C hw kc_13 6 (Mc_N0 hk0) (Mc_T0 hk0) (Mc_F0_6 hk0) wd_2648 dX13_fill_161 (by decide) rfl ?_
    refine lv_iload_n C.1.1 C.1.2.1 dX13_fill_164 rfl (lv_at hl 1 rfl) ?_
    obtain ⟨q27, hD⟩ := g_ck hD
    refine mr_iald C hw (Mc_N4 hk0) (Mc_T4 hk0) q27 dX13_fill_165 ?_
    refine lv_if_le (tgt := 178) C.1.1 C.1.2.1 dX13_fill_166 (by decide) (fun c28 => ?_) (fun c28 => ?_)
    · replace hD := g_pos c28 hD
      exact hb178 M L _ _ ls hD hw (lv_sub hl [0, 1] rfl)
    · replace hD := g_neg c28 hD
      refine lv_aload_n C.1.1 C.1.2.1 dX13_fill_169 rfl (lv_at hl 0 rfl) ?_
      refine mr_getR C hw kc_13 6 (Mc_N0 hk0) (Mc_T0 hk0) (Mc_F0_6 hk0) wd_2648 dX13_fill_170 (by decide) rfl ?_
      refine lv_iload_n C.1.1 C.1.2.1 dX13_fill_173 rfl (lv_at hl 1 rfl) ?_
      obtain ⟨q29, hD⟩ := g_ck hD
      refine mr_iald C hw (Mc_N4 hk0) (Mc_T4 hk0) q29 dX13_fill_174 ?_
      refine lv_goto (tgt := 184) C.1.1 C.1.2.1 dX13_fill_175 (by decide) ?_
      exact hb184 (M (k + 4) a1.toNatClampNeg) M L _ _ ls hD hw (lv_sub hl [0] rfl)
  have hb141 : ∀ (M : mwM) (L : mwL) (H : Heap) (locs : List Loc) (ls : Array Slot), fX13_fill_b141 fu k a1 a2 M L = some (M0, L0) → mw_W G ad NF TF FF M L H locs → lv_has ls 5 [] → W p l e ({ frames := 2, cells := 0, slots := 0, locals := 44 }) s m [.ref (ad k), .int a1, .int a2].toArray below meth c H locs 0 0 (MQ below (mw_Qv G ad NF TF FF (mw_eqV M0 L0)) [.ref (ad k), .int a1, .int a2].toArray s 0 0 (mw_fr G)) (F0 m 141 ls []) := by
    intro M L H locs ls hD hw hl
    unfold fX13_fill_b141 at hD
    exact mr_vret C hr hlocks hw (Option.some.inj hD) dX13_fill_141
  have hh44 : ∀ (f : Nat) (v3 : Int32) (v4 : Int32) (M : mwM) (L : mwL) (H : Heap) (locs : List Loc) (ls : Array Slot), fX13_fill_h44 fu k a1 a2 f (v3, v4, M, L) = some (M0, L0) → mw_W G ad NF TF FF M L H locs → lv_has ls 5 [(0, .ref (ad k)), (1, .int a1), (3, .int v3), (4, .int v4)] → W p l e ({ frames := 2, cells := 0, slots := 0, locals := 44 }) s m [.ref (ad k), .int a1, .int a2].toArray below meth c H locs 0 0 (MQ below (mw_Qv G ad NF TF FF (mw_eqV M0 L0)) [.ref (ad k), .int a1, .int a2].toArray s 0 0 (mw_fr G)) (F0 m 44 ls []) := by
    intro f
    induction f with
    | zero => intro v3 v4 M L H locs ls hD; cases hD
    | succ f44 ih44 =>
      intro v3 v4 M L H locs ls hD hw hl
      replace hD : fX13_fill_i44 fu k a1 a2 (fX13_fill_h44 fu k a1 a2 f44) v3 v4 M L = some (M0, L0) := hD
      have hb121 : ∀ (v4 : Int32) (s0 : Int32) (M : mwM) (L : mwL) (H : Heap) (locs : List Loc) (ls : Array Slot), fX13_fill_b121 fu k a1 a2 (fX13_fill_h44 fu k a1 a2 f44) v4 s0 M L = some (M0, L0) → mw_W G ad NF TF FF M L H locs → lv_has ls 5 [(0, .ref (ad k)), (1, .int a1), (4, .int v4)] → W p l e ({ frames := 2, cells := 0, slots := 0, locals := 44 }) s m [.ref (ad k), .int a1, .int a2].toArray below meth c H locs 0 0 (MQ below (mw_Qv G ad NF TF FF (mw_eqV M0 L0)) [.ref (ad k), .int a1, .int a2].toArray s 0 0 (mw_fr G)) (F0 m 121 ls [.int s0]) := by
        intro v4 s0 M L H locs ls hD hw hl
        unfold fX13_fill_b121 at hD
        refine lv_istore_n (lv' := [(3, .int s0), (0, .ref (ad k)), (1, .int a1), (4, .int v4)]) C.1.1 C.1.2.1 dX13_fill_121 rfl hl (by decide) rfl (fun ls hl => ?_)
        obtain ⟨x26, ex26, hD⟩ := g_let hD
        refine lv_iinc (v := x26) (lv' := [(4, .int x26), (3, .int s0), (0, .ref (ad k)), (1, .int a1)]) C.1.1 C.1.2.1 dX13_fill_122 hl (k := 3) rfl (by rw [ex26]; rfl) (by decide) rfl (fun ls hl => ?_)
        refine lv_goto (tgt := 44) C.1.1 C.1.2.1 dX13_fill_125 (by decide) ?_
        exact ih44 s0 x26 M L _ _ ls hD hw (lv_sub hl [2, 3, 1, 0] rfl)
      have hb120 : ∀ (v4 : Int32) (M : mwM) (L : mwL) (H : Heap) (locs : List Loc) (ls : Array Slot), fX13_fill_b120 fu k a1 a2 (fX13_fill_h44 fu k a1 a2 f44) v4 M L = some (M0, L0) → mw_W G ad NF TF FF M L H locs → lv_has ls 5 [(0, .ref (ad k)), (1, .int a1), (4, .int v4)] → W p l e ({ frames := 2, cells := 0, slots := 0, locals := 44 }) s m [.ref (ad k), .int a1, .int a2].toArray below meth c H locs 0 0 (MQ below (mw_Qv G ad NF TF FF (mw_eqV M0 L0)) [.ref (ad k), .int a1, .int a2].toArray s 0 0 (mw_fr G)) (F0 m 120 ls []) := by
        intro v4 M L H locs ls hD hw hl
        unfold fX13_fill_b120 at hD
        refine lv_iconst (v := 0) C.1.1 C.1.2.1 dX13_fill_120 (by decide) ?_
        exact hb121 v4 0 M L _ _ ls hD hw (lv_sub hl [0, 1, 2] rfl)
      have hb116 : ∀ (v4 : Int32) (M : mwM) (L : mwL) (H : Heap) (locs : List Loc) (ls : Array Slot), fX13_fill_b116 fu k a1 a2 (fX13_fill_h44 fu k a1 a2 f44) v4 M L = some (M0, L0) → mw_W G ad NF TF FF M L H locs → lv_has ls 5 [(0, .ref (ad k)), (1, .int a1), (4, .int v4)] → W p l e ({ frames := 2, cells := 0, slots := 0, locals := 44 }) s m [.ref (ad k), .int a1, .int a2].toArray below meth c H locs 0 0 (MQ below (mw_Qv G ad NF TF FF (mw_eqV M0 L0)) [.ref (ad k), .int a1, .int a2].toArray s 0 0 (mw_fr G)) (F0 m 116 ls []) := by
        intro v4 M L H locs ls hD hw hl
        unfold fX13_fill_b116 at hD
        refine lv_iconst (v := 1) C.1.1 C.1.2.1 dX13_fill_116 (by decide) ?_
        refine lv_goto (tgt := 121) C.1.1 C.1.2.1 dX13_fill_117 (by decide) ?_
        exact hb121 v4 1 M L _ _ ls hD hw (lv_sub hl [0, 1, 2] rfl)
      have hb91 : ∀ (v3 : Int32) (v4 : Int32) (M : mwM) (L : mwL) (H : Heap) (locs : List Loc) (ls : Array Slot), fX13_fill_b91 fu k a1 a2 (fX13_fill_h44 fu k a1 a2 f44) v3 v4 M L = some (M0, L0) → mw_W G ad NF TF FF M L H locs → lv_has ls 5 [(0, .ref (ad k)), (1, .int a1), (3, .int v3), (4, .int v4)] → W p l e ({ frames := 2, cells := 0, slots := 0, locals := 44 }) s m [.ref (ad k), .int a1, .int a2].toArray below meth c H locs 0 0 (MQ below (mw_Qv G ad NF TF FF (mw_eqV M0 L0)) [.ref (ad k), .int a1, .int a2].toArray s 0 0 (mw_fr G)) (F0 m 91 ls []) := by
        intro v3 v4 M L H locs ls hD hw hl
        unfold fX13_fill_b91 at hD
        refine lv_iload_n C.1.1 C.1.2.1 dX13_fill_91 rfl (lv_at hl 2 rfl) ?_
        refine lv_if_ne (tgt := 116) C.1.1 C.1.2.1 dX13_fill_92 (by decide) (fun c21 => ?_) (fun c21 => ?_)
        · replace hD := g_neg c21 hD
          exact hb116 v4 M L _ _ ls hD hw (lv_sub hl [0, 1, 3] rfl)
        · replace hD := g_pos c21 hD
          refine lv_aload_n C.1.1 C.1.2.1 dX13_fill_95 rfl (lv_at hl 0 rfl) ?_
          refine mr_getR C hw kc_13 4 (Mc_N0 hk0) (Mc_T0 hk0) (Mc_F0_4 hk0) wd_2646 dX13_fill_96 (by decide) rfl ?_
          refine lv_iload C.1.1 C.1.2.1 dX13_fill_99 (lv_at hl 3 rfl) ?_
          obtain ⟨q22, hD⟩ := g_ck hD
          refine mr_iald C hw (Mc_N2 hk0) (Mc_T2 hk0) q22 dX13_fill_101 ?_
          refine lv_iload_n C.1.1 C.1.2.1 dX13_fill_102 rfl (lv_at hl 1 rfl) ?_
          refine lv_icmp_ne (tgt := 120) C.1.1 C.1.2.1 dX13_fill_103 (by decide) (fun c23 => ?_) (fun c23 => ?_)
          · replace hD := g_neg c23 hD
            exact hb120 v4 M L _ _ ls hD hw (lv_sub hl [0, 1, 3] rfl)
          · replace hD := g_pos c23 hD
            refine lv_aload_n C.1.1 C.1.2.1 dX13_fill_106 rfl (lv_at hl 0 rfl) ?_
            refine mr_getR C hw kc_13 39 (Mc_N0 hk0) (Mc_T0 hk0) (Mc_F0_39 hk0) wd_2681 dX13_fill_107 (by decide) rfl ?_
            refine lv_iload C.1.1 C.1.2.1 dX13_fill_110 (lv_at hl 3 rfl) ?_
            obtain ⟨q24, hD⟩ := g_ck hD
            refine mr_zald C hw (Mc_N27 hk0) (Mc_T27 hk0) q24 dX13_fill_112 ?_
            refine lv_if_eq (tgt := 120) C.1.1 C.1.2.1 dX13_fill_113 (by decide) (fun c25 => ?_) (fun c25 => ?_)
            · replace hD := g_pos c25 hD
              exact hb120 v4 M L _ _ ls hD hw (lv_sub hl [0, 1, 3] rfl)
            · replace hD := g_neg c25 hD
              exact hb116 v4 M L _ _ ls hD hw (lv_sub hl [0, 1, 3] rfl)
      unfold fX13_fill_i44 at hD
      refine lv_iload C.1.1 C.1.2.1 dX13_fill_44 (lv_at hl 3 rfl) ?_
      refine lv_aload_n C.1.1 C.1.2.1 dX13_fill_46 rfl (lv_at hl 0 rfl) ?_
      refine mr_getI C hw kc_13 2 (Mc_N0 hk0) (Mc_T0 hk0) wd_2644 dX13_fill_47 (by decide) rfl ?_
      refine lv_icmp_gt (tgt := 128) C.1.1 C.1.2.1 dX13_fill_50 (by decide) (fun c3 => ?_) (fun c3 => ?_)
      · replace hD := g_pos c3 hD
        refine lv_iload_n C.1.1 C.1.2.1 dX13_fill_128 rfl (lv_at hl 2 rfl) ?_
        refine lv_if_ne (tgt := 141) C.1.1 C.1.2.1 dX13_fill_129 (by decide) (fun c4 => ?_) (fun c4 => ?_)
        · replace hD := g_neg c4 hD
          exact hb141 M L _ _ ls hD hw (lv_sub hl [] rfl)
        · replace hD := g_pos c4 hD
          refine lv_aload_n C.1.1 C.1.2.1 dX13_fill_132 rfl (lv_at hl 0 rfl) ?_
          refine mr_getR C hw kc_13 3 (Mc_N0 hk0) (Mc_T0 hk0) (Mc_F0_3 hk0) wd_2645 dX13_fill_133 (by decide) rfl ?_
          refine lv_iload_n C.1.1 C.1.2.1 dX13_fill_136 rfl (lv_at hl 1 rfl) ?_
          obtain ⟨q5, hD⟩ := g_ck hD
          refine mr_iald C hw (Mc_N1 hk0) (Mc_T1 hk0) q5 dX13_fill_137 ?_
          refine lv_if_eq (tgt := 142) C.1.1 C.1.2.1 dX13_fill_138 (by decide) (fun c6 => ?_) (fun c6 => ?_)
          · replace hD := g_pos c6 hD
            refine lv_aload_n C.1.1 C.1.2.1 dX13_fill_142 rfl (lv_at hl 0 rfl) ?_
            refine mr_getR C hw kc_13 41 (Mc_N0 hk0) (Mc_T0 hk0) (Mc_F0_41 hk0) wd_2683 dX13_fill_143 (by decide) rfl ?_
            refine lv_iload_n C.1.1 C.1.2.1 dX13_fill_146 rfl (lv_at hl 1 rfl) ?_
            obtain ⟨q7, hD⟩ := g_ck hD
            refine mr_zald C hw (Mc_N29 hk0) (Mc_T29 hk0) q7 dX13_fill_147 ?_
            refine lv_if_ne (tgt := 160) C.1.1 C.1.2.1 dX13_fill_148 (by decide) (fun c8 => ?_) (fun c8 => ?_)
            · replace hD := g_neg c8 hD
              exact hb160 M L _ _ ls hD hw (lv_sub hl [0, 1] rfl)
            · replace hD := g_pos c8 hD
              refine lv_aload_n C.1.1 C.1.2.1 dX13_fill_151 rfl (lv_at hl 0 rfl) ?_
              refine mr_getR C hw kc_13 40 (Mc_N0 hk0) (Mc_T0 hk0) (Mc_F0_40 hk0) wd_2682 dX13_fill_152 (by decide) rfl ?_
              refine lv_iload_n C.1.1 C.1.2.1 dX13_fill_155 rfl (lv_at hl 1 rfl) ?_
              obtain ⟨q9, hD⟩ := g_ck hD
              refine mr_zald C hw (Mc_N28 hk0) (Mc_T28 hk0) q9 dX13_fill_156 ?_
              refine lv_if_eq (tgt := 178) C.1.1 C.1.2.1 dX13_fill_157 (by decide) (fun c10 => ?_) (fun c10 => ?_)
              · replace hD := g_pos c10 hD
                exact hb178 M L _ _ ls hD hw (lv_sub hl [0, 1] rfl)
              · replace hD := g_neg c10 hD
                exact hb160 M L _ _ ls hD hw (lv_sub hl [0, 1] rfl)
          · replace hD := g_neg c6 hD
            exact hb141 M L _ _ ls hD hw (lv_sub hl [] rfl)
      · replace hD := g_neg c3 hD
        refine lv_aload_n C.1.1 C.1.2.1 dX13_fill_53 rfl (lv_at hl 0 rfl) ?_
        refine mr_getR C hw kc_13 4 (Mc_N0 hk0) (Mc_T0 hk0) (Mc_F0_4 hk0) wd_2646 dX13_fill_54 (by decide) rfl ?_
        refine lv_iload C.1.1 C.1.2.1 dX13_fill_57 (lv_at hl 3 rfl) ?_
        obtain ⟨q11, hD⟩ := g_ck hD
        refine mr_iald C hw (Mc_N2 hk0) (Mc_T2 hk0) q11 dX13_fill_59 ?_
        refine lv_iload_n C.1.1 C.1.2.1 dX13_fill_60 rfl (lv_at hl 1 rfl) ?_
        refine lv_icmp_ne (tgt := 91) C.1.1 C.1.2.1 dX13_fill_61 (by decide) (fun c12 => ?_) (fun c12 => ?_)
        · replace hD := g_neg c12 hD
          exact hb91 v3 v4 M L _ _ ls hD hw (lv_sub hl [0, 1, 2, 3] rfl)
        · replace hD := g_pos c12 hD
          refine lv_aload_n C.1.1 C.1.2.1 dX13_fill_64 rfl (lv_at hl 0 rfl) ?_
          refine mr_getR C hw kc_13 3 (Mc_N0 hk0) (Mc_T0 hk0) (Mc_F0_3 hk0) wd_2645 dX13_fill_65 (by decide) rfl ?_
          refine lv_iload_n C.1.1 C.1.2.1 dX13_fill_68 rfl (lv_at hl 1 rfl) ?_
          obtain ⟨q13, hD⟩ := g_ck hD
          refine mr_iald C hw (Mc_N1 hk0) (Mc_T1 hk0) q13 dX13_fill_69 ?_
          refine lv_iconst (v := 1) C.1.1 C.1.2.1 dX13_fill_70 (by decide) ?_
          refine lv_icmp_ne (tgt := 91) C.1.1 C.1.2.1 dX13_fill_71 (by decide) (fun c14 => ?_) (fun c14 => ?_)
          · replace hD := g_neg c14 hD
            exact hb91 v3 v4 M L _ _ ls hD hw (lv_sub hl [0, 1, 2, 3] rfl)
          · replace hD := g_pos c14 hD
            refine lv_aload_n C.1.1 C.1.2.1 dX13_fill_74 rfl (lv_at hl 0 rfl) ?_
            refine lv_iload C.1.1 C.1.2.1 dX13_fill_75 (lv_at hl 3 rfl) ?_
            obtain ⟨r17, M15, L16, h1, hD⟩ := g_b3 hD
            refine md_cvI (As := [.int v4]) (rest := []) C hw (tX13_mark l G ad fu k v4 M L h1 hk0) kc_13 (Mc_N0 hk0) (Mc_T0 hk0) wd_3268 cwX13_mark ⟨Nat.le_of_ble_eq_true rfl, Nat.le_of_ble_eq_true rfl⟩ rfl hl.1 (Nat.le_of_ble_eq_true rfl) dX13_fill_77 rfl rfl ⟨Nat.zero_le _, Nat.zero_le _⟩ rfl (fun H locs hw => ?_)
            refine lv_if_ne (tgt := 91) C.1.1 C.1.2.1 dX13_fill_80 (by decide) (fun c18 => ?_) (fun c18 => ?_)
            · replace hD := g_neg c18 hD
              exact hb91 v3 v4 M15 L16 _ _ ls hD hw (lv_sub hl [0, 1, 2, 3] rfl)
            · replace hD := g_pos c18 hD
              refine lv_aload_n C.1.1 C.1.2.1 dX13_fill_83 rfl (lv_at hl 0 rfl) ?_
              refine mr_getR C hw kc_13 39 (Mc_N0 hk0) (Mc_T0 hk0) (Mc_F0_39 hk0) wd_2681 dX13_fill_84 (by decide) rfl ?_
              refine lv_iload C.1.1 C.1.2.1 dX13_fill_87 (lv_at hl 3 rfl) ?_
              refine lv_iconst (v := 1) C.1.1 C.1.2.1 dX13_fill_89 (by decide) ?_
              obtain ⟨q19, hD⟩ := g_ck hD
              obtain ⟨M20, eM20, hD⟩ := g_let hD
              refine mr_zast C hw (Mc_N27 hk0) (Mc_T27 hk0) q19 dX13_fill_90 (fun H locs hw => ?_)
              replace hw : mw_W G ad NF TF FF M20 L16 H locs := by rw [eM20]; exact hw
              exact hb91 v3 v4 M20 L16 _ _ ls hD hw (lv_sub hl [0, 1, 2, 3] rfl)
  have hb38 : ∀ (s2 : Int32) (M : mwM) (L : mwL) (H : Heap) (locs : List Loc) (ls : Array Slot), fX13_fill_b38 fu k a1 a2 s2 M L = some (M0, L0) → mw_W G ad NF TF FF M L H locs → lv_has ls 5 [(0, .ref (ad k)), (1, .int a1)] → W p l e ({ frames := 2, cells := 0, slots := 0, locals := 44 }) s m [.ref (ad k), .int a1, .int a2].toArray below meth c H locs 0 0 (MQ below (mw_Qv G ad NF TF FF (mw_eqV M0 L0)) [.ref (ad k), .int a1, .int a2].toArray s 0 0 (mw_fr G)) (F0 m 38 ls [.int s2, .int a1, .ref (ad (k + 29))]) := by
    intro s2 M L H locs ls hD hw hl
    unfold fX13_fill_b38 at hD
    obtain ⟨q1, hD⟩ := g_ck hD
    obtain ⟨M2, eM2, hD⟩ := g_let hD
    refine mr_zast C hw (Mc_N29 hk0) (Mc_T29 hk0) q1 dX13_fill_38 (fun H locs hw => ?_)
    replace hw : mw_W G ad NF TF FF M2 L H locs := by rw [eM2]; exact hw
    refine lv_iconst (v := 0) C.1.1 C.1.2.1 dX13_fill_39 (by decide) ?_
    refine lv_istore_n (lv' := [(3, .int 0), (0, .ref (ad k)), (1, .int a1)]) C.1.1 C.1.2.1 dX13_fill_40 rfl hl (by decide) rfl (fun ls hl => ?_)
    refine lv_iconst (v := 1) C.1.1 C.1.2.1 dX13_fill_41 (by decide) ?_
    refine lv_istore (lv' := [(4, .int 1), (3, .int 0), (0, .ref (ad k)), (1, .int a1)]) C.1.1 C.1.2.1 dX13_fill_42 hl (by decide) rfl (fun ls hl => ?_)
    exact hh44 fu 0 1 M2 L _ _ ls hD hw (lv_sub hl [2, 3, 1, 0] rfl)
  have hb33 : ∀ (M : mwM) (L : mwL) (H : Heap) (locs : List Loc) (ls : Array Slot), fX13_fill_b33 fu k a1 a2 M L = some (M0, L0) → mw_W G ad NF TF FF M L H locs → lv_has ls 5 [(0, .ref (ad k)), (1, .int a1)] → W p l e ({ frames := 2, cells := 0, slots := 0, locals := 44 }) s m [.ref (ad k), .int a1, .int a2].toArray below meth c H locs 0 0 (MQ below (mw_Qv G ad NF TF FF (mw_eqV M0 L0)) [.ref (ad k), .int a1, .int a2].toArray s 0 0 (mw_fr G)) (F0 m 33 ls [.int a1, .ref (ad (k + 29))]) := by
    intro M L H locs ls hD hw hl
    unfold fX13_fill_b33 at hD
    refine lv_iconst (v := 1) C.1.1 C.1.2.1 dX13_fill_33 (by decide) ?_
    refine lv_goto (tgt := 38) C.1.1 C.1.2.1 dX13_fill_34 (by decide) ?_
    exact hb38 1 M L _ _ ls hD hw (lv_sub hl [0, 1] rfl)
  have hb37 : ∀ (M : mwM) (L : mwL) (H : Heap) (locs : List Loc) (ls : Array Slot), fX13_fill_b37 fu k a1 a2 M L = some (M0, L0) → mw_W G ad NF TF FF M L H locs → lv_has ls 5 [(0, .ref (ad k)), (1, .int a1)] → W p l e ({ frames := 2, cells := 0, slots := 0, locals := 44 }) s m [.ref (ad k), .int a1, .int a2].toArray below meth c H locs 0 0 (MQ below (mw_Qv G ad NF TF FF (mw_eqV M0 L0)) [.ref (ad k), .int a1, .int a2].toArray s 0 0 (mw_fr G)) (F0 m 37 ls [.int a1, .ref (ad (k + 29))]) := by
    intro M L H locs ls hD hw hl
    unfold fX13_fill_b37 at hD
    refine lv_iconst (v := 0) C.1.1 C.1.2.1 dX13_fill_37 (by decide) ?_
    exact hb38 0 M L _ _ ls hD hw (lv_sub hl [0, 1] rfl)
  unfold DX13_fill at hD
  refine lv_aload_n C.1.1 C.1.2.1 dX13_fill_0 rfl (lv_at hl 0 rfl) ?_
  refine mr_getR C hw kc_13 41 (Mc_N0 hk0) (Mc_T0 hk0) (Mc_F0_41 hk0) wd_2683 dX13_fill_1 (by decide) rfl ?_
  refine lv_iload_n C.1.1 C.1.2.1 dX13_fill_4 rfl (lv_at hl 1 rfl) ?_
  refine lv_aload_n C.1.1 C.1.2.1 dX13_fill_5 rfl (lv_at hl 0 rfl) ?_
  refine mr_getR C hw kc_13 41 (Mc_N0 hk0) (Mc_T0 hk0) (Mc_F0_41 hk0) wd_2683 dX13_fill_6 (by decide) rfl ?_
  refine lv_iload_n C.1.1 C.1.2.1 dX13_fill_9 rfl (lv_at hl 1 rfl) ?_
  obtain ⟨q36, hD⟩ := g_ck hD
  refine mr_zald C hw (Mc_N29 hk0) (Mc_T29 hk0) q36 dX13_fill_10 ?_
  refine lv_if_ne (tgt := 33) C.1.1 C.1.2.1 dX13_fill_11 (by decide) (fun c37 => ?_) (fun c37 => ?_)
  · replace hD := g_neg c37 hD
    exact hb33 M L _ _ ls hD hw (lv_sub hl [0, 1] rfl)
  · replace hD := g_pos c37 hD
    refine lv_iload_n C.1.1 C.1.2.1 dX13_fill_14 rfl (lv_at hl 1 rfl) ?_
    refine lv_iload_n C.1.1 C.1.2.1 dX13_fill_15 rfl (lv_at hl 2 rfl) ?_
    refine lv_icmp_eq (tgt := 37) C.1.1 C.1.2.1 dX13_fill_16 (by decide) (fun c38 => ?_) (fun c38 => ?_)
    · replace hD := g_pos c38 hD
      exact hb37 M L _ _ ls hD hw (lv_sub hl [0, 1] rfl)
    · replace hD := g_neg c38 hD
      refine lv_aload_n C.1.1 C.1.2.1 dX13_fill_19 rfl (lv_at hl 0 rfl) ?_
      refine mr_getR C hw kc_13 41 (Mc_N0 hk0) (Mc_T0 hk0) (Mc_F0_41 hk0) wd_2683 dX13_fill_20 (by decide) rfl ?_
      refine lv_aload_n C.1.1 C.1.2.1 dX13_fill_23 rfl (lv_at hl 0 rfl) ?_
      refine mr_getR C hw kc_13 4 (Mc_N0 hk0) (Mc_T0 hk0) (Mc_F0_4 hk0) wd_2646 dX13_fill_24 (by decide) rfl ?_
      refine lv_iload_n C.1.1 C.1.2.1 dX13_fill_27 rfl (lv_at hl 1 rfl) ?_
      obtain ⟨q39, hD⟩ := g_ck hD
      refine mr_iald C hw (Mc_N2 hk0) (Mc_T2 hk0) q39 dX13_fill_28 ?_
      obtain ⟨q40, hD⟩ := g_ck hD
      refine mr_zald C hw (Mc_N29 hk0) (Mc_T29 hk0) q40 dX13_fill_29 ?_
      refine lv_if_eq (tgt := 37) C.1.1 C.1.2.1 dX13_fill_30 (by decide) (fun c41 => ?_) (fun c41 => ?_)
      · replace hD := g_pos c41 hD
        exact hb37 M L _ _ ls hD hw (lv_sub hl [0, 1] rfl)
      · replace hD := g_neg c41 hD
        exact hb33 M L _ _ ls hD hw (lv_sub hl [0, 1] rfl)

theorem dX13_enter_0 : decode cX13_enter 0 = .ok (.iconst 0, 1) := by decide +kernel
theorem dX13_enter_1 : decode cX13_enter 1 = .ok (.istore 5, 2) := by decide +kernel
theorem dX13_enter_3 : decode cX13_enter 3 = .ok (.iload 5, 2) := by decide +kernel
theorem dX13_enter_5 : decode cX13_enter 5 = .ok (.aload_n 0, 1) := by decide +kernel
theorem dX13_enter_6 : decode cX13_enter 6 = .ok (.getfield 103, 3) := by decide +kernel
theorem dX13_enter_9 : decode cX13_enter 9 = .ok (.if_icmp .gt 33, 3) := by decide +kernel
theorem dX13_enter_12 : decode cX13_enter 12 = .ok (.aload_n 0, 1) := by decide +kernel
theorem dX13_enter_13 : decode cX13_enter 13 = .ok (.getfield 90, 3) := by decide +kernel
theorem dX13_enter_16 : decode cX13_enter 16 = .ok (.iload 5, 2) := by decide +kernel
theorem dX13_enter_18 : decode cX13_enter 18 = .ok (.iconst 0, 1) := by decide +kernel
theorem dX13_enter_19 : decode cX13_enter 19 = .ok (.bastore, 1) := by decide +kernel
theorem dX13_enter_20 : decode cX13_enter 20 = .ok (.aload_n 0, 1) := by decide +kernel
theorem dX13_enter_21 : decode cX13_enter 21 = .ok (.getfield 93, 3) := by decide +kernel
theorem dX13_enter_24 : decode cX13_enter 24 = .ok (.iload 5, 2) := by decide +kernel
theorem dX13_enter_26 : decode cX13_enter 26 = .ok (.iconst 0, 1) := by decide +kernel
theorem dX13_enter_27 : decode cX13_enter 27 = .ok (.bastore, 1) := by decide +kernel
theorem dX13_enter_28 : decode cX13_enter 28 = .ok (.aload_n 0, 1) := by decide +kernel
theorem dX13_enter_29 : decode cX13_enter 29 = .ok (.getfield 96, 3) := by decide +kernel
theorem dX13_enter_32 : decode cX13_enter 32 = .ok (.iload 5, 2) := by decide +kernel
theorem dX13_enter_34 : decode cX13_enter 34 = .ok (.iconst 0, 1) := by decide +kernel
theorem dX13_enter_35 : decode cX13_enter 35 = .ok (.bastore, 1) := by decide +kernel
theorem dX13_enter_36 : decode cX13_enter 36 = .ok (.iinc 5 1, 3) := by decide +kernel
theorem dX13_enter_39 : decode cX13_enter 39 = .ok (.goto (-36), 3) := by decide +kernel
theorem dX13_enter_42 : decode cX13_enter 42 = .ok (.iconst 1, 1) := by decide +kernel
theorem dX13_enter_43 : decode cX13_enter 43 = .ok (.istore 5, 2) := by decide +kernel
theorem dX13_enter_45 : decode cX13_enter 45 = .ok (.iload 5, 2) := by decide +kernel
theorem dX13_enter_47 : decode cX13_enter 47 = .ok (.aload_n 0, 1) := by decide +kernel
theorem dX13_enter_48 : decode cX13_enter 48 = .ok (.getfield 106, 3) := by decide +kernel
theorem dX13_enter_51 : decode cX13_enter 51 = .ok (.if_icmp .gt 35, 3) := by decide +kernel
theorem dX13_enter_54 : decode cX13_enter 54 = .ok (.iload_n 2, 1) := by decide +kernel
theorem dX13_enter_55 : decode cX13_enter 55 = .ok (.ifCond .le 31, 3) := by decide +kernel
theorem dX13_enter_58 : decode cX13_enter 58 = .ok (.aload_n 0, 1) := by decide +kernel
theorem dX13_enter_59 : decode cX13_enter 59 = .ok (.iload_n 2, 1) := by decide +kernel
theorem dX13_enter_60 : decode cX13_enter 60 = .ok (.iload 5, 2) := by decide +kernel
theorem dX13_enter_62 : decode cX13_enter 62 = .ok (.invokevirtual 161, 3) := by decide +kernel
theorem dX13_enter_65 : decode cX13_enter 65 = .ok (.ifCond .eq 15, 3) := by decide +kernel
theorem dX13_enter_68 : decode cX13_enter 68 = .ok (.aload_n 0, 1) := by decide +kernel
theorem dX13_enter_69 : decode cX13_enter 69 = .ok (.iload_n 1, 1) := by decide +kernel
theorem dX13_enter_70 : decode cX13_enter 70 = .ok (.aload_n 0, 1) := by decide +kernel
theorem dX13_enter_71 : decode cX13_enter 71 = .ok (.getfield 42, 3) := by decide +kernel
theorem dX13_enter_74 : decode cX13_enter 74 = .ok (.iload 5, 2) := by decide +kernel
theorem dX13_enter_76 : decode cX13_enter 76 = .ok (.iaload, 1) := by decide +kernel
theorem dX13_enter_77 : decode cX13_enter 77 = .ok (.invokevirtual 195, 3) := by decide +kernel
theorem dX13_enter_80 : decode cX13_enter 80 = .ok (.iinc 5 1, 3) := by decide +kernel
theorem dX13_enter_83 : decode cX13_enter 83 = .ok (.goto (-38), 3) := by decide +kernel
theorem dX13_enter_86 : decode cX13_enter 86 = .ok (.aload_n 0, 1) := by decide +kernel
theorem dX13_enter_87 : decode cX13_enter 87 = .ok (.getfield 16, 3) := by decide +kernel
theorem dX13_enter_90 : decode cX13_enter 90 = .ok (.iload_n 1, 1) := by decide +kernel
theorem dX13_enter_91 : decode cX13_enter 91 = .ok (.iaload, 1) := by decide +kernel
theorem dX13_enter_92 : decode cX13_enter 92 = .ok (.istore 5, 2) := by decide +kernel
theorem dX13_enter_94 : decode cX13_enter 94 = .ok (.iload 5, 2) := by decide +kernel
theorem dX13_enter_96 : decode cX13_enter 96 = .ok (.bipush 42, 2) := by decide +kernel
theorem dX13_enter_98 : decode cX13_enter 98 = .ok (.if_icmp .ge 62, 3) := by decide +kernel
theorem dX13_enter_101 : decode cX13_enter 101 = .ok (.iconst 0, 1) := by decide +kernel
theorem dX13_enter_102 : decode cX13_enter 102 = .ok (.istore 6, 2) := by decide +kernel
theorem dX13_enter_104 : decode cX13_enter 104 = .ok (.iload 6, 2) := by decide +kernel
theorem dX13_enter_106 : decode cX13_enter 106 = .ok (.aload_n 0, 1) := by decide +kernel
theorem dX13_enter_107 : decode cX13_enter 107 = .ok (.getfield 103, 3) := by decide +kernel
theorem dX13_enter_110 : decode cX13_enter 110 = .ok (.if_icmp .gt 44, 3) := by decide +kernel
theorem dX13_enter_113 : decode cX13_enter 113 = .ok (.aload_n 0, 1) := by decide +kernel
theorem dX13_enter_114 : decode cX13_enter 114 = .ok (.getfield 16, 3) := by decide +kernel
theorem dX13_enter_117 : decode cX13_enter 117 = .ok (.iload 6, 2) := by decide +kernel
theorem dX13_enter_119 : decode cX13_enter 119 = .ok (.iaload, 1) := by decide +kernel
theorem dX13_enter_120 : decode cX13_enter 120 = .ok (.iload 5, 2) := by decide +kernel
theorem dX13_enter_122 : decode cX13_enter 122 = .ok (.if_icmp .ne 26, 3) := by decide +kernel
theorem dX13_enter_125 : decode cX13_enter 125 = .ok (.iload 6, 2) := by decide +kernel
theorem dX13_enter_127 : decode cX13_enter 127 = .ok (.iload_n 1, 1) := by decide +kernel
theorem dX13_enter_128 : decode cX13_enter 128 = .ok (.if_icmp .eq 13, 3) := by decide +kernel
theorem dX13_enter_131 : decode cX13_enter 131 = .ok (.aload_n 0, 1) := by decide +kernel
theorem dX13_enter_132 : decode cX13_enter 132 = .ok (.getfield 90, 3) := by decide +kernel
theorem dX13_enter_135 : decode cX13_enter 135 = .ok (.iload 6, 2) := by decide +kernel
theorem dX13_enter_137 : decode cX13_enter 137 = .ok (.baload, 1) := by decide +kernel
theorem dX13_enter_138 : decode cX13_enter 138 = .ok (.ifCond .eq 10, 3) := by decide +kernel
theorem dX13_enter_141 : decode cX13_enter 141 = .ok (.aload_n 0, 1) := by decide +kernel
theorem dX13_enter_142 : decode cX13_enter 142 = .ok (.iload 6, 2) := by decide +kernel
theorem dX13_enter_144 : decode cX13_enter 144 = .ok (.iload_n 1, 1) := by decide +kernel
theorem dX13_enter_145 : decode cX13_enter 145 = .ok (.invokevirtual 198, 3) := by decide +kernel
theorem dX13_enter_148 : decode cX13_enter 148 = .ok (.iinc 6 1, 3) := by decide +kernel
theorem dX13_enter_151 : decode cX13_enter 151 = .ok (.goto (-47), 3) := by decide +kernel
theorem dX13_enter_154 : decode cX13_enter 154 = .ok (.iinc 5 1, 3) := by decide +kernel
theorem dX13_enter_157 : decode cX13_enter 157 = .ok (.goto (-63), 3) := by decide +kernel
theorem dX13_enter_160 : decode cX13_enter 160 = .ok (.iconst 0, 1) := by decide +kernel
theorem dX13_enter_161 : decode cX13_enter 161 = .ok (.istore 5, 2) := by decide +kernel
theorem dX13_enter_163 : decode cX13_enter 163 = .ok (.iload 5, 2) := by decide +kernel
theorem dX13_enter_165 : decode cX13_enter 165 = .ok (.bipush 42, 2) := by decide +kernel
theorem dX13_enter_167 : decode cX13_enter 167 = .ok (.if_icmp .ge 96, 3) := by decide +kernel
theorem dX13_enter_170 : decode cX13_enter 170 = .ok (.iconst 1, 1) := by decide +kernel
theorem dX13_enter_171 : decode cX13_enter 171 = .ok (.istore 6, 2) := by decide +kernel
theorem dX13_enter_173 : decode cX13_enter 173 = .ok (.iload 6, 2) := by decide +kernel
theorem dX13_enter_175 : decode cX13_enter 175 = .ok (.aload_n 0, 1) := by decide +kernel
theorem dX13_enter_176 : decode cX13_enter 176 = .ok (.getfield 103, 3) := by decide +kernel
theorem dX13_enter_179 : decode cX13_enter 179 = .ok (.if_icmp .gt 78, 3) := by decide +kernel
theorem dX13_enter_182 : decode cX13_enter 182 = .ok (.aload_n 0, 1) := by decide +kernel
theorem dX13_enter_183 : decode cX13_enter 183 = .ok (.getfield 90, 3) := by decide +kernel
theorem dX13_enter_186 : decode cX13_enter 186 = .ok (.iload 6, 2) := by decide +kernel
theorem dX13_enter_188 : decode cX13_enter 188 = .ok (.baload, 1) := by decide +kernel
theorem dX13_enter_189 : decode cX13_enter 189 = .ok (.ifCond .eq 62, 3) := by decide +kernel
theorem dX13_enter_192 : decode cX13_enter 192 = .ok (.aload_n 0, 1) := by decide +kernel
theorem dX13_enter_193 : decode cX13_enter 193 = .ok (.getfield 16, 3) := by decide +kernel
theorem dX13_enter_196 : decode cX13_enter 196 = .ok (.iload 6, 2) := by decide +kernel
theorem dX13_enter_198 : decode cX13_enter 198 = .ok (.iaload, 1) := by decide +kernel
theorem dX13_enter_199 : decode cX13_enter 199 = .ok (.iload 5, 2) := by decide +kernel
theorem dX13_enter_201 : decode cX13_enter 201 = .ok (.if_icmp .ne 50, 3) := by decide +kernel
theorem dX13_enter_204 : decode cX13_enter 204 = .ok (.aload_n 0, 1) := by decide +kernel
theorem dX13_enter_205 : decode cX13_enter 205 = .ok (.iconst 3, 1) := by decide +kernel
theorem dX13_enter_206 : decode cX13_enter 206 = .ok (.iload 6, 2) := by decide +kernel
theorem dX13_enter_208 : decode cX13_enter 208 = .ok (.lconst 0, 1) := by decide +kernel
theorem dX13_enter_209 : decode cX13_enter 209 = .ok (.invokevirtual 144, 3) := by decide +kernel
theorem dX13_enter_212 : decode cX13_enter 212 = .ok (.aload_n 0, 1) := by decide +kernel
theorem dX13_enter_213 : decode cX13_enter 213 = .ok (.getfield 36, 3) := by decide +kernel
theorem dX13_enter_216 : decode cX13_enter 216 = .ok (.iload 6, 2) := by decide +kernel
theorem dX13_enter_218 : decode cX13_enter 218 = .ok (.iconst 1, 1) := by decide +kernel
theorem dX13_enter_219 : decode cX13_enter 219 = .ok (.bastore, 1) := by decide +kernel
theorem dX13_enter_220 : decode cX13_enter 220 = .ok (.aload_n 0, 1) := by decide +kernel
theorem dX13_enter_221 : decode cX13_enter 221 = .ok (.getfield 26, 3) := by decide +kernel
theorem dX13_enter_224 : decode cX13_enter 224 = .ok (.iload 6, 2) := by decide +kernel
theorem dX13_enter_226 : decode cX13_enter 226 = .ok (.lload_n 3, 1) := by decide +kernel
theorem dX13_enter_227 : decode cX13_enter 227 = .ok (.lastore, 1) := by decide +kernel
theorem dX13_enter_228 : decode cX13_enter 228 = .ok (.aload_n 0, 1) := by decide +kernel
theorem dX13_enter_229 : decode cX13_enter 229 = .ok (.getfield 29, 3) := by decide +kernel
theorem dX13_enter_232 : decode cX13_enter 232 = .ok (.iload 6, 2) := by decide +kernel
theorem dX13_enter_234 : decode cX13_enter 234 = .ok (.iconst 0, 1) := by decide +kernel
theorem dX13_enter_235 : decode cX13_enter 235 = .ok (.bastore, 1) := by decide +kernel
theorem dX13_enter_236 : decode cX13_enter 236 = .ok (.aload_n 0, 1) := by decide +kernel
theorem dX13_enter_237 : decode cX13_enter 237 = .ok (.getfield 33, 3) := by decide +kernel
theorem dX13_enter_240 : decode cX13_enter 240 = .ok (.iload 6, 2) := by decide +kernel
theorem dX13_enter_242 : decode cX13_enter 242 = .ok (.iconst 1, 1) := by decide +kernel
theorem dX13_enter_243 : decode cX13_enter 243 = .ok (.bastore, 1) := by decide +kernel
theorem dX13_enter_244 : decode cX13_enter 244 = .ok (.aload_n 0, 1) := by decide +kernel
theorem dX13_enter_245 : decode cX13_enter 245 = .ok (.iload 6, 2) := by decide +kernel
theorem dX13_enter_247 : decode cX13_enter 247 = .ok (.iconst 0, 1) := by decide +kernel
theorem dX13_enter_248 : decode cX13_enter 248 = .ok (.invokevirtual 188, 3) := by decide +kernel
theorem dX13_enter_251 : decode cX13_enter 251 = .ok (.iinc 6 1, 3) := by decide +kernel
theorem dX13_enter_254 : decode cX13_enter 254 = .ok (.goto (-81), 3) := by decide +kernel
theorem dX13_enter_257 : decode cX13_enter 257 = .ok (.iinc 5 1, 3) := by decide +kernel
theorem dX13_enter_260 : decode cX13_enter 260 = .ok (.goto (-97), 3) := by decide +kernel
theorem dX13_enter_263 : decode cX13_enter 263 = .ok (.return_, 1) := by decide +kernel
theorem cwX13_enter : mw_cwV yX13_enter cX13_enter 7 (none) 3 := ⟨⟨wd_20, wd_4074, by decide +kernel⟩, wd_4073, sl_315⟩
set_option maxHeartbeats 4000000 in
set_option maxRecDepth 100000 in
theorem tX13_enter (l : Launch) (G : mwG) (ad : Nat → Nat) (fu : Nat) (k : Nat) (a1 : Int32) (a2 : Int32) (a3 : Int64) (M : mwM) (L : mwL) {M0 : mwM} {L0 : mwL} (hD : DX13_enter fu k a1 a2 a3 M L = some (M0, L0)) (hk0 : isMc k) : Met l yX13_enter (Cond.code yX13_enter cX13_enter 7 (none) :: GT) ({ frames := 3, cells := 0, slots := 0, locals := 68 }) (mw_Pre G ad NF TF FF M L [.ref (ad k), .int a1, .int a2, .long a3]) (mw_Qv G ad NF TF FF (mw_eqV M0 L0)) 0 0 (mw_fr G) := by
  refine mw_enter (by decide) (Nat.le_of_ble_eq_true rfl) ?_
  intro p e s m below meth c ls C hr hlocks hnm hw hl
  have hl : lv_has ls 7 [(0, .ref (ad k)), (1, .int a1), (2, .int a2), (3, .long a3)] := hl
  have hh163 : ∀ (f : Nat) (v5 : Int32) (M : mwM) (L : mwL) (H : Heap) (locs : List Loc) (ls : Array Slot), fX13_enter_h163 fu k a1 a2 a3 f (v5, M, L) = some (M0, L0) → mw_W G ad NF TF FF M L H locs → lv_has ls 7 [(0, .ref (ad k)), (3, .long a3), (5, .int v5)] → W p l e ({ frames := 3, cells := 0, slots := 0, locals := 68 }) s m [.ref (ad k), .int a1, .int a2, .long a3].toArray below meth c H locs 0 0 (MQ below (mw_Qv G ad NF TF FF (mw_eqV M0 L0)) [.ref (ad k), .int a1, .int a2, .long a3].toArray s 0 0 (mw_fr G)) (F0 m 163 ls []) := by
    intro f
    induction f with
    | zero => intro v5 M L H locs ls hD; cases hD
    | succ f163 ih163 =>
      intro v5 M L H locs ls hD hw hl
      replace hD : fX13_enter_i163 fu k a1 a2 a3 (fX13_enter_h163 fu k a1 a2 a3 f163) v5 M L = some (M0, L0) := hD
      have hh173 : ∀ (f : Nat) (v5 : Int32) (v6 : Int32) (M : mwM) (L : mwL) (H : Heap) (locs : List Loc) (ls : Array Slot), fX13_enter_h173 fu k a1 a2 a3 (fX13_enter_h163 fu k a1 a2 a3 f163) f (v5, v6, M, L) = some (M0, L0) → mw_W G ad NF TF FF M L H locs → lv_has ls 7 [(0, .ref (ad k)), (3, .long a3), (5, .int v5), (6, .int v6)] → W p l e ({ frames := 3, cells := 0, slots := 0, locals := 68 }) s m [.ref (ad k), .int a1, .int a2, .long a3].toArray below meth c H locs 0 0 (MQ below (mw_Qv G ad NF TF FF (mw_eqV M0 L0)) [.ref (ad k), .int a1, .int a2, .long a3].toArray s 0 0 (mw_fr G)) (F0 m 173 ls []) := by
        intro f
        induction f with
        | zero => intro v5 v6 M L H locs ls hD; cases hD
        | succ f173 ih173 =>
          intro v5 v6 M L H locs ls hD hw hl
          replace hD : fX13_enter_i173 fu k a1 a2 a3 (fX13_enter_h163 fu k a1 a2 a3 f163) (fX13_enter_h173 fu k a1 a2 a3 (fX13_enter_h163 fu k a1 a2 a3 f163) f173) v5 v6 M L = some (M0, L0) := hD
          have hb251 : ∀ (v5 : Int32) (v6 : Int32) (M : mwM) (L : mwL) (H : Heap) (locs : List Loc) (ls : Array Slot), fX13_enter_b251 fu k a1 a2 a3 (fX13_enter_h163 fu k a1 a2 a3 f163) (fX13_enter_h173 fu k a1 a2 a3 (fX13_enter_h163 fu k a1 a2 a3 f163) f173) v5 v6 M L = some (M0, L0) → mw_W G ad NF TF FF M L H locs → lv_has ls 7 [(0, .ref (ad k)), (3, .long a3), (5, .int v5), (6, .int v6)] → W p l e ({ frames := 3, cells := 0, slots := 0, locals := 68 }) s m [.ref (ad k), .int a1, .int a2, .long a3].toArray below meth c H locs 0 0 (MQ below (mw_Qv G ad NF TF FF (mw_eqV M0 L0)) [.ref (ad k), .int a1, .int a2, .long a3].toArray s 0 0 (mw_fr G)) (F0 m 251 ls []) := by
            intro v5 v6 M L H locs ls hD hw hl
            unfold fX13_enter_b251 at hD
            obtain ⟨x51, ex51, hD⟩ := g_let hD
            refine lv_iinc (v := x51) (lv' := [(6, .int x51), (0, .ref (ad k)), (3, .long a3), (5, .int v5)]) C.1.1 C.1.2.1 dX13_enter_251 hl (k := 3) rfl (by rw [ex51]; rfl) (by decide) rfl (fun ls hl => ?_)
            refine lv_goto (tgt := 173) C.1.1 C.1.2.1 dX13_enter_254 (by decide) ?_
            exact ih173 v5 x51 M L _ _ ls hD hw (lv_sub hl [1, 2, 3, 0] rfl)
          unfold fX13_enter_i173 at hD
          refine lv_iload C.1.1 C.1.2.1 dX13_enter_173 (lv_at hl 3 rfl) ?_
          refine lv_aload_n C.1.1 C.1.2.1 dX13_enter_175 rfl (lv_at hl 0 rfl) ?_
          refine mr_getI C hw kc_13 2 (Mc_N0 hk0) (Mc_T0 hk0) wd_2644 dX13_enter_176 (by decide) rfl ?_
          refine lv_icmp_gt (tgt := 257) C.1.1 C.1.2.1 dX13_enter_179 (by decide) (fun c33 => ?_) (fun c33 => ?_)
          · replace hD := g_pos c33 hD
            obtain ⟨x34, ex34, hD⟩ := g_let hD
            refine lv_iinc (v := x34) (lv' := [(5, .int x34), (0, .ref (ad k)), (3, .long a3), (6, .int v6)]) C.1.1 C.1.2.1 dX13_enter_257 hl (k := 2) rfl (by rw [ex34]; rfl) (by decide) rfl (fun ls hl => ?_)
            refine lv_goto (tgt := 163) C.1.1 C.1.2.1 dX13_enter_260 (by decide) ?_
            exact ih163 x34 M L _ _ ls hD hw (lv_sub hl [1, 2, 0] rfl)
          · replace hD := g_neg c33 hD
            refine lv_aload_n C.1.1 C.1.2.1 dX13_enter_182 rfl (lv_at hl 0 rfl) ?_
            refine mr_getR C hw kc_13 39 (Mc_N0 hk0) (Mc_T0 hk0) (Mc_F0_39 hk0) wd_2681 dX13_enter_183 (by decide) rfl ?_
            refine lv_iload C.1.1 C.1.2.1 dX13_enter_186 (lv_at hl 3 rfl) ?_
            obtain ⟨q35, hD⟩ := g_ck hD
            refine mr_zald C hw (Mc_N27 hk0) (Mc_T27 hk0) q35 dX13_enter_188 ?_
            refine lv_if_eq (tgt := 251) C.1.1 C.1.2.1 dX13_enter_189 (by decide) (fun c36 => ?_) (fun c36 => ?_)
            · replace hD := g_pos c36 hD
              exact hb251 v5 v6 M L _ _ ls hD hw (lv_sub hl [0, 1, 2, 3] rfl)
            · replace hD := g_neg c36 hD
              refine lv_aload_n C.1.1 C.1.2.1 dX13_enter_192 rfl (lv_at hl 0 rfl) ?_
              refine mr_getR C hw kc_13 5 (Mc_N0 hk0) (Mc_T0 hk0) (Mc_F0_5 hk0) wd_2647 dX13_enter_193 (by decide) rfl ?_
              refine lv_iload C.1.1 C.1.2.1 dX13_enter_196 (lv_at hl 3 rfl) ?_
              obtain ⟨q37, hD⟩ := g_ck hD
              refine mr_iald C hw (Mc_N3 hk0) (Mc_T3 hk0) q37 dX13_enter_198 ?_
              refine lv_iload C.1.1 C.1.2.1 dX13_enter_199 (lv_at hl 2 rfl) ?_
              refine lv_icmp_ne (tgt := 251) C.1.1 C.1.2.1 dX13_enter_201 (by decide) (fun c38 => ?_) (fun c38 => ?_)
              · replace hD := g_neg c38 hD
                exact hb251 v5 v6 M L _ _ ls hD hw (lv_sub hl [0, 1, 2, 3] rfl)
              · replace hD := g_pos c38 hD
                refine lv_aload_n C.1.1 C.1.2.1 dX13_enter_204 rfl (lv_at hl 0 rfl) ?_
                refine lv_iconst (v := 3) C.1.1 C.1.2.1 dX13_enter_205 (by decide) ?_
                refine lv_iload C.1.1 C.1.2.1 dX13_enter_206 (lv_at hl 3 rfl) ?_
                refine lv_lconst (v := 0) C.1.1 C.1.2.1 dX13_enter_208 (by decide) ?_
                obtain ⟨M39, L40, h1, hD⟩ := g_b2 hD
                refine md_cvV (As := [.int 3, .int v6, .long 0]) (rest := []) C hw (tX13_note l G ad fu k 3 v6 0 M L h1 hk0) kc_13 (Mc_N0 hk0) (Mc_T0 hk0) wd_4091 cwX13_note ⟨Nat.le_of_ble_eq_true rfl, Nat.le_of_ble_eq_true rfl⟩ rfl hl.1 (Nat.le_of_ble_eq_true rfl) dX13_enter_209 rfl rfl ⟨Nat.zero_le _, Nat.zero_le _⟩ rfl (fun H locs hw => ?_)
                refine lv_aload_n C.1.1 C.1.2.1 dX13_enter_212 rfl (lv_at hl 0 rfl) ?_
                refine mr_getR C hw kc_13 11 (Mc_N0 hk0) (Mc_T0 hk0) (Mc_F0_11 hk0) wd_2653 dX13_enter_213 (by decide) rfl ?_
                refine lv_iload C.1.1 C.1.2.1 dX13_enter_216 (lv_at hl 3 rfl) ?_
                refine lv_iconst (v := 1) C.1.1 C.1.2.1 dX13_enter_218 (by decide) ?_
                obtain ⟨q41, hD⟩ := g_ck hD
                obtain ⟨M42, eM42, hD⟩ := g_let hD
                refine mr_zast C hw (Mc_N9 hk0) (Mc_T9 hk0) q41 dX13_enter_219 (fun H locs hw => ?_)
                replace hw : mw_W G ad NF TF FF M42 L40 H locs := by rw [eM42]; exact hw
                refine lv_aload_n C.1.1 C.1.2.1 dX13_enter_220 rfl (lv_at hl 0 rfl) ?_
                refine mr_getR C hw kc_13 8 (Mc_N0 hk0) (Mc_T0 hk0) (Mc_F0_8 hk0) wd_2650 dX13_enter_221 (by decide) rfl ?_
                refine lv_iload C.1.1 C.1.2.1 dX13_enter_224 (lv_at hl 3 rfl) ?_
                refine lv_lload_n C.1.1 C.1.2.1 dX13_enter_226 rfl (lv_at hl 1 rfl) ?_
                obtain ⟨q43, hD⟩ := g_ck hD
                obtain ⟨L44, eL44, hD⟩ := g_let hD
                refine mr_last C hw (Mc_N6 hk0) (Mc_T6 hk0) q43 dX13_enter_227 (fun H locs hw => ?_)
                replace hw : mw_W G ad NF TF FF M42 L44 H locs := by rw [eL44]; exact hw
                refine lv_aload_n C.1.1 C.1.2.1 dX13_enter_228 rfl (lv_at hl 0 rfl) ?_
                refine mr_getR C hw kc_13 9 (Mc_N0 hk0) (Mc_T0 hk0) (Mc_F0_9 hk0) wd_2651 dX13_enter_229 (by decide) rfl ?_
                refine lv_iload C.1.1 C.1.2.1 dX13_enter_232 (lv_at hl 3 rfl) ?_
                refine lv_iconst (v := 0) C.1.1 C.1.2.1 dX13_enter_234 (by decide) ?_
                obtain ⟨q45, hD⟩ := g_ck hD
                obtain ⟨M46, eM46, hD⟩ := g_let hD
                refine mr_zast C hw (Mc_N7 hk0) (Mc_T7 hk0) q45 dX13_enter_235 (fun H locs hw => ?_)
                replace hw : mw_W G ad NF TF FF M46 L44 H locs := by rw [eM46]; exact hw
                refine lv_aload_n C.1.1 C.1.2.1 dX13_enter_236 rfl (lv_at hl 0 rfl) ?_
                refine mr_getR C hw kc_13 10 (Mc_N0 hk0) (Mc_T0 hk0) (Mc_F0_10 hk0) wd_2652 dX13_enter_237 (by decide) rfl ?_
                refine lv_iload C.1.1 C.1.2.1 dX13_enter_240 (lv_at hl 3 rfl) ?_
                refine lv_iconst (v := 1) C.1.1 C.1.2.1 dX13_enter_242 (by decide) ?_
                obtain ⟨q47, hD⟩ := g_ck hD
                obtain ⟨M48, eM48, hD⟩ := g_let hD
                refine mr_zast C hw (Mc_N8 hk0) (Mc_T8 hk0) q47 dX13_enter_243 (fun H locs hw => ?_)
                replace hw : mw_W G ad NF TF FF M48 L44 H locs := by rw [eM48]; exact hw
                refine lv_aload_n C.1.1 C.1.2.1 dX13_enter_244 rfl (lv_at hl 0 rfl) ?_
                refine lv_iload C.1.1 C.1.2.1 dX13_enter_245 (lv_at hl 3 rfl) ?_
                refine lv_iconst (v := 0) C.1.1 C.1.2.1 dX13_enter_247 (by decide) ?_
                obtain ⟨M49, L50, h1, hD⟩ := g_b2 hD
                refine md_cvV (As := [.int v6, .int 0]) (rest := []) C hw (tX13_doActs l G ad fu k v6 0 M48 L44 h1 hk0) kc_13 (Mc_N0 hk0) (Mc_T0 hk0) wd_4095 cwX13_doActs ⟨Nat.le_of_ble_eq_true rfl, Nat.le_of_ble_eq_true rfl⟩ rfl hl.1 (Nat.le_of_ble_eq_true rfl) dX13_enter_248 rfl rfl ⟨Nat.zero_le _, Nat.zero_le _⟩ rfl (fun H locs hw => ?_)
                exact hb251 v5 v6 M49 L50 _ _ ls hD hw (lv_sub hl [0, 1, 2, 3] rfl)
      unfold fX13_enter_i163 at hD
      refine lv_iload C.1.1 C.1.2.1 dX13_enter_163 (lv_at hl 2 rfl) ?_
      refine lv_bipush (v := 42) C.1.1 C.1.2.1 dX13_enter_165 (by decide) ?_
      refine lv_icmp_ge (tgt := 263) C.1.1 C.1.2.1 dX13_enter_167 (by decide) (fun c32 => ?_) (fun c32 => ?_)
      · replace hD := g_pos c32 hD
        exact mr_vret C hr hlocks hw (Option.some.inj hD) dX13_enter_263
      · replace hD := g_neg c32 hD
        refine lv_iconst (v := 1) C.1.1 C.1.2.1 dX13_enter_170 (by decide) ?_
        refine lv_istore (lv' := [(6, .int 1), (0, .ref (ad k)), (3, .long a3), (5, .int v5)]) C.1.1 C.1.2.1 dX13_enter_171 hl (by decide) rfl (fun ls hl => ?_)
        exact hh173 fu v5 1 M L _ _ ls hD hw (lv_sub hl [1, 2, 3, 0] rfl)
  have hh94 : ∀ (f : Nat) (v5 : Int32) (M : mwM) (L : mwL) (H : Heap) (locs : List Loc) (ls : Array Slot), fX13_enter_h94 fu k a1 a2 a3 f (v5, M, L) = some (M0, L0) → mw_W G ad NF TF FF M L H locs → lv_has ls 7 [(0, .ref (ad k)), (1, .int a1), (3, .long a3), (5, .int v5)] → W p l e ({ frames := 3, cells := 0, slots := 0, locals := 68 }) s m [.ref (ad k), .int a1, .int a2, .long a3].toArray below meth c H locs 0 0 (MQ below (mw_Qv G ad NF TF FF (mw_eqV M0 L0)) [.ref (ad k), .int a1, .int a2, .long a3].toArray s 0 0 (mw_fr G)) (F0 m 94 ls []) := by
    intro f
    induction f with
    | zero => intro v5 M L H locs ls hD; cases hD
    | succ f94 ih94 =>
      intro v5 M L H locs ls hD hw hl
      replace hD : fX13_enter_i94 fu k a1 a2 a3 (fX13_enter_h94 fu k a1 a2 a3 f94) v5 M L = some (M0, L0) := hD
      have hh104 : ∀ (f : Nat) (v5 : Int32) (v6 : Int32) (M : mwM) (L : mwL) (H : Heap) (locs : List Loc) (ls : Array Slot), fX13_enter_h104 fu k a1 a2 a3 (fX13_enter_h94 fu k a1 a2 a3 f94) f (v5, v6, M, L) = some (M0, L0) → mw_W G ad NF TF FF M L H locs → lv_has ls 7 [(0, .ref (ad k)), (1, .int a1), (3, .long a3), (5, .int v5), (6, .int v6)] → W p l e ({ frames := 3, cells := 0, slots := 0, locals := 68 }) s m [.ref (ad k), .int a1, .int a2, .long a3].toArray below meth c H locs 0 0 (MQ below (mw_Qv G ad NF TF FF (mw_eqV M0 L0)) [.ref (ad k), .int a1, .int a2, .long a3].toArray s 0 0 (mw_fr G)) (F0 m 104 ls []) := by
        intro f
        induction f with
        | zero => intro v5 v6 M L H locs ls hD; cases hD
        | succ f104 ih104 =>
          intro v5 v6 M L H locs ls hD hw hl
          replace hD : fX13_enter_i104 fu k a1 a2 a3 (fX13_enter_h94 fu k a1 a2 a3 f94) (fX13_enter_h104 fu k a1 a2 a3 (fX13_enter_h94 fu k a1 a2 a3 f94) f104) v5 v6 M L = some (M0, L0) := hD
          have hb148 : ∀ (v5 : Int32) (v6 : Int32) (M : mwM) (L : mwL) (H : Heap) (locs : List Loc) (ls : Array Slot), fX13_enter_b148 fu k a1 a2 a3 (fX13_enter_h94 fu k a1 a2 a3 f94) (fX13_enter_h104 fu k a1 a2 a3 (fX13_enter_h94 fu k a1 a2 a3 f94) f104) v5 v6 M L = some (M0, L0) → mw_W G ad NF TF FF M L H locs → lv_has ls 7 [(0, .ref (ad k)), (1, .int a1), (3, .long a3), (5, .int v5), (6, .int v6)] → W p l e ({ frames := 3, cells := 0, slots := 0, locals := 68 }) s m [.ref (ad k), .int a1, .int a2, .long a3].toArray below meth c H locs 0 0 (MQ below (mw_Qv G ad NF TF FF (mw_eqV M0 L0)) [.ref (ad k), .int a1, .int a2, .long a3].toArray s 0 0 (mw_fr G)) (F0 m 148 ls []) := by
            intro v5 v6 M L H locs ls hD hw hl
            unfold fX13_enter_b148 at hD
            obtain ⟨x31, ex31, hD⟩ := g_let hD
            refine lv_iinc (v := x31) (lv' := [(6, .int x31), (0, .ref (ad k)), (1, .int a1), (3, .long a3), (5, .int v5)]) C.1.1 C.1.2.1 dX13_enter_148 hl (k := 4) rfl (by rw [ex31]; rfl) (by decide) rfl (fun ls hl => ?_)
            refine lv_goto (tgt := 104) C.1.1 C.1.2.1 dX13_enter_151 (by decide) ?_
            exact ih104 v5 x31 M L _ _ ls hD hw (lv_sub hl [1, 2, 3, 4, 0] rfl)
          have hb141 : ∀ (v5 : Int32) (v6 : Int32) (M : mwM) (L : mwL) (H : Heap) (locs : List Loc) (ls : Array Slot), fX13_enter_b141 fu k a1 a2 a3 (fX13_enter_h94 fu k a1 a2 a3 f94) (fX13_enter_h104 fu k a1 a2 a3 (fX13_enter_h94 fu k a1 a2 a3 f94) f104) v5 v6 M L = some (M0, L0) → mw_W G ad NF TF FF M L H locs → lv_has ls 7 [(0, .ref (ad k)), (1, .int a1), (3, .long a3), (5, .int v5), (6, .int v6)] → W p l e ({ frames := 3, cells := 0, slots := 0, locals := 68 }) s m [.ref (ad k), .int a1, .int a2, .long a3].toArray below meth c H locs 0 0 (MQ below (mw_Qv G ad NF TF FF (mw_eqV M0 L0)) [.ref (ad k), .int a1, .int a2, .long a3].toArray s 0 0 (mw_fr G)) (F0 m 141 ls []) := by
            intro v5 v6 M L H locs ls hD hw hl
            unfold fX13_enter_b141 at hD
            refine lv_aload_n C.1.1 C.1.2.1 dX13_enter_141 rfl (lv_at hl 0 rfl) ?_
            refine lv_iload C.1.1 C.1.2.1 dX13_enter_142 (lv_at hl 4 rfl) ?_
            refine lv_iload_n C.1.1 C.1.2.1 dX13_enter_144 rfl (lv_at hl 1 rfl) ?_
            obtain ⟨M29, L30, h1, hD⟩ := g_b2 hD
            refine md_cvV (As := [.int v6, .int a1]) (rest := []) C hw (tX13_fill l G ad fu k v6 a1 M L h1 hk0) kc_13 (Mc_N0 hk0) (Mc_T0 hk0) wd_4087 cwX13_fill ⟨Nat.le_of_ble_eq_true rfl, Nat.le_of_ble_eq_true rfl⟩ rfl hl.1 (Nat.le_of_ble_eq_true rfl) dX13_enter_145 rfl rfl ⟨Nat.zero_le _, Nat.zero_le _⟩ rfl (fun H locs hw => ?_)
            exact hb148 v5 v6 M29 L30 _ _ ls hD hw (lv_sub hl [0, 1, 2, 3, 4] rfl)
          unfold fX13_enter_i104 at hD
          refine lv_iload C.1.1 C.1.2.1 dX13_enter_104 (lv_at hl 4 rfl) ?_
          refine lv_aload_n C.1.1 C.1.2.1 dX13_enter_106 rfl (lv_at hl 0 rfl) ?_
          refine mr_getI C hw kc_13 2 (Mc_N0 hk0) (Mc_T0 hk0) wd_2644 dX13_enter_107 (by decide) rfl ?_
          refine lv_icmp_gt (tgt := 154) C.1.1 C.1.2.1 dX13_enter_110 (by decide) (fun c22 => ?_) (fun c22 => ?_)
          · replace hD := g_pos c22 hD
            obtain ⟨x23, ex23, hD⟩ := g_let hD
            refine lv_iinc (v := x23) (lv' := [(5, .int x23), (0, .ref (ad k)), (1, .int a1), (3, .long a3), (6, .int v6)]) C.1.1 C.1.2.1 dX13_enter_154 hl (k := 3) rfl (by rw [ex23]; rfl) (by decide) rfl (fun ls hl => ?_)
            refine lv_goto (tgt := 94) C.1.1 C.1.2.1 dX13_enter_157 (by decide) ?_
            exact ih94 x23 M L _ _ ls hD hw (lv_sub hl [1, 2, 3, 0] rfl)
          · replace hD := g_neg c22 hD
            refine lv_aload_n C.1.1 C.1.2.1 dX13_enter_113 rfl (lv_at hl 0 rfl) ?_
            refine mr_getR C hw kc_13 5 (Mc_N0 hk0) (Mc_T0 hk0) (Mc_F0_5 hk0) wd_2647 dX13_enter_114 (by decide) rfl ?_
            refine lv_iload C.1.1 C.1.2.1 dX13_enter_117 (lv_at hl 4 rfl) ?_
            obtain ⟨q24, hD⟩ := g_ck hD
            refine mr_iald C hw (Mc_N3 hk0) (Mc_T3 hk0) q24 dX13_enter_119 ?_
            refine lv_iload C.1.1 C.1.2.1 dX13_enter_120 (lv_at hl 3 rfl) ?_
            refine lv_icmp_ne (tgt := 148) C.1.1 C.1.2.1 dX13_enter_122 (by decide) (fun c25 => ?_) (fun c25 => ?_)
            · replace hD := g_neg c25 hD
              exact hb148 v5 v6 M L _ _ ls hD hw (lv_sub hl [0, 1, 2, 3, 4] rfl)
            · replace hD := g_pos c25 hD
              refine lv_iload C.1.1 C.1.2.1 dX13_enter_125 (lv_at hl 4 rfl) ?_
              refine lv_iload_n C.1.1 C.1.2.1 dX13_enter_127 rfl (lv_at hl 1 rfl) ?_
              refine lv_icmp_eq (tgt := 141) C.1.1 C.1.2.1 dX13_enter_128 (by decide) (fun c26 => ?_) (fun c26 => ?_)
              · replace hD := g_pos c26 hD
                exact hb141 v5 v6 M L _ _ ls hD hw (lv_sub hl [0, 1, 2, 3, 4] rfl)
              · replace hD := g_neg c26 hD
                refine lv_aload_n C.1.1 C.1.2.1 dX13_enter_131 rfl (lv_at hl 0 rfl) ?_
                refine mr_getR C hw kc_13 39 (Mc_N0 hk0) (Mc_T0 hk0) (Mc_F0_39 hk0) wd_2681 dX13_enter_132 (by decide) rfl ?_
                refine lv_iload C.1.1 C.1.2.1 dX13_enter_135 (lv_at hl 4 rfl) ?_
                obtain ⟨q27, hD⟩ := g_ck hD
                refine mr_zald C hw (Mc_N27 hk0) (Mc_T27 hk0) q27 dX13_enter_137 ?_
                refine lv_if_eq (tgt := 148) C.1.1 C.1.2.1 dX13_enter_138 (by decide) (fun c28 => ?_) (fun c28 => ?_)
                · replace hD := g_pos c28 hD
                  exact hb148 v5 v6 M L _ _ ls hD hw (lv_sub hl [0, 1, 2, 3, 4] rfl)
                · replace hD := g_neg c28 hD
                  exact hb141 v5 v6 M L _ _ ls hD hw (lv_sub hl [0, 1, 2, 3, 4] rfl)
      unfold fX13_enter_i94 at hD
      refine lv_iload C.1.1 C.1.2.1 dX13_enter_94 (lv_at hl 3 rfl) ?_
      refine lv_bipush (v := 42) C.1.1 C.1.2.1 dX13_enter_96 (by decide) ?_
      refine lv_icmp_ge (tgt := 160) C.1.1 C.1.2.1 dX13_enter_98 (by decide) (fun c21 => ?_) (fun c21 => ?_)
      · replace hD := g_pos c21 hD
        refine lv_iconst (v := 0) C.1.1 C.1.2.1 dX13_enter_160 (by decide) ?_
        refine lv_istore (lv' := [(5, .int 0), (0, .ref (ad k)), (1, .int a1), (3, .long a3)]) C.1.1 C.1.2.1 dX13_enter_161 hl (by decide) rfl (fun ls hl => ?_)
        exact hh163 fu 0 M L _ _ ls hD hw (lv_sub hl [1, 3, 0] rfl)
      · replace hD := g_neg c21 hD
        refine lv_iconst (v := 0) C.1.1 C.1.2.1 dX13_enter_101 (by decide) ?_
        refine lv_istore (lv' := [(6, .int 0), (0, .ref (ad k)), (1, .int a1), (3, .long a3), (5, .int v5)]) C.1.1 C.1.2.1 dX13_enter_102 hl (by decide) rfl (fun ls hl => ?_)
        exact hh104 fu v5 0 M L _ _ ls hD hw (lv_sub hl [1, 2, 3, 4, 0] rfl)
  have hb86 : ∀ (M : mwM) (L : mwL) (H : Heap) (locs : List Loc) (ls : Array Slot), fX13_enter_b86 fu k a1 a2 a3 M L = some (M0, L0) → mw_W G ad NF TF FF M L H locs → lv_has ls 7 [(0, .ref (ad k)), (1, .int a1), (3, .long a3)] → W p l e ({ frames := 3, cells := 0, slots := 0, locals := 68 }) s m [.ref (ad k), .int a1, .int a2, .long a3].toArray below meth c H locs 0 0 (MQ below (mw_Qv G ad NF TF FF (mw_eqV M0 L0)) [.ref (ad k), .int a1, .int a2, .long a3].toArray s 0 0 (mw_fr G)) (F0 m 86 ls []) := by
    intro M L H locs ls hD hw hl
    unfold fX13_enter_b86 at hD
    refine lv_aload_n C.1.1 C.1.2.1 dX13_enter_86 rfl (lv_at hl 0 rfl) ?_
    refine mr_getR C hw kc_13 5 (Mc_N0 hk0) (Mc_T0 hk0) (Mc_F0_5 hk0) wd_2647 dX13_enter_87 (by decide) rfl ?_
    refine lv_iload_n C.1.1 C.1.2.1 dX13_enter_90 rfl (lv_at hl 1 rfl) ?_
    obtain ⟨q19, hD⟩ := g_ck hD
    refine mr_iald C hw (Mc_N3 hk0) (Mc_T3 hk0) q19 dX13_enter_91 ?_
    obtain ⟨x20, ex20, hD⟩ := g_let hD
    refine W.eq (g2 := F0 m 92 ls (.int x20 :: [])) (by rw [ex20]) ?_
    refine lv_istore (lv' := [(5, .int x20), (0, .ref (ad k)), (1, .int a1), (3, .long a3)]) C.1.1 C.1.2.1 dX13_enter_92 hl (by decide) rfl (fun ls hl => ?_)
    exact hh94 fu x20 M L _ _ ls hD hw (lv_sub hl [1, 2, 3, 0] rfl)
  have hh45 : ∀ (f : Nat) (v5 : Int32) (M : mwM) (L : mwL) (H : Heap) (locs : List Loc) (ls : Array Slot), fX13_enter_h45 fu k a1 a2 a3 f (v5, M, L) = some (M0, L0) → mw_W G ad NF TF FF M L H locs → lv_has ls 7 [(0, .ref (ad k)), (1, .int a1), (2, .int a2), (3, .long a3), (5, .int v5)] → W p l e ({ frames := 3, cells := 0, slots := 0, locals := 68 }) s m [.ref (ad k), .int a1, .int a2, .long a3].toArray below meth c H locs 0 0 (MQ below (mw_Qv G ad NF TF FF (mw_eqV M0 L0)) [.ref (ad k), .int a1, .int a2, .long a3].toArray s 0 0 (mw_fr G)) (F0 m 45 ls []) := by
    intro f
    induction f with
    | zero => intro v5 M L H locs ls hD; cases hD
    | succ f45 ih45 =>
      intro v5 M L H locs ls hD hw hl
      replace hD : fX13_enter_i45 fu k a1 a2 a3 (fX13_enter_h45 fu k a1 a2 a3 f45) v5 M L = some (M0, L0) := hD
      have hb80 : ∀ (v5 : Int32) (M : mwM) (L : mwL) (H : Heap) (locs : List Loc) (ls : Array Slot), fX13_enter_b80 fu k a1 a2 a3 (fX13_enter_h45 fu k a1 a2 a3 f45) v5 M L = some (M0, L0) → mw_W G ad NF TF FF M L H locs → lv_has ls 7 [(0, .ref (ad k)), (1, .int a1), (2, .int a2), (3, .long a3), (5, .int v5)] → W p l e ({ frames := 3, cells := 0, slots := 0, locals := 68 }) s m [.ref (ad k), .int a1, .int a2, .long a3].toArray below meth c H locs 0 0 (MQ below (mw_Qv G ad NF TF FF (mw_eqV M0 L0)) [.ref (ad k), .int a1, .int a2, .long a3].toArray s 0 0 (mw_fr G)) (F0 m 80 ls []) := by
        intro v5 M L H locs ls hD hw hl
        unfold fX13_enter_b80 at hD
        obtain ⟨x18, ex18, hD⟩ := g_let hD
        refine lv_iinc (v := x18) (lv' := [(5, .int x18), (0, .ref (ad k)), (1, .int a1), (2, .int a2), (3, .long a3)]) C.1.1 C.1.2.1 dX13_enter_80 hl (k := 4) rfl (by rw [ex18]; rfl) (by decide) rfl (fun ls hl => ?_)
        refine lv_goto (tgt := 45) C.1.1 C.1.2.1 dX13_enter_83 (by decide) ?_
        exact ih45 x18 M L _ _ ls hD hw (lv_sub hl [1, 2, 3, 4, 0] rfl)
      unfold fX13_enter_i45 at hD
      refine lv_iload C.1.1 C.1.2.1 dX13_enter_45 (lv_at hl 4 rfl) ?_
      refine lv_aload_n C.1.1 C.1.2.1 dX13_enter_47 rfl (lv_at hl 0 rfl) ?_
      refine mr_getI C hw kc_13 12 (Mc_N0 hk0) (Mc_T0 hk0) wd_2654 dX13_enter_48 (by decide) rfl ?_
      refine lv_icmp_gt (tgt := 86) C.1.1 C.1.2.1 dX13_enter_51 (by decide) (fun c9 => ?_) (fun c9 => ?_)
      · replace hD := g_pos c9 hD
        exact hb86 M L _ _ ls hD hw (lv_sub hl [0, 1, 3] rfl)
      · replace hD := g_neg c9 hD
        refine lv_iload_n C.1.1 C.1.2.1 dX13_enter_54 rfl (lv_at hl 2 rfl) ?_
        refine lv_if_le (tgt := 86) C.1.1 C.1.2.1 dX13_enter_55 (by decide) (fun c10 => ?_) (fun c10 => ?_)
        · replace hD := g_pos c10 hD
          exact hb86 M L _ _ ls hD hw (lv_sub hl [0, 1, 3] rfl)
        · replace hD := g_neg c10 hD
          refine lv_aload_n C.1.1 C.1.2.1 dX13_enter_58 rfl (lv_at hl 0 rfl) ?_
          refine lv_iload_n C.1.1 C.1.2.1 dX13_enter_59 rfl (lv_at hl 2 rfl) ?_
          refine lv_iload C.1.1 C.1.2.1 dX13_enter_60 (lv_at hl 4 rfl) ?_
          obtain ⟨r13, M11, L12, h1, hD⟩ := g_b3 hD
          refine md_cvI (As := [.int a2, .int v5]) (rest := []) C hw (tX13_saysTarget l G ad fu k a2 v5 M L h1 hk0) kc_13 (Mc_N0 hk0) (Mc_T0 hk0) wd_4075 cwX13_saysTarget ⟨Nat.le_of_ble_eq_true rfl, Nat.le_of_ble_eq_true rfl⟩ rfl hl.1 (Nat.le_of_ble_eq_true rfl) dX13_enter_62 rfl rfl ⟨Nat.zero_le _, Nat.zero_le _⟩ rfl (fun H locs hw => ?_)
          refine lv_if_eq (tgt := 80) C.1.1 C.1.2.1 dX13_enter_65 (by decide) (fun c14 => ?_) (fun c14 => ?_)
          · replace hD := g_pos c14 hD
            exact hb80 v5 M11 L12 _ _ ls hD hw (lv_sub hl [0, 1, 2, 3, 4] rfl)
          · replace hD := g_neg c14 hD
            refine lv_aload_n C.1.1 C.1.2.1 dX13_enter_68 rfl (lv_at hl 0 rfl) ?_
            refine lv_iload_n C.1.1 C.1.2.1 dX13_enter_69 rfl (lv_at hl 1 rfl) ?_
            refine lv_aload_n C.1.1 C.1.2.1 dX13_enter_70 rfl (lv_at hl 0 rfl) ?_
            refine mr_getR C hw kc_13 14 (Mc_N0 hk0) (Mc_T0 hk0) (Mc_F0_14 hk0) wd_2656 dX13_enter_71 (by decide) rfl ?_
            refine lv_iload C.1.1 C.1.2.1 dX13_enter_74 (lv_at hl 4 rfl) ?_
            obtain ⟨q15, hD⟩ := g_ck hD
            refine mr_iald C hw (Mc_N11 hk0) (Mc_T11 hk0) q15 dX13_enter_76 ?_
            obtain ⟨M16, L17, h1, hD⟩ := g_b2 hD
            refine md_cvV (As := [.int a1, .int (M11 (k + 11) v5.toNatClampNeg)]) (rest := []) C hw (tX13_aim l G ad fu k a1 (M11 (k + 11) v5.toNatClampNeg) M11 L12 h1 hk0) kc_13 (Mc_N0 hk0) (Mc_T0 hk0) wd_4079 cwX13_aim ⟨Nat.le_of_ble_eq_true rfl, Nat.le_of_ble_eq_true rfl⟩ rfl hl.1 (Nat.le_of_ble_eq_true rfl) dX13_enter_77 rfl rfl ⟨Nat.zero_le _, Nat.zero_le _⟩ rfl (fun H locs hw => ?_)
            exact hb80 v5 M16 L17 _ _ ls hD hw (lv_sub hl [0, 1, 2, 3, 4] rfl)
  have hh3 : ∀ (f : Nat) (v5 : Int32) (M : mwM) (L : mwL) (H : Heap) (locs : List Loc) (ls : Array Slot), fX13_enter_h3 fu k a1 a2 a3 f (v5, M, L) = some (M0, L0) → mw_W G ad NF TF FF M L H locs → lv_has ls 7 [(0, .ref (ad k)), (1, .int a1), (2, .int a2), (3, .long a3), (5, .int v5)] → W p l e ({ frames := 3, cells := 0, slots := 0, locals := 68 }) s m [.ref (ad k), .int a1, .int a2, .long a3].toArray below meth c H locs 0 0 (MQ below (mw_Qv G ad NF TF FF (mw_eqV M0 L0)) [.ref (ad k), .int a1, .int a2, .long a3].toArray s 0 0 (mw_fr G)) (F0 m 3 ls []) := by
    intro f
    induction f with
    | zero => intro v5 M L H locs ls hD; cases hD
    | succ f3 ih3 =>
      intro v5 M L H locs ls hD hw hl
      replace hD : fX13_enter_i3 fu k a1 a2 a3 (fX13_enter_h3 fu k a1 a2 a3 f3) v5 M L = some (M0, L0) := hD
      unfold fX13_enter_i3 at hD
      refine lv_iload C.1.1 C.1.2.1 dX13_enter_3 (lv_at hl 4 rfl) ?_
      refine lv_aload_n C.1.1 C.1.2.1 dX13_enter_5 rfl (lv_at hl 0 rfl) ?_
      refine mr_getI C hw kc_13 2 (Mc_N0 hk0) (Mc_T0 hk0) wd_2644 dX13_enter_6 (by decide) rfl ?_
      refine lv_icmp_gt (tgt := 42) C.1.1 C.1.2.1 dX13_enter_9 (by decide) (fun c1 => ?_) (fun c1 => ?_)
      · replace hD := g_pos c1 hD
        refine lv_iconst (v := 1) C.1.1 C.1.2.1 dX13_enter_42 (by decide) ?_
        refine lv_istore (lv' := [(5, .int 1), (0, .ref (ad k)), (1, .int a1), (2, .int a2), (3, .long a3)]) C.1.1 C.1.2.1 dX13_enter_43 hl (by decide) rfl (fun ls hl => ?_)
        exact hh45 fu 1 M L _ _ ls hD hw (lv_sub hl [1, 2, 3, 4, 0] rfl)
      · replace hD := g_neg c1 hD
        refine lv_aload_n C.1.1 C.1.2.1 dX13_enter_12 rfl (lv_at hl 0 rfl) ?_
        refine mr_getR C hw kc_13 39 (Mc_N0 hk0) (Mc_T0 hk0) (Mc_F0_39 hk0) wd_2681 dX13_enter_13 (by decide) rfl ?_
        refine lv_iload C.1.1 C.1.2.1 dX13_enter_16 (lv_at hl 4 rfl) ?_
        refine lv_iconst (v := 0) C.1.1 C.1.2.1 dX13_enter_18 (by decide) ?_
        obtain ⟨q2, hD⟩ := g_ck hD
        obtain ⟨M3, eM3, hD⟩ := g_let hD
        refine mr_zast C hw (Mc_N27 hk0) (Mc_T27 hk0) q2 dX13_enter_19 (fun H locs hw => ?_)
        replace hw : mw_W G ad NF TF FF M3 L H locs := by rw [eM3]; exact hw
        refine lv_aload_n C.1.1 C.1.2.1 dX13_enter_20 rfl (lv_at hl 0 rfl) ?_
        refine mr_getR C hw kc_13 40 (Mc_N0 hk0) (Mc_T0 hk0) (Mc_F0_40 hk0) wd_2682 dX13_enter_21 (by decide) rfl ?_
        refine lv_iload C.1.1 C.1.2.1 dX13_enter_24 (lv_at hl 4 rfl) ?_
        refine lv_iconst (v := 0) C.1.1 C.1.2.1 dX13_enter_26 (by decide) ?_
        obtain ⟨q4, hD⟩ := g_ck hD
        obtain ⟨M5, eM5, hD⟩ := g_let hD
        refine mr_zast C hw (Mc_N28 hk0) (Mc_T28 hk0) q4 dX13_enter_27 (fun H locs hw => ?_)
        replace hw : mw_W G ad NF TF FF M5 L H locs := by rw [eM5]; exact hw
        refine lv_aload_n C.1.1 C.1.2.1 dX13_enter_28 rfl (lv_at hl 0 rfl) ?_
        refine mr_getR C hw kc_13 41 (Mc_N0 hk0) (Mc_T0 hk0) (Mc_F0_41 hk0) wd_2683 dX13_enter_29 (by decide) rfl ?_
        refine lv_iload C.1.1 C.1.2.1 dX13_enter_32 (lv_at hl 4 rfl) ?_
        refine lv_iconst (v := 0) C.1.1 C.1.2.1 dX13_enter_34 (by decide) ?_
        obtain ⟨q6, hD⟩ := g_ck hD
        obtain ⟨M7, eM7, hD⟩ := g_let hD
        refine mr_zast C hw (Mc_N29 hk0) (Mc_T29 hk0) q6 dX13_enter_35 (fun H locs hw => ?_)
        replace hw : mw_W G ad NF TF FF M7 L H locs := by rw [eM7]; exact hw
        obtain ⟨x8, ex8, hD⟩ := g_let hD
        refine lv_iinc (v := x8) (lv' := [(5, .int x8), (0, .ref (ad k)), (1, .int a1), (2, .int a2), (3, .long a3)]) C.1.1 C.1.2.1 dX13_enter_36 hl (k := 4) rfl (by rw [ex8]; rfl) (by decide) rfl (fun ls hl => ?_)
        refine lv_goto (tgt := 3) C.1.1 C.1.2.1 dX13_enter_39 (by decide) ?_
        exact ih3 x8 M7 L _ _ ls hD hw (lv_sub hl [1, 2, 3, 4, 0] rfl)
  unfold DX13_enter at hD
  refine lv_iconst (v := 0) C.1.1 C.1.2.1 dX13_enter_0 (by decide) ?_
  refine lv_istore (lv' := [(5, .int 0), (0, .ref (ad k)), (1, .int a1), (2, .int a2), (3, .long a3)]) C.1.1 C.1.2.1 dX13_enter_1 hl (by decide) rfl (fun ls hl => ?_)
  exact hh3 fu 0 M L _ _ ls hD hw (lv_sub hl [1, 2, 3, 4, 0] rfl)

theorem dX13_take_0 : decode cX13_take 0 = .ok (.aload_n 0, 1) := by decide +kernel
theorem dX13_take_1 : decode cX13_take 1 = .ok (.iconst 4, 1) := by decide +kernel
theorem dX13_take_2 : decode cX13_take 2 = .ok (.iload_n 1, 1) := by decide +kernel
theorem dX13_take_3 : decode cX13_take 3 = .ok (.lconst 0, 1) := by decide +kernel
theorem dX13_take_4 : decode cX13_take 4 = .ok (.invokevirtual 144, 3) := by decide +kernel
theorem dX13_take_7 : decode cX13_take 7 = .ok (.aload_n 0, 1) := by decide +kernel
theorem dX13_take_8 : decode cX13_take 8 = .ok (.getfield 51, 3) := by decide +kernel
theorem dX13_take_11 : decode cX13_take 11 = .ok (.iload_n 1, 1) := by decide +kernel
theorem dX13_take_12 : decode cX13_take 12 = .ok (.iconst 1, 1) := by decide +kernel
theorem dX13_take_13 : decode cX13_take 13 = .ok (.bastore, 1) := by decide +kernel
theorem dX13_take_14 : decode cX13_take 14 = .ok (.aload_n 0, 1) := by decide +kernel
theorem dX13_take_15 : decode cX13_take 15 = .ok (.iload_n 1, 1) := by decide +kernel
theorem dX13_take_16 : decode cX13_take 16 = .ok (.invokevirtual 176, 3) := by decide +kernel
theorem dX13_take_19 : decode cX13_take 19 = .ok (.istore 4, 2) := by decide +kernel
theorem dX13_take_21 : decode cX13_take 21 = .ok (.aload_n 0, 1) := by decide +kernel
theorem dX13_take_22 : decode cX13_take 22 = .ok (.iload 4, 2) := by decide +kernel
theorem dX13_take_24 : decode cX13_take 24 = .ok (.invokevirtual 180, 3) := by decide +kernel
theorem dX13_take_27 : decode cX13_take 27 = .ok (.iconst 1, 1) := by decide +kernel
theorem dX13_take_28 : decode cX13_take 28 = .ok (.istore 5, 2) := by decide +kernel
theorem dX13_take_30 : decode cX13_take 30 = .ok (.iload 5, 2) := by decide +kernel
theorem dX13_take_32 : decode cX13_take 32 = .ok (.aload_n 0, 1) := by decide +kernel
theorem dX13_take_33 : decode cX13_take 33 = .ok (.getfield 103, 3) := by decide +kernel
theorem dX13_take_36 : decode cX13_take 36 = .ok (.if_icmp .gt 43, 3) := by decide +kernel
theorem dX13_take_39 : decode cX13_take 39 = .ok (.aload_n 0, 1) := by decide +kernel
theorem dX13_take_40 : decode cX13_take 40 = .ok (.getfield 87, 3) := by decide +kernel
theorem dX13_take_43 : decode cX13_take 43 = .ok (.iload 5, 2) := by decide +kernel
theorem dX13_take_45 : decode cX13_take 45 = .ok (.baload, 1) := by decide +kernel
theorem dX13_take_46 : decode cX13_take 46 = .ok (.ifCond .eq 27, 3) := by decide +kernel
theorem dX13_take_49 : decode cX13_take 49 = .ok (.aload_n 0, 1) := by decide +kernel
theorem dX13_take_50 : decode cX13_take 50 = .ok (.getfield 7, 3) := by decide +kernel
theorem dX13_take_53 : decode cX13_take 53 = .ok (.iload 5, 2) := by decide +kernel
theorem dX13_take_55 : decode cX13_take 55 = .ok (.iaload, 1) := by decide +kernel
theorem dX13_take_56 : decode cX13_take 56 = .ok (.ifCond .ne 17, 3) := by decide +kernel
theorem dX13_take_59 : decode cX13_take 59 = .ok (.aload_n 0, 1) := by decide +kernel
theorem dX13_take_60 : decode cX13_take 60 = .ok (.getfield 19, 3) := by decide +kernel
theorem dX13_take_63 : decode cX13_take 63 = .ok (.iload 5, 2) := by decide +kernel
theorem dX13_take_65 : decode cX13_take 65 = .ok (.aload_n 0, 1) := by decide +kernel
theorem dX13_take_66 : decode cX13_take 66 = .ok (.iload 5, 2) := by decide +kernel
theorem dX13_take_68 : decode cX13_take 68 = .ok (.iconst 1, 1) := by decide +kernel
theorem dX13_take_69 : decode cX13_take 69 = .ok (.invokevirtual 184, 3) := by decide +kernel
theorem dX13_take_72 : decode cX13_take 72 = .ok (.iastore, 1) := by decide +kernel
theorem dX13_take_73 : decode cX13_take 73 = .ok (.iinc 5 1, 3) := by decide +kernel
theorem dX13_take_76 : decode cX13_take 76 = .ok (.goto (-46), 3) := by decide +kernel
theorem dX13_take_79 : decode cX13_take 79 = .ok (.bipush 41, 2) := by decide +kernel
theorem dX13_take_81 : decode cX13_take 81 = .ok (.istore 5, 2) := by decide +kernel
theorem dX13_take_83 : decode cX13_take 83 = .ok (.iload 5, 2) := by decide +kernel
theorem dX13_take_85 : decode cX13_take 85 = .ok (.ifCond .le 72, 3) := by decide +kernel
theorem dX13_take_88 : decode cX13_take 88 = .ok (.iconst 1, 1) := by decide +kernel
theorem dX13_take_89 : decode cX13_take 89 = .ok (.istore 6, 2) := by decide +kernel
theorem dX13_take_91 : decode cX13_take 91 = .ok (.iload 6, 2) := by decide +kernel
theorem dX13_take_93 : decode cX13_take 93 = .ok (.aload_n 0, 1) := by decide +kernel
theorem dX13_take_94 : decode cX13_take 94 = .ok (.getfield 103, 3) := by decide +kernel
theorem dX13_take_97 : decode cX13_take 97 = .ok (.if_icmp .gt 54, 3) := by decide +kernel
theorem dX13_take_100 : decode cX13_take 100 = .ok (.aload_n 0, 1) := by decide +kernel
theorem dX13_take_101 : decode cX13_take 101 = .ok (.getfield 87, 3) := by decide +kernel
theorem dX13_take_104 : decode cX13_take 104 = .ok (.iload 6, 2) := by decide +kernel
theorem dX13_take_106 : decode cX13_take 106 = .ok (.baload, 1) := by decide +kernel
theorem dX13_take_107 : decode cX13_take 107 = .ok (.ifCond .eq 38, 3) := by decide +kernel
theorem dX13_take_110 : decode cX13_take 110 = .ok (.aload_n 0, 1) := by decide +kernel
theorem dX13_take_111 : decode cX13_take 111 = .ok (.getfield 16, 3) := by decide +kernel
theorem dX13_take_114 : decode cX13_take 114 = .ok (.iload 6, 2) := by decide +kernel
theorem dX13_take_116 : decode cX13_take 116 = .ok (.iaload, 1) := by decide +kernel
theorem dX13_take_117 : decode cX13_take 117 = .ok (.iload 5, 2) := by decide +kernel
theorem dX13_take_119 : decode cX13_take 119 = .ok (.if_icmp .ne 26, 3) := by decide +kernel
theorem dX13_take_122 : decode cX13_take 122 = .ok (.aload_n 0, 1) := by decide +kernel
theorem dX13_take_123 : decode cX13_take 123 = .ok (.iconst 1, 1) := by decide +kernel
theorem dX13_take_124 : decode cX13_take 124 = .ok (.iload 6, 2) := by decide +kernel
theorem dX13_take_126 : decode cX13_take 126 = .ok (.lconst 0, 1) := by decide +kernel
theorem dX13_take_127 : decode cX13_take 127 = .ok (.invokevirtual 144, 3) := by decide +kernel
theorem dX13_take_130 : decode cX13_take 130 = .ok (.aload_n 0, 1) := by decide +kernel
theorem dX13_take_131 : decode cX13_take 131 = .ok (.getfield 36, 3) := by decide +kernel
theorem dX13_take_134 : decode cX13_take 134 = .ok (.iload 6, 2) := by decide +kernel
theorem dX13_take_136 : decode cX13_take 136 = .ok (.iconst 0, 1) := by decide +kernel
theorem dX13_take_137 : decode cX13_take 137 = .ok (.bastore, 1) := by decide +kernel
theorem dX13_take_138 : decode cX13_take 138 = .ok (.aload_n 0, 1) := by decide +kernel
theorem dX13_take_139 : decode cX13_take 139 = .ok (.iload 6, 2) := by decide +kernel
theorem dX13_take_141 : decode cX13_take 141 = .ok (.iconst 1, 1) := by decide +kernel
theorem dX13_take_142 : decode cX13_take 142 = .ok (.invokevirtual 188, 3) := by decide +kernel
theorem dX13_take_145 : decode cX13_take 145 = .ok (.iinc 6 1, 3) := by decide +kernel
theorem dX13_take_148 : decode cX13_take 148 = .ok (.goto (-57), 3) := by decide +kernel
theorem dX13_take_151 : decode cX13_take 151 = .ok (.iinc 5 (-1), 3) := by decide +kernel
theorem dX13_take_154 : decode cX13_take 154 = .ok (.goto (-71), 3) := by decide +kernel
theorem dX13_take_157 : decode cX13_take 157 = .ok (.aload_n 0, 1) := by decide +kernel
theorem dX13_take_158 : decode cX13_take 158 = .ok (.iload_n 1, 1) := by decide +kernel
theorem dX13_take_159 : decode cX13_take 159 = .ok (.iconst 2, 1) := by decide +kernel
theorem dX13_take_160 : decode cX13_take 160 = .ok (.invokevirtual 188, 3) := by decide +kernel
theorem dX13_take_163 : decode cX13_take 163 = .ok (.aload_n 0, 1) := by decide +kernel
theorem dX13_take_164 : decode cX13_take 164 = .ok (.iload 4, 2) := by decide +kernel
theorem dX13_take_166 : decode cX13_take 166 = .ok (.iload_n 1, 1) := by decide +kernel
theorem dX13_take_167 : decode cX13_take 167 = .ok (.lload_n 2, 1) := by decide +kernel
theorem dX13_take_168 : decode cX13_take 168 = .ok (.invokevirtual 192, 3) := by decide +kernel
theorem dX13_take_171 : decode cX13_take 171 = .ok (.return_, 1) := by decide +kernel
theorem cwX13_take : mw_cwV yX13_take cX13_take 7 (none) 2 := ⟨⟨wd_20, wd_4141, by decide +kernel⟩, wd_4140, sl_331⟩
set_option maxHeartbeats 4000000 in
set_option maxRecDepth 100000 in
theorem tX13_take (l : Launch) (G : mwG) (ad : Nat → Nat) (fu : Nat) (k : Nat) (a1 : Int32) (a2 : Int64) (M : mwM) (L : mwL) {M0 : mwM} {L0 : mwL} (hD : DX13_take fu k a1 a2 M L = some (M0, L0)) (hk0 : isMc k) : Met l yX13_take (Cond.code yX13_take cX13_take 7 (none) :: GT) ({ frames := 4, cells := 0, slots := 0, locals := 94 }) (mw_Pre G ad NF TF FF M L [.ref (ad k), .int a1, .long a2]) (mw_Qv G ad NF TF FF (mw_eqV M0 L0)) 0 0 (mw_fr G) := by
  refine mw_enter (by decide) (Nat.le_of_ble_eq_true rfl) ?_
  intro p e s m below meth c ls C hr hlocks hnm hw hl
  have hl : lv_has ls 7 [(0, .ref (ad k)), (1, .int a1), (2, .long a2)] := hl
  have hh83 : ∀ (f : Nat) (v4 : Int32) (v5 : Int32) (M : mwM) (L : mwL) (H : Heap) (locs : List Loc) (ls : Array Slot), fX13_take_h83 fu k a1 a2 f (v4, v5, M, L) = some (M0, L0) → mw_W G ad NF TF FF M L H locs → lv_has ls 7 [(0, .ref (ad k)), (1, .int a1), (2, .long a2), (4, .int v4), (5, .int v5)] → W p l e ({ frames := 4, cells := 0, slots := 0, locals := 94 }) s m [.ref (ad k), .int a1, .long a2].toArray below meth c H locs 0 0 (MQ below (mw_Qv G ad NF TF FF (mw_eqV M0 L0)) [.ref (ad k), .int a1, .long a2].toArray s 0 0 (mw_fr G)) (F0 m 83 ls []) := by
    intro f
    induction f with
    | zero => intro v4 v5 M L H locs ls hD; cases hD
    | succ f83 ih83 =>
      intro v4 v5 M L H locs ls hD hw hl
      replace hD : fX13_take_i83 fu k a1 a2 (fX13_take_h83 fu k a1 a2 f83) v4 v5 M L = some (M0, L0) := hD
      have hh91 : ∀ (f : Nat) (v4 : Int32) (v5 : Int32) (v6 : Int32) (M : mwM) (L : mwL) (H : Heap) (locs : List Loc) (ls : Array Slot), fX13_take_h91 fu k a1 a2 (fX13_take_h83 fu k a1 a2 f83) f (v4, v5, v6, M, L) = some (M0, L0) → mw_W G ad NF TF FF M L H locs → lv_has ls 7 [(0, .ref (ad k)), (1, .int a1), (2, .long a2), (4, .int v4), (5, .int v5), (6, .int v6)] → W p l e ({ frames := 4, cells := 0, slots := 0, locals := 94 }) s m [.ref (ad k), .int a1, .long a2].toArray below meth c H locs 0 0 (MQ below (mw_Qv G ad NF TF FF (mw_eqV M0 L0)) [.ref (ad k), .int a1, .long a2].toArray s 0 0 (mw_fr G)) (F0 m 91 ls []) := by
        intro f
        induction f with
        | zero => intro v4 v5 v6 M L H locs ls hD; cases hD
        | succ f91 ih91 =>
          intro v4 v5 v6 M L H locs ls hD hw hl
          replace hD : fX13_take_i91 fu k a1 a2 (fX13_take_h83 fu k a1 a2 f83) (fX13_take_h91 fu k a1 a2 (fX13_take_h83 fu k a1 a2 f83) f91) v4 v5 v6 M L = some (M0, L0) := hD
          have hb145 : ∀ (v4 : Int32) (v5 : Int32) (v6 : Int32) (M : mwM) (L : mwL) (H : Heap) (locs : List Loc) (ls : Array Slot), fX13_take_b145 fu k a1 a2 (fX13_take_h83 fu k a1 a2 f83) (fX13_take_h91 fu k a1 a2 (fX13_take_h83 fu k a1 a2 f83) f91) v4 v5 v6 M L = some (M0, L0) → mw_W G ad NF TF FF M L H locs → lv_has ls 7 [(0, .ref (ad k)), (1, .int a1), (2, .long a2), (4, .int v4), (5, .int v5), (6, .int v6)] → W p l e ({ frames := 4, cells := 0, slots := 0, locals := 94 }) s m [.ref (ad k), .int a1, .long a2].toArray below meth c H locs 0 0 (MQ below (mw_Qv G ad NF TF FF (mw_eqV M0 L0)) [.ref (ad k), .int a1, .long a2].toArray s 0 0 (mw_fr G)) (F0 m 145 ls []) := by
            intro v4 v5 v6 M L H locs ls hD hw hl
            unfold fX13_take_b145 at hD
            obtain ⟨x29, ex29, hD⟩ := g_let hD
            refine lv_iinc (v := x29) (lv' := [(6, .int x29), (0, .ref (ad k)), (1, .int a1), (2, .long a2), (4, .int v4), (5, .int v5)]) C.1.1 C.1.2.1 dX13_take_145 hl (k := 5) rfl (by rw [ex29]; rfl) (by decide) rfl (fun ls hl => ?_)
            refine lv_goto (tgt := 91) C.1.1 C.1.2.1 dX13_take_148 (by decide) ?_
            exact ih91 v4 v5 x29 M L _ _ ls hD hw (lv_sub hl [1, 2, 3, 4, 5, 0] rfl)
          unfold fX13_take_i91 at hD
          refine lv_iload C.1.1 C.1.2.1 dX13_take_91 (lv_at hl 5 rfl) ?_
          refine lv_aload_n C.1.1 C.1.2.1 dX13_take_93 rfl (lv_at hl 0 rfl) ?_
          refine mr_getI C hw kc_13 2 (Mc_N0 hk0) (Mc_T0 hk0) wd_2644 dX13_take_94 (by decide) rfl ?_
          refine lv_icmp_gt (tgt := 151) C.1.1 C.1.2.1 dX13_take_97 (by decide) (fun c17 => ?_) (fun c17 => ?_)
          · replace hD := g_pos c17 hD
            obtain ⟨x18, ex18, hD⟩ := g_let hD
            refine lv_iinc (v := x18) (lv' := [(5, .int x18), (0, .ref (ad k)), (1, .int a1), (2, .long a2), (4, .int v4), (6, .int v6)]) C.1.1 C.1.2.1 dX13_take_151 hl (k := 4) rfl (by rw [ex18]; rfl) (by decide) rfl (fun ls hl => ?_)
            refine lv_goto (tgt := 83) C.1.1 C.1.2.1 dX13_take_154 (by decide) ?_
            exact ih83 v4 x18 M L _ _ ls hD hw (lv_sub hl [1, 2, 3, 4, 0] rfl)
          · replace hD := g_neg c17 hD
            refine lv_aload_n C.1.1 C.1.2.1 dX13_take_100 rfl (lv_at hl 0 rfl) ?_
            refine mr_getR C hw kc_13 38 (Mc_N0 hk0) (Mc_T0 hk0) (Mc_F0_38 hk0) wd_2680 dX13_take_101 (by decide) rfl ?_
            refine lv_iload C.1.1 C.1.2.1 dX13_take_104 (lv_at hl 5 rfl) ?_
            obtain ⟨q19, hD⟩ := g_ck hD
            refine mr_zald C hw (Mc_N26 hk0) (Mc_T26 hk0) q19 dX13_take_106 ?_
            refine lv_if_eq (tgt := 145) C.1.1 C.1.2.1 dX13_take_107 (by decide) (fun c20 => ?_) (fun c20 => ?_)
            · replace hD := g_pos c20 hD
              exact hb145 v4 v5 v6 M L _ _ ls hD hw (lv_sub hl [0, 1, 2, 3, 4, 5] rfl)
            · replace hD := g_neg c20 hD
              refine lv_aload_n C.1.1 C.1.2.1 dX13_take_110 rfl (lv_at hl 0 rfl) ?_
              refine mr_getR C hw kc_13 5 (Mc_N0 hk0) (Mc_T0 hk0) (Mc_F0_5 hk0) wd_2647 dX13_take_111 (by decide) rfl ?_
              refine lv_iload C.1.1 C.1.2.1 dX13_take_114 (lv_at hl 5 rfl) ?_
              obtain ⟨q21, hD⟩ := g_ck hD
              refine mr_iald C hw (Mc_N3 hk0) (Mc_T3 hk0) q21 dX13_take_116 ?_
              refine lv_iload C.1.1 C.1.2.1 dX13_take_117 (lv_at hl 4 rfl) ?_
              refine lv_icmp_ne (tgt := 145) C.1.1 C.1.2.1 dX13_take_119 (by decide) (fun c22 => ?_) (fun c22 => ?_)
              · replace hD := g_neg c22 hD
                exact hb145 v4 v5 v6 M L _ _ ls hD hw (lv_sub hl [0, 1, 2, 3, 4, 5] rfl)
              · replace hD := g_pos c22 hD
                refine lv_aload_n C.1.1 C.1.2.1 dX13_take_122 rfl (lv_at hl 0 rfl) ?_
                refine lv_iconst (v := 1) C.1.1 C.1.2.1 dX13_take_123 (by decide) ?_
                refine lv_iload C.1.1 C.1.2.1 dX13_take_124 (lv_at hl 5 rfl) ?_
                refine lv_lconst (v := 0) C.1.1 C.1.2.1 dX13_take_126 (by decide) ?_
                obtain ⟨M23, L24, h1, hD⟩ := g_b2 hD
                refine md_cvV (As := [.int 1, .int v6, .long 0]) (rest := []) C hw (tX13_note l G ad fu k 1 v6 0 M L h1 hk0) kc_13 (Mc_N0 hk0) (Mc_T0 hk0) wd_4091 cwX13_note ⟨Nat.le_of_ble_eq_true rfl, Nat.le_of_ble_eq_true rfl⟩ rfl hl.1 (Nat.le_of_ble_eq_true rfl) dX13_take_127 rfl rfl ⟨Nat.zero_le _, Nat.zero_le _⟩ rfl (fun H locs hw => ?_)
                refine lv_aload_n C.1.1 C.1.2.1 dX13_take_130 rfl (lv_at hl 0 rfl) ?_
                refine mr_getR C hw kc_13 11 (Mc_N0 hk0) (Mc_T0 hk0) (Mc_F0_11 hk0) wd_2653 dX13_take_131 (by decide) rfl ?_
                refine lv_iload C.1.1 C.1.2.1 dX13_take_134 (lv_at hl 5 rfl) ?_
                refine lv_iconst (v := 0) C.1.1 C.1.2.1 dX13_take_136 (by decide) ?_
                obtain ⟨q25, hD⟩ := g_ck hD
                obtain ⟨M26, eM26, hD⟩ := g_let hD
                refine mr_zast C hw (Mc_N9 hk0) (Mc_T9 hk0) q25 dX13_take_137 (fun H locs hw => ?_)
                replace hw : mw_W G ad NF TF FF M26 L24 H locs := by rw [eM26]; exact hw
                refine lv_aload_n C.1.1 C.1.2.1 dX13_take_138 rfl (lv_at hl 0 rfl) ?_
                refine lv_iload C.1.1 C.1.2.1 dX13_take_139 (lv_at hl 5 rfl) ?_
                refine lv_iconst (v := 1) C.1.1 C.1.2.1 dX13_take_141 (by decide) ?_
                obtain ⟨M27, L28, h1, hD⟩ := g_b2 hD
                refine md_cvV (As := [.int v6, .int 1]) (rest := []) C hw (tX13_doActs l G ad fu k v6 1 M26 L24 h1 hk0) kc_13 (Mc_N0 hk0) (Mc_T0 hk0) wd_4095 cwX13_doActs ⟨Nat.le_of_ble_eq_true rfl, Nat.le_of_ble_eq_true rfl⟩ rfl hl.1 (Nat.le_of_ble_eq_true rfl) dX13_take_142 rfl rfl ⟨Nat.zero_le _, Nat.zero_le _⟩ rfl (fun H locs hw => ?_)
                exact hb145 v4 v5 v6 M27 L28 _ _ ls hD hw (lv_sub hl [0, 1, 2, 3, 4, 5] rfl)
      unfold fX13_take_i83 at hD
      refine lv_iload C.1.1 C.1.2.1 dX13_take_83 (lv_at hl 4 rfl) ?_
      refine lv_if_le (tgt := 157) C.1.1 C.1.2.1 dX13_take_85 (by decide) (fun c12 => ?_) (fun c12 => ?_)
      · replace hD := g_pos c12 hD
        refine lv_aload_n C.1.1 C.1.2.1 dX13_take_157 rfl (lv_at hl 0 rfl) ?_
        refine lv_iload_n C.1.1 C.1.2.1 dX13_take_158 rfl (lv_at hl 1 rfl) ?_
        refine lv_iconst (v := 2) C.1.1 C.1.2.1 dX13_take_159 (by decide) ?_
        obtain ⟨M13, L14, h1, hD⟩ := g_b2 hD
        refine md_cvV (As := [.int a1, .int 2]) (rest := []) C hw (tX13_doActs l G ad fu k a1 2 M L h1 hk0) kc_13 (Mc_N0 hk0) (Mc_T0 hk0) wd_4095 cwX13_doActs ⟨Nat.le_of_ble_eq_true rfl, Nat.le_of_ble_eq_true rfl⟩ rfl hl.1 (Nat.le_of_ble_eq_true rfl) dX13_take_160 rfl rfl ⟨Nat.zero_le _, Nat.zero_le _⟩ rfl (fun H locs hw => ?_)
        refine lv_aload_n C.1.1 C.1.2.1 dX13_take_163 rfl (lv_at hl 0 rfl) ?_
        refine lv_iload C.1.1 C.1.2.1 dX13_take_164 (lv_at hl 3 rfl) ?_
        refine lv_iload_n C.1.1 C.1.2.1 dX13_take_166 rfl (lv_at hl 1 rfl) ?_
        refine lv_lload_n C.1.1 C.1.2.1 dX13_take_167 rfl (lv_at hl 2 rfl) ?_
        obtain ⟨M15, L16, h1, hD⟩ := g_b2 hD
        refine md_cvV (As := [.int v4, .int a1, .long a2]) (rest := []) C hw (tX13_enter l G ad fu k v4 a1 a2 M13 L14 h1 hk0) kc_13 (Mc_N0 hk0) (Mc_T0 hk0) wd_4071 cwX13_enter ⟨Nat.le_of_ble_eq_true rfl, Nat.le_of_ble_eq_true rfl⟩ rfl hl.1 (Nat.le_of_ble_eq_true rfl) dX13_take_168 rfl rfl ⟨Nat.zero_le _, Nat.zero_le _⟩ rfl (fun H locs hw => ?_)
        exact mr_vret C hr hlocks hw (Option.some.inj hD) dX13_take_171
      · replace hD := g_neg c12 hD
        refine lv_iconst (v := 1) C.1.1 C.1.2.1 dX13_take_88 (by decide) ?_
        refine lv_istore (lv' := [(6, .int 1), (0, .ref (ad k)), (1, .int a1), (2, .long a2), (4, .int v4), (5, .int v5)]) C.1.1 C.1.2.1 dX13_take_89 hl (by decide) rfl (fun ls hl => ?_)
        exact hh91 fu v4 v5 1 M L _ _ ls hD hw (lv_sub hl [1, 2, 3, 4, 5, 0] rfl)
  have hh30 : ∀ (f : Nat) (v4 : Int32) (v5 : Int32) (M : mwM) (L : mwL) (H : Heap) (locs : List Loc) (ls : Array Slot), fX13_take_h30 fu k a1 a2 f (v4, v5, M, L) = some (M0, L0) → mw_W G ad NF TF FF M L H locs → lv_has ls 7 [(0, .ref (ad k)), (1, .int a1), (2, .long a2), (4, .int v4), (5, .int v5)] → W p l e ({ frames := 4, cells := 0, slots := 0, locals := 94 }) s m [.ref (ad k), .int a1, .long a2].toArray below meth c H locs 0 0 (MQ below (mw_Qv G ad NF TF FF (mw_eqV M0 L0)) [.ref (ad k), .int a1, .long a2].toArray s 0 0 (mw_fr G)) (F0 m 30 ls []) := by
    intro f
    induction f with
    | zero => intro v4 v5 M L H locs ls hD; cases hD
    | succ f30 ih30 =>
      intro v4 v5 M L H locs ls hD hw hl
      replace hD : fX13_take_i30 fu k a1 a2 (fX13_take_h30 fu k a1 a2 f30) v4 v5 M L = some (M0, L0) := hD
      have hb73 : ∀ (v4 : Int32) (v5 : Int32) (M : mwM) (L : mwL) (H : Heap) (locs : List Loc) (ls : Array Slot), fX13_take_b73 fu k a1 a2 (fX13_take_h30 fu k a1 a2 f30) v4 v5 M L = some (M0, L0) → mw_W G ad NF TF FF M L H locs → lv_has ls 7 [(0, .ref (ad k)), (1, .int a1), (2, .long a2), (4, .int v4), (5, .int v5)] → W p l e ({ frames := 4, cells := 0, slots := 0, locals := 94 }) s m [.ref (ad k), .int a1, .long a2].toArray below meth c H locs 0 0 (MQ below (mw_Qv G ad NF TF FF (mw_eqV M0 L0)) [.ref (ad k), .int a1, .long a2].toArray s 0 0 (mw_fr G)) (F0 m 73 ls []) := by
        intro v4 v5 M L H locs ls hD hw hl
        unfold fX13_take_b73 at hD
        obtain ⟨x11, ex11, hD⟩ := g_let hD
        refine lv_iinc (v := x11) (lv' := [(5, .int x11), (0, .ref (ad k)), (1, .int a1), (2, .long a2), (4, .int v4)]) C.1.1 C.1.2.1 dX13_take_73 hl (k := 4) rfl (by rw [ex11]; rfl) (by decide) rfl (fun ls hl => ?_)
        refine lv_goto (tgt := 30) C.1.1 C.1.2.1 dX13_take_76 (by decide) ?_
        exact ih30 v4 x11 M L _ _ ls hD hw (lv_sub hl [1, 2, 3, 4, 0] rfl)
      unfold fX13_take_i30 at hD
      refine lv_iload C.1.1 C.1.2.1 dX13_take_30 (lv_at hl 4 rfl) ?_
      refine lv_aload_n C.1.1 C.1.2.1 dX13_take_32 rfl (lv_at hl 0 rfl) ?_
      refine mr_getI C hw kc_13 2 (Mc_N0 hk0) (Mc_T0 hk0) wd_2644 dX13_take_33 (by decide) rfl ?_
      refine lv_icmp_gt (tgt := 79) C.1.1 C.1.2.1 dX13_take_36 (by decide) (fun c1 => ?_) (fun c1 => ?_)
      · replace hD := g_pos c1 hD
        refine lv_bipush (v := 41) C.1.1 C.1.2.1 dX13_take_79 (by decide) ?_
        refine lv_istore (lv' := [(5, .int 41), (0, .ref (ad k)), (1, .int a1), (2, .long a2), (4, .int v4)]) C.1.1 C.1.2.1 dX13_take_81 hl (by decide) rfl (fun ls hl => ?_)
        exact hh83 fu v4 41 M L _ _ ls hD hw (lv_sub hl [1, 2, 3, 4, 0] rfl)
      · replace hD := g_neg c1 hD
        refine lv_aload_n C.1.1 C.1.2.1 dX13_take_39 rfl (lv_at hl 0 rfl) ?_
        refine mr_getR C hw kc_13 38 (Mc_N0 hk0) (Mc_T0 hk0) (Mc_F0_38 hk0) wd_2680 dX13_take_40 (by decide) rfl ?_
        refine lv_iload C.1.1 C.1.2.1 dX13_take_43 (lv_at hl 4 rfl) ?_
        obtain ⟨q2, hD⟩ := g_ck hD
        refine mr_zald C hw (Mc_N26 hk0) (Mc_T26 hk0) q2 dX13_take_45 ?_
        refine lv_if_eq (tgt := 73) C.1.1 C.1.2.1 dX13_take_46 (by decide) (fun c3 => ?_) (fun c3 => ?_)
        · replace hD := g_pos c3 hD
          exact hb73 v4 v5 M L _ _ ls hD hw (lv_sub hl [0, 1, 2, 3, 4] rfl)
        · replace hD := g_neg c3 hD
          refine lv_aload_n C.1.1 C.1.2.1 dX13_take_49 rfl (lv_at hl 0 rfl) ?_
          refine mr_getR C hw kc_13 3 (Mc_N0 hk0) (Mc_T0 hk0) (Mc_F0_3 hk0) wd_2645 dX13_take_50 (by decide) rfl ?_
          refine lv_iload C.1.1 C.1.2.1 dX13_take_53 (lv_at hl 4 rfl) ?_
          obtain ⟨q4, hD⟩ := g_ck hD
          refine mr_iald C hw (Mc_N1 hk0) (Mc_T1 hk0) q4 dX13_take_55 ?_
          refine lv_if_ne (tgt := 73) C.1.1 C.1.2.1 dX13_take_56 (by decide) (fun c5 => ?_) (fun c5 => ?_)
          · replace hD := g_neg c5 hD
            exact hb73 v4 v5 M L _ _ ls hD hw (lv_sub hl [0, 1, 2, 3, 4] rfl)
          · replace hD := g_pos c5 hD
            refine lv_aload_n C.1.1 C.1.2.1 dX13_take_59 rfl (lv_at hl 0 rfl) ?_
            refine mr_getR C hw kc_13 6 (Mc_N0 hk0) (Mc_T0 hk0) (Mc_F0_6 hk0) wd_2648 dX13_take_60 (by decide) rfl ?_
            refine lv_iload C.1.1 C.1.2.1 dX13_take_63 (lv_at hl 4 rfl) ?_
            refine lv_aload_n C.1.1 C.1.2.1 dX13_take_65 rfl (lv_at hl 0 rfl) ?_
            refine lv_iload C.1.1 C.1.2.1 dX13_take_66 (lv_at hl 4 rfl) ?_
            refine lv_iconst (v := 1) C.1.1 C.1.2.1 dX13_take_68 (by decide) ?_
            obtain ⟨r8, M6, L7, h1, hD⟩ := g_b3 hD
            refine md_cvI (As := [.int v5, .int 1]) (rest := [.int v5, .ref (ad (k + 4))]) C hw (tX13_child l G ad fu k v5 1 M L h1 hk0) kc_13 (Mc_N0 hk0) (Mc_T0 hk0) wd_4067 cwX13_child ⟨Nat.le_of_ble_eq_true rfl, Nat.le_of_ble_eq_true rfl⟩ rfl hl.1 (Nat.le_of_ble_eq_true rfl) dX13_take_69 rfl rfl ⟨Nat.zero_le _, Nat.zero_le _⟩ rfl (fun H locs hw => ?_)
            obtain ⟨q9, hD⟩ := g_ck hD
            obtain ⟨M10, eM10, hD⟩ := g_let hD
            refine mr_iast C hw (Mc_N4 hk0) (Mc_T4 hk0) q9 dX13_take_72 (fun H locs hw => ?_)
            replace hw : mw_W G ad NF TF FF M10 L7 H locs := by rw [eM10]; exact hw
            exact hb73 v4 v5 M10 L7 _ _ ls hD hw (lv_sub hl [0, 1, 2, 3, 4] rfl)
  unfold DX13_take at hD
  refine lv_aload_n C.1.1 C.1.2.1 dX13_take_0 rfl (lv_at hl 0 rfl) ?_
  refine lv_iconst (v := 4) C.1.1 C.1.2.1 dX13_take_1 (by decide) ?_
  refine lv_iload_n C.1.1 C.1.2.1 dX13_take_2 rfl (lv_at hl 1 rfl) ?_
  refine lv_lconst (v := 0) C.1.1 C.1.2.1 dX13_take_3 (by decide) ?_
  obtain ⟨M30, L31, h1, hD⟩ := g_b2 hD
  refine md_cvV (As := [.int 4, .int a1, .long 0]) (rest := []) C hw (tX13_note l G ad fu k 4 a1 0 M L h1 hk0) kc_13 (Mc_N0 hk0) (Mc_T0 hk0) wd_4091 cwX13_note ⟨Nat.le_of_ble_eq_true rfl, Nat.le_of_ble_eq_true rfl⟩ rfl hl.1 (Nat.le_of_ble_eq_true rfl) dX13_take_4 rfl rfl ⟨Nat.zero_le _, Nat.zero_le _⟩ rfl (fun H locs hw => ?_)
  refine lv_aload_n C.1.1 C.1.2.1 dX13_take_7 rfl (lv_at hl 0 rfl) ?_
  refine mr_getR C hw kc_13 17 (Mc_N0 hk0) (Mc_T0 hk0) (Mc_F0_17 hk0) wd_2659 dX13_take_8 (by decide) rfl ?_
  refine lv_iload_n C.1.1 C.1.2.1 dX13_take_11 rfl (lv_at hl 1 rfl) ?_
  refine lv_iconst (v := 1) C.1.1 C.1.2.1 dX13_take_12 (by decide) ?_
  obtain ⟨q32, hD⟩ := g_ck hD
  obtain ⟨M33, eM33, hD⟩ := g_let hD
  refine mr_zast C hw (Mc_N14 hk0) (Mc_T14 hk0) q32 dX13_take_13 (fun H locs hw => ?_)
  replace hw : mw_W G ad NF TF FF M33 L31 H locs := by rw [eM33]; exact hw
  refine lv_aload_n C.1.1 C.1.2.1 dX13_take_14 rfl (lv_at hl 0 rfl) ?_
  refine lv_iload_n C.1.1 C.1.2.1 dX13_take_15 rfl (lv_at hl 1 rfl) ?_
  obtain ⟨r36, M34, L35, h1, hD⟩ := g_b3 hD
  refine md_cvI (As := [.int a1]) (rest := []) C hw (tX13_domain l G ad fu k a1 M33 L31 h1 hk0) kc_13 (Mc_N0 hk0) (Mc_T0 hk0) wd_4122 cwX13_domain ⟨Nat.le_of_ble_eq_true rfl, Nat.le_of_ble_eq_true rfl⟩ rfl hl.1 (Nat.le_of_ble_eq_true rfl) dX13_take_16 rfl rfl ⟨Nat.zero_le _, Nat.zero_le _⟩ rfl (fun H locs hw => ?_)
  refine lv_istore (lv' := [(4, .int r36), (0, .ref (ad k)), (1, .int a1), (2, .long a2)]) C.1.1 C.1.2.1 dX13_take_19 hl (by decide) rfl (fun ls hl => ?_)
  refine lv_aload_n C.1.1 C.1.2.1 dX13_take_21 rfl (lv_at hl 1 rfl) ?_
  refine lv_iload C.1.1 C.1.2.1 dX13_take_22 (lv_at hl 0 rfl) ?_
  obtain ⟨M37, L38, h1, hD⟩ := g_b2 hD
  refine md_cvV (As := [.int r36]) (rest := []) C hw (tX13_findExits l G ad fu k r36 M34 L35 h1 hk0) kc_13 (Mc_N0 hk0) (Mc_T0 hk0) wd_4130 cwX13_findExits ⟨Nat.le_of_ble_eq_true rfl, Nat.le_of_ble_eq_true rfl⟩ rfl hl.1 (Nat.le_of_ble_eq_true rfl) dX13_take_24 rfl rfl ⟨Nat.zero_le _, Nat.zero_le _⟩ rfl (fun H locs hw => ?_)
  refine lv_iconst (v := 1) C.1.1 C.1.2.1 dX13_take_27 (by decide) ?_
  refine lv_istore (lv' := [(5, .int 1), (4, .int r36), (0, .ref (ad k)), (1, .int a1), (2, .long a2)]) C.1.1 C.1.2.1 dX13_take_28 hl (by decide) rfl (fun ls hl => ?_)
  exact hh30 fu r36 1 M37 L38 _ _ ls hD hw (lv_sub hl [2, 3, 4, 1, 0] rfl)

theorem dX13_step_0 : decode cX13_step 0 = .ok (.iconst 0, 1) := by decide +kernel
theorem dX13_step_1 : decode cX13_step 1 = .ok (.istore_n 3, 1) := by decide +kernel
theorem dX13_step_2 : decode cX13_step 2 = .ok (.iload_n 3, 1) := by decide +kernel
theorem dX13_step_3 : decode cX13_step 3 = .ok (.aload_n 0, 1) := by decide +kernel
theorem dX13_step_4 : decode cX13_step 4 = .ok (.getfield 173, 3) := by decide +kernel
theorem dX13_step_7 : decode cX13_step 7 = .ok (.if_icmp .ge 20, 3) := by decide +kernel
theorem dX13_step_10 : decode cX13_step 10 = .ok (.aload_n 0, 1) := by decide +kernel
theorem dX13_step_11 : decode cX13_step 11 = .ok (.aload_n 0, 1) := by decide +kernel
theorem dX13_step_12 : decode cX13_step 12 = .ok (.getfield 81, 3) := by decide +kernel
theorem dX13_step_15 : decode cX13_step 15 = .ok (.iload_n 3, 1) := by decide +kernel
theorem dX13_step_16 : decode cX13_step 16 = .ok (.iaload, 1) := by decide +kernel
theorem dX13_step_17 : decode cX13_step 17 = .ok (.lload_n 1, 1) := by decide +kernel
theorem dX13_step_18 : decode cX13_step 18 = .ok (.invokevirtual 204, 3) := by decide +kernel
theorem dX13_step_21 : decode cX13_step 21 = .ok (.iinc 3 1, 3) := by decide +kernel
theorem dX13_step_24 : decode cX13_step 24 = .ok (.goto (-22), 3) := by decide +kernel
theorem dX13_step_27 : decode cX13_step 27 = .ok (.aload_n 0, 1) := by decide +kernel
theorem dX13_step_28 : decode cX13_step 28 = .ok (.getfield 173, 3) := by decide +kernel
theorem dX13_step_31 : decode cX13_step 31 = .ok (.ireturn, 1) := by decide +kernel
theorem cwX13_step : mw_cwV yX13_step cX13_step 4 ((some .int)) 1 := ⟨⟨wd_20, wd_4137, by decide +kernel⟩, wd_4136, sl_330⟩
set_option maxHeartbeats 4000000 in
set_option maxRecDepth 100000 in
theorem tX13_step (l : Launch) (G : mwG) (ad : Nat → Nat) (fu : Nat) (k : Nat) (a1 : Int64) (M : mwM) (L : mwL) {r0 : Int32} {M0 : mwM} {L0 : mwL} (hD : DX13_step fu k a1 M L = some (r0, M0, L0)) (hk0 : isMc k) : Met l yX13_step (Cond.code yX13_step cX13_step 4 ((some .int)) :: GT) ({ frames := 5, cells := 0, slots := 0, locals := 120 }) (mw_Pre G ad NF TF FF M L [.ref (ad k), .long a1]) (mw_Qi G ad NF TF FF (mw_eqI r0 M0 L0)) 0 0 (mw_fr G) := by
  refine mw_enter (by decide) (Nat.le_of_ble_eq_true rfl) ?_
  intro p e s m below meth c ls C hr hlocks hnm hw hl
  have hl : lv_has ls 4 [(0, .ref (ad k)), (1, .long a1)] := hl
  have hh2 : ∀ (f : Nat) (v3 : Int32) (M : mwM) (L : mwL) (H : Heap) (locs : List Loc) (ls : Array Slot), fX13_step_h2 fu k a1 f (v3, M, L) = some (r0, M0, L0) → mw_W G ad NF TF FF M L H locs → lv_has ls 4 [(0, .ref (ad k)), (1, .long a1), (3, .int v3)] → W p l e ({ frames := 5, cells := 0, slots := 0, locals := 120 }) s m [.ref (ad k), .long a1].toArray below meth c H locs 0 0 (MQ below (mw_Qi G ad NF TF FF (mw_eqI r0 M0 L0)) [.ref (ad k), .long a1].toArray s 0 0 (mw_fr G)) (F0 m 2 ls []) := by
    intro f
    induction f with
    | zero => intro v3 M L H locs ls hD; cases hD
    | succ f2 ih2 =>
      intro v3 M L H locs ls hD hw hl
      replace hD : fX13_step_i2 fu k a1 (fX13_step_h2 fu k a1 f2) v3 M L = some (r0, M0, L0) := hD
      unfold fX13_step_i2 at hD
      refine lv_iload_n C.1.1 C.1.2.1 dX13_step_2 rfl (lv_at hl 2 rfl) ?_
      refine lv_aload_n C.1.1 C.1.2.1 dX13_step_3 rfl (lv_at hl 0 rfl) ?_
      refine mr_getI C hw kc_13 35 (Mc_N0 hk0) (Mc_T0 hk0) wd_2677 dX13_step_4 (by decide) rfl ?_
      refine lv_icmp_ge (tgt := 27) C.1.1 C.1.2.1 dX13_step_7 (by decide) (fun c1 => ?_) (fun c1 => ?_)
      · replace hD := g_pos c1 hD
        refine lv_aload_n C.1.1 C.1.2.1 dX13_step_27 rfl (lv_at hl 0 rfl) ?_
        refine mr_getI C hw kc_13 35 (Mc_N0 hk0) (Mc_T0 hk0) wd_2677 dX13_step_28 (by decide) rfl ?_
        exact mr_iret C hr hlocks hw rfl (Option.some.inj hD) dX13_step_31
      · replace hD := g_neg c1 hD
        refine lv_aload_n C.1.1 C.1.2.1 dX13_step_10 rfl (lv_at hl 0 rfl) ?_
        refine lv_aload_n C.1.1 C.1.2.1 dX13_step_11 rfl (lv_at hl 0 rfl) ?_
        refine mr_getR C hw kc_13 36 (Mc_N0 hk0) (Mc_T0 hk0) (Mc_F0_36 hk0) wd_2678 dX13_step_12 (by decide) rfl ?_
        refine lv_iload_n C.1.1 C.1.2.1 dX13_step_15 rfl (lv_at hl 2 rfl) ?_
        obtain ⟨q2, hD⟩ := g_ck hD
        refine mr_iald C hw (Mc_N24 hk0) (Mc_T24 hk0) q2 dX13_step_16 ?_
        refine lv_lload_n C.1.1 C.1.2.1 dX13_step_17 rfl (lv_at hl 1 rfl) ?_
        obtain ⟨M3, L4, h1, hD⟩ := g_b2 hD
        refine md_cvV (As := [.int (M (k + 24) v3.toNatClampNeg), .long a1]) (rest := []) C hw (tX13_take l G ad fu k (M (k + 24) v3.toNatClampNeg) a1 M L h1 hk0) kc_13 (Mc_N0 hk0) (Mc_T0 hk0) wd_4138 cwX13_take ⟨Nat.le_of_ble_eq_true rfl, Nat.le_of_ble_eq_true rfl⟩ rfl hl.1 (Nat.le_of_ble_eq_true rfl) dX13_step_18 rfl rfl ⟨Nat.zero_le _, Nat.zero_le _⟩ rfl (fun H locs hw => ?_)
        obtain ⟨x5, ex5, hD⟩ := g_let hD
        refine lv_iinc (v := x5) (lv' := [(3, .int x5), (0, .ref (ad k)), (1, .long a1)]) C.1.1 C.1.2.1 dX13_step_21 hl (k := 2) rfl (by rw [ex5]; rfl) (by decide) rfl (fun ls hl => ?_)
        refine lv_goto (tgt := 2) C.1.1 C.1.2.1 dX13_step_24 (by decide) ?_
        exact ih2 x5 M3 L4 _ _ ls hD hw (lv_sub hl [1, 2, 0] rfl)
  unfold DX13_step at hD
  refine lv_iconst (v := 0) C.1.1 C.1.2.1 dX13_step_0 (by decide) ?_
  refine lv_istore_n (lv' := [(3, .int 0), (0, .ref (ad k)), (1, .long a1)]) C.1.1 C.1.2.1 dX13_step_1 rfl hl (by decide) rfl (fun ls hl => ?_)
  exact hh2 fu 0 M L _ _ ls hD hw (lv_sub hl [1, 2, 0] rfl)

theorem dX13_chain_0 : decode cX13_chain 0 = .ok (.iconst 0, 1) := by decide +kernel
theorem dX13_chain_1 : decode cX13_chain 1 = .ok (.istore_n 3, 1) := by decide +kernel
theorem dX13_chain_2 : decode cX13_chain 2 = .ok (.iconst 0, 1) := by decide +kernel
theorem dX13_chain_3 : decode cX13_chain 3 = .ok (.istore 4, 2) := by decide +kernel
theorem dX13_chain_5 : decode cX13_chain 5 = .ok (.aload_n 0, 1) := by decide +kernel
theorem dX13_chain_6 : decode cX13_chain 6 = .ok (.iconst 0, 1) := by decide +kernel
theorem dX13_chain_7 : decode cX13_chain 7 = .ok (.invokevirtual 208, 3) := by decide +kernel
theorem dX13_chain_10 : decode cX13_chain 10 = .ok (.ifCond .le 36, 3) := by decide +kernel
theorem dX13_chain_13 : decode cX13_chain 13 = .ok (.iload 4, 2) := by decide +kernel
theorem dX13_chain_15 : decode cX13_chain 15 = .ok (.aload_n 0, 1) := by decide +kernel
theorem dX13_chain_16 : decode cX13_chain 16 = .ok (.getfield 99, 3) := by decide +kernel
theorem dX13_chain_19 : decode cX13_chain 19 = .ok (.if_icmp .ne 13, 3) := by decide +kernel
theorem dX13_chain_22 : decode cX13_chain 22 = .ok (.aload_n 0, 1) := by decide +kernel
theorem dX13_chain_23 : decode cX13_chain 23 = .ok (.bipush 6, 2) := by decide +kernel
theorem dX13_chain_25 : decode cX13_chain 25 = .ok (.iconst 0, 1) := by decide +kernel
theorem dX13_chain_26 : decode cX13_chain 26 = .ok (.lconst 0, 1) := by decide +kernel
theorem dX13_chain_27 : decode cX13_chain 27 = .ok (.invokevirtual 144, 3) := by decide +kernel
theorem dX13_chain_30 : decode cX13_chain 30 = .ok (.iconst (-1), 1) := by decide +kernel
theorem dX13_chain_31 : decode cX13_chain 31 = .ok (.ireturn, 1) := by decide +kernel
theorem dX13_chain_32 : decode cX13_chain 32 = .ok (.iload_n 3, 1) := by decide +kernel
theorem dX13_chain_33 : decode cX13_chain 33 = .ok (.aload_n 0, 1) := by decide +kernel
theorem dX13_chain_34 : decode cX13_chain 34 = .ok (.lload_n 1, 1) := by decide +kernel
theorem dX13_chain_35 : decode cX13_chain 35 = .ok (.invokevirtual 211, 3) := by decide +kernel
theorem dX13_chain_38 : decode cX13_chain 38 = .ok (.iadd, 1) := by decide +kernel
theorem dX13_chain_39 : decode cX13_chain 39 = .ok (.istore_n 3, 1) := by decide +kernel
theorem dX13_chain_40 : decode cX13_chain 40 = .ok (.iinc 4 1, 3) := by decide +kernel
theorem dX13_chain_43 : decode cX13_chain 43 = .ok (.goto (-38), 3) := by decide +kernel
theorem dX13_chain_46 : decode cX13_chain 46 = .ok (.iload_n 3, 1) := by decide +kernel
theorem dX13_chain_47 : decode cX13_chain 47 = .ok (.ireturn, 1) := by decide +kernel
theorem cwX13_chain : mw_cwV yX13_chain cX13_chain 5 ((some .int)) 1 := ⟨⟨wd_20, wd_4102, by decide +kernel⟩, wd_4101, sl_322⟩
set_option maxHeartbeats 4000000 in
set_option maxRecDepth 100000 in
theorem tX13_chain (l : Launch) (G : mwG) (ad : Nat → Nat) (fu : Nat) (k : Nat) (a1 : Int64) (M : mwM) (L : mwL) {r0 : Int32} {M0 : mwM} {L0 : mwL} (hD : DX13_chain fu k a1 M L = some (r0, M0, L0)) (hk0 : isMc k) : Met l yX13_chain (Cond.code yX13_chain cX13_chain 5 ((some .int)) :: GT) ({ frames := 6, cells := 0, slots := 0, locals := 143 }) (mw_Pre G ad NF TF FF M L [.ref (ad k), .long a1]) (mw_Qi G ad NF TF FF (mw_eqI r0 M0 L0)) 0 0 (mw_fr G) := by
  refine mw_enter (by decide) (Nat.le_of_ble_eq_true rfl) ?_
  intro p e s m below meth c ls C hr hlocks hnm hw hl
  have hl : lv_has ls 5 [(0, .ref (ad k)), (1, .long a1)] := hl
  have hh5 : ∀ (f : Nat) (v3 : Int32) (v4 : Int32) (M : mwM) (L : mwL) (H : Heap) (locs : List Loc) (ls : Array Slot), fX13_chain_h5 fu k a1 f (v3, v4, M, L) = some (r0, M0, L0) → mw_W G ad NF TF FF M L H locs → lv_has ls 5 [(0, .ref (ad k)), (1, .long a1), (3, .int v3), (4, .int v4)] → W p l e ({ frames := 6, cells := 0, slots := 0, locals := 143 }) s m [.ref (ad k), .long a1].toArray below meth c H locs 0 0 (MQ below (mw_Qi G ad NF TF FF (mw_eqI r0 M0 L0)) [.ref (ad k), .long a1].toArray s 0 0 (mw_fr G)) (F0 m 5 ls []) := by
    intro f
    induction f with
    | zero => intro v3 v4 M L H locs ls hD; cases hD
    | succ f5 ih5 =>
      intro v3 v4 M L H locs ls hD hw hl
      replace hD : fX13_chain_i5 fu k a1 (fX13_chain_h5 fu k a1 f5) v3 v4 M L = some (r0, M0, L0) := hD
      unfold fX13_chain_i5 at hD
      refine lv_aload_n C.1.1 C.1.2.1 dX13_chain_5 rfl (lv_at hl 0 rfl) ?_
      refine lv_iconst (v := 0) C.1.1 C.1.2.1 dX13_chain_6 (by decide) ?_
      obtain ⟨r3, M1, L2, h1, hD⟩ := g_b3 hD
      refine md_cvI (As := [.int 0]) (rest := []) C hw (tX13_choose l G ad fu k 0 M L h1 hk0) kc_13 (Mc_N0 hk0) (Mc_T0 hk0) wd_4103 cwX13_choose ⟨Nat.le_of_ble_eq_true rfl, Nat.le_of_ble_eq_true rfl⟩ rfl hl.1 (Nat.le_of_ble_eq_true rfl) dX13_chain_7 rfl rfl ⟨Nat.zero_le _, Nat.zero_le _⟩ rfl (fun H locs hw => ?_)
      refine lv_if_le (tgt := 46) C.1.1 C.1.2.1 dX13_chain_10 (by decide) (fun c4 => ?_) (fun c4 => ?_)
      · replace hD := g_pos c4 hD
        refine lv_iload_n C.1.1 C.1.2.1 dX13_chain_46 rfl (lv_at hl 2 rfl) ?_
        exact mr_iret C hr hlocks hw rfl (Option.some.inj hD) dX13_chain_47
      · replace hD := g_neg c4 hD
        refine lv_iload C.1.1 C.1.2.1 dX13_chain_13 (lv_at hl 3 rfl) ?_
        refine lv_aload_n C.1.1 C.1.2.1 dX13_chain_15 rfl (lv_at hl 0 rfl) ?_
        refine mr_getI C hw kc_13 1 (Mc_N0 hk0) (Mc_T0 hk0) wd_2643 dX13_chain_16 (by decide) rfl ?_
        refine lv_icmp_ne (tgt := 32) C.1.1 C.1.2.1 dX13_chain_19 (by decide) (fun c5 => ?_) (fun c5 => ?_)
        · replace hD := g_neg c5 hD
          refine lv_iload_n C.1.1 C.1.2.1 dX13_chain_32 rfl (lv_at hl 2 rfl) ?_
          refine lv_aload_n C.1.1 C.1.2.1 dX13_chain_33 rfl (lv_at hl 0 rfl) ?_
          refine lv_lload_n C.1.1 C.1.2.1 dX13_chain_34 rfl (lv_at hl 1 rfl) ?_
          obtain ⟨r8, M6, L7, h1, hD⟩ := g_b3 hD
          refine md_cvI (As := [.long a1]) (rest := [.int v3]) C hw (tX13_step l G ad fu k a1 M1 L2 h1 hk0) kc_13 (Mc_N0 hk0) (Mc_T0 hk0) wd_4134 cwX13_step ⟨Nat.le_of_ble_eq_true rfl, Nat.le_of_ble_eq_true rfl⟩ rfl hl.1 (Nat.le_of_ble_eq_true rfl) dX13_chain_35 rfl rfl ⟨Nat.zero_le _, Nat.zero_le _⟩ rfl (fun H locs hw => ?_)
          refine lv_iadd C.1.1 C.1.2.1 dX13_chain_38 ?_
          obtain ⟨x9, ex9, hD⟩ := g_let hD
          refine W.eq (g2 := F0 m 39 ls (.int x9 :: [])) (by rw [ex9]) ?_
          refine lv_istore_n (lv' := [(3, .int x9), (0, .ref (ad k)), (1, .long a1), (4, .int v4)]) C.1.1 C.1.2.1 dX13_chain_39 rfl hl (by decide) rfl (fun ls hl => ?_)
          obtain ⟨x10, ex10, hD⟩ := g_let hD
          refine lv_iinc (v := x10) (lv' := [(4, .int x10), (3, .int x9), (0, .ref (ad k)), (1, .long a1)]) C.1.1 C.1.2.1 dX13_chain_40 hl (k := 3) rfl (by rw [ex10]; rfl) (by decide) rfl (fun ls hl => ?_)
          refine lv_goto (tgt := 5) C.1.1 C.1.2.1 dX13_chain_43 (by decide) ?_
          exact ih5 x9 x10 M6 L7 _ _ ls hD hw (lv_sub hl [2, 3, 1, 0] rfl)
        · replace hD := g_pos c5 hD
          refine lv_aload_n C.1.1 C.1.2.1 dX13_chain_22 rfl (lv_at hl 0 rfl) ?_
          refine lv_bipush (v := 6) C.1.1 C.1.2.1 dX13_chain_23 (by decide) ?_
          refine lv_iconst (v := 0) C.1.1 C.1.2.1 dX13_chain_25 (by decide) ?_
          refine lv_lconst (v := 0) C.1.1 C.1.2.1 dX13_chain_26 (by decide) ?_
          obtain ⟨M11, L12, h1, hD⟩ := g_b2 hD
          refine md_cvV (As := [.int 6, .int 0, .long 0]) (rest := []) C hw (tX13_note l G ad fu k 6 0 0 M1 L2 h1 hk0) kc_13 (Mc_N0 hk0) (Mc_T0 hk0) wd_4091 cwX13_note ⟨Nat.le_of_ble_eq_true rfl, Nat.le_of_ble_eq_true rfl⟩ rfl hl.1 (Nat.le_of_ble_eq_true rfl) dX13_chain_27 rfl rfl ⟨Nat.zero_le _, Nat.zero_le _⟩ rfl (fun H locs hw => ?_)
          refine lv_iconst (v := (-1)) C.1.1 C.1.2.1 dX13_chain_30 (by decide) ?_
          exact mr_iret C hr hlocks hw rfl (Option.some.inj hD) dX13_chain_31
  unfold DX13_chain at hD
  refine lv_iconst (v := 0) C.1.1 C.1.2.1 dX13_chain_0 (by decide) ?_
  refine lv_istore_n (lv' := [(3, .int 0), (0, .ref (ad k)), (1, .long a1)]) C.1.1 C.1.2.1 dX13_chain_1 rfl hl (by decide) rfl (fun ls hl => ?_)
  refine lv_iconst (v := 0) C.1.1 C.1.2.1 dX13_chain_2 (by decide) ?_
  refine lv_istore (lv' := [(4, .int 0), (3, .int 0), (0, .ref (ad k)), (1, .long a1)]) C.1.1 C.1.2.1 dX13_chain_3 hl (by decide) rfl (fun ls hl => ?_)
  exact hh5 fu 0 0 M L _ _ ls hD hw (lv_sub hl [2, 3, 1, 0] rfl)

theorem dX13_due_0 : decode cX13_due 0 = .ok (.iconst 0, 1) := by decide +kernel
theorem dX13_due_1 : decode cX13_due 1 = .ok (.istore_n 3, 1) := by decide +kernel
theorem dX13_due_2 : decode cX13_due 2 = .ok (.iconst 1, 1) := by decide +kernel
theorem dX13_due_3 : decode cX13_due 3 = .ok (.istore 4, 2) := by decide +kernel
theorem dX13_due_5 : decode cX13_due 5 = .ok (.iload 4, 2) := by decide +kernel
theorem dX13_due_7 : decode cX13_due 7 = .ok (.aload_n 0, 1) := by decide +kernel
theorem dX13_due_8 : decode cX13_due 8 = .ok (.getfield 103, 3) := by decide +kernel
theorem dX13_due_11 : decode cX13_due 11 = .ok (.if_icmp .gt 116, 3) := by decide +kernel
theorem dX13_due_14 : decode cX13_due 14 = .ok (.aload_n 0, 1) := by decide +kernel
theorem dX13_due_15 : decode cX13_due 15 = .ok (.getfield 36, 3) := by decide +kernel
theorem dX13_due_18 : decode cX13_due 18 = .ok (.iload 4, 2) := by decide +kernel
theorem dX13_due_20 : decode cX13_due 20 = .ok (.baload, 1) := by decide +kernel
theorem dX13_due_21 : decode cX13_due 21 = .ok (.ifCond .eq 49, 3) := by decide +kernel
theorem dX13_due_24 : decode cX13_due 24 = .ok (.aload_n 0, 1) := by decide +kernel
theorem dX13_due_25 : decode cX13_due 25 = .ok (.getfield 22, 3) := by decide +kernel
theorem dX13_due_28 : decode cX13_due 28 = .ok (.iload 4, 2) := by decide +kernel
theorem dX13_due_30 : decode cX13_due 30 = .ok (.laload, 1) := by decide +kernel
theorem dX13_due_31 : decode cX13_due 31 = .ok (.lconst 0, 1) := by decide +kernel
theorem dX13_due_32 : decode cX13_due 32 = .ok (.lcmp, 1) := by decide +kernel
theorem dX13_due_33 : decode cX13_due 33 = .ok (.ifCond .le 37, 3) := by decide +kernel
theorem dX13_due_36 : decode cX13_due 36 = .ok (.aload_n 0, 1) := by decide +kernel
theorem dX13_due_37 : decode cX13_due 37 = .ok (.getfield 29, 3) := by decide +kernel
theorem dX13_due_40 : decode cX13_due 40 = .ok (.iload 4, 2) := by decide +kernel
theorem dX13_due_42 : decode cX13_due 42 = .ok (.baload, 1) := by decide +kernel
theorem dX13_due_43 : decode cX13_due 43 = .ok (.ifCond .ne 27, 3) := by decide +kernel
theorem dX13_due_46 : decode cX13_due 46 = .ok (.aload_n 0, 1) := by decide +kernel
theorem dX13_due_47 : decode cX13_due 47 = .ok (.getfield 26, 3) := by decide +kernel
theorem dX13_due_50 : decode cX13_due 50 = .ok (.iload 4, 2) := by decide +kernel
theorem dX13_due_52 : decode cX13_due 52 = .ok (.laload, 1) := by decide +kernel
theorem dX13_due_53 : decode cX13_due 53 = .ok (.aload_n 0, 1) := by decide +kernel
theorem dX13_due_54 : decode cX13_due 54 = .ok (.getfield 22, 3) := by decide +kernel
theorem dX13_due_57 : decode cX13_due 57 = .ok (.iload 4, 2) := by decide +kernel
theorem dX13_due_59 : decode cX13_due 59 = .ok (.laload, 1) := by decide +kernel
theorem dX13_due_60 : decode cX13_due 60 = .ok (.ladd, 1) := by decide +kernel
theorem dX13_due_61 : decode cX13_due 61 = .ok (.lload_n 1, 1) := by decide +kernel
theorem dX13_due_62 : decode cX13_due 62 = .ok (.lcmp, 1) := by decide +kernel
theorem dX13_due_63 : decode cX13_due 63 = .ok (.ifCond .gt 7, 3) := by decide +kernel
theorem dX13_due_66 : decode cX13_due 66 = .ok (.iconst 1, 1) := by decide +kernel
theorem dX13_due_67 : decode cX13_due 67 = .ok (.goto 4, 3) := by decide +kernel
theorem dX13_due_70 : decode cX13_due 70 = .ok (.iconst 0, 1) := by decide +kernel
theorem dX13_due_71 : decode cX13_due 71 = .ok (.istore 5, 2) := by decide +kernel
theorem dX13_due_73 : decode cX13_due 73 = .ok (.iload 5, 2) := by decide +kernel
theorem dX13_due_75 : decode cX13_due 75 = .ok (.ifCond .eq 44, 3) := by decide +kernel
theorem dX13_due_78 : decode cX13_due 78 = .ok (.iload_n 3, 1) := by decide +kernel
theorem dX13_due_79 : decode cX13_due 79 = .ok (.ifCond .eq 35, 3) := by decide +kernel
theorem dX13_due_82 : decode cX13_due 82 = .ok (.aload_n 0, 1) := by decide +kernel
theorem dX13_due_83 : decode cX13_due 83 = .ok (.getfield 26, 3) := by decide +kernel
theorem dX13_due_86 : decode cX13_due 86 = .ok (.iload 4, 2) := by decide +kernel
theorem dX13_due_88 : decode cX13_due 88 = .ok (.laload, 1) := by decide +kernel
theorem dX13_due_89 : decode cX13_due 89 = .ok (.aload_n 0, 1) := by decide +kernel
theorem dX13_due_90 : decode cX13_due 90 = .ok (.getfield 22, 3) := by decide +kernel
theorem dX13_due_93 : decode cX13_due 93 = .ok (.iload 4, 2) := by decide +kernel
theorem dX13_due_95 : decode cX13_due 95 = .ok (.laload, 1) := by decide +kernel
theorem dX13_due_96 : decode cX13_due 96 = .ok (.ladd, 1) := by decide +kernel
theorem dX13_due_97 : decode cX13_due 97 = .ok (.aload_n 0, 1) := by decide +kernel
theorem dX13_due_98 : decode cX13_due 98 = .ok (.getfield 26, 3) := by decide +kernel
theorem dX13_due_101 : decode cX13_due 101 = .ok (.iload_n 3, 1) := by decide +kernel
theorem dX13_due_102 : decode cX13_due 102 = .ok (.laload, 1) := by decide +kernel
theorem dX13_due_103 : decode cX13_due 103 = .ok (.aload_n 0, 1) := by decide +kernel
theorem dX13_due_104 : decode cX13_due 104 = .ok (.getfield 22, 3) := by decide +kernel
theorem dX13_due_107 : decode cX13_due 107 = .ok (.iload_n 3, 1) := by decide +kernel
theorem dX13_due_108 : decode cX13_due 108 = .ok (.laload, 1) := by decide +kernel
theorem dX13_due_109 : decode cX13_due 109 = .ok (.ladd, 1) := by decide +kernel
theorem dX13_due_110 : decode cX13_due 110 = .ok (.lcmp, 1) := by decide +kernel
theorem dX13_due_111 : decode cX13_due 111 = .ok (.ifCond .ge 8, 3) := by decide +kernel
theorem dX13_due_114 : decode cX13_due 114 = .ok (.iload 4, 2) := by decide +kernel
theorem dX13_due_116 : decode cX13_due 116 = .ok (.goto 4, 3) := by decide +kernel
theorem dX13_due_119 : decode cX13_due 119 = .ok (.iload_n 3, 1) := by decide +kernel
theorem dX13_due_120 : decode cX13_due 120 = .ok (.istore_n 3, 1) := by decide +kernel
theorem dX13_due_121 : decode cX13_due 121 = .ok (.iinc 4 1, 3) := by decide +kernel
theorem dX13_due_124 : decode cX13_due 124 = .ok (.goto (-119), 3) := by decide +kernel
theorem dX13_due_127 : decode cX13_due 127 = .ok (.iload_n 3, 1) := by decide +kernel
theorem dX13_due_128 : decode cX13_due 128 = .ok (.ireturn, 1) := by decide +kernel
theorem cwX13_due : mw_cwV yX13_due cX13_due 6 ((some .int)) 1 := ⟨⟨wd_20, wd_4145, by decide +kernel⟩, wd_4144, sl_332⟩
set_option maxHeartbeats 4000000 in
set_option maxRecDepth 100000 in
theorem tX13_due (l : Launch) (G : mwG) (ad : Nat → Nat) (fu : Nat) (k : Nat) (a1 : Int64) (M : mwM) (L : mwL) {r0 : Int32} {M0 : mwM} {L0 : mwL} (hD : DX13_due fu k a1 M L = some (r0, M0, L0)) (hk0 : isMc k) : Met l yX13_due (Cond.code yX13_due cX13_due 6 ((some .int)) :: GT) ({ frames := 0, cells := 0, slots := 0, locals := 0 }) (mw_Pre G ad NF TF FF M L [.ref (ad k), .long a1]) (mw_Qi G ad NF TF FF (mw_eqI r0 M0 L0)) 0 0 (mw_fr G) := by
  refine mw_enter (by decide) (Nat.le_of_ble_eq_true rfl) ?_
  intro p e s m below meth c ls C hr hlocks hnm hw hl
  have hl : lv_has ls 6 [(0, .ref (ad k)), (1, .long a1)] := hl
  have hh5 : ∀ (f : Nat) (v3 : Int32) (v4 : Int32) (M : mwM) (L : mwL) (H : Heap) (locs : List Loc) (ls : Array Slot), fX13_due_h5 fu k a1 f (v3, v4, M, L) = some (r0, M0, L0) → mw_W G ad NF TF FF M L H locs → lv_has ls 6 [(0, .ref (ad k)), (1, .long a1), (3, .int v3), (4, .int v4)] → W p l e ({ frames := 0, cells := 0, slots := 0, locals := 0 }) s m [.ref (ad k), .long a1].toArray below meth c H locs 0 0 (MQ below (mw_Qi G ad NF TF FF (mw_eqI r0 M0 L0)) [.ref (ad k), .long a1].toArray s 0 0 (mw_fr G)) (F0 m 5 ls []) := by
    intro f
    induction f with
    | zero => intro v3 v4 M L H locs ls hD; cases hD
    | succ f5 ih5 =>
      intro v3 v4 M L H locs ls hD hw hl
      replace hD : fX13_due_i5 fu k a1 (fX13_due_h5 fu k a1 f5) v3 v4 M L = some (r0, M0, L0) := hD
      have hb120 : ∀ (v4 : Int32) (s0 : Int32) (M : mwM) (L : mwL) (H : Heap) (locs : List Loc) (ls : Array Slot), fX13_due_b120 fu k a1 (fX13_due_h5 fu k a1 f5) v4 s0 M L = some (r0, M0, L0) → mw_W G ad NF TF FF M L H locs → lv_has ls 6 [(0, .ref (ad k)), (1, .long a1), (4, .int v4)] → W p l e ({ frames := 0, cells := 0, slots := 0, locals := 0 }) s m [.ref (ad k), .long a1].toArray below meth c H locs 0 0 (MQ below (mw_Qi G ad NF TF FF (mw_eqI r0 M0 L0)) [.ref (ad k), .long a1].toArray s 0 0 (mw_fr G)) (F0 m 120 ls [.int s0]) := by
        intro v4 s0 M L H locs ls hD hw hl
        unfold fX13_due_b120 at hD
        refine lv_istore_n (lv' := [(3, .int s0), (0, .ref (ad k)), (1, .long a1), (4, .int v4)]) C.1.1 C.1.2.1 dX13_due_120 rfl hl (by decide) rfl (fun ls hl => ?_)
        obtain ⟨x18, ex18, hD⟩ := g_let hD
        refine lv_iinc (v := x18) (lv' := [(4, .int x18), (3, .int s0), (0, .ref (ad k)), (1, .long a1)]) C.1.1 C.1.2.1 dX13_due_121 hl (k := 3) rfl (by rw [ex18]; rfl) (by decide) rfl (fun ls hl => ?_)
        refine lv_goto (tgt := 5) C.1.1 C.1.2.1 dX13_due_124 (by decide) ?_
        exact ih5 s0 x18 M L _ _ ls hD hw (lv_sub hl [2, 3, 1, 0] rfl)
      have hb119 : ∀ (v3 : Int32) (v4 : Int32) (M : mwM) (L : mwL) (H : Heap) (locs : List Loc) (ls : Array Slot), fX13_due_b119 fu k a1 (fX13_due_h5 fu k a1 f5) v3 v4 M L = some (r0, M0, L0) → mw_W G ad NF TF FF M L H locs → lv_has ls 6 [(0, .ref (ad k)), (1, .long a1), (3, .int v3), (4, .int v4)] → W p l e ({ frames := 0, cells := 0, slots := 0, locals := 0 }) s m [.ref (ad k), .long a1].toArray below meth c H locs 0 0 (MQ below (mw_Qi G ad NF TF FF (mw_eqI r0 M0 L0)) [.ref (ad k), .long a1].toArray s 0 0 (mw_fr G)) (F0 m 119 ls []) := by
        intro v3 v4 M L H locs ls hD hw hl
        unfold fX13_due_b119 at hD
        refine lv_iload_n C.1.1 C.1.2.1 dX13_due_119 rfl (lv_at hl 2 rfl) ?_
        exact hb120 v4 v3 M L _ _ ls hD hw (lv_sub hl [0, 1, 3] rfl)
      have hb114 : ∀ (v4 : Int32) (M : mwM) (L : mwL) (H : Heap) (locs : List Loc) (ls : Array Slot), fX13_due_b114 fu k a1 (fX13_due_h5 fu k a1 f5) v4 M L = some (r0, M0, L0) → mw_W G ad NF TF FF M L H locs → lv_has ls 6 [(0, .ref (ad k)), (1, .long a1), (4, .int v4)] → W p l e ({ frames := 0, cells := 0, slots := 0, locals := 0 }) s m [.ref (ad k), .long a1].toArray below meth c H locs 0 0 (MQ below (mw_Qi G ad NF TF FF (mw_eqI r0 M0 L0)) [.ref (ad k), .long a1].toArray s 0 0 (mw_fr G)) (F0 m 114 ls []) := by
        intro v4 M L H locs ls hD hw hl
        unfold fX13_due_b114 at hD
        refine lv_iload C.1.1 C.1.2.1 dX13_due_114 (lv_at hl 2 rfl) ?_
        refine lv_goto (tgt := 120) C.1.1 C.1.2.1 dX13_due_116 (by decide) ?_
        exact hb120 v4 v4 M L _ _ ls hD hw (lv_sub hl [0, 1, 2] rfl)
      have hb71 : ∀ (v3 : Int32) (v4 : Int32) (s0 : Int32) (M : mwM) (L : mwL) (H : Heap) (locs : List Loc) (ls : Array Slot), fX13_due_b71 fu k a1 (fX13_due_h5 fu k a1 f5) v3 v4 s0 M L = some (r0, M0, L0) → mw_W G ad NF TF FF M L H locs → lv_has ls 6 [(0, .ref (ad k)), (1, .long a1), (3, .int v3), (4, .int v4)] → W p l e ({ frames := 0, cells := 0, slots := 0, locals := 0 }) s m [.ref (ad k), .long a1].toArray below meth c H locs 0 0 (MQ below (mw_Qi G ad NF TF FF (mw_eqI r0 M0 L0)) [.ref (ad k), .long a1].toArray s 0 0 (mw_fr G)) (F0 m 71 ls [.int s0]) := by
        intro v3 v4 s0 M L H locs ls hD hw hl
        unfold fX13_due_b71 at hD
        refine lv_istore (lv' := [(5, .int s0), (0, .ref (ad k)), (1, .long a1), (3, .int v3), (4, .int v4)]) C.1.1 C.1.2.1 dX13_due_71 hl (by decide) rfl (fun ls hl => ?_)
        refine lv_iload C.1.1 C.1.2.1 dX13_due_73 (lv_at hl 0 rfl) ?_
        refine lv_if_eq (tgt := 119) C.1.1 C.1.2.1 dX13_due_75 (by decide) (fun c11 => ?_) (fun c11 => ?_)
        · replace hD := g_pos c11 hD
          exact hb119 v3 v4 M L _ _ ls hD hw (lv_sub hl [1, 2, 3, 4] rfl)
        · replace hD := g_neg c11 hD
          refine lv_iload_n C.1.1 C.1.2.1 dX13_due_78 rfl (lv_at hl 3 rfl) ?_
          refine lv_if_eq (tgt := 114) C.1.1 C.1.2.1 dX13_due_79 (by decide) (fun c12 => ?_) (fun c12 => ?_)
          · replace hD := g_pos c12 hD
            exact hb114 v4 M L _ _ ls hD hw (lv_sub hl [1, 2, 4] rfl)
          · replace hD := g_neg c12 hD
            refine lv_aload_n C.1.1 C.1.2.1 dX13_due_82 rfl (lv_at hl 1 rfl) ?_
            refine mr_getR C hw kc_13 8 (Mc_N0 hk0) (Mc_T0 hk0) (Mc_F0_8 hk0) wd_2650 dX13_due_83 (by decide) rfl ?_
            refine lv_iload C.1.1 C.1.2.1 dX13_due_86 (lv_at hl 4 rfl) ?_
            obtain ⟨q13, hD⟩ := g_ck hD
            refine mr_lald C hw (Mc_N6 hk0) (Mc_T6 hk0) q13 dX13_due_88 ?_
            refine lv_aload_n C.1.1 C.1.2.1 dX13_due_89 rfl (lv_at hl 1 rfl) ?_
            refine mr_getR C hw kc_13 7 (Mc_N0 hk0) (Mc_T0 hk0) (Mc_F0_7 hk0) wd_2649 dX13_due_90 (by decide) rfl ?_
            refine lv_iload C.1.1 C.1.2.1 dX13_due_93 (lv_at hl 4 rfl) ?_
            obtain ⟨q14, hD⟩ := g_ck hD
            refine mr_lald C hw (Mc_N5 hk0) (Mc_T5 hk0) q14 dX13_due_95 ?_
            refine lv_ladd C.1.1 C.1.2.1 dX13_due_96 ?_
            refine lv_aload_n C.1.1 C.1.2.1 dX13_due_97 rfl (lv_at hl 1 rfl) ?_
            refine mr_getR C hw kc_13 8 (Mc_N0 hk0) (Mc_T0 hk0) (Mc_F0_8 hk0) wd_2650 dX13_due_98 (by decide) rfl ?_
            refine lv_iload_n C.1.1 C.1.2.1 dX13_due_101 rfl (lv_at hl 3 rfl) ?_
            obtain ⟨q15, hD⟩ := g_ck hD
            refine mr_lald C hw (Mc_N6 hk0) (Mc_T6 hk0) q15 dX13_due_102 ?_
            refine lv_aload_n C.1.1 C.1.2.1 dX13_due_103 rfl (lv_at hl 1 rfl) ?_
            refine mr_getR C hw kc_13 7 (Mc_N0 hk0) (Mc_T0 hk0) (Mc_F0_7 hk0) wd_2649 dX13_due_104 (by decide) rfl ?_
            refine lv_iload_n C.1.1 C.1.2.1 dX13_due_107 rfl (lv_at hl 3 rfl) ?_
            obtain ⟨q16, hD⟩ := g_ck hD
            refine mr_lald C hw (Mc_N5 hk0) (Mc_T5 hk0) q16 dX13_due_108 ?_
            refine lv_ladd C.1.1 C.1.2.1 dX13_due_109 ?_
            refine W.lcmp C.1.1 C.1.2.1 dX13_due_110 ?_
            refine lv_if_ge (tgt := 119) C.1.1 C.1.2.1 dX13_due_111 (by decide) (fun c17 => ?_) (fun c17 => ?_)
            · replace hD := g_pos c17 hD
              exact hb119 v3 v4 M L _ _ ls hD hw (lv_sub hl [1, 2, 3, 4] rfl)
            · replace hD := g_neg c17 hD
              exact hb114 v4 M L _ _ ls hD hw (lv_sub hl [1, 2, 4] rfl)
      have hb70 : ∀ (v3 : Int32) (v4 : Int32) (M : mwM) (L : mwL) (H : Heap) (locs : List Loc) (ls : Array Slot), fX13_due_b70 fu k a1 (fX13_due_h5 fu k a1 f5) v3 v4 M L = some (r0, M0, L0) → mw_W G ad NF TF FF M L H locs → lv_has ls 6 [(0, .ref (ad k)), (1, .long a1), (3, .int v3), (4, .int v4)] → W p l e ({ frames := 0, cells := 0, slots := 0, locals := 0 }) s m [.ref (ad k), .long a1].toArray below meth c H locs 0 0 (MQ below (mw_Qi G ad NF TF FF (mw_eqI r0 M0 L0)) [.ref (ad k), .long a1].toArray s 0 0 (mw_fr G)) (F0 m 70 ls []) := by
        intro v3 v4 M L H locs ls hD hw hl
        unfold fX13_due_b70 at hD
        refine lv_iconst (v := 0) C.1.1 C.1.2.1 dX13_due_70 (by decide) ?_
        exact hb71 v3 v4 0 M L _ _ ls hD hw (lv_sub hl [0, 1, 2, 3] rfl)
      unfold fX13_due_i5 at hD
      refine lv_iload C.1.1 C.1.2.1 dX13_due_5 (lv_at hl 3 rfl) ?_
      refine lv_aload_n C.1.1 C.1.2.1 dX13_due_7 rfl (lv_at hl 0 rfl) ?_
      refine mr_getI C hw kc_13 2 (Mc_N0 hk0) (Mc_T0 hk0) wd_2644 dX13_due_8 (by decide) rfl ?_
      refine lv_icmp_gt (tgt := 127) C.1.1 C.1.2.1 dX13_due_11 (by decide) (fun c1 => ?_) (fun c1 => ?_)
      · replace hD := g_pos c1 hD
        refine lv_iload_n C.1.1 C.1.2.1 dX13_due_127 rfl (lv_at hl 2 rfl) ?_
        exact mr_iret C hr hlocks hw rfl (Option.some.inj hD) dX13_due_128
      · replace hD := g_neg c1 hD
        refine lv_aload_n C.1.1 C.1.2.1 dX13_due_14 rfl (lv_at hl 0 rfl) ?_
        refine mr_getR C hw kc_13 11 (Mc_N0 hk0) (Mc_T0 hk0) (Mc_F0_11 hk0) wd_2653 dX13_due_15 (by decide) rfl ?_
        refine lv_iload C.1.1 C.1.2.1 dX13_due_18 (lv_at hl 3 rfl) ?_
        obtain ⟨q2, hD⟩ := g_ck hD
        refine mr_zald C hw (Mc_N9 hk0) (Mc_T9 hk0) q2 dX13_due_20 ?_
        refine lv_if_eq (tgt := 70) C.1.1 C.1.2.1 dX13_due_21 (by decide) (fun c3 => ?_) (fun c3 => ?_)
        · replace hD := g_pos c3 hD
          exact hb70 v3 v4 M L _ _ ls hD hw (lv_sub hl [0, 1, 2, 3] rfl)
        · replace hD := g_neg c3 hD
          refine lv_aload_n C.1.1 C.1.2.1 dX13_due_24 rfl (lv_at hl 0 rfl) ?_
          refine mr_getR C hw kc_13 7 (Mc_N0 hk0) (Mc_T0 hk0) (Mc_F0_7 hk0) wd_2649 dX13_due_25 (by decide) rfl ?_
          refine lv_iload C.1.1 C.1.2.1 dX13_due_28 (lv_at hl 3 rfl) ?_
          obtain ⟨q4, hD⟩ := g_ck hD
          refine mr_lald C hw (Mc_N5 hk0) (Mc_T5 hk0) q4 dX13_due_30 ?_
          refine lv_lconst (v := 0) C.1.1 C.1.2.1 dX13_due_31 (by decide) ?_
          refine W.lcmp C.1.1 C.1.2.1 dX13_due_32 ?_
          refine lv_if_le (tgt := 70) C.1.1 C.1.2.1 dX13_due_33 (by decide) (fun c5 => ?_) (fun c5 => ?_)
          · replace hD := g_pos c5 hD
            exact hb70 v3 v4 M L _ _ ls hD hw (lv_sub hl [0, 1, 2, 3] rfl)
          · replace hD := g_neg c5 hD
            refine lv_aload_n C.1.1 C.1.2.1 dX13_due_36 rfl (lv_at hl 0 rfl) ?_
            refine mr_getR C hw kc_13 9 (Mc_N0 hk0) (Mc_T0 hk0) (Mc_F0_9 hk0) wd_2651 dX13_due_37 (by decide) rfl ?_
            refine lv_iload C.1.1 C.1.2.1 dX13_due_40 (lv_at hl 3 rfl) ?_
            obtain ⟨q6, hD⟩ := g_ck hD
            refine mr_zald C hw (Mc_N7 hk0) (Mc_T7 hk0) q6 dX13_due_42 ?_
            refine lv_if_ne (tgt := 70) C.1.1 C.1.2.1 dX13_due_43 (by decide) (fun c7 => ?_) (fun c7 => ?_)
            · replace hD := g_neg c7 hD
              exact hb70 v3 v4 M L _ _ ls hD hw (lv_sub hl [0, 1, 2, 3] rfl)
            · replace hD := g_pos c7 hD
              refine lv_aload_n C.1.1 C.1.2.1 dX13_due_46 rfl (lv_at hl 0 rfl) ?_
              refine mr_getR C hw kc_13 8 (Mc_N0 hk0) (Mc_T0 hk0) (Mc_F0_8 hk0) wd_2650 dX13_due_47 (by decide) rfl ?_
              refine lv_iload C.1.1 C.1.2.1 dX13_due_50 (lv_at hl 3 rfl) ?_
              obtain ⟨q8, hD⟩ := g_ck hD
              refine mr_lald C hw (Mc_N6 hk0) (Mc_T6 hk0) q8 dX13_due_52 ?_
              refine lv_aload_n C.1.1 C.1.2.1 dX13_due_53 rfl (lv_at hl 0 rfl) ?_
              refine mr_getR C hw kc_13 7 (Mc_N0 hk0) (Mc_T0 hk0) (Mc_F0_7 hk0) wd_2649 dX13_due_54 (by decide) rfl ?_
              refine lv_iload C.1.1 C.1.2.1 dX13_due_57 (lv_at hl 3 rfl) ?_
              obtain ⟨q9, hD⟩ := g_ck hD
              refine mr_lald C hw (Mc_N5 hk0) (Mc_T5 hk0) q9 dX13_due_59 ?_
              refine lv_ladd C.1.1 C.1.2.1 dX13_due_60 ?_
              refine lv_lload_n C.1.1 C.1.2.1 dX13_due_61 rfl (lv_at hl 1 rfl) ?_
              refine W.lcmp C.1.1 C.1.2.1 dX13_due_62 ?_
              refine lv_if_gt (tgt := 70) C.1.1 C.1.2.1 dX13_due_63 (by decide) (fun c10 => ?_) (fun c10 => ?_)
              · replace hD := g_pos c10 hD
                exact hb70 v3 v4 M L _ _ ls hD hw (lv_sub hl [0, 1, 2, 3] rfl)
              · replace hD := g_neg c10 hD
                refine lv_iconst (v := 1) C.1.1 C.1.2.1 dX13_due_66 (by decide) ?_
                refine lv_goto (tgt := 71) C.1.1 C.1.2.1 dX13_due_67 (by decide) ?_
                exact hb71 v3 v4 1 M L _ _ ls hD hw (lv_sub hl [0, 1, 2, 3] rfl)
  unfold DX13_due at hD
  refine lv_iconst (v := 0) C.1.1 C.1.2.1 dX13_due_0 (by decide) ?_
  refine lv_istore_n (lv' := [(3, .int 0), (0, .ref (ad k)), (1, .long a1)]) C.1.1 C.1.2.1 dX13_due_1 rfl hl (by decide) rfl (fun ls hl => ?_)
  refine lv_iconst (v := 1) C.1.1 C.1.2.1 dX13_due_2 (by decide) ?_
  refine lv_istore (lv' := [(4, .int 1), (3, .int 0), (0, .ref (ad k)), (1, .long a1)]) C.1.1 C.1.2.1 dX13_due_3 hl (by decide) rfl (fun ls hl => ?_)
  exact hh5 fu 0 1 M L _ _ ls hD hw (lv_sub hl [2, 3, 1, 0] rfl)

theorem dX13_event_0 : decode cX13_event 0 = .ok (.aload_n 0, 1) := by decide +kernel
theorem dX13_event_1 : decode cX13_event 1 = .ok (.iconst 0, 1) := by decide +kernel
theorem dX13_event_2 : decode cX13_event 2 = .ok (.putfield 132, 3) := by decide +kernel
theorem dX13_event_5 : decode cX13_event 5 = .ok (.iload_n 1, 1) := by decide +kernel
theorem dX13_event_6 : decode cX13_event 6 = .ok (.ifCond .lt 33, 3) := by decide +kernel
theorem dX13_event_9 : decode cX13_event 9 = .ok (.iload_n 1, 1) := by decide +kernel
theorem dX13_event_10 : decode cX13_event 10 = .ok (.sipush 999, 3) := by decide +kernel
theorem dX13_event_13 : decode cX13_event 13 = .ok (.if_icmp .gt 26, 3) := by decide +kernel
theorem dX13_event_16 : decode cX13_event 16 = .ok (.lload_n 2, 1) := by decide +kernel
theorem dX13_event_17 : decode cX13_event 17 = .ok (.aload_n 0, 1) := by decide +kernel
theorem dX13_event_18 : decode cX13_event 18 = .ok (.getfield 119, 3) := by decide +kernel
theorem dX13_event_21 : decode cX13_event 21 = .ok (.lcmp, 1) := by decide +kernel
theorem dX13_event_22 : decode cX13_event 22 = .ok (.ifCond .lt 17, 3) := by decide +kernel
theorem dX13_event_25 : decode cX13_event 25 = .ok (.lload_n 2, 1) := by decide +kernel
theorem dX13_event_26 : decode cX13_event 26 = .ok (.lconst 0, 1) := by decide +kernel
theorem dX13_event_27 : decode cX13_event 27 = .ok (.lcmp, 1) := by decide +kernel
theorem dX13_event_28 : decode cX13_event 28 = .ok (.ifCond .lt 11, 3) := by decide +kernel
theorem dX13_event_31 : decode cX13_event 31 = .ok (.lload_n 2, 1) := by decide +kernel
theorem dX13_event_32 : decode cX13_event 32 = .ok (.ldc2_w 215, 3) := by decide +kernel
theorem dX13_event_35 : decode cX13_event 35 = .ok (.lcmp, 1) := by decide +kernel
theorem dX13_event_36 : decode cX13_event 36 = .ok (.ifCond .le 6, 3) := by decide +kernel
theorem dX13_event_39 : decode cX13_event 39 = .ok (.bipush (-2), 2) := by decide +kernel
theorem dX13_event_41 : decode cX13_event 41 = .ok (.ireturn, 1) := by decide +kernel
theorem dX13_event_42 : decode cX13_event 42 = .ok (.aload_n 0, 1) := by decide +kernel
theorem dX13_event_43 : decode cX13_event 43 = .ok (.iconst 0, 1) := by decide +kernel
theorem dX13_event_44 : decode cX13_event 44 = .ok (.iconst 0, 1) := by decide +kernel
theorem dX13_event_45 : decode cX13_event 45 = .ok (.invokevirtual 184, 3) := by decide +kernel
theorem dX13_event_48 : decode cX13_event 48 = .ok (.ifCond .ne 6, 3) := by decide +kernel
theorem dX13_event_51 : decode cX13_event 51 = .ok (.bipush (-3), 2) := by decide +kernel
theorem dX13_event_53 : decode cX13_event 53 = .ok (.ireturn, 1) := by decide +kernel
theorem dX13_event_54 : decode cX13_event 54 = .ok (.aload_n 0, 1) := by decide +kernel
theorem dX13_event_55 : decode cX13_event 55 = .ok (.iconst 0, 1) := by decide +kernel
theorem dX13_event_56 : decode cX13_event 56 = .ok (.putfield 129, 3) := by decide +kernel
theorem dX13_event_59 : decode cX13_event 59 = .ok (.aload_n 0, 1) := by decide +kernel
theorem dX13_event_60 : decode cX13_event 60 = .ok (.lload_n 2, 1) := by decide +kernel
theorem dX13_event_61 : decode cX13_event 61 = .ok (.putfield 119, 3) := by decide +kernel
theorem dX13_event_64 : decode cX13_event 64 = .ok (.iconst 0, 1) := by decide +kernel
theorem dX13_event_65 : decode cX13_event 65 = .ok (.istore 4, 2) := by decide +kernel
theorem dX13_event_67 : decode cX13_event 67 = .ok (.aload_n 0, 1) := by decide +kernel
theorem dX13_event_68 : decode cX13_event 68 = .ok (.getfield 115, 3) := by decide +kernel
theorem dX13_event_71 : decode cX13_event 71 = .ok (.ifCond .ne 36, 3) := by decide +kernel
theorem dX13_event_74 : decode cX13_event 74 = .ok (.aload_n 0, 1) := by decide +kernel
theorem dX13_event_75 : decode cX13_event 75 = .ok (.iconst 1, 1) := by decide +kernel
theorem dX13_event_76 : decode cX13_event 76 = .ok (.putfield 115, 3) := by decide +kernel
theorem dX13_event_79 : decode cX13_event 79 = .ok (.aload_n 0, 1) := by decide +kernel
theorem dX13_event_80 : decode cX13_event 80 = .ok (.getfield 36, 3) := by decide +kernel
theorem dX13_event_83 : decode cX13_event 83 = .ok (.iconst 0, 1) := by decide +kernel
theorem dX13_event_84 : decode cX13_event 84 = .ok (.iconst 1, 1) := by decide +kernel
theorem dX13_event_85 : decode cX13_event 85 = .ok (.bastore, 1) := by decide +kernel
theorem dX13_event_86 : decode cX13_event 86 = .ok (.aload_n 0, 1) := by decide +kernel
theorem dX13_event_87 : decode cX13_event 87 = .ok (.iconst 0, 1) := by decide +kernel
theorem dX13_event_88 : decode cX13_event 88 = .ok (.iconst 0, 1) := by decide +kernel
theorem dX13_event_89 : decode cX13_event 89 = .ok (.lload_n 2, 1) := by decide +kernel
theorem dX13_event_90 : decode cX13_event 90 = .ok (.invokevirtual 192, 3) := by decide +kernel
theorem dX13_event_93 : decode cX13_event 93 = .ok (.aload_n 0, 1) := by decide +kernel
theorem dX13_event_94 : decode cX13_event 94 = .ok (.lload_n 2, 1) := by decide +kernel
theorem dX13_event_95 : decode cX13_event 95 = .ok (.invokevirtual 217, 3) := by decide +kernel
theorem dX13_event_98 : decode cX13_event 98 = .ok (.istore 4, 2) := by decide +kernel
theorem dX13_event_100 : decode cX13_event 100 = .ok (.iload 4, 2) := by decide +kernel
theorem dX13_event_102 : decode cX13_event 102 = .ok (.ifCond .ge 5, 3) := by decide +kernel
theorem dX13_event_105 : decode cX13_event 105 = .ok (.iconst (-1), 1) := by decide +kernel
theorem dX13_event_106 : decode cX13_event 106 = .ok (.ireturn, 1) := by decide +kernel
theorem dX13_event_107 : decode cX13_event 107 = .ok (.aload_n 0, 1) := by decide +kernel
theorem dX13_event_108 : decode cX13_event 108 = .ok (.lload_n 2, 1) := by decide +kernel
theorem dX13_event_109 : decode cX13_event 109 = .ok (.invokevirtual 220, 3) := by decide +kernel
theorem dX13_event_112 : decode cX13_event 112 = .ok (.istore 5, 2) := by decide +kernel
theorem dX13_event_114 : decode cX13_event 114 = .ok (.iconst 0, 1) := by decide +kernel
theorem dX13_event_115 : decode cX13_event 115 = .ok (.istore 6, 2) := by decide +kernel
theorem dX13_event_117 : decode cX13_event 117 = .ok (.iload 5, 2) := by decide +kernel
theorem dX13_event_119 : decode cX13_event 119 = .ok (.ifCond .le 104, 3) := by decide +kernel
theorem dX13_event_122 : decode cX13_event 122 = .ok (.iload 6, 2) := by decide +kernel
theorem dX13_event_124 : decode cX13_event 124 = .ok (.sipush 1000, 3) := by decide +kernel
theorem dX13_event_127 : decode cX13_event 127 = .ok (.if_icmp .ne 13, 3) := by decide +kernel
theorem dX13_event_130 : decode cX13_event 130 = .ok (.aload_n 0, 1) := by decide +kernel
theorem dX13_event_131 : decode cX13_event 131 = .ok (.bipush 6, 2) := by decide +kernel
theorem dX13_event_133 : decode cX13_event 133 = .ok (.iconst 0, 1) := by decide +kernel
theorem dX13_event_134 : decode cX13_event 134 = .ok (.lconst 0, 1) := by decide +kernel
theorem dX13_event_135 : decode cX13_event 135 = .ok (.invokevirtual 144, 3) := by decide +kernel
theorem dX13_event_138 : decode cX13_event 138 = .ok (.iconst (-1), 1) := by decide +kernel
theorem dX13_event_139 : decode cX13_event 139 = .ok (.ireturn, 1) := by decide +kernel
theorem dX13_event_140 : decode cX13_event 140 = .ok (.iinc 6 1, 3) := by decide +kernel
theorem dX13_event_143 : decode cX13_event 143 = .ok (.aload_n 0, 1) := by decide +kernel
theorem dX13_event_144 : decode cX13_event 144 = .ok (.getfield 29, 3) := by decide +kernel
theorem dX13_event_147 : decode cX13_event 147 = .ok (.iload 5, 2) := by decide +kernel
theorem dX13_event_149 : decode cX13_event 149 = .ok (.iconst 1, 1) := by decide +kernel
theorem dX13_event_150 : decode cX13_event 150 = .ok (.bastore, 1) := by decide +kernel
theorem dX13_event_151 : decode cX13_event 151 = .ok (.aload_n 0, 1) := by decide +kernel
theorem dX13_event_152 : decode cX13_event 152 = .ok (.getfield 26, 3) := by decide +kernel
theorem dX13_event_155 : decode cX13_event 155 = .ok (.iload 5, 2) := by decide +kernel
theorem dX13_event_157 : decode cX13_event 157 = .ok (.laload, 1) := by decide +kernel
theorem dX13_event_158 : decode cX13_event 158 = .ok (.aload_n 0, 1) := by decide +kernel
theorem dX13_event_159 : decode cX13_event 159 = .ok (.getfield 22, 3) := by decide +kernel
theorem dX13_event_162 : decode cX13_event 162 = .ok (.iload 5, 2) := by decide +kernel
theorem dX13_event_164 : decode cX13_event 164 = .ok (.laload, 1) := by decide +kernel
theorem dX13_event_165 : decode cX13_event 165 = .ok (.ladd, 1) := by decide +kernel
theorem dX13_event_166 : decode cX13_event 166 = .ok (.lstore 7, 2) := by decide +kernel
theorem dX13_event_168 : decode cX13_event 168 = .ok (.aload_n 0, 1) := by decide +kernel
theorem dX13_event_169 : decode cX13_event 169 = .ok (.sipush 1000, 3) := by decide +kernel
theorem dX13_event_172 : decode cX13_event 172 = .ok (.iload 5, 2) := by decide +kernel
theorem dX13_event_174 : decode cX13_event 174 = .ok (.iadd, 1) := by decide +kernel
theorem dX13_event_175 : decode cX13_event 175 = .ok (.invokevirtual 208, 3) := by decide +kernel
theorem dX13_event_178 : decode cX13_event 178 = .ok (.istore 9, 2) := by decide +kernel
theorem dX13_event_180 : decode cX13_event 180 = .ok (.iload 4, 2) := by decide +kernel
theorem dX13_event_182 : decode cX13_event 182 = .ok (.aload_n 0, 1) := by decide +kernel
theorem dX13_event_183 : decode cX13_event 183 = .ok (.lload 7, 2) := by decide +kernel
theorem dX13_event_185 : decode cX13_event 185 = .ok (.invokevirtual 211, 3) := by decide +kernel
theorem dX13_event_188 : decode cX13_event 188 = .ok (.iadd, 1) := by decide +kernel
theorem dX13_event_189 : decode cX13_event 189 = .ok (.istore 4, 2) := by decide +kernel
theorem dX13_event_191 : decode cX13_event 191 = .ok (.aload_n 0, 1) := by decide +kernel
theorem dX13_event_192 : decode cX13_event 192 = .ok (.lload 7, 2) := by decide +kernel
theorem dX13_event_194 : decode cX13_event 194 = .ok (.invokevirtual 217, 3) := by decide +kernel
theorem dX13_event_197 : decode cX13_event 197 = .ok (.istore 9, 2) := by decide +kernel
theorem dX13_event_199 : decode cX13_event 199 = .ok (.iload 9, 2) := by decide +kernel
theorem dX13_event_201 : decode cX13_event 201 = .ok (.ifCond .ge 5, 3) := by decide +kernel
theorem dX13_event_204 : decode cX13_event 204 = .ok (.iconst (-1), 1) := by decide +kernel
theorem dX13_event_205 : decode cX13_event 205 = .ok (.ireturn, 1) := by decide +kernel
theorem dX13_event_206 : decode cX13_event 206 = .ok (.iload 4, 2) := by decide +kernel
theorem dX13_event_208 : decode cX13_event 208 = .ok (.iload 9, 2) := by decide +kernel
theorem dX13_event_210 : decode cX13_event 210 = .ok (.iadd, 1) := by decide +kernel
theorem dX13_event_211 : decode cX13_event 211 = .ok (.istore 4, 2) := by decide +kernel
theorem dX13_event_213 : decode cX13_event 213 = .ok (.aload_n 0, 1) := by decide +kernel
theorem dX13_event_214 : decode cX13_event 214 = .ok (.lload_n 2, 1) := by decide +kernel
theorem dX13_event_215 : decode cX13_event 215 = .ok (.invokevirtual 220, 3) := by decide +kernel
theorem dX13_event_218 : decode cX13_event 218 = .ok (.istore 5, 2) := by decide +kernel
theorem dX13_event_220 : decode cX13_event 220 = .ok (.goto (-103), 3) := by decide +kernel
theorem dX13_event_223 : decode cX13_event 223 = .ok (.iload_n 1, 1) := by decide +kernel
theorem dX13_event_224 : decode cX13_event 224 = .ok (.ifCond .ne 6, 3) := by decide +kernel
theorem dX13_event_227 : decode cX13_event 227 = .ok (.iload 4, 2) := by decide +kernel
theorem dX13_event_229 : decode cX13_event 229 = .ok (.ireturn, 1) := by decide +kernel
theorem dX13_event_230 : decode cX13_event 230 = .ok (.aload_n 0, 1) := by decide +kernel
theorem dX13_event_231 : decode cX13_event 231 = .ok (.iload_n 1, 1) := by decide +kernel
theorem dX13_event_232 : decode cX13_event 232 = .ok (.invokevirtual 208, 3) := by decide +kernel
theorem dX13_event_235 : decode cX13_event 235 = .ok (.istore 7, 2) := by decide +kernel
theorem dX13_event_237 : decode cX13_event 237 = .ok (.aload_n 0, 1) := by decide +kernel
theorem dX13_event_238 : decode cX13_event 238 = .ok (.iload 7, 2) := by decide +kernel
theorem dX13_event_240 : decode cX13_event 240 = .ok (.ifCond .ne 12, 3) := by decide +kernel
theorem dX13_event_243 : decode cX13_event 243 = .ok (.aload_n 0, 1) := by decide +kernel
theorem dX13_event_244 : decode cX13_event 244 = .ok (.getfield 123, 3) := by decide +kernel
theorem dX13_event_247 : decode cX13_event 247 = .ok (.iconst 1, 1) := by decide +kernel
theorem dX13_event_248 : decode cX13_event 248 = .ok (.iadd, 1) := by decide +kernel
theorem dX13_event_249 : decode cX13_event 249 = .ok (.goto 7, 3) := by decide +kernel
theorem dX13_event_252 : decode cX13_event 252 = .ok (.aload_n 0, 1) := by decide +kernel
theorem dX13_event_253 : decode cX13_event 253 = .ok (.getfield 123, 3) := by decide +kernel
theorem dX13_event_256 : decode cX13_event 256 = .ok (.putfield 123, 3) := by decide +kernel
theorem dX13_event_259 : decode cX13_event 259 = .ok (.iload 4, 2) := by decide +kernel
theorem dX13_event_261 : decode cX13_event 261 = .ok (.aload_n 0, 1) := by decide +kernel
theorem dX13_event_262 : decode cX13_event 262 = .ok (.lload_n 2, 1) := by decide +kernel
theorem dX13_event_263 : decode cX13_event 263 = .ok (.invokevirtual 211, 3) := by decide +kernel
theorem dX13_event_266 : decode cX13_event 266 = .ok (.iadd, 1) := by decide +kernel
theorem dX13_event_267 : decode cX13_event 267 = .ok (.istore 4, 2) := by decide +kernel
theorem dX13_event_269 : decode cX13_event 269 = .ok (.aload_n 0, 1) := by decide +kernel
theorem dX13_event_270 : decode cX13_event 270 = .ok (.lload_n 2, 1) := by decide +kernel
theorem dX13_event_271 : decode cX13_event 271 = .ok (.invokevirtual 217, 3) := by decide +kernel
theorem dX13_event_274 : decode cX13_event 274 = .ok (.istore 7, 2) := by decide +kernel
theorem dX13_event_276 : decode cX13_event 276 = .ok (.iload 7, 2) := by decide +kernel
theorem dX13_event_278 : decode cX13_event 278 = .ok (.ifCond .ge 7, 3) := by decide +kernel
theorem dX13_event_281 : decode cX13_event 281 = .ok (.iconst (-1), 1) := by decide +kernel
theorem dX13_event_282 : decode cX13_event 282 = .ok (.goto 8, 3) := by decide +kernel
theorem dX13_event_285 : decode cX13_event 285 = .ok (.iload 4, 2) := by decide +kernel
theorem dX13_event_287 : decode cX13_event 287 = .ok (.iload 7, 2) := by decide +kernel
theorem dX13_event_289 : decode cX13_event 289 = .ok (.iadd, 1) := by decide +kernel
theorem dX13_event_290 : decode cX13_event 290 = .ok (.ireturn, 1) := by decide +kernel
theorem cwX13_event : mw_cwV yX13_event cX13_event 10 ((some .int)) 2 := ⟨⟨wd_20, wd_4065, by decide +kernel⟩, wd_4063, wd_4064⟩
set_option maxHeartbeats 4000000 in
set_option maxRecDepth 100000 in
theorem tX13_event (l : Launch) (G : mwG) (ad : Nat → Nat) (fu : Nat) (k : Nat) (a1 : Int32) (a2 : Int64) (M : mwM) (L : mwL) {r0 : Int32} {M0 : mwM} {L0 : mwL} (hD : DX13_event fu k a1 a2 M L = some (r0, M0, L0)) (hk0 : isMc k) : Met l yX13_event (Cond.code yX13_event cX13_event 10 ((some .int)) :: GT) ({ frames := 7, cells := 0, slots := 0, locals := 167 }) (mw_Pre G ad NF TF FF M L [.ref (ad k), .int a1, .long a2]) (mw_Qi G ad NF TF FF (mw_eqI r0 M0 L0)) 0 0 (mw_fr G) := by
  refine mw_enter (by decide) (Nat.le_of_ble_eq_true rfl) ?_
  intro p e s m below meth c ls C hr hlocks hnm hw hl
  have hl : lv_has ls 10 [(0, .ref (ad k)), (1, .int a1), (2, .long a2)] := hl
  have hb39 : ∀ (M : mwM) (L : mwL) (H : Heap) (locs : List Loc) (ls : Array Slot), fX13_event_b39 fu k a1 a2 M L = some (r0, M0, L0) → mw_W G ad NF TF FF M L H locs → lv_has ls 10 [] → W p l e ({ frames := 7, cells := 0, slots := 0, locals := 167 }) s m [.ref (ad k), .int a1, .long a2].toArray below meth c H locs 0 0 (MQ below (mw_Qi G ad NF TF FF (mw_eqI r0 M0 L0)) [.ref (ad k), .int a1, .long a2].toArray s 0 0 (mw_fr G)) (F0 m 39 ls []) := by
    intro M L H locs ls hD hw hl
    unfold fX13_event_b39 at hD
    refine lv_bipush (v := (-2)) C.1.1 C.1.2.1 dX13_event_39 (by decide) ?_
    exact mr_iret C hr hlocks hw rfl (Option.some.inj hD) dX13_event_41
  have hb290 : ∀ (s0 : Int32) (M : mwM) (L : mwL) (H : Heap) (locs : List Loc) (ls : Array Slot), fX13_event_b290 fu k a1 a2 s0 M L = some (r0, M0, L0) → mw_W G ad NF TF FF M L H locs → lv_has ls 10 [] → W p l e ({ frames := 7, cells := 0, slots := 0, locals := 167 }) s m [.ref (ad k), .int a1, .long a2].toArray below meth c H locs 0 0 (MQ below (mw_Qi G ad NF TF FF (mw_eqI r0 M0 L0)) [.ref (ad k), .int a1, .long a2].toArray s 0 0 (mw_fr G)) (F0 m 290 ls [.int s0]) := by
    intro s0 M L H locs ls hD hw hl
    unfold fX13_event_b290 at hD
    exact mr_iret C hr hlocks hw rfl (Option.some.inj hD) dX13_event_290
  have hb256 : ∀ (v4 : Int32) (s1 : Int32) (M : mwM) (L : mwL) (H : Heap) (locs : List Loc) (ls : Array Slot), fX13_event_b256 fu k a1 a2 v4 s1 M L = some (r0, M0, L0) → mw_W G ad NF TF FF M L H locs → lv_has ls 10 [(0, .ref (ad k)), (2, .long a2), (4, .int v4)] → W p l e ({ frames := 7, cells := 0, slots := 0, locals := 167 }) s m [.ref (ad k), .int a1, .long a2].toArray below meth c H locs 0 0 (MQ below (mw_Qi G ad NF TF FF (mw_eqI r0 M0 L0)) [.ref (ad k), .int a1, .long a2].toArray s 0 0 (mw_fr G)) (F0 m 256 ls [.int s1, .ref (ad k)]) := by
    intro v4 s1 M L H locs ls hD hw hl
    unfold fX13_event_b256 at hD
    obtain ⟨M34, eM34, hD⟩ := g_let hD
    refine mr_putI C hw kc_13 29 (Mc_N0 hk0) (Mc_T0 hk0) wd_2671 dX13_event_256 (by decide) rfl rfl rfl rfl (fun H locs hw => ?_)
    replace hw : mw_W G ad NF TF FF M34 L H locs := by rw [eM34]; exact hw
    refine lv_iload C.1.1 C.1.2.1 dX13_event_259 (lv_at hl 2 rfl) ?_
    refine lv_aload_n C.1.1 C.1.2.1 dX13_event_261 rfl (lv_at hl 0 rfl) ?_
    refine lv_lload_n C.1.1 C.1.2.1 dX13_event_262 rfl (lv_at hl 1 rfl) ?_
    obtain ⟨r37, M35, L36, h1, hD⟩ := g_b3 hD
    refine md_cvI (As := [.long a2]) (rest := [.int v4]) C hw (tX13_step l G ad fu k a2 M34 L h1 hk0) kc_13 (Mc_N0 hk0) (Mc_T0 hk0) wd_4134 cwX13_step ⟨Nat.le_of_ble_eq_true rfl, Nat.le_of_ble_eq_true rfl⟩ rfl hl.1 (Nat.le_of_ble_eq_true rfl) dX13_event_263 rfl rfl ⟨Nat.zero_le _, Nat.zero_le _⟩ rfl (fun H locs hw => ?_)
    refine lv_iadd C.1.1 C.1.2.1 dX13_event_266 ?_
    obtain ⟨x38, ex38, hD⟩ := g_let hD
    refine W.eq (g2 := F0 m 267 ls (.int x38 :: [])) (by rw [ex38]) ?_
    refine lv_istore (lv' := [(4, .int x38), (0, .ref (ad k)), (2, .long a2)]) C.1.1 C.1.2.1 dX13_event_267 hl (by decide) rfl (fun ls hl => ?_)
    refine lv_aload_n C.1.1 C.1.2.1 dX13_event_269 rfl (lv_at hl 1 rfl) ?_
    refine lv_lload_n C.1.1 C.1.2.1 dX13_event_270 rfl (lv_at hl 2 rfl) ?_
    obtain ⟨r41, M39, L40, h1, hD⟩ := g_b3 hD
    refine md_cvI (As := [.long a2]) (rest := []) C hw (tX13_chain l G ad fu k a2 M35 L36 h1 hk0) kc_13 (Mc_N0 hk0) (Mc_T0 hk0) wd_4099 cwX13_chain ⟨Nat.le_of_ble_eq_true rfl, Nat.le_of_ble_eq_true rfl⟩ rfl hl.1 (Nat.le_of_ble_eq_true rfl) dX13_event_271 rfl rfl ⟨Nat.zero_le _, Nat.zero_le _⟩ rfl (fun H locs hw => ?_)
    refine lv_istore (lv' := [(7, .int r41), (4, .int x38), (0, .ref (ad k)), (2, .long a2)]) C.1.1 C.1.2.1 dX13_event_274 hl (by decide) rfl (fun ls hl => ?_)
    refine lv_iload C.1.1 C.1.2.1 dX13_event_276 (lv_at hl 0 rfl) ?_
    refine lv_if_ge (tgt := 285) C.1.1 C.1.2.1 dX13_event_278 (by decide) (fun c42 => ?_) (fun c42 => ?_)
    · replace hD := g_pos c42 hD
      refine lv_iload C.1.1 C.1.2.1 dX13_event_285 (lv_at hl 1 rfl) ?_
      refine lv_iload C.1.1 C.1.2.1 dX13_event_287 (lv_at hl 0 rfl) ?_
      refine lv_iadd C.1.1 C.1.2.1 dX13_event_289 ?_
      exact hb290 (x38 + r41) M39 L40 _ _ ls hD hw (lv_sub hl [] rfl)
    · replace hD := g_neg c42 hD
      refine lv_iconst (v := (-1)) C.1.1 C.1.2.1 dX13_event_281 (by decide) ?_
      refine lv_goto (tgt := 290) C.1.1 C.1.2.1 dX13_event_282 (by decide) ?_
      exact hb290 ((-1)) M39 L40 _ _ ls hD hw (lv_sub hl [] rfl)
  have hh117 : ∀ (f : Nat) (v4 : Int32) (v5 : Int32) (v6 : Int32) (M : mwM) (L : mwL) (H : Heap) (locs : List Loc) (ls : Array Slot), fX13_event_h117 fu k a1 a2 f (v4, v5, v6, M, L) = some (r0, M0, L0) → mw_W G ad NF TF FF M L H locs → lv_has ls 10 [(0, .ref (ad k)), (1, .int a1), (2, .long a2), (4, .int v4), (5, .int v5), (6, .int v6)] → W p l e ({ frames := 7, cells := 0, slots := 0, locals := 167 }) s m [.ref (ad k), .int a1, .long a2].toArray below meth c H locs 0 0 (MQ below (mw_Qi G ad NF TF FF (mw_eqI r0 M0 L0)) [.ref (ad k), .int a1, .long a2].toArray s 0 0 (mw_fr G)) (F0 m 117 ls []) := by
    intro f
    induction f with
    | zero => intro v4 v5 v6 M L H locs ls hD; cases hD
    | succ f117 ih117 =>
      intro v4 v5 v6 M L H locs ls hD hw hl
      replace hD : fX13_event_i117 fu k a1 a2 (fX13_event_h117 fu k a1 a2 f117) v4 v5 v6 M L = some (r0, M0, L0) := hD
      unfold fX13_event_i117 at hD
      refine lv_iload C.1.1 C.1.2.1 dX13_event_117 (lv_at hl 4 rfl) ?_
      refine lv_if_le (tgt := 223) C.1.1 C.1.2.1 dX13_event_119 (by decide) (fun c4 => ?_) (fun c4 => ?_)
      · replace hD := g_pos c4 hD
        refine lv_iload_n C.1.1 C.1.2.1 dX13_event_223 rfl (lv_at hl 1 rfl) ?_
        refine lv_if_ne (tgt := 230) C.1.1 C.1.2.1 dX13_event_224 (by decide) (fun c5 => ?_) (fun c5 => ?_)
        · replace hD := g_neg c5 hD
          refine lv_aload_n C.1.1 C.1.2.1 dX13_event_230 rfl (lv_at hl 0 rfl) ?_
          refine lv_iload_n C.1.1 C.1.2.1 dX13_event_231 rfl (lv_at hl 1 rfl) ?_
          obtain ⟨r8, M6, L7, h1, hD⟩ := g_b3 hD
          refine md_cvI (As := [.int a1]) (rest := []) C hw (tX13_choose l G ad fu k a1 M L h1 hk0) kc_13 (Mc_N0 hk0) (Mc_T0 hk0) wd_4103 cwX13_choose ⟨Nat.le_of_ble_eq_true rfl, Nat.le_of_ble_eq_true rfl⟩ rfl hl.1 (Nat.le_of_ble_eq_true rfl) dX13_event_232 rfl rfl ⟨Nat.zero_le _, Nat.zero_le _⟩ rfl (fun H locs hw => ?_)
          refine lv_istore (lv' := [(7, .int r8), (0, .ref (ad k)), (1, .int a1), (2, .long a2), (4, .int v4), (5, .int v5), (6, .int v6)]) C.1.1 C.1.2.1 dX13_event_235 hl (by decide) rfl (fun ls hl => ?_)
          refine lv_aload_n C.1.1 C.1.2.1 dX13_event_237 rfl (lv_at hl 1 rfl) ?_
          refine lv_iload C.1.1 C.1.2.1 dX13_event_238 (lv_at hl 0 rfl) ?_
          refine lv_if_ne (tgt := 252) C.1.1 C.1.2.1 dX13_event_240 (by decide) (fun c9 => ?_) (fun c9 => ?_)
          · replace hD := g_neg c9 hD
            refine lv_aload_n C.1.1 C.1.2.1 dX13_event_252 rfl (lv_at hl 1 rfl) ?_
            refine mr_getI C hw kc_13 29 (Mc_N0 hk0) (Mc_T0 hk0) wd_2671 dX13_event_253 (by decide) rfl ?_
            exact hb256 v4 (M6 k 29) M6 L7 _ _ ls hD hw (lv_sub hl [1, 3, 4] rfl)
          · replace hD := g_pos c9 hD
            refine lv_aload_n C.1.1 C.1.2.1 dX13_event_243 rfl (lv_at hl 1 rfl) ?_
            refine mr_getI C hw kc_13 29 (Mc_N0 hk0) (Mc_T0 hk0) wd_2671 dX13_event_244 (by decide) rfl ?_
            refine lv_iconst (v := 1) C.1.1 C.1.2.1 dX13_event_247 (by decide) ?_
            refine lv_iadd C.1.1 C.1.2.1 dX13_event_248 ?_
            refine lv_goto (tgt := 256) C.1.1 C.1.2.1 dX13_event_249 (by decide) ?_
            exact hb256 v4 ((M6 k 29) + 1) M6 L7 _ _ ls hD hw (lv_sub hl [1, 3, 4] rfl)
        · replace hD := g_pos c5 hD
          refine lv_iload C.1.1 C.1.2.1 dX13_event_227 (lv_at hl 3 rfl) ?_
          exact mr_iret C hr hlocks hw rfl (Option.some.inj hD) dX13_event_229
      · replace hD := g_neg c4 hD
        refine lv_iload C.1.1 C.1.2.1 dX13_event_122 (lv_at hl 5 rfl) ?_
        refine lv_sipush (v := 1000) C.1.1 C.1.2.1 dX13_event_124 (by decide) ?_
        refine lv_icmp_ne (tgt := 140) C.1.1 C.1.2.1 dX13_event_127 (by decide) (fun c10 => ?_) (fun c10 => ?_)
        · replace hD := g_neg c10 hD
          obtain ⟨x11, ex11, hD⟩ := g_let hD
          refine lv_iinc (v := x11) (lv' := [(6, .int x11), (0, .ref (ad k)), (1, .int a1), (2, .long a2), (4, .int v4), (5, .int v5)]) C.1.1 C.1.2.1 dX13_event_140 hl (k := 5) rfl (by rw [ex11]; rfl) (by decide) rfl (fun ls hl => ?_)
          refine lv_aload_n C.1.1 C.1.2.1 dX13_event_143 rfl (lv_at hl 1 rfl) ?_
          refine mr_getR C hw kc_13 9 (Mc_N0 hk0) (Mc_T0 hk0) (Mc_F0_9 hk0) wd_2651 dX13_event_144 (by decide) rfl ?_
          refine lv_iload C.1.1 C.1.2.1 dX13_event_147 (lv_at hl 5 rfl) ?_
          refine lv_iconst (v := 1) C.1.1 C.1.2.1 dX13_event_149 (by decide) ?_
          obtain ⟨q12, hD⟩ := g_ck hD
          obtain ⟨M13, eM13, hD⟩ := g_let hD
          refine mr_zast C hw (Mc_N7 hk0) (Mc_T7 hk0) q12 dX13_event_150 (fun H locs hw => ?_)
          replace hw : mw_W G ad NF TF FF M13 L H locs := by rw [eM13]; exact hw
          refine lv_aload_n C.1.1 C.1.2.1 dX13_event_151 rfl (lv_at hl 1 rfl) ?_
          refine mr_getR C hw kc_13 8 (Mc_N0 hk0) (Mc_T0 hk0) (Mc_F0_8 hk0) wd_2650 dX13_event_152 (by decide) rfl ?_
          refine lv_iload C.1.1 C.1.2.1 dX13_event_155 (lv_at hl 5 rfl) ?_
          obtain ⟨q14, hD⟩ := g_ck hD
          refine mr_lald C hw (Mc_N6 hk0) (Mc_T6 hk0) q14 dX13_event_157 ?_
          refine lv_aload_n C.1.1 C.1.2.1 dX13_event_158 rfl (lv_at hl 1 rfl) ?_
          refine mr_getR C hw kc_13 7 (Mc_N0 hk0) (Mc_T0 hk0) (Mc_F0_7 hk0) wd_2649 dX13_event_159 (by decide) rfl ?_
          refine lv_iload C.1.1 C.1.2.1 dX13_event_162 (lv_at hl 5 rfl) ?_
          obtain ⟨q15, hD⟩ := g_ck hD
          refine mr_lald C hw (Mc_N5 hk0) (Mc_T5 hk0) q15 dX13_event_164 ?_
          refine lv_ladd C.1.1 C.1.2.1 dX13_event_165 ?_
          obtain ⟨x16, ex16, hD⟩ := g_let hD
          refine W.eq (g2 := F0 m 166 ls (.long x16 :: [])) (by rw [ex16]) ?_
          refine lv_lstore (lv' := [(7, .long x16), (6, .int x11), (0, .ref (ad k)), (1, .int a1), (2, .long a2), (4, .int v4), (5, .int v5)]) C.1.1 C.1.2.1 dX13_event_166 hl (by decide) rfl (fun ls hl => ?_)
          refine lv_aload_n C.1.1 C.1.2.1 dX13_event_168 rfl (lv_at hl 2 rfl) ?_
          refine lv_sipush (v := 1000) C.1.1 C.1.2.1 dX13_event_169 (by decide) ?_
          refine lv_iload C.1.1 C.1.2.1 dX13_event_172 (lv_at hl 6 rfl) ?_
          refine lv_iadd C.1.1 C.1.2.1 dX13_event_174 ?_
          obtain ⟨r19, M17, L18, h1, hD⟩ := g_b3 hD
          refine md_cvI (As := [.int (1000 + v5)]) (rest := []) C hw (tX13_choose l G ad fu k (1000 + v5) M13 L h1 hk0) kc_13 (Mc_N0 hk0) (Mc_T0 hk0) wd_4103 cwX13_choose ⟨Nat.le_of_ble_eq_true rfl, Nat.le_of_ble_eq_true rfl⟩ rfl hl.1 (Nat.le_of_ble_eq_true rfl) dX13_event_175 rfl rfl ⟨Nat.zero_le _, Nat.zero_le _⟩ rfl (fun H locs hw => ?_)
          refine lv_istore (lv' := [(9, .int r19), (7, .long x16), (6, .int x11), (0, .ref (ad k)), (1, .int a1), (2, .long a2), (4, .int v4), (5, .int v5)]) C.1.1 C.1.2.1 dX13_event_178 hl (by decide) rfl (fun ls hl => ?_)
          refine lv_iload C.1.1 C.1.2.1 dX13_event_180 (lv_at hl 6 rfl) ?_
          refine lv_aload_n C.1.1 C.1.2.1 dX13_event_182 rfl (lv_at hl 3 rfl) ?_
          refine lv_lload C.1.1 C.1.2.1 dX13_event_183 (lv_at hl 1 rfl) ?_
          obtain ⟨r22, M20, L21, h1, hD⟩ := g_b3 hD
          refine md_cvI (As := [.long x16]) (rest := [.int v4]) C hw (tX13_step l G ad fu k x16 M17 L18 h1 hk0) kc_13 (Mc_N0 hk0) (Mc_T0 hk0) wd_4134 cwX13_step ⟨Nat.le_of_ble_eq_true rfl, Nat.le_of_ble_eq_true rfl⟩ rfl hl.1 (Nat.le_of_ble_eq_true rfl) dX13_event_185 rfl rfl ⟨Nat.zero_le _, Nat.zero_le _⟩ rfl (fun H locs hw => ?_)
          refine lv_iadd C.1.1 C.1.2.1 dX13_event_188 ?_
          obtain ⟨x23, ex23, hD⟩ := g_let hD
          refine W.eq (g2 := F0 m 189 ls (.int x23 :: [])) (by rw [ex23]) ?_
          refine lv_istore (lv' := [(4, .int x23), (9, .int r19), (7, .long x16), (6, .int x11), (0, .ref (ad k)), (1, .int a1), (2, .long a2), (5, .int v5)]) C.1.1 C.1.2.1 dX13_event_189 hl (by decide) rfl (fun ls hl => ?_)
          refine lv_aload_n C.1.1 C.1.2.1 dX13_event_191 rfl (lv_at hl 4 rfl) ?_
          refine lv_lload C.1.1 C.1.2.1 dX13_event_192 (lv_at hl 2 rfl) ?_
          obtain ⟨r26, M24, L25, h1, hD⟩ := g_b3 hD
          refine md_cvI (As := [.long x16]) (rest := []) C hw (tX13_chain l G ad fu k x16 M20 L21 h1 hk0) kc_13 (Mc_N0 hk0) (Mc_T0 hk0) wd_4099 cwX13_chain ⟨Nat.le_of_ble_eq_true rfl, Nat.le_of_ble_eq_true rfl⟩ rfl hl.1 (Nat.le_of_ble_eq_true rfl) dX13_event_194 rfl rfl ⟨Nat.zero_le _, Nat.zero_le _⟩ rfl (fun H locs hw => ?_)
          refine lv_istore (lv' := [(9, .int r26), (4, .int x23), (7, .long x16), (6, .int x11), (0, .ref (ad k)), (1, .int a1), (2, .long a2), (5, .int v5)]) C.1.1 C.1.2.1 dX13_event_197 hl (by decide) rfl (fun ls hl => ?_)
          refine lv_iload C.1.1 C.1.2.1 dX13_event_199 (lv_at hl 0 rfl) ?_
          refine lv_if_ge (tgt := 206) C.1.1 C.1.2.1 dX13_event_201 (by decide) (fun c27 => ?_) (fun c27 => ?_)
          · replace hD := g_pos c27 hD
            refine lv_iload C.1.1 C.1.2.1 dX13_event_206 (lv_at hl 1 rfl) ?_
            refine lv_iload C.1.1 C.1.2.1 dX13_event_208 (lv_at hl 0 rfl) ?_
            refine lv_iadd C.1.1 C.1.2.1 dX13_event_210 ?_
            obtain ⟨x28, ex28, hD⟩ := g_let hD
            refine W.eq (g2 := F0 m 211 ls (.int x28 :: [])) (by rw [ex28]) ?_
            refine lv_istore (lv' := [(4, .int x28), (9, .int r26), (7, .long x16), (6, .int x11), (0, .ref (ad k)), (1, .int a1), (2, .long a2), (5, .int v5)]) C.1.1 C.1.2.1 dX13_event_211 hl (by decide) rfl (fun ls hl => ?_)
            refine lv_aload_n C.1.1 C.1.2.1 dX13_event_213 rfl (lv_at hl 4 rfl) ?_
            refine lv_lload_n C.1.1 C.1.2.1 dX13_event_214 rfl (lv_at hl 6 rfl) ?_
            obtain ⟨r31, M29, L30, h1, hD⟩ := g_b3 hD
            refine md_cvI (As := [.long a2]) (rest := []) C hw (tX13_due l G ad fu k a2 M24 L25 h1 hk0) kc_13 (Mc_N0 hk0) (Mc_T0 hk0) wd_4142 cwX13_due ⟨Nat.le_of_ble_eq_true rfl, Nat.le_of_ble_eq_true rfl⟩ rfl hl.1 (Nat.le_of_ble_eq_true rfl) dX13_event_215 rfl rfl ⟨Nat.zero_le _, Nat.zero_le _⟩ rfl (fun H locs hw => ?_)
            refine lv_istore (lv' := [(5, .int r31), (4, .int x28), (9, .int r26), (7, .long x16), (6, .int x11), (0, .ref (ad k)), (1, .int a1), (2, .long a2)]) C.1.1 C.1.2.1 dX13_event_218 hl (by decide) rfl (fun ls hl => ?_)
            refine lv_goto (tgt := 117) C.1.1 C.1.2.1 dX13_event_220 (by decide) ?_
            exact ih117 x28 r31 x11 M29 L30 _ _ ls hD hw (lv_sub hl [5, 6, 7, 1, 0, 4] rfl)
          · replace hD := g_neg c27 hD
            refine lv_iconst (v := (-1)) C.1.1 C.1.2.1 dX13_event_204 (by decide) ?_
            exact mr_iret C hr hlocks hw rfl (Option.some.inj hD) dX13_event_205
        · replace hD := g_pos c10 hD
          refine lv_aload_n C.1.1 C.1.2.1 dX13_event_130 rfl (lv_at hl 0 rfl) ?_
          refine lv_bipush (v := 6) C.1.1 C.1.2.1 dX13_event_131 (by decide) ?_
          refine lv_iconst (v := 0) C.1.1 C.1.2.1 dX13_event_133 (by decide) ?_
          refine lv_lconst (v := 0) C.1.1 C.1.2.1 dX13_event_134 (by decide) ?_
          obtain ⟨M32, L33, h1, hD⟩ := g_b2 hD
          refine md_cvV (As := [.int 6, .int 0, .long 0]) (rest := []) C hw (tX13_note l G ad fu k 6 0 0 M L h1 hk0) kc_13 (Mc_N0 hk0) (Mc_T0 hk0) wd_4091 cwX13_note ⟨Nat.le_of_ble_eq_true rfl, Nat.le_of_ble_eq_true rfl⟩ rfl hl.1 (Nat.le_of_ble_eq_true rfl) dX13_event_135 rfl rfl ⟨Nat.zero_le _, Nat.zero_le _⟩ rfl (fun H locs hw => ?_)
          refine lv_iconst (v := (-1)) C.1.1 C.1.2.1 dX13_event_138 (by decide) ?_
          exact mr_iret C hr hlocks hw rfl (Option.some.inj hD) dX13_event_139
  have hb107 : ∀ (v4 : Int32) (M : mwM) (L : mwL) (H : Heap) (locs : List Loc) (ls : Array Slot), fX13_event_b107 fu k a1 a2 v4 M L = some (r0, M0, L0) → mw_W G ad NF TF FF M L H locs → lv_has ls 10 [(0, .ref (ad k)), (1, .int a1), (2, .long a2), (4, .int v4)] → W p l e ({ frames := 7, cells := 0, slots := 0, locals := 167 }) s m [.ref (ad k), .int a1, .long a2].toArray below meth c H locs 0 0 (MQ below (mw_Qi G ad NF TF FF (mw_eqI r0 M0 L0)) [.ref (ad k), .int a1, .long a2].toArray s 0 0 (mw_fr G)) (F0 m 107 ls []) := by
    intro v4 M L H locs ls hD hw hl
    unfold fX13_event_b107 at hD
    refine lv_aload_n C.1.1 C.1.2.1 dX13_event_107 rfl (lv_at hl 0 rfl) ?_
    refine lv_lload_n C.1.1 C.1.2.1 dX13_event_108 rfl (lv_at hl 2 rfl) ?_
    obtain ⟨r3, M1, L2, h1, hD⟩ := g_b3 hD
    refine md_cvI (As := [.long a2]) (rest := []) C hw (tX13_due l G ad fu k a2 M L h1 hk0) kc_13 (Mc_N0 hk0) (Mc_T0 hk0) wd_4142 cwX13_due ⟨Nat.le_of_ble_eq_true rfl, Nat.le_of_ble_eq_true rfl⟩ rfl hl.1 (Nat.le_of_ble_eq_true rfl) dX13_event_109 rfl rfl ⟨Nat.zero_le _, Nat.zero_le _⟩ rfl (fun H locs hw => ?_)
    refine lv_istore (lv' := [(5, .int r3), (0, .ref (ad k)), (1, .int a1), (2, .long a2), (4, .int v4)]) C.1.1 C.1.2.1 dX13_event_112 hl (by decide) rfl (fun ls hl => ?_)
    refine lv_iconst (v := 0) C.1.1 C.1.2.1 dX13_event_114 (by decide) ?_
    refine lv_istore (lv' := [(6, .int 0), (5, .int r3), (0, .ref (ad k)), (1, .int a1), (2, .long a2), (4, .int v4)]) C.1.1 C.1.2.1 dX13_event_115 hl (by decide) rfl (fun ls hl => ?_)
    exact hh117 fu v4 r3 0 M1 L2 _ _ ls hD hw (lv_sub hl [2, 3, 4, 5, 1, 0] rfl)
  unfold DX13_event at hD
  refine lv_aload_n C.1.1 C.1.2.1 dX13_event_0 rfl (lv_at hl 0 rfl) ?_
  refine lv_iconst (v := 0) C.1.1 C.1.2.1 dX13_event_1 (by decide) ?_
  obtain ⟨M43, eM43, hD⟩ := g_let hD
  refine mr_putI C hw kc_13 0 (Mc_N0 hk0) (Mc_T0 hk0) wd_2642 dX13_event_2 (by decide) rfl rfl rfl rfl (fun H locs hw => ?_)
  replace hw : mw_W G ad NF TF FF M43 L H locs := by rw [eM43]; exact hw
  refine lv_iload_n C.1.1 C.1.2.1 dX13_event_5 rfl (lv_at hl 1 rfl) ?_
  refine lv_if_lt (tgt := 39) C.1.1 C.1.2.1 dX13_event_6 (by decide) (fun c44 => ?_) (fun c44 => ?_)
  · replace hD := g_pos c44 hD
    exact hb39 M43 L _ _ ls hD hw (lv_sub hl [] rfl)
  · replace hD := g_neg c44 hD
    refine lv_iload_n C.1.1 C.1.2.1 dX13_event_9 rfl (lv_at hl 1 rfl) ?_
    refine lv_sipush (v := 999) C.1.1 C.1.2.1 dX13_event_10 (by decide) ?_
    refine lv_icmp_gt (tgt := 39) C.1.1 C.1.2.1 dX13_event_13 (by decide) (fun c45 => ?_) (fun c45 => ?_)
    · replace hD := g_pos c45 hD
      exact hb39 M43 L _ _ ls hD hw (lv_sub hl [] rfl)
    · replace hD := g_neg c45 hD
      refine lv_lload_n C.1.1 C.1.2.1 dX13_event_16 rfl (lv_at hl 2 rfl) ?_
      refine lv_aload_n C.1.1 C.1.2.1 dX13_event_17 rfl (lv_at hl 0 rfl) ?_
      refine mr_getL C hw kc_13 28 (Mc_N0 hk0) (Mc_T0 hk0) wd_2670 dX13_event_18 (by decide) rfl ?_
      refine W.lcmp C.1.1 C.1.2.1 dX13_event_21 ?_
      refine lv_if_lt (tgt := 39) C.1.1 C.1.2.1 dX13_event_22 (by decide) (fun c46 => ?_) (fun c46 => ?_)
      · replace hD := g_pos c46 hD
        exact hb39 M43 L _ _ ls hD hw (lv_sub hl [] rfl)
      · replace hD := g_neg c46 hD
        refine lv_lload_n C.1.1 C.1.2.1 dX13_event_25 rfl (lv_at hl 2 rfl) ?_
        refine lv_lconst (v := 0) C.1.1 C.1.2.1 dX13_event_26 (by decide) ?_
        refine W.lcmp C.1.1 C.1.2.1 dX13_event_27 ?_
        refine lv_if_lt (tgt := 39) C.1.1 C.1.2.1 dX13_event_28 (by decide) (fun c47 => ?_) (fun c47 => ?_)
        · replace hD := g_pos c47 hD
          exact hb39 M43 L _ _ ls hD hw (lv_sub hl [] rfl)
        · replace hD := g_neg c47 hD
          refine lv_lload_n C.1.1 C.1.2.1 dX13_event_31 rfl (lv_at hl 2 rfl) ?_
          refine lv_ldc2 (v := 4611686018427387904) C.1.1 C.1.2.1 C.1.2.2.2.1 (C.1.2.2.2.2 _ wd_4066) dX13_event_32 ?_
          refine W.lcmp C.1.1 C.1.2.1 dX13_event_35 ?_
          refine lv_if_le (tgt := 42) C.1.1 C.1.2.1 dX13_event_36 (by decide) (fun c48 => ?_) (fun c48 => ?_)
          · replace hD := g_pos c48 hD
            refine lv_aload_n C.1.1 C.1.2.1 dX13_event_42 rfl (lv_at hl 0 rfl) ?_
            refine lv_iconst (v := 0) C.1.1 C.1.2.1 dX13_event_43 (by decide) ?_
            refine lv_iconst (v := 0) C.1.1 C.1.2.1 dX13_event_44 (by decide) ?_
            obtain ⟨r51, M49, L50, h1, hD⟩ := g_b3 hD
            refine md_cvI (As := [.int 0, .int 0]) (rest := []) C hw (tX13_child l G ad fu k 0 0 M43 L h1 hk0) kc_13 (Mc_N0 hk0) (Mc_T0 hk0) wd_4067 cwX13_child ⟨Nat.le_of_ble_eq_true rfl, Nat.le_of_ble_eq_true rfl⟩ rfl hl.1 (Nat.le_of_ble_eq_true rfl) dX13_event_45 rfl rfl ⟨Nat.zero_le _, Nat.zero_le _⟩ rfl (fun H locs hw => ?_)
            refine lv_if_ne (tgt := 54) C.1.1 C.1.2.1 dX13_event_48 (by decide) (fun c52 => ?_) (fun c52 => ?_)
            · replace hD := g_neg c52 hD
              refine lv_aload_n C.1.1 C.1.2.1 dX13_event_54 rfl (lv_at hl 0 rfl) ?_
              refine lv_iconst (v := 0) C.1.1 C.1.2.1 dX13_event_55 (by decide) ?_
              obtain ⟨M53, eM53, hD⟩ := g_let hD
              refine mr_putI C hw kc_13 31 (Mc_N0 hk0) (Mc_T0 hk0) wd_2673 dX13_event_56 (by decide) rfl rfl rfl rfl (fun H locs hw => ?_)
              replace hw : mw_W G ad NF TF FF M53 L50 H locs := by rw [eM53]; exact hw
              refine lv_aload_n C.1.1 C.1.2.1 dX13_event_59 rfl (lv_at hl 0 rfl) ?_
              refine lv_lload_n C.1.1 C.1.2.1 dX13_event_60 rfl (lv_at hl 2 rfl) ?_
              obtain ⟨L54, eL54, hD⟩ := g_let hD
              refine mr_putL C hw kc_13 28 (Mc_N0 hk0) (Mc_T0 hk0) wd_2670 dX13_event_61 (by decide) rfl rfl rfl rfl (fun H locs hw => ?_)
              replace hw : mw_W G ad NF TF FF M53 L54 H locs := by rw [eL54]; exact hw
              refine lv_iconst (v := 0) C.1.1 C.1.2.1 dX13_event_64 (by decide) ?_
              refine lv_istore (lv' := [(4, .int 0), (0, .ref (ad k)), (1, .int a1), (2, .long a2)]) C.1.1 C.1.2.1 dX13_event_65 hl (by decide) rfl (fun ls hl => ?_)
              refine lv_aload_n C.1.1 C.1.2.1 dX13_event_67 rfl (lv_at hl 1 rfl) ?_
              refine mr_getI C hw kc_13 27 (Mc_N0 hk0) (Mc_T0 hk0) wd_2669 dX13_event_68 (by decide) rfl ?_
              refine lv_if_ne (tgt := 107) C.1.1 C.1.2.1 dX13_event_71 (by decide) (fun c55 => ?_) (fun c55 => ?_)
              · replace hD := g_neg c55 hD
                exact hb107 0 M53 L54 _ _ ls hD hw (lv_sub hl [1, 2, 3, 0] rfl)
              · replace hD := g_pos c55 hD
                refine lv_aload_n C.1.1 C.1.2.1 dX13_event_74 rfl (lv_at hl 1 rfl) ?_
                refine lv_iconst (v := 1) C.1.1 C.1.2.1 dX13_event_75 (by decide) ?_
                obtain ⟨M56, eM56, hD⟩ := g_let hD
                refine mr_putI C hw kc_13 27 (Mc_N0 hk0) (Mc_T0 hk0) wd_2669 dX13_event_76 (by decide) rfl rfl (by decide +kernel) (by decide +kernel) (fun H locs hw => ?_)
                replace hw : mw_W G ad NF TF FF M56 L54 H locs := by rw [eM56]; exact hw
                refine lv_aload_n C.1.1 C.1.2.1 dX13_event_79 rfl (lv_at hl 1 rfl) ?_
                refine mr_getR C hw kc_13 11 (Mc_N0 hk0) (Mc_T0 hk0) (Mc_F0_11 hk0) wd_2653 dX13_event_80 (by decide) rfl ?_
                refine lv_iconst (v := 0) C.1.1 C.1.2.1 dX13_event_83 (by decide) ?_
                refine lv_iconst (v := 1) C.1.1 C.1.2.1 dX13_event_84 (by decide) ?_
                obtain ⟨M58, eM58, hD⟩ := g_let hD
                refine mr_zast C hw (Mc_N9 hk0) (Mc_T9 hk0) (show vp_in 0 201 from by unfold vp_in; decide) dX13_event_85 (fun H locs hw => ?_)
                replace hw : mw_W G ad NF TF FF M58 L54 H locs := by rw [eM58]; exact hw
                refine lv_aload_n C.1.1 C.1.2.1 dX13_event_86 rfl (lv_at hl 1 rfl) ?_
                refine lv_iconst (v := 0) C.1.1 C.1.2.1 dX13_event_87 (by decide) ?_
                refine lv_iconst (v := 0) C.1.1 C.1.2.1 dX13_event_88 (by decide) ?_
                refine lv_lload_n C.1.1 C.1.2.1 dX13_event_89 rfl (lv_at hl 3 rfl) ?_
                obtain ⟨M59, L60, h1, hD⟩ := g_b2 hD
                refine md_cvV (As := [.int 0, .int 0, .long a2]) (rest := []) C hw (tX13_enter l G ad fu k 0 0 a2 M58 L54 h1 hk0) kc_13 (Mc_N0 hk0) (Mc_T0 hk0) wd_4071 cwX13_enter ⟨Nat.le_of_ble_eq_true rfl, Nat.le_of_ble_eq_true rfl⟩ rfl hl.1 (Nat.le_of_ble_eq_true rfl) dX13_event_90 rfl rfl ⟨Nat.zero_le _, Nat.zero_le _⟩ rfl (fun H locs hw => ?_)
                refine lv_aload_n C.1.1 C.1.2.1 dX13_event_93 rfl (lv_at hl 1 rfl) ?_
                refine lv_lload_n C.1.1 C.1.2.1 dX13_event_94 rfl (lv_at hl 3 rfl) ?_
                obtain ⟨r63, M61, L62, h1, hD⟩ := g_b3 hD
                refine md_cvI (As := [.long a2]) (rest := []) C hw (tX13_chain l G ad fu k a2 M59 L60 h1 hk0) kc_13 (Mc_N0 hk0) (Mc_T0 hk0) wd_4099 cwX13_chain ⟨Nat.le_of_ble_eq_true rfl, Nat.le_of_ble_eq_true rfl⟩ rfl hl.1 (Nat.le_of_ble_eq_true rfl) dX13_event_95 rfl rfl ⟨Nat.zero_le _, Nat.zero_le _⟩ rfl (fun H locs hw => ?_)
                refine lv_istore (lv' := [(4, .int r63), (0, .ref (ad k)), (1, .int a1), (2, .long a2)]) C.1.1 C.1.2.1 dX13_event_98 hl (by decide) rfl (fun ls hl => ?_)
                refine lv_iload C.1.1 C.1.2.1 dX13_event_100 (lv_at hl 0 rfl) ?_
                refine lv_if_ge (tgt := 107) C.1.1 C.1.2.1 dX13_event_102 (by decide) (fun c64 => ?_) (fun c64 => ?_)
                · replace hD := g_pos c64 hD
                  exact hb107 r63 M61 L62 _ _ ls hD hw (lv_sub hl [1, 2, 3, 0] rfl)
                · replace hD := g_neg c64 hD
                  refine lv_iconst (v := (-1)) C.1.1 C.1.2.1 dX13_event_105 (by decide) ?_
                  exact mr_iret C hr hlocks hw rfl (Option.some.inj hD) dX13_event_106
            · replace hD := g_pos c52 hD
              refine lv_bipush (v := (-3)) C.1.1 C.1.2.1 dX13_event_51 (by decide) ?_
              exact mr_iret C hr hlocks hw rfl (Option.some.inj hD) dX13_event_53
          · replace hD := g_neg c48 hD
            exact hb39 M43 L _ _ ls hD hw (lv_sub hl [] rfl)

theorem dX13_active_0 : decode cX13_active 0 = .ok (.aload_n 0, 1) := by decide +kernel
theorem dX13_active_1 : decode cX13_active 1 = .ok (.iconst 0, 1) := by decide +kernel
theorem dX13_active_2 : decode cX13_active 2 = .ok (.putfield 132, 3) := by decide +kernel
theorem dX13_active_5 : decode cX13_active 5 = .ok (.aload_n 0, 1) := by decide +kernel
theorem dX13_active_6 : decode cX13_active 6 = .ok (.iload_n 1, 1) := by decide +kernel
theorem dX13_active_7 : decode cX13_active 7 = .ok (.invokevirtual 135, 3) := by decide +kernel
theorem dX13_active_10 : decode cX13_active 10 = .ok (.ifCond .eq 5, 3) := by decide +kernel
theorem dX13_active_13 : decode cX13_active 13 = .ok (.iconst (-1), 1) := by decide +kernel
theorem dX13_active_14 : decode cX13_active 14 = .ok (.ireturn, 1) := by decide +kernel
theorem dX13_active_15 : decode cX13_active 15 = .ok (.aload_n 0, 1) := by decide +kernel
theorem dX13_active_16 : decode cX13_active 16 = .ok (.getfield 115, 3) := by decide +kernel
theorem dX13_active_19 : decode cX13_active 19 = .ok (.ifCond .ne 6, 3) := by decide +kernel
theorem dX13_active_22 : decode cX13_active 22 = .ok (.bipush (-3), 2) := by decide +kernel
theorem dX13_active_24 : decode cX13_active 24 = .ok (.ireturn, 1) := by decide +kernel
theorem dX13_active_25 : decode cX13_active 25 = .ok (.aload_n 0, 1) := by decide +kernel
theorem dX13_active_26 : decode cX13_active 26 = .ok (.getfield 36, 3) := by decide +kernel
theorem dX13_active_29 : decode cX13_active 29 = .ok (.iload_n 1, 1) := by decide +kernel
theorem dX13_active_30 : decode cX13_active 30 = .ok (.baload, 1) := by decide +kernel
theorem dX13_active_31 : decode cX13_active 31 = .ok (.ifCond .ne 5, 3) := by decide +kernel
theorem dX13_active_34 : decode cX13_active 34 = .ok (.iconst 0, 1) := by decide +kernel
theorem dX13_active_35 : decode cX13_active 35 = .ok (.ireturn, 1) := by decide +kernel
theorem dX13_active_36 : decode cX13_active 36 = .ok (.iload_n 1, 1) := by decide +kernel
theorem dX13_active_37 : decode cX13_active 37 = .ok (.istore_n 2, 1) := by decide +kernel
theorem dX13_active_38 : decode cX13_active 38 = .ok (.aload_n 0, 1) := by decide +kernel
theorem dX13_active_39 : decode cX13_active 39 = .ok (.getfield 7, 3) := by decide +kernel
theorem dX13_active_42 : decode cX13_active 42 = .ok (.iload_n 2, 1) := by decide +kernel
theorem dX13_active_43 : decode cX13_active 43 = .ok (.iaload, 1) := by decide +kernel
theorem dX13_active_44 : decode cX13_active 44 = .ok (.ifCond .ne 22, 3) := by decide +kernel
theorem dX13_active_47 : decode cX13_active 47 = .ok (.aload_n 0, 1) := by decide +kernel
theorem dX13_active_48 : decode cX13_active 48 = .ok (.iload_n 2, 1) := by decide +kernel
theorem dX13_active_49 : decode cX13_active 49 = .ok (.iconst 1, 1) := by decide +kernel
theorem dX13_active_50 : decode cX13_active 50 = .ok (.invokevirtual 184, 3) := by decide +kernel
theorem dX13_active_53 : decode cX13_active 53 = .ok (.ifCond .le 13, 3) := by decide +kernel
theorem dX13_active_56 : decode cX13_active 56 = .ok (.aload_n 0, 1) := by decide +kernel
theorem dX13_active_57 : decode cX13_active 57 = .ok (.iload_n 2, 1) := by decide +kernel
theorem dX13_active_58 : decode cX13_active 58 = .ok (.iconst 1, 1) := by decide +kernel
theorem dX13_active_59 : decode cX13_active 59 = .ok (.invokevirtual 184, 3) := by decide +kernel
theorem dX13_active_62 : decode cX13_active 62 = .ok (.istore_n 2, 1) := by decide +kernel
theorem dX13_active_63 : decode cX13_active 63 = .ok (.goto (-25), 3) := by decide +kernel
theorem dX13_active_66 : decode cX13_active 66 = .ok (.iload_n 2, 1) := by decide +kernel
theorem dX13_active_67 : decode cX13_active 67 = .ok (.ireturn, 1) := by decide +kernel
theorem cwX13_active : mw_cwV yX13_active cX13_active 3 ((some .int)) 1 := ⟨⟨wd_20, wd_4277, by decide +kernel⟩, wd_4275, wd_4276⟩
set_option maxHeartbeats 4000000 in
set_option maxRecDepth 100000 in
theorem tX13_active (l : Launch) (G : mwG) (ad : Nat → Nat) (fu : Nat) (k : Nat) (a1 : Int32) (M : mwM) (L : mwL) {r0 : Int32} {M0 : mwM} {L0 : mwL} (hD : DX13_active fu k a1 M L = some (r0, M0, L0)) (hk0 : isMc k) : Met l yX13_active (Cond.code yX13_active cX13_active 3 ((some .int)) :: GT) ({ frames := 2, cells := 0, slots := 0, locals := 44 }) (mw_Pre G ad NF TF FF M L [.ref (ad k), .int a1]) (mw_Qi G ad NF TF FF (mw_eqI r0 M0 L0)) 0 0 (mw_fr G) := by
  refine mw_enter (by decide) (Nat.le_of_ble_eq_true rfl) ?_
  intro p e s m below meth c ls C hr hlocks hnm hw hl
  have hl : lv_has ls 3 [(0, .ref (ad k)), (1, .int a1)] := hl
  have hb66 : ∀ (v2 : Int32) (M : mwM) (L : mwL) (H : Heap) (locs : List Loc) (ls : Array Slot), fX13_active_b66 fu k a1 v2 M L = some (r0, M0, L0) → mw_W G ad NF TF FF M L H locs → lv_has ls 3 [(2, .int v2)] → W p l e ({ frames := 2, cells := 0, slots := 0, locals := 44 }) s m [.ref (ad k), .int a1].toArray below meth c H locs 0 0 (MQ below (mw_Qi G ad NF TF FF (mw_eqI r0 M0 L0)) [.ref (ad k), .int a1].toArray s 0 0 (mw_fr G)) (F0 m 66 ls []) := by
    intro v2 M L H locs ls hD hw hl
    unfold fX13_active_b66 at hD
    refine lv_iload_n C.1.1 C.1.2.1 dX13_active_66 rfl (lv_at hl 0 rfl) ?_
    exact mr_iret C hr hlocks hw rfl (Option.some.inj hD) dX13_active_67
  have hh38 : ∀ (f : Nat) (v2 : Int32) (M : mwM) (L : mwL) (H : Heap) (locs : List Loc) (ls : Array Slot), fX13_active_h38 fu k a1 f (v2, M, L) = some (r0, M0, L0) → mw_W G ad NF TF FF M L H locs → lv_has ls 3 [(0, .ref (ad k)), (2, .int v2)] → W p l e ({ frames := 2, cells := 0, slots := 0, locals := 44 }) s m [.ref (ad k), .int a1].toArray below meth c H locs 0 0 (MQ below (mw_Qi G ad NF TF FF (mw_eqI r0 M0 L0)) [.ref (ad k), .int a1].toArray s 0 0 (mw_fr G)) (F0 m 38 ls []) := by
    intro f
    induction f with
    | zero => intro v2 M L H locs ls hD; cases hD
    | succ f38 ih38 =>
      intro v2 M L H locs ls hD hw hl
      replace hD : fX13_active_i38 fu k a1 (fX13_active_h38 fu k a1 f38) v2 M L = some (r0, M0, L0) := hD
      unfold fX13_active_i38 at hD
      refine lv_aload_n C.1.1 C.1.2.1 dX13_active_38 rfl (lv_at hl 0 rfl) ?_
      refine mr_getR C hw kc_13 3 (Mc_N0 hk0) (Mc_T0 hk0) (Mc_F0_3 hk0) wd_2645 dX13_active_39 (by decide) rfl ?_
      refine lv_iload_n C.1.1 C.1.2.1 dX13_active_42 rfl (lv_at hl 1 rfl) ?_
      obtain ⟨q1, hD⟩ := g_ck hD
      refine mr_iald C hw (Mc_N1 hk0) (Mc_T1 hk0) q1 dX13_active_43 ?_
      refine lv_if_ne (tgt := 66) C.1.1 C.1.2.1 dX13_active_44 (by decide) (fun c2 => ?_) (fun c2 => ?_)
      · replace hD := g_neg c2 hD
        exact hb66 v2 M L _ _ ls hD hw (lv_sub hl [1] rfl)
      · replace hD := g_pos c2 hD
        refine lv_aload_n C.1.1 C.1.2.1 dX13_active_47 rfl (lv_at hl 0 rfl) ?_
        refine lv_iload_n C.1.1 C.1.2.1 dX13_active_48 rfl (lv_at hl 1 rfl) ?_
        refine lv_iconst (v := 1) C.1.1 C.1.2.1 dX13_active_49 (by decide) ?_
        obtain ⟨r5, M3, L4, h1, hD⟩ := g_b3 hD
        refine md_cvI (As := [.int v2, .int 1]) (rest := []) C hw (tX13_child l G ad fu k v2 1 M L h1 hk0) kc_13 (Mc_N0 hk0) (Mc_T0 hk0) wd_4067 cwX13_child ⟨Nat.le_of_ble_eq_true rfl, Nat.le_of_ble_eq_true rfl⟩ rfl hl.1 (Nat.le_of_ble_eq_true rfl) dX13_active_50 rfl rfl ⟨Nat.zero_le _, Nat.zero_le _⟩ rfl (fun H locs hw => ?_)
        refine lv_if_le (tgt := 66) C.1.1 C.1.2.1 dX13_active_53 (by decide) (fun c6 => ?_) (fun c6 => ?_)
        · replace hD := g_pos c6 hD
          exact hb66 v2 M3 L4 _ _ ls hD hw (lv_sub hl [1] rfl)
        · replace hD := g_neg c6 hD
          refine lv_aload_n C.1.1 C.1.2.1 dX13_active_56 rfl (lv_at hl 0 rfl) ?_
          refine lv_iload_n C.1.1 C.1.2.1 dX13_active_57 rfl (lv_at hl 1 rfl) ?_
          refine lv_iconst (v := 1) C.1.1 C.1.2.1 dX13_active_58 (by decide) ?_
          obtain ⟨r9, M7, L8, h1, hD⟩ := g_b3 hD
          refine md_cvI (As := [.int v2, .int 1]) (rest := []) C hw (tX13_child l G ad fu k v2 1 M3 L4 h1 hk0) kc_13 (Mc_N0 hk0) (Mc_T0 hk0) wd_4067 cwX13_child ⟨Nat.le_of_ble_eq_true rfl, Nat.le_of_ble_eq_true rfl⟩ rfl hl.1 (Nat.le_of_ble_eq_true rfl) dX13_active_59 rfl rfl ⟨Nat.zero_le _, Nat.zero_le _⟩ rfl (fun H locs hw => ?_)
          refine lv_istore_n (lv' := [(2, .int r9), (0, .ref (ad k))]) C.1.1 C.1.2.1 dX13_active_62 rfl hl (by decide) rfl (fun ls hl => ?_)
          refine lv_goto (tgt := 38) C.1.1 C.1.2.1 dX13_active_63 (by decide) ?_
          exact ih38 r9 M7 L8 _ _ ls hD hw (lv_sub hl [1, 0] rfl)
  unfold DX13_active at hD
  refine lv_aload_n C.1.1 C.1.2.1 dX13_active_0 rfl (lv_at hl 0 rfl) ?_
  refine lv_iconst (v := 0) C.1.1 C.1.2.1 dX13_active_1 (by decide) ?_
  obtain ⟨M10, eM10, hD⟩ := g_let hD
  refine mr_putI C hw kc_13 0 (Mc_N0 hk0) (Mc_T0 hk0) wd_2642 dX13_active_2 (by decide) rfl rfl rfl rfl (fun H locs hw => ?_)
  replace hw : mw_W G ad NF TF FF M10 L H locs := by rw [eM10]; exact hw
  refine lv_aload_n C.1.1 C.1.2.1 dX13_active_5 rfl (lv_at hl 0 rfl) ?_
  refine lv_iload_n C.1.1 C.1.2.1 dX13_active_6 rfl (lv_at hl 1 rfl) ?_
  obtain ⟨r13, M11, L12, h1, hD⟩ := g_b3 hD
  refine md_cvI (As := [.int a1]) (rest := []) C hw (tX13_none l G ad fu k a1 M10 L h1 hk0) kc_13 (Mc_N0 hk0) (Mc_T0 hk0) wd_3264 cwX13_none ⟨Nat.le_of_ble_eq_true rfl, Nat.le_of_ble_eq_true rfl⟩ rfl hl.1 (Nat.le_of_ble_eq_true rfl) dX13_active_7 rfl rfl ⟨Nat.zero_le _, Nat.zero_le _⟩ rfl (fun H locs hw => ?_)
  refine lv_if_eq (tgt := 15) C.1.1 C.1.2.1 dX13_active_10 (by decide) (fun c14 => ?_) (fun c14 => ?_)
  · replace hD := g_pos c14 hD
    refine lv_aload_n C.1.1 C.1.2.1 dX13_active_15 rfl (lv_at hl 0 rfl) ?_
    refine mr_getI C hw kc_13 27 (Mc_N0 hk0) (Mc_T0 hk0) wd_2669 dX13_active_16 (by decide) rfl ?_
    refine lv_if_ne (tgt := 25) C.1.1 C.1.2.1 dX13_active_19 (by decide) (fun c15 => ?_) (fun c15 => ?_)
    · replace hD := g_neg c15 hD
      refine lv_aload_n C.1.1 C.1.2.1 dX13_active_25 rfl (lv_at hl 0 rfl) ?_
      refine mr_getR C hw kc_13 11 (Mc_N0 hk0) (Mc_T0 hk0) (Mc_F0_11 hk0) wd_2653 dX13_active_26 (by decide) rfl ?_
      refine lv_iload_n C.1.1 C.1.2.1 dX13_active_29 rfl (lv_at hl 1 rfl) ?_
      obtain ⟨q16, hD⟩ := g_ck hD
      refine mr_zald C hw (Mc_N9 hk0) (Mc_T9 hk0) q16 dX13_active_30 ?_
      refine lv_if_ne (tgt := 36) C.1.1 C.1.2.1 dX13_active_31 (by decide) (fun c17 => ?_) (fun c17 => ?_)
      · replace hD := g_neg c17 hD
        refine lv_iload_n C.1.1 C.1.2.1 dX13_active_36 rfl (lv_at hl 1 rfl) ?_
        refine lv_istore_n (lv' := [(2, .int a1), (0, .ref (ad k)), (1, .int a1)]) C.1.1 C.1.2.1 dX13_active_37 rfl hl (by decide) rfl (fun ls hl => ?_)
        exact hh38 fu a1 M11 L12 _ _ ls hD hw (lv_sub hl [1, 0] rfl)
      · replace hD := g_pos c17 hD
        refine lv_iconst (v := 0) C.1.1 C.1.2.1 dX13_active_34 (by decide) ?_
        exact mr_iret C hr hlocks hw rfl (Option.some.inj hD) dX13_active_35
    · replace hD := g_pos c15 hD
      refine lv_bipush (v := (-3)) C.1.1 C.1.2.1 dX13_active_22 (by decide) ?_
      exact mr_iret C hr hlocks hw rfl (Option.some.inj hD) dX13_active_24
  · replace hD := g_neg c14 hD
    refine lv_iconst (v := (-1)) C.1.1 C.1.2.1 dX13_active_13 (by decide) ?_
    exact mr_iret C hr hlocks hw rfl (Option.some.inj hD) dX13_active_14

theorem dX13_value_0 : decode cX13_value 0 = .ok (.aload_n 0, 1) := by decide +kernel
theorem dX13_value_1 : decode cX13_value 1 = .ok (.iconst 0, 1) := by decide +kernel
theorem dX13_value_2 : decode cX13_value 2 = .ok (.putfield 132, 3) := by decide +kernel
theorem dX13_value_5 : decode cX13_value 5 = .ok (.iload_n 1, 1) := by decide +kernel
theorem dX13_value_6 : decode cX13_value 6 = .ok (.ifCond .lt 9, 3) := by decide +kernel
theorem dX13_value_9 : decode cX13_value 9 = .ok (.iload_n 1, 1) := by decide +kernel
theorem dX13_value_10 : decode cX13_value 10 = .ok (.bipush 31, 2) := by decide +kernel
theorem dX13_value_12 : decode cX13_value 12 = .ok (.if_icmp .le 7, 3) := by decide +kernel
theorem dX13_value_15 : decode cX13_value 15 = .ok (.lconst 0, 1) := by decide +kernel
theorem dX13_value_16 : decode cX13_value 16 = .ok (.goto 9, 3) := by decide +kernel
theorem dX13_value_19 : decode cX13_value 19 = .ok (.aload_n 0, 1) := by decide +kernel
theorem dX13_value_20 : decode cX13_value 20 = .ok (.getfield 72, 3) := by decide +kernel
theorem dX13_value_23 : decode cX13_value 23 = .ok (.iload_n 1, 1) := by decide +kernel
theorem dX13_value_24 : decode cX13_value 24 = .ok (.laload, 1) := by decide +kernel
theorem dX13_value_25 : decode cX13_value 25 = .ok (.lreturn, 1) := by decide +kernel
theorem cwX13_value : mw_cwV yX13_value cX13_value 2 ((some .long)) 1 := ⟨⟨wd_20, wd_3553, by decide +kernel⟩, wd_3551, wd_3552⟩
set_option maxHeartbeats 4000000 in
set_option maxRecDepth 100000 in
theorem tX13_value (l : Launch) (G : mwG) (ad : Nat → Nat) (fu : Nat) (k : Nat) (a1 : Int32) (M : mwM) (L : mwL) {r0 : Int64} {M0 : mwM} {L0 : mwL} (hD : DX13_value fu k a1 M L = some (r0, M0, L0)) (hk0 : isMc k) : Met l yX13_value (Cond.code yX13_value cX13_value 2 ((some .long)) :: GT) ({ frames := 0, cells := 0, slots := 0, locals := 0 }) (mw_Pre G ad NF TF FF M L [.ref (ad k), .int a1]) (mw_Ql G ad NF TF FF (mw_eqL r0 M0 L0)) 0 0 (mw_fr G) := by
  refine mw_enter (by decide) (Nat.le_of_ble_eq_true rfl) ?_
  intro p e s m below meth c ls C hr hlocks hnm hw hl
  have hl : lv_has ls 2 [(0, .ref (ad k)), (1, .int a1)] := hl
  have hb25 : ∀ (s0 : Int64) (M : mwM) (L : mwL) (H : Heap) (locs : List Loc) (ls : Array Slot), fX13_value_b25 fu k a1 s0 M L = some (r0, M0, L0) → mw_W G ad NF TF FF M L H locs → lv_has ls 2 [] → W p l e ({ frames := 0, cells := 0, slots := 0, locals := 0 }) s m [.ref (ad k), .int a1].toArray below meth c H locs 0 0 (MQ below (mw_Ql G ad NF TF FF (mw_eqL r0 M0 L0)) [.ref (ad k), .int a1].toArray s 0 0 (mw_fr G)) (F0 m 25 ls [.long s0]) := by
    intro s0 M L H locs ls hD hw hl
    unfold fX13_value_b25 at hD
    exact mr_lret C hr hlocks hw (Option.some.inj hD) dX13_value_25
  have hb15 : ∀ (M : mwM) (L : mwL) (H : Heap) (locs : List Loc) (ls : Array Slot), fX13_value_b15 fu k a1 M L = some (r0, M0, L0) → mw_W G ad NF TF FF M L H locs → lv_has ls 2 [] → W p l e ({ frames := 0, cells := 0, slots := 0, locals := 0 }) s m [.ref (ad k), .int a1].toArray below meth c H locs 0 0 (MQ below (mw_Ql G ad NF TF FF (mw_eqL r0 M0 L0)) [.ref (ad k), .int a1].toArray s 0 0 (mw_fr G)) (F0 m 15 ls []) := by
    intro M L H locs ls hD hw hl
    unfold fX13_value_b15 at hD
    refine lv_lconst (v := 0) C.1.1 C.1.2.1 dX13_value_15 (by decide) ?_
    refine lv_goto (tgt := 25) C.1.1 C.1.2.1 dX13_value_16 (by decide) ?_
    exact hb25 0 M L _ _ ls hD hw (lv_sub hl [] rfl)
  unfold DX13_value at hD
  refine lv_aload_n C.1.1 C.1.2.1 dX13_value_0 rfl (lv_at hl 0 rfl) ?_
  refine lv_iconst (v := 0) C.1.1 C.1.2.1 dX13_value_1 (by decide) ?_
  obtain ⟨M1, eM1, hD⟩ := g_let hD
  refine mr_putI C hw kc_13 0 (Mc_N0 hk0) (Mc_T0 hk0) wd_2642 dX13_value_2 (by decide) rfl rfl rfl rfl (fun H locs hw => ?_)
  replace hw : mw_W G ad NF TF FF M1 L H locs := by rw [eM1]; exact hw
  refine lv_iload_n C.1.1 C.1.2.1 dX13_value_5 rfl (lv_at hl 1 rfl) ?_
  refine lv_if_lt (tgt := 15) C.1.1 C.1.2.1 dX13_value_6 (by decide) (fun c2 => ?_) (fun c2 => ?_)
  · replace hD := g_pos c2 hD
    exact hb15 M1 L _ _ ls hD hw (lv_sub hl [] rfl)
  · replace hD := g_neg c2 hD
    refine lv_iload_n C.1.1 C.1.2.1 dX13_value_9 rfl (lv_at hl 1 rfl) ?_
    refine lv_bipush (v := 31) C.1.1 C.1.2.1 dX13_value_10 (by decide) ?_
    refine lv_icmp_le (tgt := 19) C.1.1 C.1.2.1 dX13_value_12 (by decide) (fun c3 => ?_) (fun c3 => ?_)
    · replace hD := g_pos c3 hD
      refine lv_aload_n C.1.1 C.1.2.1 dX13_value_19 rfl (lv_at hl 0 rfl) ?_
      refine mr_getR C hw kc_13 25 (Mc_N0 hk0) (Mc_T0 hk0) (Mc_F0_25 hk0) wd_2667 dX13_value_20 (by decide) rfl ?_
      refine lv_iload_n C.1.1 C.1.2.1 dX13_value_23 rfl (lv_at hl 1 rfl) ?_
      obtain ⟨q4, hD⟩ := g_ck hD
      refine mr_lald C hw (Mc_N21 hk0) (Mc_T21 hk0) q4 dX13_value_24 ?_
      exact hb25 (L (k + 21) a1.toNatClampNeg) M1 L _ _ ls hD hw (lv_sub hl [] rfl)
    · replace hD := g_neg c3 hD
      exact hb15 M1 L _ _ ls hD hw (lv_sub hl [] rfl)

theorem dX13_dropped_0 : decode cX13_dropped 0 = .ok (.aload_n 0, 1) := by decide +kernel
theorem dX13_dropped_1 : decode cX13_dropped 1 = .ok (.iconst 0, 1) := by decide +kernel
theorem dX13_dropped_2 : decode cX13_dropped 2 = .ok (.putfield 132, 3) := by decide +kernel
theorem dX13_dropped_5 : decode cX13_dropped 5 = .ok (.aload_n 0, 1) := by decide +kernel
theorem dX13_dropped_6 : decode cX13_dropped 6 = .ok (.getfield 123, 3) := by decide +kernel
theorem dX13_dropped_9 : decode cX13_dropped 9 = .ok (.ireturn, 1) := by decide +kernel
theorem cwX13_dropped : mw_cwV yX13_dropped cX13_dropped 1 ((some .int)) 0 := ⟨⟨wd_20, wd_4289, by decide +kernel⟩, wd_4287, wd_4288⟩
set_option maxHeartbeats 4000000 in
set_option maxRecDepth 100000 in
theorem tX13_dropped (l : Launch) (G : mwG) (ad : Nat → Nat) (fu : Nat) (k : Nat) (M : mwM) (L : mwL) {r0 : Int32} {M0 : mwM} {L0 : mwL} (hD : DX13_dropped fu k M L = some (r0, M0, L0)) (hk0 : isMc k) : Met l yX13_dropped (Cond.code yX13_dropped cX13_dropped 1 ((some .int)) :: GT) ({ frames := 0, cells := 0, slots := 0, locals := 0 }) (mw_Pre G ad NF TF FF M L [.ref (ad k)]) (mw_Qi G ad NF TF FF (mw_eqI r0 M0 L0)) 0 0 (mw_fr G) := by
  refine mw_enter (by decide) (Nat.le_of_ble_eq_true rfl) ?_
  intro p e s m below meth c ls C hr hlocks hnm hw hl
  have hl : lv_has ls 1 [(0, .ref (ad k))] := hl
  unfold DX13_dropped at hD
  refine lv_aload_n C.1.1 C.1.2.1 dX13_dropped_0 rfl (lv_at hl 0 rfl) ?_
  refine lv_iconst (v := 0) C.1.1 C.1.2.1 dX13_dropped_1 (by decide) ?_
  obtain ⟨M1, eM1, hD⟩ := g_let hD
  refine mr_putI C hw kc_13 0 (Mc_N0 hk0) (Mc_T0 hk0) wd_2642 dX13_dropped_2 (by decide) rfl rfl rfl rfl (fun H locs hw => ?_)
  replace hw : mw_W G ad NF TF FF M1 L H locs := by rw [eM1]; exact hw
  refine lv_aload_n C.1.1 C.1.2.1 dX13_dropped_5 rfl (lv_at hl 0 rfl) ?_
  refine mr_getI C hw kc_13 29 (Mc_N0 hk0) (Mc_T0 hk0) wd_2671 dX13_dropped_6 (by decide) rfl ?_
  exact mr_iret C hr hlocks hw rfl (Option.some.inj hD) dX13_dropped_9
