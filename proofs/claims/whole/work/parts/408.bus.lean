theorem dX0_begin_0 : decode cX0_begin 0 = .ok (.aload_n 0, 1) := by decide +kernel
theorem dX0_begin_1 : decode cX0_begin 1 = .ok (.iload_n 1, 1) := by decide +kernel
theorem dX0_begin_2 : decode cX0_begin 2 = .ok (.bipush 7, 2) := by decide +kernel
theorem dX0_begin_4 : decode cX0_begin 4 = .ok (.invokestatic 43, 3) := by decide +kernel
theorem dX0_begin_7 : decode cX0_begin 7 = .ok (.putfield 49, 3) := by decide +kernel
theorem dX0_begin_10 : decode cX0_begin 10 = .ok (.aload_n 0, 1) := by decide +kernel
theorem dX0_begin_11 : decode cX0_begin 11 = .ok (.iconst 0, 1) := by decide +kernel
theorem dX0_begin_12 : decode cX0_begin 12 = .ok (.putfield 53, 3) := by decide +kernel
theorem dX0_begin_15 : decode cX0_begin 15 = .ok (.aload_n 0, 1) := by decide +kernel
theorem dX0_begin_16 : decode cX0_begin 16 = .ok (.iconst 0, 1) := by decide +kernel
theorem dX0_begin_17 : decode cX0_begin 17 = .ok (.putfield 56, 3) := by decide +kernel
theorem dX0_begin_20 : decode cX0_begin 20 = .ok (.aload_n 0, 1) := by decide +kernel
theorem dX0_begin_21 : decode cX0_begin 21 = .ok (.iconst 0, 1) := by decide +kernel
theorem dX0_begin_22 : decode cX0_begin 22 = .ok (.putfield 59, 3) := by decide +kernel
theorem dX0_begin_25 : decode cX0_begin 25 = .ok (.aload_n 0, 1) := by decide +kernel
theorem dX0_begin_26 : decode cX0_begin 26 = .ok (.iconst 0, 1) := by decide +kernel
theorem dX0_begin_27 : decode cX0_begin 27 = .ok (.putfield 62, 3) := by decide +kernel
theorem dX0_begin_30 : decode cX0_begin 30 = .ok (.aload_n 0, 1) := by decide +kernel
theorem dX0_begin_31 : decode cX0_begin 31 = .ok (.iconst 1, 1) := by decide +kernel
theorem dX0_begin_32 : decode cX0_begin 32 = .ok (.putfield 65, 3) := by decide +kernel
theorem dX0_begin_35 : decode cX0_begin 35 = .ok (.iconst 0, 1) := by decide +kernel
theorem dX0_begin_36 : decode cX0_begin 36 = .ok (.istore_n 2, 1) := by decide +kernel
theorem dX0_begin_37 : decode cX0_begin 37 = .ok (.iload_n 2, 1) := by decide +kernel
theorem dX0_begin_38 : decode cX0_begin 38 = .ok (.bipush 7, 2) := by decide +kernel
theorem dX0_begin_40 : decode cX0_begin 40 = .ok (.if_icmp .ge 37, 3) := by decide +kernel
theorem dX0_begin_43 : decode cX0_begin 43 = .ok (.aload_n 0, 1) := by decide +kernel
theorem dX0_begin_44 : decode cX0_begin 44 = .ok (.getfield 24, 3) := by decide +kernel
theorem dX0_begin_47 : decode cX0_begin 47 = .ok (.iconst 0, 1) := by decide +kernel
theorem dX0_begin_48 : decode cX0_begin 48 = .ok (.aaload, 1) := by decide +kernel
theorem dX0_begin_49 : decode cX0_begin 49 = .ok (.iload_n 2, 1) := by decide +kernel
theorem dX0_begin_50 : decode cX0_begin 50 = .ok (.iconst 0, 1) := by decide +kernel
theorem dX0_begin_51 : decode cX0_begin 51 = .ok (.iastore, 1) := by decide +kernel
theorem dX0_begin_52 : decode cX0_begin 52 = .ok (.aload_n 0, 1) := by decide +kernel
theorem dX0_begin_53 : decode cX0_begin 53 = .ok (.getfield 24, 3) := by decide +kernel
theorem dX0_begin_56 : decode cX0_begin 56 = .ok (.iconst 5, 1) := by decide +kernel
theorem dX0_begin_57 : decode cX0_begin 57 = .ok (.aaload, 1) := by decide +kernel
theorem dX0_begin_58 : decode cX0_begin 58 = .ok (.iload_n 2, 1) := by decide +kernel
theorem dX0_begin_59 : decode cX0_begin 59 = .ok (.iconst 0, 1) := by decide +kernel
theorem dX0_begin_60 : decode cX0_begin 60 = .ok (.iastore, 1) := by decide +kernel
theorem dX0_begin_61 : decode cX0_begin 61 = .ok (.aload_n 0, 1) := by decide +kernel
theorem dX0_begin_62 : decode cX0_begin 62 = .ok (.getfield 24, 3) := by decide +kernel
theorem dX0_begin_65 : decode cX0_begin 65 = .ok (.bipush 6, 2) := by decide +kernel
theorem dX0_begin_67 : decode cX0_begin 67 = .ok (.aaload, 1) := by decide +kernel
theorem dX0_begin_68 : decode cX0_begin 68 = .ok (.iload_n 2, 1) := by decide +kernel
theorem dX0_begin_69 : decode cX0_begin 69 = .ok (.iconst 0, 1) := by decide +kernel
theorem dX0_begin_70 : decode cX0_begin 70 = .ok (.iastore, 1) := by decide +kernel
theorem dX0_begin_71 : decode cX0_begin 71 = .ok (.iinc 2 1, 3) := by decide +kernel
theorem dX0_begin_74 : decode cX0_begin 74 = .ok (.goto (-37), 3) := by decide +kernel
theorem dX0_begin_77 : decode cX0_begin 77 = .ok (.iconst 0, 1) := by decide +kernel
theorem dX0_begin_78 : decode cX0_begin 78 = .ok (.istore_n 2, 1) := by decide +kernel
theorem dX0_begin_79 : decode cX0_begin 79 = .ok (.iload_n 2, 1) := by decide +kernel
theorem dX0_begin_80 : decode cX0_begin 80 = .ok (.sipush 20000, 3) := by decide +kernel
theorem dX0_begin_83 : decode cX0_begin 83 = .ok (.if_icmp .ge 16, 3) := by decide +kernel
theorem dX0_begin_86 : decode cX0_begin 86 = .ok (.aload_n 0, 1) := by decide +kernel
theorem dX0_begin_87 : decode cX0_begin 87 = .ok (.getfield 15, 3) := by decide +kernel
theorem dX0_begin_90 : decode cX0_begin 90 = .ok (.iload_n 2, 1) := by decide +kernel
theorem dX0_begin_91 : decode cX0_begin 91 = .ok (.iconst 0, 1) := by decide +kernel
theorem dX0_begin_92 : decode cX0_begin 92 = .ok (.bastore, 1) := by decide +kernel
theorem dX0_begin_93 : decode cX0_begin 93 = .ok (.iinc 2 1, 3) := by decide +kernel
theorem dX0_begin_96 : decode cX0_begin 96 = .ok (.goto (-17), 3) := by decide +kernel
theorem dX0_begin_99 : decode cX0_begin 99 = .ok (.return_, 1) := by decide +kernel
theorem cwX0_begin : mw_cwV yX0_begin cX0_begin 3 (none) 1 := ⟨⟨wd_5, wd_1198, by decide +kernel⟩, wd_1196, wd_1197⟩
set_option maxHeartbeats 4000000 in
set_option maxRecDepth 100000 in
theorem tX0_begin (l : Launch) (G : mwG) (ad : Nat → Nat) (fu : Nat) (a1 : Int32) (M : mwM) (L : mwL) {M0 : mwM} {L0 : mwL} (hD : DX0_begin fu a1 M L = some (M0, L0)) : Met l yX0_begin (Cond.code yX0_begin cX0_begin 3 (none) :: GT) ({ frames := 1, cells := 0, slots := 0, locals := 21 }) (mw_Pre G ad NF TF FF M L [.ref (ad 20), .int a1]) (mw_Qv G ad NF TF FF (mw_eqV M0 L0)) 0 0 (mw_fr G) := by
  refine mw_enter (by decide) (Nat.le_of_ble_eq_true rfl) ?_
  intro p e s m below meth c ls C hr hlocks hnm hw hl
  have hl : lv_has ls 3 [(0, .ref (ad 20)), (1, .int a1)] := hl
  have hh79 : ∀ (f : Nat) (v2 : Int32) (M : mwM) (L : mwL) (H : Heap) (locs : List Loc) (ls : Array Slot), fX0_begin_h79 fu a1 f (v2, M, L) = some (M0, L0) → mw_W G ad NF TF FF M L H locs → lv_has ls 3 [(0, .ref (ad 20)), (2, .int v2)] → W p l e ({ frames := 1, cells := 0, slots := 0, locals := 21 }) s m [.ref (ad 20), .int a1].toArray below meth c H locs 0 0 (MQ below (mw_Qv G ad NF TF FF (mw_eqV M0 L0)) [.ref (ad 20), .int a1].toArray s 0 0 (mw_fr G)) (F0 m 79 ls []) := by
    intro f
    induction f with
    | zero => intro v2 M L H locs ls hD; cases hD
    | succ f79 ih79 =>
      intro v2 M L H locs ls hD hw hl
      replace hD : fX0_begin_i79 fu a1 (fX0_begin_h79 fu a1 f79) v2 M L = some (M0, L0) := hD
      unfold fX0_begin_i79 at hD
      refine lv_iload_n C.1.1 C.1.2.1 dX0_begin_79 rfl (lv_at hl 1 rfl) ?_
      refine lv_sipush (v := 20000) C.1.1 C.1.2.1 dX0_begin_80 (by decide) ?_
      refine lv_icmp_ge (tgt := 99) C.1.1 C.1.2.1 dX0_begin_83 (by decide) (fun c12 => ?_) (fun c12 => ?_)
      · replace hD := g_pos c12 hD
        exact mr_vret C hr hlocks hw (Option.some.inj hD) dX0_begin_99
      · replace hD := g_neg c12 hD
        refine lv_aload_n C.1.1 C.1.2.1 dX0_begin_86 rfl (lv_at hl 0 rfl) ?_
        refine mr_getR C hw kc_0 1 (by decide) tf_20 ff_20_1 wd_173 dX0_begin_87 (by decide) rfl ?_
        refine lv_iload_n C.1.1 C.1.2.1 dX0_begin_90 rfl (lv_at hl 1 rfl) ?_
        refine lv_iconst (v := 0) C.1.1 C.1.2.1 dX0_begin_91 (by decide) ?_
        obtain ⟨q13, hD⟩ := g_ck hD
        obtain ⟨M14, eM14, hD⟩ := g_let hD
        refine mr_bast C hw (by decide) tf_22 q13 dX0_begin_92 (fun H locs hw => ?_)
        replace hw : mw_W G ad NF TF FF M14 L H locs := by rw [eM14]; exact hw
        obtain ⟨x15, ex15, hD⟩ := g_let hD
        refine lv_iinc (v := x15) (lv' := [(2, .int x15), (0, .ref (ad 20))]) C.1.1 C.1.2.1 dX0_begin_93 hl (k := 1) rfl (by rw [ex15]; rfl) (by decide) rfl (fun ls hl => ?_)
        refine lv_goto (tgt := 79) C.1.1 C.1.2.1 dX0_begin_96 (by decide) ?_
        exact ih79 x15 M14 L _ _ ls hD hw (lv_sub hl [1, 0] rfl)
  have hh37 : ∀ (f : Nat) (v2 : Int32) (M : mwM) (L : mwL) (H : Heap) (locs : List Loc) (ls : Array Slot), fX0_begin_h37 fu a1 f (v2, M, L) = some (M0, L0) → mw_W G ad NF TF FF M L H locs → lv_has ls 3 [(0, .ref (ad 20)), (2, .int v2)] → W p l e ({ frames := 1, cells := 0, slots := 0, locals := 21 }) s m [.ref (ad 20), .int a1].toArray below meth c H locs 0 0 (MQ below (mw_Qv G ad NF TF FF (mw_eqV M0 L0)) [.ref (ad 20), .int a1].toArray s 0 0 (mw_fr G)) (F0 m 37 ls []) := by
    intro f
    induction f with
    | zero => intro v2 M L H locs ls hD; cases hD
    | succ f37 ih37 =>
      intro v2 M L H locs ls hD hw hl
      replace hD : fX0_begin_i37 fu a1 (fX0_begin_h37 fu a1 f37) v2 M L = some (M0, L0) := hD
      unfold fX0_begin_i37 at hD
      refine lv_iload_n C.1.1 C.1.2.1 dX0_begin_37 rfl (lv_at hl 1 rfl) ?_
      refine lv_bipush (v := 7) C.1.1 C.1.2.1 dX0_begin_38 (by decide) ?_
      refine lv_icmp_ge (tgt := 77) C.1.1 C.1.2.1 dX0_begin_40 (by decide) (fun c1 => ?_) (fun c1 => ?_)
      · replace hD := g_pos c1 hD
        refine lv_iconst (v := 0) C.1.1 C.1.2.1 dX0_begin_77 (by decide) ?_
        refine lv_istore_n (lv' := [(2, .int 0), (0, .ref (ad 20))]) C.1.1 C.1.2.1 dX0_begin_78 rfl hl (by decide) rfl (fun ls hl => ?_)
        exact hh79 fu 0 M L _ _ ls hD hw (lv_sub hl [1, 0] rfl)
      · replace hD := g_neg c1 hD
        refine lv_aload_n C.1.1 C.1.2.1 dX0_begin_43 rfl (lv_at hl 0 rfl) ?_
        refine mr_getR C hw kc_0 3 (by decide) tf_20 ff_20_3 wd_176 dX0_begin_44 (by decide) rfl ?_
        refine lv_iconst (v := 0) C.1.1 C.1.2.1 dX0_begin_47 (by decide) ?_
        refine mr_aald C hw (by decide) tf_24 (by decide) (by decide) rfl rfl (show vp_in 0 8 from by unfold vp_in; decide) ff_24_0 dX0_begin_48 ?_
        refine lv_iload_n C.1.1 C.1.2.1 dX0_begin_49 rfl (lv_at hl 1 rfl) ?_
        refine lv_iconst (v := 0) C.1.1 C.1.2.1 dX0_begin_50 (by decide) ?_
        obtain ⟨q3, hD⟩ := g_ck hD
        obtain ⟨M4, eM4, hD⟩ := g_let hD
        refine mr_iast C hw (by decide) tf_25 q3 dX0_begin_51 (fun H locs hw => ?_)
        replace hw : mw_W G ad NF TF FF M4 L H locs := by rw [eM4]; exact hw
        refine lv_aload_n C.1.1 C.1.2.1 dX0_begin_52 rfl (lv_at hl 0 rfl) ?_
        refine mr_getR C hw kc_0 3 (by decide) tf_20 ff_20_3 wd_176 dX0_begin_53 (by decide) rfl ?_
        refine lv_iconst (v := 5) C.1.1 C.1.2.1 dX0_begin_56 (by decide) ?_
        refine mr_aald C hw (by decide) tf_24 (by decide) (by decide) rfl rfl (show vp_in 5 8 from by unfold vp_in; decide) ff_24_5 dX0_begin_57 ?_
        refine lv_iload_n C.1.1 C.1.2.1 dX0_begin_58 rfl (lv_at hl 1 rfl) ?_
        refine lv_iconst (v := 0) C.1.1 C.1.2.1 dX0_begin_59 (by decide) ?_
        obtain ⟨q6, hD⟩ := g_ck hD
        obtain ⟨M7, eM7, hD⟩ := g_let hD
        refine mr_iast C hw (by decide) tf_30 q6 dX0_begin_60 (fun H locs hw => ?_)
        replace hw : mw_W G ad NF TF FF M7 L H locs := by rw [eM7]; exact hw
        refine lv_aload_n C.1.1 C.1.2.1 dX0_begin_61 rfl (lv_at hl 0 rfl) ?_
        refine mr_getR C hw kc_0 3 (by decide) tf_20 ff_20_3 wd_176 dX0_begin_62 (by decide) rfl ?_
        refine lv_bipush (v := 6) C.1.1 C.1.2.1 dX0_begin_65 (by decide) ?_
        refine mr_aald C hw (by decide) tf_24 (by decide) (by decide) rfl rfl (show vp_in 6 8 from by unfold vp_in; decide) ff_24_6 dX0_begin_67 ?_
        refine lv_iload_n C.1.1 C.1.2.1 dX0_begin_68 rfl (lv_at hl 1 rfl) ?_
        refine lv_iconst (v := 0) C.1.1 C.1.2.1 dX0_begin_69 (by decide) ?_
        obtain ⟨q9, hD⟩ := g_ck hD
        obtain ⟨M10, eM10, hD⟩ := g_let hD
        refine mr_iast C hw (by decide) tf_31 q9 dX0_begin_70 (fun H locs hw => ?_)
        replace hw : mw_W G ad NF TF FF M10 L H locs := by rw [eM10]; exact hw
        obtain ⟨x11, ex11, hD⟩ := g_let hD
        refine lv_iinc (v := x11) (lv' := [(2, .int x11), (0, .ref (ad 20))]) C.1.1 C.1.2.1 dX0_begin_71 hl (k := 1) rfl (by rw [ex11]; rfl) (by decide) rfl (fun ls hl => ?_)
        refine lv_goto (tgt := 37) C.1.1 C.1.2.1 dX0_begin_74 (by decide) ?_
        exact ih37 x11 M10 L _ _ ls hD hw (lv_sub hl [1, 0] rfl)
  unfold DX0_begin at hD
  refine lv_aload_n C.1.1 C.1.2.1 dX0_begin_0 rfl (lv_at hl 0 rfl) ?_
  refine lv_iload_n C.1.1 C.1.2.1 dX0_begin_1 rfl (lv_at hl 1 rfl) ?_
  refine lv_bipush (v := 7) C.1.1 C.1.2.1 dX0_begin_2 (by decide) ?_
  refine va_mmin C.1.1 C.1.2.1 (C.1.2.2.1.trans hl.1.symm) C.1.2.2.2.1 (C.1.2.2.2.2 _ wd_1199) (C.1.2.2.2.2 _ wd_1150) (C.1.2.2.2.2 _ wd_30) (C.1.2.2.2.2 _ wd_1151) (Nat.le_of_ble_eq_true rfl) (Nat.le_of_ble_eq_true rfl) (Nat.zero_le _) (Nat.zero_le _) dX0_begin_4 ?_
  obtain ⟨M16, eM16, hD⟩ := g_let hD
  refine mr_putI C hw kc_0 8 (by decide) tf_20 wd_183 dX0_begin_7 (by decide) rfl rfl rfl rfl (fun H locs hw => ?_)
  replace hw : mw_W G ad NF TF FF M16 L H locs := by rw [eM16]; exact hw
  refine lv_aload_n C.1.1 C.1.2.1 dX0_begin_10 rfl (lv_at hl 0 rfl) ?_
  refine lv_iconst (v := 0) C.1.1 C.1.2.1 dX0_begin_11 (by decide) ?_
  obtain ⟨M17, eM17, hD⟩ := g_let hD
  refine mr_putI C hw kc_0 9 (by decide) tf_20 wd_184 dX0_begin_12 (by decide) rfl rfl rfl rfl (fun H locs hw => ?_)
  replace hw : mw_W G ad NF TF FF M17 L H locs := by rw [eM17]; exact hw
  refine lv_aload_n C.1.1 C.1.2.1 dX0_begin_15 rfl (lv_at hl 0 rfl) ?_
  refine lv_iconst (v := 0) C.1.1 C.1.2.1 dX0_begin_16 (by decide) ?_
  obtain ⟨M18, eM18, hD⟩ := g_let hD
  refine mr_putI C hw kc_0 10 (by decide) tf_20 wd_185 dX0_begin_17 (by decide) rfl rfl rfl rfl (fun H locs hw => ?_)
  replace hw : mw_W G ad NF TF FF M18 L H locs := by rw [eM18]; exact hw
  refine lv_aload_n C.1.1 C.1.2.1 dX0_begin_20 rfl (lv_at hl 0 rfl) ?_
  refine lv_iconst (v := 0) C.1.1 C.1.2.1 dX0_begin_21 (by decide) ?_
  obtain ⟨M19, eM19, hD⟩ := g_let hD
  refine mr_putI C hw kc_0 11 (by decide) tf_20 wd_187 dX0_begin_22 (by decide) rfl rfl rfl rfl (fun H locs hw => ?_)
  replace hw : mw_W G ad NF TF FF M19 L H locs := by rw [eM19]; exact hw
  refine lv_aload_n C.1.1 C.1.2.1 dX0_begin_25 rfl (lv_at hl 0 rfl) ?_
  refine lv_iconst (v := 0) C.1.1 C.1.2.1 dX0_begin_26 (by decide) ?_
  obtain ⟨M20, eM20, hD⟩ := g_let hD
  refine mr_putI C hw kc_0 12 (by decide) tf_20 wd_189 dX0_begin_27 (by decide) rfl rfl rfl rfl (fun H locs hw => ?_)
  replace hw : mw_W G ad NF TF FF M20 L H locs := by rw [eM20]; exact hw
  refine lv_aload_n C.1.1 C.1.2.1 dX0_begin_30 rfl (lv_at hl 0 rfl) ?_
  refine lv_iconst (v := 1) C.1.1 C.1.2.1 dX0_begin_31 (by decide) ?_
  obtain ⟨M21, eM21, hD⟩ := g_let hD
  refine mr_putI C hw kc_0 13 (by decide) tf_20 wd_191 dX0_begin_32 (by decide) rfl rfl (by decide +kernel) (by decide +kernel) (fun H locs hw => ?_)
  replace hw : mw_W G ad NF TF FF M21 L H locs := by rw [eM21]; exact hw
  refine lv_iconst (v := 0) C.1.1 C.1.2.1 dX0_begin_35 (by decide) ?_
  refine lv_istore_n (lv' := [(2, .int 0), (0, .ref (ad 20)), (1, .int a1)]) C.1.1 C.1.2.1 dX0_begin_36 rfl hl (by decide) rfl (fun ls hl => ?_)
  exact hh37 fu 0 M21 L _ _ ls hD hw (lv_sub hl [1, 0] rfl)

theorem dX0_tellError_0 : decode cX0_tellError 0 = .ok (.aload_n 0, 1) := by decide +kernel
theorem dX0_tellError_1 : decode cX0_tellError 1 = .ok (.getfield 18, 3) := by decide +kernel
theorem dX0_tellError_4 : decode cX0_tellError 4 = .ok (.iload_n 1, 1) := by decide +kernel
theorem dX0_tellError_5 : decode cX0_tellError 5 = .ok (.iaload, 1) := by decide +kernel
theorem dX0_tellError_6 : decode cX0_tellError 6 = .ok (.istore_n 3, 1) := by decide +kernel
theorem dX0_tellError_7 : decode cX0_tellError 7 = .ok (.iload_n 2, 1) := by decide +kernel
theorem dX0_tellError_8 : decode cX0_tellError 8 = .ok (.ifCond .ne 10, 3) := by decide +kernel
theorem dX0_tellError_11 : decode cX0_tellError 11 = .ok (.iload_n 3, 1) := by decide +kernel
theorem dX0_tellError_12 : decode cX0_tellError 12 = .ok (.bipush 7, 2) := by decide +kernel
theorem dX0_tellError_14 : decode cX0_tellError 14 = .ok (.iand, 1) := by decide +kernel
theorem dX0_tellError_15 : decode cX0_tellError 15 = .ok (.goto 21, 3) := by decide +kernel
theorem dX0_tellError_18 : decode cX0_tellError 18 = .ok (.iload_n 2, 1) := by decide +kernel
theorem dX0_tellError_19 : decode cX0_tellError 19 = .ok (.iconst 1, 1) := by decide +kernel
theorem dX0_tellError_20 : decode cX0_tellError 20 = .ok (.if_icmp .ne 12, 3) := by decide +kernel
theorem dX0_tellError_23 : decode cX0_tellError 23 = .ok (.iload_n 3, 1) := by decide +kernel
theorem dX0_tellError_24 : decode cX0_tellError 24 = .ok (.iconst 3, 1) := by decide +kernel
theorem dX0_tellError_25 : decode cX0_tellError 25 = .ok (.ishr, 1) := by decide +kernel
theorem dX0_tellError_26 : decode cX0_tellError 26 = .ok (.bipush 7, 2) := by decide +kernel
theorem dX0_tellError_28 : decode cX0_tellError 28 = .ok (.iand, 1) := by decide +kernel
theorem dX0_tellError_29 : decode cX0_tellError 29 = .ok (.goto 7, 3) := by decide +kernel
theorem dX0_tellError_32 : decode cX0_tellError 32 = .ok (.iload_n 3, 1) := by decide +kernel
theorem dX0_tellError_33 : decode cX0_tellError 33 = .ok (.bipush 6, 2) := by decide +kernel
theorem dX0_tellError_35 : decode cX0_tellError 35 = .ok (.ishr, 1) := by decide +kernel
theorem dX0_tellError_36 : decode cX0_tellError 36 = .ok (.ireturn, 1) := by decide +kernel
theorem cwX0_tellError : mw_cwV yX0_tellError cX0_tellError 4 ((some .int)) 2 := ⟨⟨wd_5, wd_1814, by decide +kernel⟩, wd_1812, wd_1813⟩
set_option maxHeartbeats 4000000 in
set_option maxRecDepth 100000 in
theorem tX0_tellError (l : Launch) (G : mwG) (ad : Nat → Nat) (fu : Nat) (a1 : Int32) (a2 : Int32) (M : mwM) (L : mwL) {r0 : Int32} {M0 : mwM} {L0 : mwL} (hD : DX0_tellError fu a1 a2 M L = some (r0, M0, L0)) : Met l yX0_tellError (Cond.code yX0_tellError cX0_tellError 4 ((some .int)) :: GT) ({ frames := 0, cells := 0, slots := 0, locals := 0 }) (mw_Pre G ad NF TF FF M L [.ref (ad 20), .int a1, .int a2]) (mw_Qi G ad NF TF FF (mw_eqI r0 M0 L0)) 0 0 (mw_fr G) := by
  refine mw_enter (by decide) (Nat.le_of_ble_eq_true rfl) ?_
  intro p e s m below meth c ls C hr hlocks hnm hw hl
  have hl : lv_has ls 4 [(0, .ref (ad 20)), (1, .int a1), (2, .int a2)] := hl
  have hb36 : ∀ (s0 : Int32) (M : mwM) (L : mwL) (H : Heap) (locs : List Loc) (ls : Array Slot), fX0_tellError_b36 fu a1 a2 s0 M L = some (r0, M0, L0) → mw_W G ad NF TF FF M L H locs → lv_has ls 4 [] → W p l e ({ frames := 0, cells := 0, slots := 0, locals := 0 }) s m [.ref (ad 20), .int a1, .int a2].toArray below meth c H locs 0 0 (MQ below (mw_Qi G ad NF TF FF (mw_eqI r0 M0 L0)) [.ref (ad 20), .int a1, .int a2].toArray s 0 0 (mw_fr G)) (F0 m 36 ls [.int s0]) := by
    intro s0 M L H locs ls hD hw hl
    unfold fX0_tellError_b36 at hD
    exact mr_iret C hr hlocks hw rfl (Option.some.inj hD) dX0_tellError_36
  unfold DX0_tellError at hD
  refine lv_aload_n C.1.1 C.1.2.1 dX0_tellError_0 rfl (lv_at hl 0 rfl) ?_
  refine mr_getR C hw kc_0 2 (by decide) tf_20 ff_20_2 wd_175 dX0_tellError_1 (by decide) rfl ?_
  refine lv_iload_n C.1.1 C.1.2.1 dX0_tellError_4 rfl (lv_at hl 1 rfl) ?_
  obtain ⟨q1, hD⟩ := g_ck hD
  refine mr_iald C hw (by decide) tf_23 q1 dX0_tellError_5 ?_
  obtain ⟨x2, ex2, hD⟩ := g_let hD
  refine W.eq (g2 := F0 m 6 ls (.int x2 :: [])) (by rw [ex2]) ?_
  refine lv_istore_n (lv' := [(3, .int x2), (0, .ref (ad 20)), (1, .int a1), (2, .int a2)]) C.1.1 C.1.2.1 dX0_tellError_6 rfl hl (by decide) rfl (fun ls hl => ?_)
  refine lv_iload_n C.1.1 C.1.2.1 dX0_tellError_7 rfl (lv_at hl 3 rfl) ?_
  refine lv_if_ne (tgt := 18) C.1.1 C.1.2.1 dX0_tellError_8 (by decide) (fun c3 => ?_) (fun c3 => ?_)
  · replace hD := g_neg c3 hD
    refine lv_iload_n C.1.1 C.1.2.1 dX0_tellError_18 rfl (lv_at hl 3 rfl) ?_
    refine lv_iconst (v := 1) C.1.1 C.1.2.1 dX0_tellError_19 (by decide) ?_
    refine lv_icmp_ne (tgt := 32) C.1.1 C.1.2.1 dX0_tellError_20 (by decide) (fun c4 => ?_) (fun c4 => ?_)
    · replace hD := g_neg c4 hD
      refine lv_iload_n C.1.1 C.1.2.1 dX0_tellError_32 rfl (lv_at hl 0 rfl) ?_
      refine lv_bipush (v := 6) C.1.1 C.1.2.1 dX0_tellError_33 (by decide) ?_
      refine lv_ishr C.1.1 C.1.2.1 dX0_tellError_35 ?_
      exact hb36 (x2 >>> (6 &&& 31)) M L _ _ ls hD hw (lv_sub hl [] rfl)
    · replace hD := g_pos c4 hD
      refine lv_iload_n C.1.1 C.1.2.1 dX0_tellError_23 rfl (lv_at hl 0 rfl) ?_
      refine lv_iconst (v := 3) C.1.1 C.1.2.1 dX0_tellError_24 (by decide) ?_
      refine lv_ishr C.1.1 C.1.2.1 dX0_tellError_25 ?_
      refine lv_bipush (v := 7) C.1.1 C.1.2.1 dX0_tellError_26 (by decide) ?_
      refine lv_iand C.1.1 C.1.2.1 dX0_tellError_28 ?_
      refine lv_goto (tgt := 36) C.1.1 C.1.2.1 dX0_tellError_29 (by decide) ?_
      exact hb36 ((x2 >>> (3 &&& 31)) &&& 7) M L _ _ ls hD hw (lv_sub hl [] rfl)
  · replace hD := g_pos c3 hD
    refine lv_iload_n C.1.1 C.1.2.1 dX0_tellError_11 rfl (lv_at hl 0 rfl) ?_
    refine lv_bipush (v := 7) C.1.1 C.1.2.1 dX0_tellError_12 (by decide) ?_
    refine lv_iand C.1.1 C.1.2.1 dX0_tellError_14 ?_
    refine lv_goto (tgt := 36) C.1.1 C.1.2.1 dX0_tellError_15 (by decide) ?_
    exact hb36 (x2 &&& 7) M L _ _ ls hD hw (lv_sub hl [] rfl)

theorem dX0_send_0 : decode cX0_send 0 = .ok (.aload_n 0, 1) := by decide +kernel
theorem dX0_send_1 : decode cX0_send 1 = .ok (.getfield 53, 3) := by decide +kernel
theorem dX0_send_4 : decode cX0_send 4 = .ok (.sipush 200, 3) := by decide +kernel
theorem dX0_send_7 : decode cX0_send 7 = .ok (.if_icmp .lt 5, 3) := by decide +kernel
theorem dX0_send_10 : decode cX0_send 10 = .ok (.iconst 0, 1) := by decide +kernel
theorem dX0_send_11 : decode cX0_send 11 = .ok (.ireturn, 1) := by decide +kernel
theorem dX0_send_12 : decode cX0_send 12 = .ok (.aload_n 0, 1) := by decide +kernel
theorem dX0_send_13 : decode cX0_send 13 = .ok (.getfield 36, 3) := by decide +kernel
theorem dX0_send_16 : decode cX0_send 16 = .ok (.iconst 0, 1) := by decide +kernel
theorem dX0_send_17 : decode cX0_send 17 = .ok (.aaload, 1) := by decide +kernel
theorem dX0_send_18 : decode cX0_send 18 = .ok (.aload_n 0, 1) := by decide +kernel
theorem dX0_send_19 : decode cX0_send 19 = .ok (.getfield 53, 3) := by decide +kernel
theorem dX0_send_22 : decode cX0_send 22 = .ok (.iload_n 1, 1) := by decide +kernel
theorem dX0_send_23 : decode cX0_send 23 = .ok (.iastore, 1) := by decide +kernel
theorem dX0_send_24 : decode cX0_send 24 = .ok (.aload_n 0, 1) := by decide +kernel
theorem dX0_send_25 : decode cX0_send 25 = .ok (.getfield 36, 3) := by decide +kernel
theorem dX0_send_28 : decode cX0_send 28 = .ok (.iconst 1, 1) := by decide +kernel
theorem dX0_send_29 : decode cX0_send 29 = .ok (.aaload, 1) := by decide +kernel
theorem dX0_send_30 : decode cX0_send 30 = .ok (.aload_n 0, 1) := by decide +kernel
theorem dX0_send_31 : decode cX0_send 31 = .ok (.getfield 53, 3) := by decide +kernel
theorem dX0_send_34 : decode cX0_send 34 = .ok (.iload_n 2, 1) := by decide +kernel
theorem dX0_send_35 : decode cX0_send 35 = .ok (.iastore, 1) := by decide +kernel
theorem dX0_send_36 : decode cX0_send 36 = .ok (.aload_n 0, 1) := by decide +kernel
theorem dX0_send_37 : decode cX0_send 37 = .ok (.getfield 36, 3) := by decide +kernel
theorem dX0_send_40 : decode cX0_send 40 = .ok (.iconst 2, 1) := by decide +kernel
theorem dX0_send_41 : decode cX0_send 41 = .ok (.aaload, 1) := by decide +kernel
theorem dX0_send_42 : decode cX0_send 42 = .ok (.aload_n 0, 1) := by decide +kernel
theorem dX0_send_43 : decode cX0_send 43 = .ok (.getfield 53, 3) := by decide +kernel
theorem dX0_send_46 : decode cX0_send 46 = .ok (.iconst 0, 1) := by decide +kernel
theorem dX0_send_47 : decode cX0_send 47 = .ok (.iastore, 1) := by decide +kernel
theorem dX0_send_48 : decode cX0_send 48 = .ok (.iconst 0, 1) := by decide +kernel
theorem dX0_send_49 : decode cX0_send 49 = .ok (.istore 4, 2) := by decide +kernel
theorem dX0_send_51 : decode cX0_send 51 = .ok (.iload 4, 2) := by decide +kernel
theorem dX0_send_53 : decode cX0_send 53 = .ok (.bipush 8, 2) := by decide +kernel
theorem dX0_send_55 : decode cX0_send 55 = .ok (.if_icmp .ge 28, 3) := by decide +kernel
theorem dX0_send_58 : decode cX0_send 58 = .ok (.aload_n 0, 1) := by decide +kernel
theorem dX0_send_59 : decode cX0_send 59 = .ok (.getfield 39, 3) := by decide +kernel
theorem dX0_send_62 : decode cX0_send 62 = .ok (.bipush 8, 2) := by decide +kernel
theorem dX0_send_64 : decode cX0_send 64 = .ok (.aload_n 0, 1) := by decide +kernel
theorem dX0_send_65 : decode cX0_send 65 = .ok (.getfield 53, 3) := by decide +kernel
theorem dX0_send_68 : decode cX0_send 68 = .ok (.imul, 1) := by decide +kernel
theorem dX0_send_69 : decode cX0_send 69 = .ok (.iload 4, 2) := by decide +kernel
theorem dX0_send_71 : decode cX0_send 71 = .ok (.iadd, 1) := by decide +kernel
theorem dX0_send_72 : decode cX0_send 72 = .ok (.aload_n 3, 1) := by decide +kernel
theorem dX0_send_73 : decode cX0_send 73 = .ok (.iload 4, 2) := by decide +kernel
theorem dX0_send_75 : decode cX0_send 75 = .ok (.iaload, 1) := by decide +kernel
theorem dX0_send_76 : decode cX0_send 76 = .ok (.iastore, 1) := by decide +kernel
theorem dX0_send_77 : decode cX0_send 77 = .ok (.iinc 4 1, 3) := by decide +kernel
theorem dX0_send_80 : decode cX0_send 80 = .ok (.goto (-29), 3) := by decide +kernel
theorem dX0_send_83 : decode cX0_send 83 = .ok (.aload_n 0, 1) := by decide +kernel
theorem dX0_send_84 : decode cX0_send 84 = .ok (.dup, 1) := by decide +kernel
theorem dX0_send_85 : decode cX0_send 85 = .ok (.getfield 53, 3) := by decide +kernel
theorem dX0_send_88 : decode cX0_send 88 = .ok (.iconst 1, 1) := by decide +kernel
theorem dX0_send_89 : decode cX0_send 89 = .ok (.iadd, 1) := by decide +kernel
theorem dX0_send_90 : decode cX0_send 90 = .ok (.putfield 53, 3) := by decide +kernel
theorem dX0_send_93 : decode cX0_send 93 = .ok (.aload_n 0, 1) := by decide +kernel
theorem dX0_send_94 : decode cX0_send 94 = .ok (.getfield 24, 3) := by decide +kernel
theorem dX0_send_97 : decode cX0_send 97 = .ok (.iconst 5, 1) := by decide +kernel
theorem dX0_send_98 : decode cX0_send 98 = .ok (.aaload, 1) := by decide +kernel
theorem dX0_send_99 : decode cX0_send 99 = .ok (.iload_n 1, 1) := by decide +kernel
theorem dX0_send_100 : decode cX0_send 100 = .ok (.dup2, 1) := by decide +kernel
theorem dX0_send_101 : decode cX0_send 101 = .ok (.iaload, 1) := by decide +kernel
theorem dX0_send_102 : decode cX0_send 102 = .ok (.iconst 1, 1) := by decide +kernel
theorem dX0_send_103 : decode cX0_send 103 = .ok (.iadd, 1) := by decide +kernel
theorem dX0_send_104 : decode cX0_send 104 = .ok (.iastore, 1) := by decide +kernel
theorem dX0_send_105 : decode cX0_send 105 = .ok (.aload_n 0, 1) := by decide +kernel
theorem dX0_send_106 : decode cX0_send 106 = .ok (.iconst 0, 1) := by decide +kernel
theorem dX0_send_107 : decode cX0_send 107 = .ok (.putfield 65, 3) := by decide +kernel
theorem dX0_send_110 : decode cX0_send 110 = .ok (.iconst 1, 1) := by decide +kernel
theorem dX0_send_111 : decode cX0_send 111 = .ok (.ireturn, 1) := by decide +kernel
theorem cwX0_send : mw_cwV yX0_send cX0_send 5 ((some .boolean)) 3 := ⟨⟨wd_5, wd_1335, by decide +kernel⟩, wd_1333, wd_1334⟩
set_option maxHeartbeats 4000000 in
set_option maxRecDepth 100000 in
theorem tX0_send (l : Launch) (G : mwG) (ad : Nat → Nat) (fu : Nat) (a1 : Int32) (a2 : Int32) (a3 : Nat) (n3 : Nat) (M : mwM) (L : mwL) {r0 : Int32} {M0 : mwM} {L0 : mwL} (hD : DX0_send fu a1 a2 a3 n3 M L = some (r0, M0, L0)) (hk3 : a3 < NF) (hT3 : TF a3 = (0, n3)) : Met l yX0_send (Cond.code yX0_send cX0_send 5 ((some .boolean)) :: GT) ({ frames := 0, cells := 0, slots := 0, locals := 0 }) (mw_Pre G ad NF TF FF M L [.ref (ad 20), .int a1, .int a2, .ref (ad a3)]) (mw_Qi G ad NF TF FF (mw_eqI r0 M0 L0)) 0 0 (mw_fr G) := by
  refine mw_enter (by decide) (Nat.le_of_ble_eq_true rfl) ?_
  intro p e s m below meth c ls C hr hlocks hnm hw hl
  have hl : lv_has ls 5 [(0, .ref (ad 20)), (1, .int a1), (2, .int a2), (3, .ref (ad a3))] := hl
  have hh51 : ∀ (f : Nat) (v4 : Int32) (M : mwM) (L : mwL) (H : Heap) (locs : List Loc) (ls : Array Slot), fX0_send_h51 fu a1 a2 a3 n3 f (v4, M, L) = some (r0, M0, L0) → mw_W G ad NF TF FF M L H locs → lv_has ls 5 [(0, .ref (ad 20)), (1, .int a1), (3, .ref (ad a3)), (4, .int v4)] → W p l e ({ frames := 0, cells := 0, slots := 0, locals := 0 }) s m [.ref (ad 20), .int a1, .int a2, .ref (ad a3)].toArray below meth c H locs 0 0 (MQ below (mw_Qi G ad NF TF FF (mw_eqI r0 M0 L0)) [.ref (ad 20), .int a1, .int a2, .ref (ad a3)].toArray s 0 0 (mw_fr G)) (F0 m 51 ls []) := by
    intro f
    induction f with
    | zero => intro v4 M L H locs ls hD; cases hD
    | succ f51 ih51 =>
      intro v4 M L H locs ls hD hw hl
      replace hD : fX0_send_i51 fu a1 a2 a3 n3 (fX0_send_h51 fu a1 a2 a3 n3 f51) v4 M L = some (r0, M0, L0) := hD
      unfold fX0_send_i51 at hD
      refine lv_iload C.1.1 C.1.2.1 dX0_send_51 (lv_at hl 3 rfl) ?_
      refine lv_bipush (v := 8) C.1.1 C.1.2.1 dX0_send_53 (by decide) ?_
      refine lv_icmp_ge (tgt := 83) C.1.1 C.1.2.1 dX0_send_55 (by decide) (fun c1 => ?_) (fun c1 => ?_)
      · replace hD := g_pos c1 hD
        refine lv_aload_n C.1.1 C.1.2.1 dX0_send_83 rfl (lv_at hl 0 rfl) ?_
        refine lv_dup C.1.1 C.1.2.1 dX0_send_84 rfl ?_
        refine mr_getI C hw kc_0 9 (by decide) tf_20 wd_184 dX0_send_85 (by decide) rfl ?_
        refine lv_iconst (v := 1) C.1.1 C.1.2.1 dX0_send_88 (by decide) ?_
        refine lv_iadd C.1.1 C.1.2.1 dX0_send_89 ?_
        obtain ⟨M2, eM2, hD⟩ := g_let hD
        refine mr_putI C hw kc_0 9 (by decide) tf_20 wd_184 dX0_send_90 (by decide) rfl rfl rfl rfl (fun H locs hw => ?_)
        replace hw : mw_W G ad NF TF FF M2 L H locs := by rw [eM2]; exact hw
        refine lv_aload_n C.1.1 C.1.2.1 dX0_send_93 rfl (lv_at hl 0 rfl) ?_
        refine mr_getR C hw kc_0 3 (by decide) tf_20 ff_20_3 wd_176 dX0_send_94 (by decide) rfl ?_
        refine lv_iconst (v := 5) C.1.1 C.1.2.1 dX0_send_97 (by decide) ?_
        refine mr_aald C hw (by decide) tf_24 (by decide) (by decide) rfl rfl (show vp_in 5 8 from by unfold vp_in; decide) ff_24_5 dX0_send_98 ?_
        refine lv_iload_n C.1.1 C.1.2.1 dX0_send_99 rfl (lv_at hl 1 rfl) ?_
        refine lv_dup2_11 C.1.1 C.1.2.1 dX0_send_100 rfl rfl ?_
        obtain ⟨q4, hD⟩ := g_ck hD
        refine mr_iald C hw (by decide) tf_30 q4 dX0_send_101 ?_
        refine lv_iconst (v := 1) C.1.1 C.1.2.1 dX0_send_102 (by decide) ?_
        refine lv_iadd C.1.1 C.1.2.1 dX0_send_103 ?_
        obtain ⟨q5, hD⟩ := g_ck hD
        obtain ⟨M6, eM6, hD⟩ := g_let hD
        refine mr_iast C hw (by decide) tf_30 q5 dX0_send_104 (fun H locs hw => ?_)
        replace hw : mw_W G ad NF TF FF M6 L H locs := by rw [eM6]; exact hw
        refine lv_aload_n C.1.1 C.1.2.1 dX0_send_105 rfl (lv_at hl 0 rfl) ?_
        refine lv_iconst (v := 0) C.1.1 C.1.2.1 dX0_send_106 (by decide) ?_
        obtain ⟨M7, eM7, hD⟩ := g_let hD
        refine mr_putI C hw kc_0 13 (by decide) tf_20 wd_191 dX0_send_107 (by decide) rfl rfl (by decide +kernel) (by decide +kernel) (fun H locs hw => ?_)
        replace hw : mw_W G ad NF TF FF M7 L H locs := by rw [eM7]; exact hw
        refine lv_iconst (v := 1) C.1.1 C.1.2.1 dX0_send_110 (by decide) ?_
        exact mr_iret C hr hlocks hw (by decide +kernel) (Option.some.inj hD) dX0_send_111
      · replace hD := g_neg c1 hD
        refine lv_aload_n C.1.1 C.1.2.1 dX0_send_58 rfl (lv_at hl 0 rfl) ?_
        refine mr_getR C hw kc_0 7 (by decide) tf_20 ff_20_7 wd_182 dX0_send_59 (by decide) rfl ?_
        refine lv_bipush (v := 8) C.1.1 C.1.2.1 dX0_send_62 (by decide) ?_
        refine lv_aload_n C.1.1 C.1.2.1 dX0_send_64 rfl (lv_at hl 0 rfl) ?_
        refine mr_getI C hw kc_0 9 (by decide) tf_20 wd_184 dX0_send_65 (by decide) rfl ?_
        refine lv_imul C.1.1 C.1.2.1 dX0_send_68 ?_
        refine lv_iload C.1.1 C.1.2.1 dX0_send_69 (lv_at hl 3 rfl) ?_
        refine lv_iadd C.1.1 C.1.2.1 dX0_send_71 ?_
        refine lv_aload_n C.1.1 C.1.2.1 dX0_send_72 rfl (lv_at hl 2 rfl) ?_
        refine lv_iload C.1.1 C.1.2.1 dX0_send_73 (lv_at hl 3 rfl) ?_
        obtain ⟨q8, hD⟩ := g_ck hD
        refine mr_iald C hw hk3 hT3 q8 dX0_send_75 ?_
        obtain ⟨q9, hD⟩ := g_ck hD
        obtain ⟨M10, eM10, hD⟩ := g_let hD
        refine mr_iast C hw (by decide) tf_46 q9 dX0_send_76 (fun H locs hw => ?_)
        replace hw : mw_W G ad NF TF FF M10 L H locs := by rw [eM10]; exact hw
        obtain ⟨x11, ex11, hD⟩ := g_let hD
        refine lv_iinc (v := x11) (lv' := [(4, .int x11), (0, .ref (ad 20)), (1, .int a1), (3, .ref (ad a3))]) C.1.1 C.1.2.1 dX0_send_77 hl (k := 3) rfl (by rw [ex11]; rfl) (by decide) rfl (fun ls hl => ?_)
        refine lv_goto (tgt := 51) C.1.1 C.1.2.1 dX0_send_80 (by decide) ?_
        exact ih51 x11 M10 L _ _ ls hD hw (lv_sub hl [1, 2, 3, 0] rfl)
  unfold DX0_send at hD
  refine lv_aload_n C.1.1 C.1.2.1 dX0_send_0 rfl (lv_at hl 0 rfl) ?_
  refine mr_getI C hw kc_0 9 (by decide) tf_20 wd_184 dX0_send_1 (by decide) rfl ?_
  refine lv_sipush (v := 200) C.1.1 C.1.2.1 dX0_send_4 (by decide) ?_
  refine lv_icmp_lt (tgt := 12) C.1.1 C.1.2.1 dX0_send_7 (by decide) (fun c12 => ?_) (fun c12 => ?_)
  · replace hD := g_pos c12 hD
    refine lv_aload_n C.1.1 C.1.2.1 dX0_send_12 rfl (lv_at hl 0 rfl) ?_
    refine mr_getR C hw kc_0 6 (by decide) tf_20 ff_20_6 wd_181 dX0_send_13 (by decide) rfl ?_
    refine lv_iconst (v := 0) C.1.1 C.1.2.1 dX0_send_16 (by decide) ?_
    refine mr_aald C hw (by decide) tf_42 (by decide) (by decide) rfl rfl (show vp_in 0 3 from by unfold vp_in; decide) ff_42_0 dX0_send_17 ?_
    refine lv_aload_n C.1.1 C.1.2.1 dX0_send_18 rfl (lv_at hl 0 rfl) ?_
    refine mr_getI C hw kc_0 9 (by decide) tf_20 wd_184 dX0_send_19 (by decide) rfl ?_
    refine lv_iload_n C.1.1 C.1.2.1 dX0_send_22 rfl (lv_at hl 1 rfl) ?_
    obtain ⟨q14, hD⟩ := g_ck hD
    obtain ⟨M15, eM15, hD⟩ := g_let hD
    refine mr_iast C hw (by decide) tf_43 q14 dX0_send_23 (fun H locs hw => ?_)
    replace hw : mw_W G ad NF TF FF M15 L H locs := by rw [eM15]; exact hw
    refine lv_aload_n C.1.1 C.1.2.1 dX0_send_24 rfl (lv_at hl 0 rfl) ?_
    refine mr_getR C hw kc_0 6 (by decide) tf_20 ff_20_6 wd_181 dX0_send_25 (by decide) rfl ?_
    refine lv_iconst (v := 1) C.1.1 C.1.2.1 dX0_send_28 (by decide) ?_
    refine mr_aald C hw (by decide) tf_42 (by decide) (by decide) rfl rfl (show vp_in 1 3 from by unfold vp_in; decide) ff_42_1 dX0_send_29 ?_
    refine lv_aload_n C.1.1 C.1.2.1 dX0_send_30 rfl (lv_at hl 0 rfl) ?_
    refine mr_getI C hw kc_0 9 (by decide) tf_20 wd_184 dX0_send_31 (by decide) rfl ?_
    refine lv_iload_n C.1.1 C.1.2.1 dX0_send_34 rfl (lv_at hl 2 rfl) ?_
    obtain ⟨q17, hD⟩ := g_ck hD
    obtain ⟨M18, eM18, hD⟩ := g_let hD
    refine mr_iast C hw (by decide) tf_44 q17 dX0_send_35 (fun H locs hw => ?_)
    replace hw : mw_W G ad NF TF FF M18 L H locs := by rw [eM18]; exact hw
    refine lv_aload_n C.1.1 C.1.2.1 dX0_send_36 rfl (lv_at hl 0 rfl) ?_
    refine mr_getR C hw kc_0 6 (by decide) tf_20 ff_20_6 wd_181 dX0_send_37 (by decide) rfl ?_
    refine lv_iconst (v := 2) C.1.1 C.1.2.1 dX0_send_40 (by decide) ?_
    refine mr_aald C hw (by decide) tf_42 (by decide) (by decide) rfl rfl (show vp_in 2 3 from by unfold vp_in; decide) ff_42_2 dX0_send_41 ?_
    refine lv_aload_n C.1.1 C.1.2.1 dX0_send_42 rfl (lv_at hl 0 rfl) ?_
    refine mr_getI C hw kc_0 9 (by decide) tf_20 wd_184 dX0_send_43 (by decide) rfl ?_
    refine lv_iconst (v := 0) C.1.1 C.1.2.1 dX0_send_46 (by decide) ?_
    obtain ⟨q20, hD⟩ := g_ck hD
    obtain ⟨M21, eM21, hD⟩ := g_let hD
    refine mr_iast C hw (by decide) tf_45 q20 dX0_send_47 (fun H locs hw => ?_)
    replace hw : mw_W G ad NF TF FF M21 L H locs := by rw [eM21]; exact hw
    refine lv_iconst (v := 0) C.1.1 C.1.2.1 dX0_send_48 (by decide) ?_
    refine lv_istore (lv' := [(4, .int 0), (0, .ref (ad 20)), (1, .int a1), (2, .int a2), (3, .ref (ad a3))]) C.1.1 C.1.2.1 dX0_send_49 hl (by decide) rfl (fun ls hl => ?_)
    exact hh51 fu 0 M21 L _ _ ls hD hw (lv_sub hl [1, 2, 4, 0] rfl)
  · replace hD := g_neg c12 hD
    refine lv_iconst (v := 0) C.1.1 C.1.2.1 dX0_send_10 (by decide) ?_
    exact mr_iret C hr hlocks hw (by decide +kernel) (Option.some.inj hD) dX0_send_11

theorem dX0_isBefore_0 : decode cX0_isBefore 0 = .ok (.aload_n 0, 1) := by decide +kernel
theorem dX0_isBefore_1 : decode cX0_isBefore 1 = .ok (.getfield 36, 3) := by decide +kernel
theorem dX0_isBefore_4 : decode cX0_isBefore 4 = .ok (.iconst 1, 1) := by decide +kernel
theorem dX0_isBefore_5 : decode cX0_isBefore 5 = .ok (.aaload, 1) := by decide +kernel
theorem dX0_isBefore_6 : decode cX0_isBefore 6 = .ok (.iload_n 1, 1) := by decide +kernel
theorem dX0_isBefore_7 : decode cX0_isBefore 7 = .ok (.iaload, 1) := by decide +kernel
theorem dX0_isBefore_8 : decode cX0_isBefore 8 = .ok (.aload_n 0, 1) := by decide +kernel
theorem dX0_isBefore_9 : decode cX0_isBefore 9 = .ok (.getfield 36, 3) := by decide +kernel
theorem dX0_isBefore_12 : decode cX0_isBefore 12 = .ok (.iconst 1, 1) := by decide +kernel
theorem dX0_isBefore_13 : decode cX0_isBefore 13 = .ok (.aaload, 1) := by decide +kernel
theorem dX0_isBefore_14 : decode cX0_isBefore 14 = .ok (.iload_n 2, 1) := by decide +kernel
theorem dX0_isBefore_15 : decode cX0_isBefore 15 = .ok (.iaload, 1) := by decide +kernel
theorem dX0_isBefore_16 : decode cX0_isBefore 16 = .ok (.if_icmp .eq 28, 3) := by decide +kernel
theorem dX0_isBefore_19 : decode cX0_isBefore 19 = .ok (.aload_n 0, 1) := by decide +kernel
theorem dX0_isBefore_20 : decode cX0_isBefore 20 = .ok (.getfield 36, 3) := by decide +kernel
theorem dX0_isBefore_23 : decode cX0_isBefore 23 = .ok (.iconst 1, 1) := by decide +kernel
theorem dX0_isBefore_24 : decode cX0_isBefore 24 = .ok (.aaload, 1) := by decide +kernel
theorem dX0_isBefore_25 : decode cX0_isBefore 25 = .ok (.iload_n 1, 1) := by decide +kernel
theorem dX0_isBefore_26 : decode cX0_isBefore 26 = .ok (.iaload, 1) := by decide +kernel
theorem dX0_isBefore_27 : decode cX0_isBefore 27 = .ok (.aload_n 0, 1) := by decide +kernel
theorem dX0_isBefore_28 : decode cX0_isBefore 28 = .ok (.getfield 36, 3) := by decide +kernel
theorem dX0_isBefore_31 : decode cX0_isBefore 31 = .ok (.iconst 1, 1) := by decide +kernel
theorem dX0_isBefore_32 : decode cX0_isBefore 32 = .ok (.aaload, 1) := by decide +kernel
theorem dX0_isBefore_33 : decode cX0_isBefore 33 = .ok (.iload_n 2, 1) := by decide +kernel
theorem dX0_isBefore_34 : decode cX0_isBefore 34 = .ok (.iaload, 1) := by decide +kernel
theorem dX0_isBefore_35 : decode cX0_isBefore 35 = .ok (.if_icmp .ge 7, 3) := by decide +kernel
theorem dX0_isBefore_38 : decode cX0_isBefore 38 = .ok (.iconst 1, 1) := by decide +kernel
theorem dX0_isBefore_39 : decode cX0_isBefore 39 = .ok (.goto 4, 3) := by decide +kernel
theorem dX0_isBefore_42 : decode cX0_isBefore 42 = .ok (.iconst 0, 1) := by decide +kernel
theorem dX0_isBefore_43 : decode cX0_isBefore 43 = .ok (.ireturn, 1) := by decide +kernel
theorem dX0_isBefore_44 : decode cX0_isBefore 44 = .ok (.iconst 0, 1) := by decide +kernel
theorem dX0_isBefore_45 : decode cX0_isBefore 45 = .ok (.istore_n 3, 1) := by decide +kernel
theorem dX0_isBefore_46 : decode cX0_isBefore 46 = .ok (.iload_n 3, 1) := by decide +kernel
theorem dX0_isBefore_47 : decode cX0_isBefore 47 = .ok (.bipush 8, 2) := by decide +kernel
theorem dX0_isBefore_49 : decode cX0_isBefore 49 = .ok (.if_icmp .ge 65, 3) := by decide +kernel
theorem dX0_isBefore_52 : decode cX0_isBefore 52 = .ok (.aload_n 0, 1) := by decide +kernel
theorem dX0_isBefore_53 : decode cX0_isBefore 53 = .ok (.getfield 39, 3) := by decide +kernel
theorem dX0_isBefore_56 : decode cX0_isBefore 56 = .ok (.bipush 8, 2) := by decide +kernel
theorem dX0_isBefore_58 : decode cX0_isBefore 58 = .ok (.iload_n 1, 1) := by decide +kernel
theorem dX0_isBefore_59 : decode cX0_isBefore 59 = .ok (.imul, 1) := by decide +kernel
theorem dX0_isBefore_60 : decode cX0_isBefore 60 = .ok (.iload_n 3, 1) := by decide +kernel
theorem dX0_isBefore_61 : decode cX0_isBefore 61 = .ok (.iadd, 1) := by decide +kernel
theorem dX0_isBefore_62 : decode cX0_isBefore 62 = .ok (.iaload, 1) := by decide +kernel
theorem dX0_isBefore_63 : decode cX0_isBefore 63 = .ok (.aload_n 0, 1) := by decide +kernel
theorem dX0_isBefore_64 : decode cX0_isBefore 64 = .ok (.getfield 39, 3) := by decide +kernel
theorem dX0_isBefore_67 : decode cX0_isBefore 67 = .ok (.bipush 8, 2) := by decide +kernel
theorem dX0_isBefore_69 : decode cX0_isBefore 69 = .ok (.iload_n 2, 1) := by decide +kernel
theorem dX0_isBefore_70 : decode cX0_isBefore 70 = .ok (.imul, 1) := by decide +kernel
theorem dX0_isBefore_71 : decode cX0_isBefore 71 = .ok (.iload_n 3, 1) := by decide +kernel
theorem dX0_isBefore_72 : decode cX0_isBefore 72 = .ok (.iadd, 1) := by decide +kernel
theorem dX0_isBefore_73 : decode cX0_isBefore 73 = .ok (.iaload, 1) := by decide +kernel
theorem dX0_isBefore_74 : decode cX0_isBefore 74 = .ok (.if_icmp .eq 34, 3) := by decide +kernel
theorem dX0_isBefore_77 : decode cX0_isBefore 77 = .ok (.aload_n 0, 1) := by decide +kernel
theorem dX0_isBefore_78 : decode cX0_isBefore 78 = .ok (.getfield 39, 3) := by decide +kernel
theorem dX0_isBefore_81 : decode cX0_isBefore 81 = .ok (.bipush 8, 2) := by decide +kernel
theorem dX0_isBefore_83 : decode cX0_isBefore 83 = .ok (.iload_n 1, 1) := by decide +kernel
theorem dX0_isBefore_84 : decode cX0_isBefore 84 = .ok (.imul, 1) := by decide +kernel
theorem dX0_isBefore_85 : decode cX0_isBefore 85 = .ok (.iload_n 3, 1) := by decide +kernel
theorem dX0_isBefore_86 : decode cX0_isBefore 86 = .ok (.iadd, 1) := by decide +kernel
theorem dX0_isBefore_87 : decode cX0_isBefore 87 = .ok (.iaload, 1) := by decide +kernel
theorem dX0_isBefore_88 : decode cX0_isBefore 88 = .ok (.aload_n 0, 1) := by decide +kernel
theorem dX0_isBefore_89 : decode cX0_isBefore 89 = .ok (.getfield 39, 3) := by decide +kernel
theorem dX0_isBefore_92 : decode cX0_isBefore 92 = .ok (.bipush 8, 2) := by decide +kernel
theorem dX0_isBefore_94 : decode cX0_isBefore 94 = .ok (.iload_n 2, 1) := by decide +kernel
theorem dX0_isBefore_95 : decode cX0_isBefore 95 = .ok (.imul, 1) := by decide +kernel
theorem dX0_isBefore_96 : decode cX0_isBefore 96 = .ok (.iload_n 3, 1) := by decide +kernel
theorem dX0_isBefore_97 : decode cX0_isBefore 97 = .ok (.iadd, 1) := by decide +kernel
theorem dX0_isBefore_98 : decode cX0_isBefore 98 = .ok (.iaload, 1) := by decide +kernel
theorem dX0_isBefore_99 : decode cX0_isBefore 99 = .ok (.if_icmp .ge 7, 3) := by decide +kernel
theorem dX0_isBefore_102 : decode cX0_isBefore 102 = .ok (.iconst 1, 1) := by decide +kernel
theorem dX0_isBefore_103 : decode cX0_isBefore 103 = .ok (.goto 4, 3) := by decide +kernel
theorem dX0_isBefore_106 : decode cX0_isBefore 106 = .ok (.iconst 0, 1) := by decide +kernel
theorem dX0_isBefore_107 : decode cX0_isBefore 107 = .ok (.ireturn, 1) := by decide +kernel
theorem dX0_isBefore_108 : decode cX0_isBefore 108 = .ok (.iinc 3 1, 3) := by decide +kernel
theorem dX0_isBefore_111 : decode cX0_isBefore 111 = .ok (.goto (-65), 3) := by decide +kernel
theorem dX0_isBefore_114 : decode cX0_isBefore 114 = .ok (.iconst 0, 1) := by decide +kernel
theorem dX0_isBefore_115 : decode cX0_isBefore 115 = .ok (.ireturn, 1) := by decide +kernel
theorem cwX0_isBefore : mw_cwV yX0_isBefore cX0_isBefore 4 ((some .boolean)) 2 := ⟨⟨wd_5, wd_1352, by decide +kernel⟩, wd_1351, sl_72⟩
set_option maxHeartbeats 4000000 in
set_option maxRecDepth 100000 in
theorem tX0_isBefore (l : Launch) (G : mwG) (ad : Nat → Nat) (fu : Nat) (a1 : Int32) (a2 : Int32) (M : mwM) (L : mwL) {r0 : Int32} {M0 : mwM} {L0 : mwL} (hD : DX0_isBefore fu a1 a2 M L = some (r0, M0, L0)) : Met l yX0_isBefore (Cond.code yX0_isBefore cX0_isBefore 4 ((some .boolean)) :: GT) ({ frames := 0, cells := 0, slots := 0, locals := 0 }) (mw_Pre G ad NF TF FF M L [.ref (ad 20), .int a1, .int a2]) (mw_Qi G ad NF TF FF (mw_eqI r0 M0 L0)) 0 0 (mw_fr G) := by
  refine mw_enter (by decide) (Nat.le_of_ble_eq_true rfl) ?_
  intro p e s m below meth c ls C hr hlocks hnm hw hl
  have hl : lv_has ls 4 [(0, .ref (ad 20)), (1, .int a1), (2, .int a2)] := hl
  have hb43 : ∀ (s0 : Int32) (M : mwM) (L : mwL) (H : Heap) (locs : List Loc) (ls : Array Slot), fX0_isBefore_b43 fu a1 a2 s0 M L = some (r0, M0, L0) → mw_W G ad NF TF FF M L H locs → lv_has ls 4 [] → W p l e ({ frames := 0, cells := 0, slots := 0, locals := 0 }) s m [.ref (ad 20), .int a1, .int a2].toArray below meth c H locs 0 0 (MQ below (mw_Qi G ad NF TF FF (mw_eqI r0 M0 L0)) [.ref (ad 20), .int a1, .int a2].toArray s 0 0 (mw_fr G)) (F0 m 43 ls [.int s0]) := by
    intro s0 M L H locs ls hD hw hl
    unfold fX0_isBefore_b43 at hD
    obtain ⟨z1, hD⟩ := g_zz hD
    exact mr_iret C hr hlocks hw (nz_zz z1) (Option.some.inj hD) dX0_isBefore_43
  have hb107 : ∀ (s0 : Int32) (M : mwM) (L : mwL) (H : Heap) (locs : List Loc) (ls : Array Slot), fX0_isBefore_b107 fu a1 a2 s0 M L = some (r0, M0, L0) → mw_W G ad NF TF FF M L H locs → lv_has ls 4 [] → W p l e ({ frames := 0, cells := 0, slots := 0, locals := 0 }) s m [.ref (ad 20), .int a1, .int a2].toArray below meth c H locs 0 0 (MQ below (mw_Qi G ad NF TF FF (mw_eqI r0 M0 L0)) [.ref (ad 20), .int a1, .int a2].toArray s 0 0 (mw_fr G)) (F0 m 107 ls [.int s0]) := by
    intro s0 M L H locs ls hD hw hl
    unfold fX0_isBefore_b107 at hD
    obtain ⟨z10, hD⟩ := g_zz hD
    exact mr_iret C hr hlocks hw (nz_zz z10) (Option.some.inj hD) dX0_isBefore_107
  have hh46 : ∀ (f : Nat) (v3 : Int32) (M : mwM) (L : mwL) (H : Heap) (locs : List Loc) (ls : Array Slot), fX0_isBefore_h46 fu a1 a2 f (v3, M, L) = some (r0, M0, L0) → mw_W G ad NF TF FF M L H locs → lv_has ls 4 [(0, .ref (ad 20)), (1, .int a1), (2, .int a2), (3, .int v3)] → W p l e ({ frames := 0, cells := 0, slots := 0, locals := 0 }) s m [.ref (ad 20), .int a1, .int a2].toArray below meth c H locs 0 0 (MQ below (mw_Qi G ad NF TF FF (mw_eqI r0 M0 L0)) [.ref (ad 20), .int a1, .int a2].toArray s 0 0 (mw_fr G)) (F0 m 46 ls []) := by
    intro f
    induction f with
    | zero => intro v3 M L H locs ls hD; cases hD
    | succ f46 ih46 =>
      intro v3 M L H locs ls hD hw hl
      replace hD : fX0_isBefore_i46 fu a1 a2 (fX0_isBefore_h46 fu a1 a2 f46) v3 M L = some (r0, M0, L0) := hD
      unfold fX0_isBefore_i46 at hD
      refine lv_iload_n C.1.1 C.1.2.1 dX0_isBefore_46 rfl (lv_at hl 3 rfl) ?_
      refine lv_bipush (v := 8) C.1.1 C.1.2.1 dX0_isBefore_47 (by decide) ?_
      refine lv_icmp_ge (tgt := 114) C.1.1 C.1.2.1 dX0_isBefore_49 (by decide) (fun c2 => ?_) (fun c2 => ?_)
      · replace hD := g_pos c2 hD
        refine lv_iconst (v := 0) C.1.1 C.1.2.1 dX0_isBefore_114 (by decide) ?_
        exact mr_iret C hr hlocks hw (by decide +kernel) (Option.some.inj hD) dX0_isBefore_115
      · replace hD := g_neg c2 hD
        refine lv_aload_n C.1.1 C.1.2.1 dX0_isBefore_52 rfl (lv_at hl 0 rfl) ?_
        refine mr_getR C hw kc_0 7 (by decide) tf_20 ff_20_7 wd_182 dX0_isBefore_53 (by decide) rfl ?_
        refine lv_bipush (v := 8) C.1.1 C.1.2.1 dX0_isBefore_56 (by decide) ?_
        refine lv_iload_n C.1.1 C.1.2.1 dX0_isBefore_58 rfl (lv_at hl 1 rfl) ?_
        refine lv_imul C.1.1 C.1.2.1 dX0_isBefore_59 ?_
        refine lv_iload_n C.1.1 C.1.2.1 dX0_isBefore_60 rfl (lv_at hl 3 rfl) ?_
        refine lv_iadd C.1.1 C.1.2.1 dX0_isBefore_61 ?_
        obtain ⟨q3, hD⟩ := g_ck hD
        refine mr_iald C hw (by decide) tf_46 q3 dX0_isBefore_62 ?_
        refine lv_aload_n C.1.1 C.1.2.1 dX0_isBefore_63 rfl (lv_at hl 0 rfl) ?_
        refine mr_getR C hw kc_0 7 (by decide) tf_20 ff_20_7 wd_182 dX0_isBefore_64 (by decide) rfl ?_
        refine lv_bipush (v := 8) C.1.1 C.1.2.1 dX0_isBefore_67 (by decide) ?_
        refine lv_iload_n C.1.1 C.1.2.1 dX0_isBefore_69 rfl (lv_at hl 2 rfl) ?_
        refine lv_imul C.1.1 C.1.2.1 dX0_isBefore_70 ?_
        refine lv_iload_n C.1.1 C.1.2.1 dX0_isBefore_71 rfl (lv_at hl 3 rfl) ?_
        refine lv_iadd C.1.1 C.1.2.1 dX0_isBefore_72 ?_
        obtain ⟨q4, hD⟩ := g_ck hD
        refine mr_iald C hw (by decide) tf_46 q4 dX0_isBefore_73 ?_
        refine lv_icmp_eq (tgt := 108) C.1.1 C.1.2.1 dX0_isBefore_74 (by decide) (fun c5 => ?_) (fun c5 => ?_)
        · replace hD := g_pos c5 hD
          obtain ⟨x6, ex6, hD⟩ := g_let hD
          refine lv_iinc (v := x6) (lv' := [(3, .int x6), (0, .ref (ad 20)), (1, .int a1), (2, .int a2)]) C.1.1 C.1.2.1 dX0_isBefore_108 hl (k := 3) rfl (by rw [ex6]; rfl) (by decide) rfl (fun ls hl => ?_)
          refine lv_goto (tgt := 46) C.1.1 C.1.2.1 dX0_isBefore_111 (by decide) ?_
          exact ih46 x6 M L _ _ ls hD hw (lv_sub hl [1, 2, 3, 0] rfl)
        · replace hD := g_neg c5 hD
          refine lv_aload_n C.1.1 C.1.2.1 dX0_isBefore_77 rfl (lv_at hl 0 rfl) ?_
          refine mr_getR C hw kc_0 7 (by decide) tf_20 ff_20_7 wd_182 dX0_isBefore_78 (by decide) rfl ?_
          refine lv_bipush (v := 8) C.1.1 C.1.2.1 dX0_isBefore_81 (by decide) ?_
          refine lv_iload_n C.1.1 C.1.2.1 dX0_isBefore_83 rfl (lv_at hl 1 rfl) ?_
          refine lv_imul C.1.1 C.1.2.1 dX0_isBefore_84 ?_
          refine lv_iload_n C.1.1 C.1.2.1 dX0_isBefore_85 rfl (lv_at hl 3 rfl) ?_
          refine lv_iadd C.1.1 C.1.2.1 dX0_isBefore_86 ?_
          obtain ⟨q7, hD⟩ := g_ck hD
          refine mr_iald C hw (by decide) tf_46 q7 dX0_isBefore_87 ?_
          refine lv_aload_n C.1.1 C.1.2.1 dX0_isBefore_88 rfl (lv_at hl 0 rfl) ?_
          refine mr_getR C hw kc_0 7 (by decide) tf_20 ff_20_7 wd_182 dX0_isBefore_89 (by decide) rfl ?_
          refine lv_bipush (v := 8) C.1.1 C.1.2.1 dX0_isBefore_92 (by decide) ?_
          refine lv_iload_n C.1.1 C.1.2.1 dX0_isBefore_94 rfl (lv_at hl 2 rfl) ?_
          refine lv_imul C.1.1 C.1.2.1 dX0_isBefore_95 ?_
          refine lv_iload_n C.1.1 C.1.2.1 dX0_isBefore_96 rfl (lv_at hl 3 rfl) ?_
          refine lv_iadd C.1.1 C.1.2.1 dX0_isBefore_97 ?_
          obtain ⟨q8, hD⟩ := g_ck hD
          refine mr_iald C hw (by decide) tf_46 q8 dX0_isBefore_98 ?_
          refine lv_icmp_ge (tgt := 106) C.1.1 C.1.2.1 dX0_isBefore_99 (by decide) (fun c9 => ?_) (fun c9 => ?_)
          · replace hD := g_pos c9 hD
            refine lv_iconst (v := 0) C.1.1 C.1.2.1 dX0_isBefore_106 (by decide) ?_
            exact hb107 0 M L _ _ ls hD hw (lv_sub hl [] rfl)
          · replace hD := g_neg c9 hD
            refine lv_iconst (v := 1) C.1.1 C.1.2.1 dX0_isBefore_102 (by decide) ?_
            refine lv_goto (tgt := 107) C.1.1 C.1.2.1 dX0_isBefore_103 (by decide) ?_
            exact hb107 1 M L _ _ ls hD hw (lv_sub hl [] rfl)
  unfold DX0_isBefore at hD
  refine lv_aload_n C.1.1 C.1.2.1 dX0_isBefore_0 rfl (lv_at hl 0 rfl) ?_
  refine mr_getR C hw kc_0 6 (by decide) tf_20 ff_20_6 wd_181 dX0_isBefore_1 (by decide) rfl ?_
  refine lv_iconst (v := 1) C.1.1 C.1.2.1 dX0_isBefore_4 (by decide) ?_
  refine mr_aald C hw (by decide) tf_42 (by decide) (by decide) rfl rfl (show vp_in 1 3 from by unfold vp_in; decide) ff_42_1 dX0_isBefore_5 ?_
  refine lv_iload_n C.1.1 C.1.2.1 dX0_isBefore_6 rfl (lv_at hl 1 rfl) ?_
  obtain ⟨q12, hD⟩ := g_ck hD
  refine mr_iald C hw (by decide) tf_44 q12 dX0_isBefore_7 ?_
  refine lv_aload_n C.1.1 C.1.2.1 dX0_isBefore_8 rfl (lv_at hl 0 rfl) ?_
  refine mr_getR C hw kc_0 6 (by decide) tf_20 ff_20_6 wd_181 dX0_isBefore_9 (by decide) rfl ?_
  refine lv_iconst (v := 1) C.1.1 C.1.2.1 dX0_isBefore_12 (by decide) ?_
  refine mr_aald C hw (by decide) tf_42 (by decide) (by decide) rfl rfl (show vp_in 1 3 from by unfold vp_in; decide) ff_42_1 dX0_isBefore_13 ?_
  refine lv_iload_n C.1.1 C.1.2.1 dX0_isBefore_14 rfl (lv_at hl 2 rfl) ?_
  obtain ⟨q14, hD⟩ := g_ck hD
  refine mr_iald C hw (by decide) tf_44 q14 dX0_isBefore_15 ?_
  refine lv_icmp_eq (tgt := 44) C.1.1 C.1.2.1 dX0_isBefore_16 (by decide) (fun c15 => ?_) (fun c15 => ?_)
  · replace hD := g_pos c15 hD
    refine lv_iconst (v := 0) C.1.1 C.1.2.1 dX0_isBefore_44 (by decide) ?_
    refine lv_istore_n (lv' := [(3, .int 0), (0, .ref (ad 20)), (1, .int a1), (2, .int a2)]) C.1.1 C.1.2.1 dX0_isBefore_45 rfl hl (by decide) rfl (fun ls hl => ?_)
    exact hh46 fu 0 M L _ _ ls hD hw (lv_sub hl [1, 2, 3, 0] rfl)
  · replace hD := g_neg c15 hD
    refine lv_aload_n C.1.1 C.1.2.1 dX0_isBefore_19 rfl (lv_at hl 0 rfl) ?_
    refine mr_getR C hw kc_0 6 (by decide) tf_20 ff_20_6 wd_181 dX0_isBefore_20 (by decide) rfl ?_
    refine lv_iconst (v := 1) C.1.1 C.1.2.1 dX0_isBefore_23 (by decide) ?_
    refine mr_aald C hw (by decide) tf_42 (by decide) (by decide) rfl rfl (show vp_in 1 3 from by unfold vp_in; decide) ff_42_1 dX0_isBefore_24 ?_
    refine lv_iload_n C.1.1 C.1.2.1 dX0_isBefore_25 rfl (lv_at hl 1 rfl) ?_
    obtain ⟨q17, hD⟩ := g_ck hD
    refine mr_iald C hw (by decide) tf_44 q17 dX0_isBefore_26 ?_
    refine lv_aload_n C.1.1 C.1.2.1 dX0_isBefore_27 rfl (lv_at hl 0 rfl) ?_
    refine mr_getR C hw kc_0 6 (by decide) tf_20 ff_20_6 wd_181 dX0_isBefore_28 (by decide) rfl ?_
    refine lv_iconst (v := 1) C.1.1 C.1.2.1 dX0_isBefore_31 (by decide) ?_
    refine mr_aald C hw (by decide) tf_42 (by decide) (by decide) rfl rfl (show vp_in 1 3 from by unfold vp_in; decide) ff_42_1 dX0_isBefore_32 ?_
    refine lv_iload_n C.1.1 C.1.2.1 dX0_isBefore_33 rfl (lv_at hl 2 rfl) ?_
    obtain ⟨q19, hD⟩ := g_ck hD
    refine mr_iald C hw (by decide) tf_44 q19 dX0_isBefore_34 ?_
    refine lv_icmp_ge (tgt := 42) C.1.1 C.1.2.1 dX0_isBefore_35 (by decide) (fun c20 => ?_) (fun c20 => ?_)
    · replace hD := g_pos c20 hD
      refine lv_iconst (v := 0) C.1.1 C.1.2.1 dX0_isBefore_42 (by decide) ?_
      exact hb43 0 M L _ _ ls hD hw (lv_sub hl [] rfl)
    · replace hD := g_neg c20 hD
      refine lv_iconst (v := 1) C.1.1 C.1.2.1 dX0_isBefore_38 (by decide) ?_
      refine lv_goto (tgt := 43) C.1.1 C.1.2.1 dX0_isBefore_39 (by decide) ?_
      exact hb43 1 M L _ _ ls hD hw (lv_sub hl [] rfl)

theorem dX0_plainBit_0 : decode cX0_plainBit 0 = .ok (.iload_n 2, 1) := by decide +kernel
theorem dX0_plainBit_1 : decode cX0_plainBit 1 = .ok (.bipush 19, 2) := by decide +kernel
theorem dX0_plainBit_3 : decode cX0_plainBit 3 = .ok (.if_icmp .lt 34, 3) := by decide +kernel
theorem dX0_plainBit_6 : decode cX0_plainBit 6 = .ok (.aload_n 0, 1) := by decide +kernel
theorem dX0_plainBit_7 : decode cX0_plainBit 7 = .ok (.getfield 39, 3) := by decide +kernel
theorem dX0_plainBit_10 : decode cX0_plainBit 10 = .ok (.bipush 8, 2) := by decide +kernel
theorem dX0_plainBit_12 : decode cX0_plainBit 12 = .ok (.iload_n 1, 1) := by decide +kernel
theorem dX0_plainBit_13 : decode cX0_plainBit 13 = .ok (.imul, 1) := by decide +kernel
theorem dX0_plainBit_14 : decode cX0_plainBit 14 = .ok (.iload_n 2, 1) := by decide +kernel
theorem dX0_plainBit_15 : decode cX0_plainBit 15 = .ok (.bipush 19, 2) := by decide +kernel
theorem dX0_plainBit_17 : decode cX0_plainBit 17 = .ok (.isub, 1) := by decide +kernel
theorem dX0_plainBit_18 : decode cX0_plainBit 18 = .ok (.bipush 8, 2) := by decide +kernel
theorem dX0_plainBit_20 : decode cX0_plainBit 20 = .ok (.idiv, 1) := by decide +kernel
theorem dX0_plainBit_21 : decode cX0_plainBit 21 = .ok (.iadd, 1) := by decide +kernel
theorem dX0_plainBit_22 : decode cX0_plainBit 22 = .ok (.iaload, 1) := by decide +kernel
theorem dX0_plainBit_23 : decode cX0_plainBit 23 = .ok (.bipush 7, 2) := by decide +kernel
theorem dX0_plainBit_25 : decode cX0_plainBit 25 = .ok (.iload_n 2, 1) := by decide +kernel
theorem dX0_plainBit_26 : decode cX0_plainBit 26 = .ok (.bipush 19, 2) := by decide +kernel
theorem dX0_plainBit_28 : decode cX0_plainBit 28 = .ok (.isub, 1) := by decide +kernel
theorem dX0_plainBit_29 : decode cX0_plainBit 29 = .ok (.bipush 8, 2) := by decide +kernel
theorem dX0_plainBit_31 : decode cX0_plainBit 31 = .ok (.irem, 1) := by decide +kernel
theorem dX0_plainBit_32 : decode cX0_plainBit 32 = .ok (.isub, 1) := by decide +kernel
theorem dX0_plainBit_33 : decode cX0_plainBit 33 = .ok (.ishr, 1) := by decide +kernel
theorem dX0_plainBit_34 : decode cX0_plainBit 34 = .ok (.iconst 1, 1) := by decide +kernel
theorem dX0_plainBit_35 : decode cX0_plainBit 35 = .ok (.iand, 1) := by decide +kernel
theorem dX0_plainBit_36 : decode cX0_plainBit 36 = .ok (.ireturn, 1) := by decide +kernel
theorem dX0_plainBit_37 : decode cX0_plainBit 37 = .ok (.iload_n 2, 1) := by decide +kernel
theorem dX0_plainBit_38 : decode cX0_plainBit 38 = .ok (.iconst 1, 1) := by decide +kernel
theorem dX0_plainBit_39 : decode cX0_plainBit 39 = .ok (.if_icmp .lt 25, 3) := by decide +kernel
theorem dX0_plainBit_42 : decode cX0_plainBit 42 = .ok (.iload_n 2, 1) := by decide +kernel
theorem dX0_plainBit_43 : decode cX0_plainBit 43 = .ok (.bipush 11, 2) := by decide +kernel
theorem dX0_plainBit_45 : decode cX0_plainBit 45 = .ok (.if_icmp .gt 19, 3) := by decide +kernel
theorem dX0_plainBit_48 : decode cX0_plainBit 48 = .ok (.aload_n 0, 1) := by decide +kernel
theorem dX0_plainBit_49 : decode cX0_plainBit 49 = .ok (.getfield 36, 3) := by decide +kernel
theorem dX0_plainBit_52 : decode cX0_plainBit 52 = .ok (.iconst 1, 1) := by decide +kernel
theorem dX0_plainBit_53 : decode cX0_plainBit 53 = .ok (.aaload, 1) := by decide +kernel
theorem dX0_plainBit_54 : decode cX0_plainBit 54 = .ok (.iload_n 1, 1) := by decide +kernel
theorem dX0_plainBit_55 : decode cX0_plainBit 55 = .ok (.iaload, 1) := by decide +kernel
theorem dX0_plainBit_56 : decode cX0_plainBit 56 = .ok (.bipush 11, 2) := by decide +kernel
theorem dX0_plainBit_58 : decode cX0_plainBit 58 = .ok (.iload_n 2, 1) := by decide +kernel
theorem dX0_plainBit_59 : decode cX0_plainBit 59 = .ok (.isub, 1) := by decide +kernel
theorem dX0_plainBit_60 : decode cX0_plainBit 60 = .ok (.ishr, 1) := by decide +kernel
theorem dX0_plainBit_61 : decode cX0_plainBit 61 = .ok (.iconst 1, 1) := by decide +kernel
theorem dX0_plainBit_62 : decode cX0_plainBit 62 = .ok (.iand, 1) := by decide +kernel
theorem dX0_plainBit_63 : decode cX0_plainBit 63 = .ok (.ireturn, 1) := by decide +kernel
theorem dX0_plainBit_64 : decode cX0_plainBit 64 = .ok (.iload_n 2, 1) := by decide +kernel
theorem dX0_plainBit_65 : decode cX0_plainBit 65 = .ok (.bipush 15, 2) := by decide +kernel
theorem dX0_plainBit_67 : decode cX0_plainBit 67 = .ok (.if_icmp .ne 7, 3) := by decide +kernel
theorem dX0_plainBit_70 : decode cX0_plainBit 70 = .ok (.iconst 1, 1) := by decide +kernel
theorem dX0_plainBit_71 : decode cX0_plainBit 71 = .ok (.goto 4, 3) := by decide +kernel
theorem dX0_plainBit_74 : decode cX0_plainBit 74 = .ok (.iconst 0, 1) := by decide +kernel
theorem dX0_plainBit_75 : decode cX0_plainBit 75 = .ok (.ireturn, 1) := by decide +kernel
theorem cwX0_plainBit : mw_cwV yX0_plainBit cX0_plainBit 3 ((some .int)) 2 := ⟨⟨wd_5, wd_1361, by decide +kernel⟩, wd_1360, sl_74⟩
set_option maxHeartbeats 4000000 in
set_option maxRecDepth 100000 in
theorem tX0_plainBit (l : Launch) (G : mwG) (ad : Nat → Nat) (fu : Nat) (a1 : Int32) (a2 : Int32) (M : mwM) (L : mwL) {r0 : Int32} {M0 : mwM} {L0 : mwL} (hD : DX0_plainBit fu a1 a2 M L = some (r0, M0, L0)) : Met l yX0_plainBit (Cond.code yX0_plainBit cX0_plainBit 3 ((some .int)) :: GT) ({ frames := 0, cells := 0, slots := 0, locals := 0 }) (mw_Pre G ad NF TF FF M L [.ref (ad 20), .int a1, .int a2]) (mw_Qi G ad NF TF FF (mw_eqI r0 M0 L0)) 0 0 (mw_fr G) := by
  refine mw_enter (by decide) (Nat.le_of_ble_eq_true rfl) ?_
  intro p e s m below meth c ls C hr hlocks hnm hw hl
  have hl : lv_has ls 3 [(0, .ref (ad 20)), (1, .int a1), (2, .int a2)] := hl
  have hb75 : ∀ (s0 : Int32) (M : mwM) (L : mwL) (H : Heap) (locs : List Loc) (ls : Array Slot), fX0_plainBit_b75 fu a1 a2 s0 M L = some (r0, M0, L0) → mw_W G ad NF TF FF M L H locs → lv_has ls 3 [] → W p l e ({ frames := 0, cells := 0, slots := 0, locals := 0 }) s m [.ref (ad 20), .int a1, .int a2].toArray below meth c H locs 0 0 (MQ below (mw_Qi G ad NF TF FF (mw_eqI r0 M0 L0)) [.ref (ad 20), .int a1, .int a2].toArray s 0 0 (mw_fr G)) (F0 m 75 ls [.int s0]) := by
    intro s0 M L H locs ls hD hw hl
    unfold fX0_plainBit_b75 at hD
    exact mr_iret C hr hlocks hw rfl (Option.some.inj hD) dX0_plainBit_75
  have hb64 : ∀ (M : mwM) (L : mwL) (H : Heap) (locs : List Loc) (ls : Array Slot), fX0_plainBit_b64 fu a1 a2 M L = some (r0, M0, L0) → mw_W G ad NF TF FF M L H locs → lv_has ls 3 [(2, .int a2)] → W p l e ({ frames := 0, cells := 0, slots := 0, locals := 0 }) s m [.ref (ad 20), .int a1, .int a2].toArray below meth c H locs 0 0 (MQ below (mw_Qi G ad NF TF FF (mw_eqI r0 M0 L0)) [.ref (ad 20), .int a1, .int a2].toArray s 0 0 (mw_fr G)) (F0 m 64 ls []) := by
    intro M L H locs ls hD hw hl
    unfold fX0_plainBit_b64 at hD
    refine lv_iload_n C.1.1 C.1.2.1 dX0_plainBit_64 rfl (lv_at hl 0 rfl) ?_
    refine lv_bipush (v := 15) C.1.1 C.1.2.1 dX0_plainBit_65 (by decide) ?_
    refine lv_icmp_ne (tgt := 74) C.1.1 C.1.2.1 dX0_plainBit_67 (by decide) (fun c1 => ?_) (fun c1 => ?_)
    · replace hD := g_neg c1 hD
      refine lv_iconst (v := 0) C.1.1 C.1.2.1 dX0_plainBit_74 (by decide) ?_
      exact hb75 0 M L _ _ ls hD hw (lv_sub hl [] rfl)
    · replace hD := g_pos c1 hD
      refine lv_iconst (v := 1) C.1.1 C.1.2.1 dX0_plainBit_70 (by decide) ?_
      refine lv_goto (tgt := 75) C.1.1 C.1.2.1 dX0_plainBit_71 (by decide) ?_
      exact hb75 1 M L _ _ ls hD hw (lv_sub hl [] rfl)
  unfold DX0_plainBit at hD
  refine lv_iload_n C.1.1 C.1.2.1 dX0_plainBit_0 rfl (lv_at hl 2 rfl) ?_
  refine lv_bipush (v := 19) C.1.1 C.1.2.1 dX0_plainBit_1 (by decide) ?_
  refine lv_icmp_lt (tgt := 37) C.1.1 C.1.2.1 dX0_plainBit_3 (by decide) (fun c2 => ?_) (fun c2 => ?_)
  · replace hD := g_pos c2 hD
    refine lv_iload_n C.1.1 C.1.2.1 dX0_plainBit_37 rfl (lv_at hl 2 rfl) ?_
    refine lv_iconst (v := 1) C.1.1 C.1.2.1 dX0_plainBit_38 (by decide) ?_
    refine lv_icmp_lt (tgt := 64) C.1.1 C.1.2.1 dX0_plainBit_39 (by decide) (fun c3 => ?_) (fun c3 => ?_)
    · replace hD := g_pos c3 hD
      exact hb64 M L _ _ ls hD hw (lv_sub hl [2] rfl)
    · replace hD := g_neg c3 hD
      refine lv_iload_n C.1.1 C.1.2.1 dX0_plainBit_42 rfl (lv_at hl 2 rfl) ?_
      refine lv_bipush (v := 11) C.1.1 C.1.2.1 dX0_plainBit_43 (by decide) ?_
      refine lv_icmp_gt (tgt := 64) C.1.1 C.1.2.1 dX0_plainBit_45 (by decide) (fun c4 => ?_) (fun c4 => ?_)
      · replace hD := g_pos c4 hD
        exact hb64 M L _ _ ls hD hw (lv_sub hl [2] rfl)
      · replace hD := g_neg c4 hD
        refine lv_aload_n C.1.1 C.1.2.1 dX0_plainBit_48 rfl (lv_at hl 0 rfl) ?_
        refine mr_getR C hw kc_0 6 (by decide) tf_20 ff_20_6 wd_181 dX0_plainBit_49 (by decide) rfl ?_
        refine lv_iconst (v := 1) C.1.1 C.1.2.1 dX0_plainBit_52 (by decide) ?_
        refine mr_aald C hw (by decide) tf_42 (by decide) (by decide) rfl rfl (show vp_in 1 3 from by unfold vp_in; decide) ff_42_1 dX0_plainBit_53 ?_
        refine lv_iload_n C.1.1 C.1.2.1 dX0_plainBit_54 rfl (lv_at hl 1 rfl) ?_
        obtain ⟨q6, hD⟩ := g_ck hD
        refine mr_iald C hw (by decide) tf_44 q6 dX0_plainBit_55 ?_
        refine lv_bipush (v := 11) C.1.1 C.1.2.1 dX0_plainBit_56 (by decide) ?_
        refine lv_iload_n C.1.1 C.1.2.1 dX0_plainBit_58 rfl (lv_at hl 2 rfl) ?_
        refine lv_isub C.1.1 C.1.2.1 dX0_plainBit_59 ?_
        refine lv_ishr C.1.1 C.1.2.1 dX0_plainBit_60 ?_
        refine lv_iconst (v := 1) C.1.1 C.1.2.1 dX0_plainBit_61 (by decide) ?_
        refine lv_iand C.1.1 C.1.2.1 dX0_plainBit_62 ?_
        exact mr_iret C hr hlocks hw rfl (Option.some.inj hD) dX0_plainBit_63
  · replace hD := g_neg c2 hD
    refine lv_aload_n C.1.1 C.1.2.1 dX0_plainBit_6 rfl (lv_at hl 0 rfl) ?_
    refine mr_getR C hw kc_0 7 (by decide) tf_20 ff_20_7 wd_182 dX0_plainBit_7 (by decide) rfl ?_
    refine lv_bipush (v := 8) C.1.1 C.1.2.1 dX0_plainBit_10 (by decide) ?_
    refine lv_iload_n C.1.1 C.1.2.1 dX0_plainBit_12 rfl (lv_at hl 1 rfl) ?_
    refine lv_imul C.1.1 C.1.2.1 dX0_plainBit_13 ?_
    refine lv_iload_n C.1.1 C.1.2.1 dX0_plainBit_14 rfl (lv_at hl 2 rfl) ?_
    refine lv_bipush (v := 19) C.1.1 C.1.2.1 dX0_plainBit_15 (by decide) ?_
    refine lv_isub C.1.1 C.1.2.1 dX0_plainBit_17 ?_
    refine lv_bipush (v := 8) C.1.1 C.1.2.1 dX0_plainBit_18 (by decide) ?_
    refine lv_idiv C.1.1 C.1.2.1 dX0_plainBit_20 (by decide) ?_
    refine lv_iadd C.1.1 C.1.2.1 dX0_plainBit_21 ?_
    obtain ⟨q8, hD⟩ := g_ck hD
    refine mr_iald C hw (by decide) tf_46 q8 dX0_plainBit_22 ?_
    refine lv_bipush (v := 7) C.1.1 C.1.2.1 dX0_plainBit_23 (by decide) ?_
    refine lv_iload_n C.1.1 C.1.2.1 dX0_plainBit_25 rfl (lv_at hl 2 rfl) ?_
    refine lv_bipush (v := 19) C.1.1 C.1.2.1 dX0_plainBit_26 (by decide) ?_
    refine lv_isub C.1.1 C.1.2.1 dX0_plainBit_28 ?_
    refine lv_bipush (v := 8) C.1.1 C.1.2.1 dX0_plainBit_29 (by decide) ?_
    refine lv_irem C.1.1 C.1.2.1 dX0_plainBit_31 (by decide) ?_
    refine lv_isub C.1.1 C.1.2.1 dX0_plainBit_32 ?_
    refine lv_ishr C.1.1 C.1.2.1 dX0_plainBit_33 ?_
    refine lv_iconst (v := 1) C.1.1 C.1.2.1 dX0_plainBit_34 (by decide) ?_
    refine lv_iand C.1.1 C.1.2.1 dX0_plainBit_35 ?_
    exact mr_iret C hr hlocks hw rfl (Option.some.inj hD) dX0_plainBit_36

theorem dX0_layOut_0 : decode cX0_layOut 0 = .ok (.iconst 0, 1) := by decide +kernel
theorem dX0_layOut_1 : decode cX0_layOut 1 = .ok (.istore_n 3, 1) := by decide +kernel
theorem dX0_layOut_2 : decode cX0_layOut 2 = .ok (.iconst 0, 1) := by decide +kernel
theorem dX0_layOut_3 : decode cX0_layOut 3 = .ok (.istore 4, 2) := by decide +kernel
theorem dX0_layOut_5 : decode cX0_layOut 5 = .ok (.iconst 0, 1) := by decide +kernel
theorem dX0_layOut_6 : decode cX0_layOut 6 = .ok (.istore 5, 2) := by decide +kernel
theorem dX0_layOut_8 : decode cX0_layOut 8 = .ok (.iconst 1, 1) := by decide +kernel
theorem dX0_layOut_9 : decode cX0_layOut 9 = .ok (.istore 6, 2) := by decide +kernel
theorem dX0_layOut_11 : decode cX0_layOut 11 = .ok (.iconst 0, 1) := by decide +kernel
theorem dX0_layOut_12 : decode cX0_layOut 12 = .ok (.istore 7, 2) := by decide +kernel
theorem dX0_layOut_14 : decode cX0_layOut 14 = .ok (.iload 7, 2) := by decide +kernel
theorem dX0_layOut_16 : decode cX0_layOut 16 = .ok (.bipush 98, 2) := by decide +kernel
theorem dX0_layOut_18 : decode cX0_layOut 18 = .ok (.if_icmp .ge 137, 3) := by decide +kernel
theorem dX0_layOut_21 : decode cX0_layOut 21 = .ok (.iload 7, 2) := by decide +kernel
theorem dX0_layOut_23 : decode cX0_layOut 23 = .ok (.bipush 83, 2) := by decide +kernel
theorem dX0_layOut_25 : decode cX0_layOut 25 = .ok (.if_icmp .ge 13, 3) := by decide +kernel
theorem dX0_layOut_28 : decode cX0_layOut 28 = .ok (.aload_n 0, 1) := by decide +kernel
theorem dX0_layOut_29 : decode cX0_layOut 29 = .ok (.iload_n 2, 1) := by decide +kernel
theorem dX0_layOut_30 : decode cX0_layOut 30 = .ok (.iload 7, 2) := by decide +kernel
theorem dX0_layOut_32 : decode cX0_layOut 32 = .ok (.invokevirtual 132, 3) := by decide +kernel
theorem dX0_layOut_35 : decode cX0_layOut 35 = .ok (.goto 16, 3) := by decide +kernel
theorem dX0_layOut_38 : decode cX0_layOut 38 = .ok (.iload 4, 2) := by decide +kernel
theorem dX0_layOut_40 : decode cX0_layOut 40 = .ok (.bipush 14, 2) := by decide +kernel
theorem dX0_layOut_42 : decode cX0_layOut 42 = .ok (.iload 7, 2) := by decide +kernel
theorem dX0_layOut_44 : decode cX0_layOut 44 = .ok (.bipush 83, 2) := by decide +kernel
theorem dX0_layOut_46 : decode cX0_layOut 46 = .ok (.isub, 1) := by decide +kernel
theorem dX0_layOut_47 : decode cX0_layOut 47 = .ok (.isub, 1) := by decide +kernel
theorem dX0_layOut_48 : decode cX0_layOut 48 = .ok (.ishr, 1) := by decide +kernel
theorem dX0_layOut_49 : decode cX0_layOut 49 = .ok (.iconst 1, 1) := by decide +kernel
theorem dX0_layOut_50 : decode cX0_layOut 50 = .ok (.iand, 1) := by decide +kernel
theorem dX0_layOut_51 : decode cX0_layOut 51 = .ok (.istore 8, 2) := by decide +kernel
theorem dX0_layOut_53 : decode cX0_layOut 53 = .ok (.iload 7, 2) := by decide +kernel
theorem dX0_layOut_55 : decode cX0_layOut 55 = .ok (.bipush 83, 2) := by decide +kernel
theorem dX0_layOut_57 : decode cX0_layOut 57 = .ok (.if_icmp .ge 17, 3) := by decide +kernel
theorem dX0_layOut_60 : decode cX0_layOut 60 = .ok (.iload 4, 2) := by decide +kernel
theorem dX0_layOut_62 : decode cX0_layOut 62 = .ok (.iload 8, 2) := by decide +kernel
theorem dX0_layOut_64 : decode cX0_layOut 64 = .ok (.bipush 15, 2) := by decide +kernel
theorem dX0_layOut_66 : decode cX0_layOut 66 = .ok (.sipush 17817, 3) := by decide +kernel
theorem dX0_layOut_69 : decode cX0_layOut 69 = .ok (.invokestatic 135, 3) := by decide +kernel
theorem dX0_layOut_72 : decode cX0_layOut 72 = .ok (.istore 4, 2) := by decide +kernel
theorem dX0_layOut_74 : decode cX0_layOut 74 = .ok (.aload_n 0, 1) := by decide +kernel
theorem dX0_layOut_75 : decode cX0_layOut 75 = .ok (.getfield 27, 3) := by decide +kernel
theorem dX0_layOut_78 : decode cX0_layOut 78 = .ok (.iload_n 1, 1) := by decide +kernel
theorem dX0_layOut_79 : decode cX0_layOut 79 = .ok (.aaload, 1) := by decide +kernel
theorem dX0_layOut_80 : decode cX0_layOut 80 = .ok (.iload_n 3, 1) := by decide +kernel
theorem dX0_layOut_81 : decode cX0_layOut 81 = .ok (.iload 8, 2) := by decide +kernel
theorem dX0_layOut_83 : decode cX0_layOut 83 = .ok (.iload 7, 2) := by decide +kernel
theorem dX0_layOut_85 : decode cX0_layOut 85 = .ok (.bipush 13, 2) := by decide +kernel
theorem dX0_layOut_87 : decode cX0_layOut 87 = .ok (.if_icmp .gt 7, 3) := by decide +kernel
theorem dX0_layOut_90 : decode cX0_layOut 90 = .ok (.iconst 2, 1) := by decide +kernel
theorem dX0_layOut_91 : decode cX0_layOut 91 = .ok (.goto 4, 3) := by decide +kernel
theorem dX0_layOut_94 : decode cX0_layOut 94 = .ok (.iconst 0, 1) := by decide +kernel
theorem dX0_layOut_95 : decode cX0_layOut 95 = .ok (.ior, 1) := by decide +kernel
theorem dX0_layOut_96 : decode cX0_layOut 96 = .ok (.iastore, 1) := by decide +kernel
theorem dX0_layOut_97 : decode cX0_layOut 97 = .ok (.iinc 3 1, 3) := by decide +kernel
theorem dX0_layOut_100 : decode cX0_layOut 100 = .ok (.iload 8, 2) := by decide +kernel
theorem dX0_layOut_102 : decode cX0_layOut 102 = .ok (.iload 6, 2) := by decide +kernel
theorem dX0_layOut_104 : decode cX0_layOut 104 = .ok (.if_icmp .ne 10, 3) := by decide +kernel
theorem dX0_layOut_107 : decode cX0_layOut 107 = .ok (.iload 5, 2) := by decide +kernel
theorem dX0_layOut_109 : decode cX0_layOut 109 = .ok (.iconst 1, 1) := by decide +kernel
theorem dX0_layOut_110 : decode cX0_layOut 110 = .ok (.iadd, 1) := by decide +kernel
theorem dX0_layOut_111 : decode cX0_layOut 111 = .ok (.goto 4, 3) := by decide +kernel
theorem dX0_layOut_114 : decode cX0_layOut 114 = .ok (.iconst 1, 1) := by decide +kernel
theorem dX0_layOut_115 : decode cX0_layOut 115 = .ok (.istore 5, 2) := by decide +kernel
theorem dX0_layOut_117 : decode cX0_layOut 117 = .ok (.iload 8, 2) := by decide +kernel
theorem dX0_layOut_119 : decode cX0_layOut 119 = .ok (.istore 6, 2) := by decide +kernel
theorem dX0_layOut_121 : decode cX0_layOut 121 = .ok (.iload 5, 2) := by decide +kernel
theorem dX0_layOut_123 : decode cX0_layOut 123 = .ok (.iconst 5, 1) := by decide +kernel
theorem dX0_layOut_124 : decode cX0_layOut 124 = .ok (.if_icmp .ne 25, 3) := by decide +kernel
theorem dX0_layOut_127 : decode cX0_layOut 127 = .ok (.iconst 1, 1) := by decide +kernel
theorem dX0_layOut_128 : decode cX0_layOut 128 = .ok (.iload 8, 2) := by decide +kernel
theorem dX0_layOut_130 : decode cX0_layOut 130 = .ok (.isub, 1) := by decide +kernel
theorem dX0_layOut_131 : decode cX0_layOut 131 = .ok (.istore 6, 2) := by decide +kernel
theorem dX0_layOut_133 : decode cX0_layOut 133 = .ok (.iconst 1, 1) := by decide +kernel
theorem dX0_layOut_134 : decode cX0_layOut 134 = .ok (.istore 5, 2) := by decide +kernel
theorem dX0_layOut_136 : decode cX0_layOut 136 = .ok (.aload_n 0, 1) := by decide +kernel
theorem dX0_layOut_137 : decode cX0_layOut 137 = .ok (.getfield 27, 3) := by decide +kernel
theorem dX0_layOut_140 : decode cX0_layOut 140 = .ok (.iload_n 1, 1) := by decide +kernel
theorem dX0_layOut_141 : decode cX0_layOut 141 = .ok (.aaload, 1) := by decide +kernel
theorem dX0_layOut_142 : decode cX0_layOut 142 = .ok (.iload_n 3, 1) := by decide +kernel
theorem dX0_layOut_143 : decode cX0_layOut 143 = .ok (.iload 6, 2) := by decide +kernel
theorem dX0_layOut_145 : decode cX0_layOut 145 = .ok (.iastore, 1) := by decide +kernel
theorem dX0_layOut_146 : decode cX0_layOut 146 = .ok (.iinc 3 1, 3) := by decide +kernel
theorem dX0_layOut_149 : decode cX0_layOut 149 = .ok (.iinc 7 1, 3) := by decide +kernel
theorem dX0_layOut_152 : decode cX0_layOut 152 = .ok (.goto (-138), 3) := by decide +kernel
theorem dX0_layOut_155 : decode cX0_layOut 155 = .ok (.iconst 0, 1) := by decide +kernel
theorem dX0_layOut_156 : decode cX0_layOut 156 = .ok (.istore 7, 2) := by decide +kernel
theorem dX0_layOut_158 : decode cX0_layOut 158 = .ok (.iload 7, 2) := by decide +kernel
theorem dX0_layOut_160 : decode cX0_layOut 160 = .ok (.bipush 10, 2) := by decide +kernel
theorem dX0_layOut_162 : decode cX0_layOut 162 = .ok (.if_icmp .ge 21, 3) := by decide +kernel
theorem dX0_layOut_165 : decode cX0_layOut 165 = .ok (.aload_n 0, 1) := by decide +kernel
theorem dX0_layOut_166 : decode cX0_layOut 166 = .ok (.getfield 27, 3) := by decide +kernel
theorem dX0_layOut_169 : decode cX0_layOut 169 = .ok (.iload_n 1, 1) := by decide +kernel
theorem dX0_layOut_170 : decode cX0_layOut 170 = .ok (.aaload, 1) := by decide +kernel
theorem dX0_layOut_171 : decode cX0_layOut 171 = .ok (.iload_n 3, 1) := by decide +kernel
theorem dX0_layOut_172 : decode cX0_layOut 172 = .ok (.iload 7, 2) := by decide +kernel
theorem dX0_layOut_174 : decode cX0_layOut 174 = .ok (.iadd, 1) := by decide +kernel
theorem dX0_layOut_175 : decode cX0_layOut 175 = .ok (.iconst 1, 1) := by decide +kernel
theorem dX0_layOut_176 : decode cX0_layOut 176 = .ok (.iastore, 1) := by decide +kernel
theorem dX0_layOut_177 : decode cX0_layOut 177 = .ok (.iinc 7 1, 3) := by decide +kernel
theorem dX0_layOut_180 : decode cX0_layOut 180 = .ok (.goto (-22), 3) := by decide +kernel
theorem dX0_layOut_183 : decode cX0_layOut 183 = .ok (.aload_n 0, 1) := by decide +kernel
theorem dX0_layOut_184 : decode cX0_layOut 184 = .ok (.getfield 24, 3) := by decide +kernel
theorem dX0_layOut_187 : decode cX0_layOut 187 = .ok (.iconst 4, 1) := by decide +kernel
theorem dX0_layOut_188 : decode cX0_layOut 188 = .ok (.aaload, 1) := by decide +kernel
theorem dX0_layOut_189 : decode cX0_layOut 189 = .ok (.iload_n 1, 1) := by decide +kernel
theorem dX0_layOut_190 : decode cX0_layOut 190 = .ok (.iload_n 3, 1) := by decide +kernel
theorem dX0_layOut_191 : decode cX0_layOut 191 = .ok (.bipush 10, 2) := by decide +kernel
theorem dX0_layOut_193 : decode cX0_layOut 193 = .ok (.iadd, 1) := by decide +kernel
theorem dX0_layOut_194 : decode cX0_layOut 194 = .ok (.iastore, 1) := by decide +kernel
theorem dX0_layOut_195 : decode cX0_layOut 195 = .ok (.return_, 1) := by decide +kernel
theorem cwX0_layOut : mw_cwV yX0_layOut cX0_layOut 9 (none) 2 := ⟨⟨wd_5, wd_1357, by decide +kernel⟩, wd_1356, sl_73⟩
set_option maxHeartbeats 4000000 in
set_option maxRecDepth 100000 in
theorem tX0_layOut (l : Launch) (G : mwG) (ad : Nat → Nat) (fu : Nat) (a1 : Int32) (a2 : Int32) (M : mwM) (L : mwL) {M0 : mwM} {L0 : mwL} (hD : DX0_layOut fu a1 a2 M L = some (M0, L0)) : Met l yX0_layOut (Cond.code yX0_layOut cX0_layOut 9 (none) :: GT) ({ frames := 1, cells := 0, slots := 0, locals := 24 }) (mw_Pre G ad NF TF FF M L [.ref (ad 20), .int a1, .int a2]) (mw_Qv G ad NF TF FF (mw_eqV M0 L0)) 0 0 (mw_fr G) := by
  refine mw_enter (by decide) (Nat.le_of_ble_eq_true rfl) ?_
  intro p e s m below meth c ls C hr hlocks hnm hw hl
  have hl : lv_has ls 9 [(0, .ref (ad 20)), (1, .int a1), (2, .int a2)] := hl
  have hh158 : ∀ (f : Nat) (v3 : Int32) (v7 : Int32) (M : mwM) (L : mwL) (H : Heap) (locs : List Loc) (ls : Array Slot), fX0_layOut_h158 fu a1 a2 f (v3, v7, M, L) = some (M0, L0) → mw_W G ad NF TF FF M L H locs → lv_has ls 9 [(0, .ref (ad 20)), (1, .int a1), (3, .int v3), (7, .int v7)] → W p l e ({ frames := 1, cells := 0, slots := 0, locals := 24 }) s m [.ref (ad 20), .int a1, .int a2].toArray below meth c H locs 0 0 (MQ below (mw_Qv G ad NF TF FF (mw_eqV M0 L0)) [.ref (ad 20), .int a1, .int a2].toArray s 0 0 (mw_fr G)) (F0 m 158 ls []) := by
    intro f
    induction f with
    | zero => intro v3 v7 M L H locs ls hD; cases hD
    | succ f158 ih158 =>
      intro v3 v7 M L H locs ls hD hw hl
      replace hD : fX0_layOut_i158 fu a1 a2 (fX0_layOut_h158 fu a1 a2 f158) v3 v7 M L = some (M0, L0) := hD
      unfold fX0_layOut_i158 at hD
      refine lv_iload C.1.1 C.1.2.1 dX0_layOut_158 (lv_at hl 3 rfl) ?_
      refine lv_bipush (v := 10) C.1.1 C.1.2.1 dX0_layOut_160 (by decide) ?_
      refine lv_icmp_ge (tgt := 183) C.1.1 C.1.2.1 dX0_layOut_162 (by decide) (fun c23 => ?_) (fun c23 => ?_)
      · replace hD := g_pos c23 hD
        refine lv_aload_n C.1.1 C.1.2.1 dX0_layOut_183 rfl (lv_at hl 0 rfl) ?_
        refine mr_getR C hw kc_0 3 (by decide) tf_20 ff_20_3 wd_176 dX0_layOut_184 (by decide) rfl ?_
        refine lv_iconst (v := 4) C.1.1 C.1.2.1 dX0_layOut_187 (by decide) ?_
        refine mr_aald C hw (by decide) tf_24 (by decide) (by decide) rfl rfl (show vp_in 4 8 from by unfold vp_in; decide) ff_24_4 dX0_layOut_188 ?_
        refine lv_iload_n C.1.1 C.1.2.1 dX0_layOut_189 rfl (lv_at hl 1 rfl) ?_
        refine lv_iload_n C.1.1 C.1.2.1 dX0_layOut_190 rfl (lv_at hl 2 rfl) ?_
        refine lv_bipush (v := 10) C.1.1 C.1.2.1 dX0_layOut_191 (by decide) ?_
        refine lv_iadd C.1.1 C.1.2.1 dX0_layOut_193 ?_
        obtain ⟨q25, hD⟩ := g_ck hD
        obtain ⟨M26, eM26, hD⟩ := g_let hD
        refine mr_iast C hw (by decide) tf_29 q25 dX0_layOut_194 (fun H locs hw => ?_)
        replace hw : mw_W G ad NF TF FF M26 L H locs := by rw [eM26]; exact hw
        exact mr_vret C hr hlocks hw (Option.some.inj hD) dX0_layOut_195
      · replace hD := g_neg c23 hD
        refine lv_aload_n C.1.1 C.1.2.1 dX0_layOut_165 rfl (lv_at hl 0 rfl) ?_
        refine mr_getR C hw kc_0 4 (by decide) tf_20 ff_20_4 wd_178 dX0_layOut_166 (by decide) rfl ?_
        refine lv_iload_n C.1.1 C.1.2.1 dX0_layOut_169 rfl (lv_at hl 1 rfl) ?_
        obtain ⟨q27, hD⟩ := g_ck hD
        refine mr_aald C hw (by decide) tf_33 (by decide) (by decide) rfl rfl q27 (fr_33 _ (g_lt q27)).1 dX0_layOut_170 ?_
        refine lv_iload_n C.1.1 C.1.2.1 dX0_layOut_171 rfl (lv_at hl 2 rfl) ?_
        refine lv_iload C.1.1 C.1.2.1 dX0_layOut_172 (lv_at hl 3 rfl) ?_
        refine lv_iadd C.1.1 C.1.2.1 dX0_layOut_174 ?_
        refine lv_iconst (v := 1) C.1.1 C.1.2.1 dX0_layOut_175 (by decide) ?_
        obtain ⟨q28, hD⟩ := g_ck hD
        obtain ⟨M29, eM29, hD⟩ := g_let hD
        refine mr_iast C hw (fr_33 _ (g_lt q27)).2.2 (fr_33 _ (g_lt q27)).2.1 q28 dX0_layOut_176 (fun H locs hw => ?_)
        replace hw : mw_W G ad NF TF FF M29 L H locs := by rw [eM29]; exact hw
        obtain ⟨x30, ex30, hD⟩ := g_let hD
        refine lv_iinc (v := x30) (lv' := [(7, .int x30), (0, .ref (ad 20)), (1, .int a1), (3, .int v3)]) C.1.1 C.1.2.1 dX0_layOut_177 hl (k := 3) rfl (by rw [ex30]; rfl) (by decide) rfl (fun ls hl => ?_)
        refine lv_goto (tgt := 158) C.1.1 C.1.2.1 dX0_layOut_180 (by decide) ?_
        exact ih158 v3 x30 M29 L _ _ ls hD hw (lv_sub hl [1, 2, 3, 0] rfl)
  have hh14 : ∀ (f : Nat) (v3 : Int32) (v4 : Int32) (v5 : Int32) (v6 : Int32) (v7 : Int32) (M : mwM) (L : mwL) (H : Heap) (locs : List Loc) (ls : Array Slot), fX0_layOut_h14 fu a1 a2 f (v3, v4, v5, v6, v7, M, L) = some (M0, L0) → mw_W G ad NF TF FF M L H locs → lv_has ls 9 [(0, .ref (ad 20)), (1, .int a1), (2, .int a2), (3, .int v3), (4, .int v4), (5, .int v5), (6, .int v6), (7, .int v7)] → W p l e ({ frames := 1, cells := 0, slots := 0, locals := 24 }) s m [.ref (ad 20), .int a1, .int a2].toArray below meth c H locs 0 0 (MQ below (mw_Qv G ad NF TF FF (mw_eqV M0 L0)) [.ref (ad 20), .int a1, .int a2].toArray s 0 0 (mw_fr G)) (F0 m 14 ls []) := by
    intro f
    induction f with
    | zero => intro v3 v4 v5 v6 v7 M L H locs ls hD; cases hD
    | succ f14 ih14 =>
      intro v3 v4 v5 v6 v7 M L H locs ls hD hw hl
      replace hD : fX0_layOut_i14 fu a1 a2 (fX0_layOut_h14 fu a1 a2 f14) v3 v4 v5 v6 v7 M L = some (M0, L0) := hD
      have hb149 : ∀ (v3 : Int32) (v4 : Int32) (v5 : Int32) (v6 : Int32) (v7 : Int32) (M : mwM) (L : mwL) (H : Heap) (locs : List Loc) (ls : Array Slot), fX0_layOut_b149 fu a1 a2 (fX0_layOut_h14 fu a1 a2 f14) v3 v4 v5 v6 v7 M L = some (M0, L0) → mw_W G ad NF TF FF M L H locs → lv_has ls 9 [(0, .ref (ad 20)), (1, .int a1), (2, .int a2), (3, .int v3), (4, .int v4), (5, .int v5), (6, .int v6), (7, .int v7)] → W p l e ({ frames := 1, cells := 0, slots := 0, locals := 24 }) s m [.ref (ad 20), .int a1, .int a2].toArray below meth c H locs 0 0 (MQ below (mw_Qv G ad NF TF FF (mw_eqV M0 L0)) [.ref (ad 20), .int a1, .int a2].toArray s 0 0 (mw_fr G)) (F0 m 149 ls []) := by
        intro v3 v4 v5 v6 v7 M L H locs ls hD hw hl
        unfold fX0_layOut_b149 at hD
        obtain ⟨x22, ex22, hD⟩ := g_let hD
        refine lv_iinc (v := x22) (lv' := [(7, .int x22), (0, .ref (ad 20)), (1, .int a1), (2, .int a2), (3, .int v3), (4, .int v4), (5, .int v5), (6, .int v6)]) C.1.1 C.1.2.1 dX0_layOut_149 hl (k := 7) rfl (by rw [ex22]; rfl) (by decide) rfl (fun ls hl => ?_)
        refine lv_goto (tgt := 14) C.1.1 C.1.2.1 dX0_layOut_152 (by decide) ?_
        exact ih14 v3 v4 v5 v6 x22 M L _ _ ls hD hw (lv_sub hl [1, 2, 3, 4, 5, 6, 7, 0] rfl)
      have hb115 : ∀ (v3 : Int32) (v4 : Int32) (v7 : Int32) (v8 : Int32) (s0 : Int32) (M : mwM) (L : mwL) (H : Heap) (locs : List Loc) (ls : Array Slot), fX0_layOut_b115 fu a1 a2 (fX0_layOut_h14 fu a1 a2 f14) v3 v4 v7 v8 s0 M L = some (M0, L0) → mw_W G ad NF TF FF M L H locs → lv_has ls 9 [(0, .ref (ad 20)), (1, .int a1), (2, .int a2), (3, .int v3), (4, .int v4), (7, .int v7), (8, .int v8)] → W p l e ({ frames := 1, cells := 0, slots := 0, locals := 24 }) s m [.ref (ad 20), .int a1, .int a2].toArray below meth c H locs 0 0 (MQ below (mw_Qv G ad NF TF FF (mw_eqV M0 L0)) [.ref (ad 20), .int a1, .int a2].toArray s 0 0 (mw_fr G)) (F0 m 115 ls [.int s0]) := by
        intro v3 v4 v7 v8 s0 M L H locs ls hD hw hl
        unfold fX0_layOut_b115 at hD
        refine lv_istore (lv' := [(5, .int s0), (0, .ref (ad 20)), (1, .int a1), (2, .int a2), (3, .int v3), (4, .int v4), (7, .int v7), (8, .int v8)]) C.1.1 C.1.2.1 dX0_layOut_115 hl (by decide) rfl (fun ls hl => ?_)
        refine lv_iload C.1.1 C.1.2.1 dX0_layOut_117 (lv_at hl 7 rfl) ?_
        refine lv_istore (lv' := [(6, .int v8), (5, .int s0), (0, .ref (ad 20)), (1, .int a1), (2, .int a2), (3, .int v3), (4, .int v4), (7, .int v7), (8, .int v8)]) C.1.1 C.1.2.1 dX0_layOut_119 hl (by decide) rfl (fun ls hl => ?_)
        refine lv_iload C.1.1 C.1.2.1 dX0_layOut_121 (lv_at hl 1 rfl) ?_
        refine lv_iconst (v := 5) C.1.1 C.1.2.1 dX0_layOut_123 (by decide) ?_
        refine lv_icmp_ne (tgt := 149) C.1.1 C.1.2.1 dX0_layOut_124 (by decide) (fun c16 => ?_) (fun c16 => ?_)
        · replace hD := g_neg c16 hD
          exact hb149 v3 v4 s0 v8 v7 M L _ _ ls hD hw (lv_sub hl [2, 3, 4, 5, 6, 1, 0, 7] rfl)
        · replace hD := g_pos c16 hD
          refine lv_iconst (v := 1) C.1.1 C.1.2.1 dX0_layOut_127 (by decide) ?_
          refine lv_iload C.1.1 C.1.2.1 dX0_layOut_128 (lv_at hl 8 rfl) ?_
          refine lv_isub C.1.1 C.1.2.1 dX0_layOut_130 ?_
          obtain ⟨x17, ex17, hD⟩ := g_let hD
          refine W.eq (g2 := F0 m 131 ls (.int x17 :: [])) (by rw [ex17]) ?_
          refine lv_istore (lv' := [(6, .int x17), (5, .int s0), (0, .ref (ad 20)), (1, .int a1), (2, .int a2), (3, .int v3), (4, .int v4), (7, .int v7), (8, .int v8)]) C.1.1 C.1.2.1 dX0_layOut_131 hl (by decide) rfl (fun ls hl => ?_)
          refine lv_iconst (v := 1) C.1.1 C.1.2.1 dX0_layOut_133 (by decide) ?_
          refine lv_istore (lv' := [(5, .int 1), (6, .int x17), (0, .ref (ad 20)), (1, .int a1), (2, .int a2), (3, .int v3), (4, .int v4), (7, .int v7), (8, .int v8)]) C.1.1 C.1.2.1 dX0_layOut_134 hl (by decide) rfl (fun ls hl => ?_)
          refine lv_aload_n C.1.1 C.1.2.1 dX0_layOut_136 rfl (lv_at hl 2 rfl) ?_
          refine mr_getR C hw kc_0 4 (by decide) tf_20 ff_20_4 wd_178 dX0_layOut_137 (by decide) rfl ?_
          refine lv_iload_n C.1.1 C.1.2.1 dX0_layOut_140 rfl (lv_at hl 3 rfl) ?_
          obtain ⟨q18, hD⟩ := g_ck hD
          refine mr_aald C hw (by decide) tf_33 (by decide) (by decide) rfl rfl q18 (fr_33 _ (g_lt q18)).1 dX0_layOut_141 ?_
          refine lv_iload_n C.1.1 C.1.2.1 dX0_layOut_142 rfl (lv_at hl 5 rfl) ?_
          refine lv_iload C.1.1 C.1.2.1 dX0_layOut_143 (lv_at hl 1 rfl) ?_
          obtain ⟨q19, hD⟩ := g_ck hD
          obtain ⟨M20, eM20, hD⟩ := g_let hD
          refine mr_iast C hw (fr_33 _ (g_lt q18)).2.2 (fr_33 _ (g_lt q18)).2.1 q19 dX0_layOut_145 (fun H locs hw => ?_)
          replace hw : mw_W G ad NF TF FF M20 L H locs := by rw [eM20]; exact hw
          obtain ⟨x21, ex21, hD⟩ := g_let hD
          refine lv_iinc (v := x21) (lv' := [(3, .int x21), (5, .int 1), (6, .int x17), (0, .ref (ad 20)), (1, .int a1), (2, .int a2), (4, .int v4), (7, .int v7), (8, .int v8)]) C.1.1 C.1.2.1 dX0_layOut_146 hl (k := 5) rfl (by rw [ex21]; rfl) (by decide) rfl (fun ls hl => ?_)
          exact hb149 x21 v4 1 x17 v7 M20 L _ _ ls hD hw (lv_sub hl [3, 4, 5, 0, 6, 1, 2, 7] rfl)
      have hb95 : ∀ (v3 : Int32) (v4 : Int32) (v5 : Int32) (v6 : Int32) (v7 : Int32) (v8 : Int32) (s0 : Nat) (s1 : Int32) (s2 : Int32) (s3 : Int32) (M : mwM) (L : mwL) (H : Heap) (locs : List Loc) (ls : Array Slot), fX0_layOut_b95 fu a1 a2 (fX0_layOut_h14 fu a1 a2 f14) v3 v4 v5 v6 v7 v8 s0 s1 s2 s3 M L = some (M0, L0) → s0 < NF ∧ TF s0 = (0, 140) → mw_W G ad NF TF FF M L H locs → lv_has ls 9 [(0, .ref (ad 20)), (1, .int a1), (2, .int a2), (3, .int v3), (4, .int v4), (5, .int v5), (6, .int v6), (7, .int v7), (8, .int v8)] → W p l e ({ frames := 1, cells := 0, slots := 0, locals := 24 }) s m [.ref (ad 20), .int a1, .int a2].toArray below meth c H locs 0 0 (MQ below (mw_Qv G ad NF TF FF (mw_eqV M0 L0)) [.ref (ad 20), .int a1, .int a2].toArray s 0 0 (mw_fr G)) (F0 m 95 ls [.int s3, .int s2, .int s1, .ref (ad s0)]) := by
        intro v3 v4 v5 v6 v7 v8 s0 s1 s2 s3 M L H locs ls hD hs0 hw hl
        unfold fX0_layOut_b95 at hD
        refine lv_ior C.1.1 C.1.2.1 dX0_layOut_95 ?_
        obtain ⟨q12, hD⟩ := g_ck hD
        obtain ⟨M13, eM13, hD⟩ := g_let hD
        refine mr_iast C hw hs0.1 hs0.2 q12 dX0_layOut_96 (fun H locs hw => ?_)
        replace hw : mw_W G ad NF TF FF M13 L H locs := by rw [eM13]; exact hw
        obtain ⟨x14, ex14, hD⟩ := g_let hD
        refine lv_iinc (v := x14) (lv' := [(3, .int x14), (0, .ref (ad 20)), (1, .int a1), (2, .int a2), (4, .int v4), (5, .int v5), (6, .int v6), (7, .int v7), (8, .int v8)]) C.1.1 C.1.2.1 dX0_layOut_97 hl (k := 3) rfl (by rw [ex14]; rfl) (by decide) rfl (fun ls hl => ?_)
        refine lv_iload C.1.1 C.1.2.1 dX0_layOut_100 (lv_at hl 8 rfl) ?_
        refine lv_iload C.1.1 C.1.2.1 dX0_layOut_102 (lv_at hl 6 rfl) ?_
        refine lv_icmp_ne (tgt := 114) C.1.1 C.1.2.1 dX0_layOut_104 (by decide) (fun c15 => ?_) (fun c15 => ?_)
        · replace hD := g_neg c15 hD
          refine lv_iconst (v := 1) C.1.1 C.1.2.1 dX0_layOut_114 (by decide) ?_
          exact hb115 x14 v4 v7 v8 1 M13 L _ _ ls hD hw (lv_sub hl [1, 2, 3, 0, 4, 7, 8] rfl)
        · replace hD := g_pos c15 hD
          refine lv_iload C.1.1 C.1.2.1 dX0_layOut_107 (lv_at hl 5 rfl) ?_
          refine lv_iconst (v := 1) C.1.1 C.1.2.1 dX0_layOut_109 (by decide) ?_
          refine lv_iadd C.1.1 C.1.2.1 dX0_layOut_110 ?_
          refine lv_goto (tgt := 115) C.1.1 C.1.2.1 dX0_layOut_111 (by decide) ?_
          exact hb115 x14 v4 v7 v8 (v5 + 1) M13 L _ _ ls hD hw (lv_sub hl [1, 2, 3, 0, 4, 7, 8] rfl)
      have hb74 : ∀ (v3 : Int32) (v4 : Int32) (v5 : Int32) (v6 : Int32) (v7 : Int32) (v8 : Int32) (M : mwM) (L : mwL) (H : Heap) (locs : List Loc) (ls : Array Slot), fX0_layOut_b74 fu a1 a2 (fX0_layOut_h14 fu a1 a2 f14) v3 v4 v5 v6 v7 v8 M L = some (M0, L0) → mw_W G ad NF TF FF M L H locs → lv_has ls 9 [(0, .ref (ad 20)), (1, .int a1), (2, .int a2), (3, .int v3), (4, .int v4), (5, .int v5), (6, .int v6), (7, .int v7), (8, .int v8)] → W p l e ({ frames := 1, cells := 0, slots := 0, locals := 24 }) s m [.ref (ad 20), .int a1, .int a2].toArray below meth c H locs 0 0 (MQ below (mw_Qv G ad NF TF FF (mw_eqV M0 L0)) [.ref (ad 20), .int a1, .int a2].toArray s 0 0 (mw_fr G)) (F0 m 74 ls []) := by
        intro v3 v4 v5 v6 v7 v8 M L H locs ls hD hw hl
        unfold fX0_layOut_b74 at hD
        refine lv_aload_n C.1.1 C.1.2.1 dX0_layOut_74 rfl (lv_at hl 0 rfl) ?_
        refine mr_getR C hw kc_0 4 (by decide) tf_20 ff_20_4 wd_178 dX0_layOut_75 (by decide) rfl ?_
        refine lv_iload_n C.1.1 C.1.2.1 dX0_layOut_78 rfl (lv_at hl 1 rfl) ?_
        obtain ⟨q10, hD⟩ := g_ck hD
        refine mr_aald C hw (by decide) tf_33 (by decide) (by decide) rfl rfl q10 (fr_33 _ (g_lt q10)).1 dX0_layOut_79 ?_
        refine lv_iload_n C.1.1 C.1.2.1 dX0_layOut_80 rfl (lv_at hl 3 rfl) ?_
        refine lv_iload C.1.1 C.1.2.1 dX0_layOut_81 (lv_at hl 8 rfl) ?_
        refine lv_iload C.1.1 C.1.2.1 dX0_layOut_83 (lv_at hl 7 rfl) ?_
        refine lv_bipush (v := 13) C.1.1 C.1.2.1 dX0_layOut_85 (by decide) ?_
        refine lv_icmp_gt (tgt := 94) C.1.1 C.1.2.1 dX0_layOut_87 (by decide) (fun c11 => ?_) (fun c11 => ?_)
        · replace hD := g_pos c11 hD
          refine lv_iconst (v := 0) C.1.1 C.1.2.1 dX0_layOut_94 (by decide) ?_
          exact hb95 v3 v4 v5 v6 v7 v8 ((34 + a1.toNatClampNeg)) v3 v8 0 M L _ _ ls hD ⟨(fr_33 _ (g_lt q10)).2.2, (fr_33 _ (g_lt q10)).2.1⟩ hw (lv_sub hl [0, 1, 2, 3, 4, 5, 6, 7, 8] rfl)
        · replace hD := g_neg c11 hD
          refine lv_iconst (v := 2) C.1.1 C.1.2.1 dX0_layOut_90 (by decide) ?_
          refine lv_goto (tgt := 95) C.1.1 C.1.2.1 dX0_layOut_91 (by decide) ?_
          exact hb95 v3 v4 v5 v6 v7 v8 ((34 + a1.toNatClampNeg)) v3 v8 2 M L _ _ ls hD ⟨(fr_33 _ (g_lt q10)).2.2, (fr_33 _ (g_lt q10)).2.1⟩ hw (lv_sub hl [0, 1, 2, 3, 4, 5, 6, 7, 8] rfl)
      have hb51 : ∀ (v3 : Int32) (v4 : Int32) (v5 : Int32) (v6 : Int32) (v7 : Int32) (s0 : Int32) (M : mwM) (L : mwL) (H : Heap) (locs : List Loc) (ls : Array Slot), fX0_layOut_b51 fu a1 a2 (fX0_layOut_h14 fu a1 a2 f14) v3 v4 v5 v6 v7 s0 M L = some (M0, L0) → mw_W G ad NF TF FF M L H locs → lv_has ls 9 [(0, .ref (ad 20)), (1, .int a1), (2, .int a2), (3, .int v3), (4, .int v4), (5, .int v5), (6, .int v6), (7, .int v7)] → W p l e ({ frames := 1, cells := 0, slots := 0, locals := 24 }) s m [.ref (ad 20), .int a1, .int a2].toArray below meth c H locs 0 0 (MQ below (mw_Qv G ad NF TF FF (mw_eqV M0 L0)) [.ref (ad 20), .int a1, .int a2].toArray s 0 0 (mw_fr G)) (F0 m 51 ls [.int s0]) := by
        intro v3 v4 v5 v6 v7 s0 M L H locs ls hD hw hl
        unfold fX0_layOut_b51 at hD
        refine lv_istore (lv' := [(8, .int s0), (0, .ref (ad 20)), (1, .int a1), (2, .int a2), (3, .int v3), (4, .int v4), (5, .int v5), (6, .int v6), (7, .int v7)]) C.1.1 C.1.2.1 dX0_layOut_51 hl (by decide) rfl (fun ls hl => ?_)
        refine lv_iload C.1.1 C.1.2.1 dX0_layOut_53 (lv_at hl 8 rfl) ?_
        refine lv_bipush (v := 83) C.1.1 C.1.2.1 dX0_layOut_55 (by decide) ?_
        refine lv_icmp_ge (tgt := 74) C.1.1 C.1.2.1 dX0_layOut_57 (by decide) (fun c6 => ?_) (fun c6 => ?_)
        · replace hD := g_pos c6 hD
          exact hb74 v3 v4 v5 v6 v7 s0 M L _ _ ls hD hw (lv_sub hl [1, 2, 3, 4, 5, 6, 7, 8, 0] rfl)
        · replace hD := g_neg c6 hD
          refine lv_iload C.1.1 C.1.2.1 dX0_layOut_60 (lv_at hl 5 rfl) ?_
          refine lv_iload C.1.1 C.1.2.1 dX0_layOut_62 (lv_at hl 0 rfl) ?_
          refine lv_bipush (v := 15) C.1.1 C.1.2.1 dX0_layOut_64 (by decide) ?_
          refine lv_sipush (v := 17817) C.1.1 C.1.2.1 dX0_layOut_66 (by decide) ?_
          obtain ⟨r9, M7, L8, h1, hD⟩ := g_b3 hD
          refine md_csI (As := [.int v4, .int s0, .int 15, .int 17817]) (rest := []) C hw (tX5_nextCheck l G ad fu v4 s0 15 17817 M L h1) wd_1362 cwX5_nextCheck ⟨Nat.le_of_ble_eq_true rfl, Nat.le_of_ble_eq_true rfl⟩ rfl hl.1 (Nat.le_of_ble_eq_true rfl) dX0_layOut_69 rfl rfl ⟨Nat.zero_le _, Nat.zero_le _⟩ rfl (fun H locs hw => ?_)
          refine lv_istore (lv' := [(4, .int r9), (8, .int s0), (0, .ref (ad 20)), (1, .int a1), (2, .int a2), (3, .int v3), (5, .int v5), (6, .int v6), (7, .int v7)]) C.1.1 C.1.2.1 dX0_layOut_72 hl (by decide) rfl (fun ls hl => ?_)
          exact hb74 v3 r9 v5 v6 v7 s0 M7 L8 _ _ ls hD hw (lv_sub hl [2, 3, 4, 5, 0, 6, 7, 8, 1] rfl)
      unfold fX0_layOut_i14 at hD
      refine lv_iload C.1.1 C.1.2.1 dX0_layOut_14 (lv_at hl 7 rfl) ?_
      refine lv_bipush (v := 98) C.1.1 C.1.2.1 dX0_layOut_16 (by decide) ?_
      refine lv_icmp_ge (tgt := 155) C.1.1 C.1.2.1 dX0_layOut_18 (by decide) (fun c1 => ?_) (fun c1 => ?_)
      · replace hD := g_pos c1 hD
        refine lv_iconst (v := 0) C.1.1 C.1.2.1 dX0_layOut_155 (by decide) ?_
        refine lv_istore (lv' := [(7, .int 0), (0, .ref (ad 20)), (1, .int a1), (2, .int a2), (3, .int v3), (4, .int v4), (5, .int v5), (6, .int v6)]) C.1.1 C.1.2.1 dX0_layOut_156 hl (by decide) rfl (fun ls hl => ?_)
        exact hh158 fu v3 0 M L _ _ ls hD hw (lv_sub hl [1, 2, 4, 0] rfl)
      · replace hD := g_neg c1 hD
        refine lv_iload C.1.1 C.1.2.1 dX0_layOut_21 (lv_at hl 7 rfl) ?_
        refine lv_bipush (v := 83) C.1.1 C.1.2.1 dX0_layOut_23 (by decide) ?_
        refine lv_icmp_ge (tgt := 38) C.1.1 C.1.2.1 dX0_layOut_25 (by decide) (fun c2 => ?_) (fun c2 => ?_)
        · replace hD := g_pos c2 hD
          refine lv_iload C.1.1 C.1.2.1 dX0_layOut_38 (lv_at hl 4 rfl) ?_
          refine lv_bipush (v := 14) C.1.1 C.1.2.1 dX0_layOut_40 (by decide) ?_
          refine lv_iload C.1.1 C.1.2.1 dX0_layOut_42 (lv_at hl 7 rfl) ?_
          refine lv_bipush (v := 83) C.1.1 C.1.2.1 dX0_layOut_44 (by decide) ?_
          refine lv_isub C.1.1 C.1.2.1 dX0_layOut_46 ?_
          refine lv_isub C.1.1 C.1.2.1 dX0_layOut_47 ?_
          refine lv_ishr C.1.1 C.1.2.1 dX0_layOut_48 ?_
          refine lv_iconst (v := 1) C.1.1 C.1.2.1 dX0_layOut_49 (by decide) ?_
          refine lv_iand C.1.1 C.1.2.1 dX0_layOut_50 ?_
          exact hb51 v3 v4 v5 v6 v7 ((v4 >>> ((14 - (v7 - 83)) &&& 31)) &&& 1) M L _ _ ls hD hw (lv_sub hl [0, 1, 2, 3, 4, 5, 6, 7] rfl)
        · replace hD := g_neg c2 hD
          refine lv_aload_n C.1.1 C.1.2.1 dX0_layOut_28 rfl (lv_at hl 0 rfl) ?_
          refine lv_iload_n C.1.1 C.1.2.1 dX0_layOut_29 rfl (lv_at hl 2 rfl) ?_
          refine lv_iload C.1.1 C.1.2.1 dX0_layOut_30 (lv_at hl 7 rfl) ?_
          obtain ⟨r5, M3, L4, h1, hD⟩ := g_b3 hD
          refine md_cvI (As := [.int a2, .int v7]) (rest := []) C hw (tX0_plainBit l G ad fu a2 v7 M L h1) kc_0 (by decide) tf_20 wd_1358 cwX0_plainBit ⟨Nat.le_of_ble_eq_true rfl, Nat.le_of_ble_eq_true rfl⟩ rfl hl.1 (Nat.le_of_ble_eq_true rfl) dX0_layOut_32 rfl rfl ⟨Nat.zero_le _, Nat.zero_le _⟩ rfl (fun H locs hw => ?_)
          refine lv_goto (tgt := 51) C.1.1 C.1.2.1 dX0_layOut_35 (by decide) ?_
          exact hb51 v3 v4 v5 v6 v7 r5 M3 L4 _ _ ls hD hw (lv_sub hl [0, 1, 2, 3, 4, 5, 6, 7] rfl)
  unfold DX0_layOut at hD
  refine lv_iconst (v := 0) C.1.1 C.1.2.1 dX0_layOut_0 (by decide) ?_
  refine lv_istore_n (lv' := [(3, .int 0), (0, .ref (ad 20)), (1, .int a1), (2, .int a2)]) C.1.1 C.1.2.1 dX0_layOut_1 rfl hl (by decide) rfl (fun ls hl => ?_)
  refine lv_iconst (v := 0) C.1.1 C.1.2.1 dX0_layOut_2 (by decide) ?_
  refine lv_istore (lv' := [(4, .int 0), (3, .int 0), (0, .ref (ad 20)), (1, .int a1), (2, .int a2)]) C.1.1 C.1.2.1 dX0_layOut_3 hl (by decide) rfl (fun ls hl => ?_)
  refine lv_iconst (v := 0) C.1.1 C.1.2.1 dX0_layOut_5 (by decide) ?_
  refine lv_istore (lv' := [(5, .int 0), (4, .int 0), (3, .int 0), (0, .ref (ad 20)), (1, .int a1), (2, .int a2)]) C.1.1 C.1.2.1 dX0_layOut_6 hl (by decide) rfl (fun ls hl => ?_)
  refine lv_iconst (v := 1) C.1.1 C.1.2.1 dX0_layOut_8 (by decide) ?_
  refine lv_istore (lv' := [(6, .int 1), (5, .int 0), (4, .int 0), (3, .int 0), (0, .ref (ad 20)), (1, .int a1), (2, .int a2)]) C.1.1 C.1.2.1 dX0_layOut_9 hl (by decide) rfl (fun ls hl => ?_)
  refine lv_iconst (v := 0) C.1.1 C.1.2.1 dX0_layOut_11 (by decide) ?_
  refine lv_istore (lv' := [(7, .int 0), (6, .int 1), (5, .int 0), (4, .int 0), (3, .int 0), (0, .ref (ad 20)), (1, .int a1), (2, .int a2)]) C.1.1 C.1.2.1 dX0_layOut_12 hl (by decide) rfl (fun ls hl => ?_)
  exact hh14 fu 0 0 0 1 0 M L _ _ ls hD hw (lv_sub hl [5, 6, 7, 4, 3, 2, 1, 0] rfl)

theorem dX0_beginSending_0 : decode cX0_beginSending 0 = .ok (.iconst (-1), 1) := by decide +kernel
theorem dX0_beginSending_1 : decode cX0_beginSending 1 = .ok (.istore_n 2, 1) := by decide +kernel
theorem dX0_beginSending_2 : decode cX0_beginSending 2 = .ok (.iconst 0, 1) := by decide +kernel
theorem dX0_beginSending_3 : decode cX0_beginSending 3 = .ok (.istore_n 3, 1) := by decide +kernel
theorem dX0_beginSending_4 : decode cX0_beginSending 4 = .ok (.iload_n 3, 1) := by decide +kernel
theorem dX0_beginSending_5 : decode cX0_beginSending 5 = .ok (.aload_n 0, 1) := by decide +kernel
theorem dX0_beginSending_6 : decode cX0_beginSending 6 = .ok (.getfield 53, 3) := by decide +kernel
theorem dX0_beginSending_9 : decode cX0_beginSending 9 = .ok (.if_icmp .ge 47, 3) := by decide +kernel
theorem dX0_beginSending_12 : decode cX0_beginSending 12 = .ok (.aload_n 0, 1) := by decide +kernel
theorem dX0_beginSending_13 : decode cX0_beginSending 13 = .ok (.getfield 36, 3) := by decide +kernel
theorem dX0_beginSending_16 : decode cX0_beginSending 16 = .ok (.iconst 0, 1) := by decide +kernel
theorem dX0_beginSending_17 : decode cX0_beginSending 17 = .ok (.aaload, 1) := by decide +kernel
theorem dX0_beginSending_18 : decode cX0_beginSending 18 = .ok (.iload_n 3, 1) := by decide +kernel
theorem dX0_beginSending_19 : decode cX0_beginSending 19 = .ok (.iaload, 1) := by decide +kernel
theorem dX0_beginSending_20 : decode cX0_beginSending 20 = .ok (.iload_n 1, 1) := by decide +kernel
theorem dX0_beginSending_21 : decode cX0_beginSending 21 = .ok (.if_icmp .ne 29, 3) := by decide +kernel
theorem dX0_beginSending_24 : decode cX0_beginSending 24 = .ok (.aload_n 0, 1) := by decide +kernel
theorem dX0_beginSending_25 : decode cX0_beginSending 25 = .ok (.getfield 36, 3) := by decide +kernel
theorem dX0_beginSending_28 : decode cX0_beginSending 28 = .ok (.iconst 2, 1) := by decide +kernel
theorem dX0_beginSending_29 : decode cX0_beginSending 29 = .ok (.aaload, 1) := by decide +kernel
theorem dX0_beginSending_30 : decode cX0_beginSending 30 = .ok (.iload_n 3, 1) := by decide +kernel
theorem dX0_beginSending_31 : decode cX0_beginSending 31 = .ok (.iaload, 1) := by decide +kernel
theorem dX0_beginSending_32 : decode cX0_beginSending 32 = .ok (.ifCond .ne 18, 3) := by decide +kernel
theorem dX0_beginSending_35 : decode cX0_beginSending 35 = .ok (.iload_n 2, 1) := by decide +kernel
theorem dX0_beginSending_36 : decode cX0_beginSending 36 = .ok (.ifCond .lt 12, 3) := by decide +kernel
theorem dX0_beginSending_39 : decode cX0_beginSending 39 = .ok (.aload_n 0, 1) := by decide +kernel
theorem dX0_beginSending_40 : decode cX0_beginSending 40 = .ok (.iload_n 3, 1) := by decide +kernel
theorem dX0_beginSending_41 : decode cX0_beginSending 41 = .ok (.iload_n 2, 1) := by decide +kernel
theorem dX0_beginSending_42 : decode cX0_beginSending 42 = .ok (.invokevirtual 122, 3) := by decide +kernel
theorem dX0_beginSending_45 : decode cX0_beginSending 45 = .ok (.ifCond .eq 5, 3) := by decide +kernel
theorem dX0_beginSending_48 : decode cX0_beginSending 48 = .ok (.iload_n 3, 1) := by decide +kernel
theorem dX0_beginSending_49 : decode cX0_beginSending 49 = .ok (.istore_n 2, 1) := by decide +kernel
theorem dX0_beginSending_50 : decode cX0_beginSending 50 = .ok (.iinc 3 1, 3) := by decide +kernel
theorem dX0_beginSending_53 : decode cX0_beginSending 53 = .ok (.goto (-49), 3) := by decide +kernel
theorem dX0_beginSending_56 : decode cX0_beginSending 56 = .ok (.aload_n 0, 1) := by decide +kernel
theorem dX0_beginSending_57 : decode cX0_beginSending 57 = .ok (.getfield 24, 3) := by decide +kernel
theorem dX0_beginSending_60 : decode cX0_beginSending 60 = .ok (.iconst 0, 1) := by decide +kernel
theorem dX0_beginSending_61 : decode cX0_beginSending 61 = .ok (.aaload, 1) := by decide +kernel
theorem dX0_beginSending_62 : decode cX0_beginSending 62 = .ok (.iload_n 1, 1) := by decide +kernel
theorem dX0_beginSending_63 : decode cX0_beginSending 63 = .ok (.iconst 1, 1) := by decide +kernel
theorem dX0_beginSending_64 : decode cX0_beginSending 64 = .ok (.iastore, 1) := by decide +kernel
theorem dX0_beginSending_65 : decode cX0_beginSending 65 = .ok (.aload_n 0, 1) := by decide +kernel
theorem dX0_beginSending_66 : decode cX0_beginSending 66 = .ok (.getfield 24, 3) := by decide +kernel
theorem dX0_beginSending_69 : decode cX0_beginSending 69 = .ok (.iconst 2, 1) := by decide +kernel
theorem dX0_beginSending_70 : decode cX0_beginSending 70 = .ok (.aaload, 1) := by decide +kernel
theorem dX0_beginSending_71 : decode cX0_beginSending 71 = .ok (.iload_n 1, 1) := by decide +kernel
theorem dX0_beginSending_72 : decode cX0_beginSending 72 = .ok (.iload_n 2, 1) := by decide +kernel
theorem dX0_beginSending_73 : decode cX0_beginSending 73 = .ok (.iconst 0, 1) := by decide +kernel
theorem dX0_beginSending_74 : decode cX0_beginSending 74 = .ok (.invokestatic 125, 3) := by decide +kernel
theorem dX0_beginSending_77 : decode cX0_beginSending 77 = .ok (.iastore, 1) := by decide +kernel
theorem dX0_beginSending_78 : decode cX0_beginSending 78 = .ok (.aload_n 0, 1) := by decide +kernel
theorem dX0_beginSending_79 : decode cX0_beginSending 79 = .ok (.getfield 24, 3) := by decide +kernel
theorem dX0_beginSending_82 : decode cX0_beginSending 82 = .ok (.iconst 3, 1) := by decide +kernel
theorem dX0_beginSending_83 : decode cX0_beginSending 83 = .ok (.aaload, 1) := by decide +kernel
theorem dX0_beginSending_84 : decode cX0_beginSending 84 = .ok (.iload_n 1, 1) := by decide +kernel
theorem dX0_beginSending_85 : decode cX0_beginSending 85 = .ok (.iconst 0, 1) := by decide +kernel
theorem dX0_beginSending_86 : decode cX0_beginSending 86 = .ok (.iastore, 1) := by decide +kernel
theorem dX0_beginSending_87 : decode cX0_beginSending 87 = .ok (.aload_n 0, 1) := by decide +kernel
theorem dX0_beginSending_88 : decode cX0_beginSending 88 = .ok (.iload_n 1, 1) := by decide +kernel
theorem dX0_beginSending_89 : decode cX0_beginSending 89 = .ok (.aload_n 0, 1) := by decide +kernel
theorem dX0_beginSending_90 : decode cX0_beginSending 90 = .ok (.getfield 24, 3) := by decide +kernel
theorem dX0_beginSending_93 : decode cX0_beginSending 93 = .ok (.iconst 2, 1) := by decide +kernel
theorem dX0_beginSending_94 : decode cX0_beginSending 94 = .ok (.aaload, 1) := by decide +kernel
theorem dX0_beginSending_95 : decode cX0_beginSending 95 = .ok (.iload_n 1, 1) := by decide +kernel
theorem dX0_beginSending_96 : decode cX0_beginSending 96 = .ok (.iaload, 1) := by decide +kernel
theorem dX0_beginSending_97 : decode cX0_beginSending 97 = .ok (.invokevirtual 128, 3) := by decide +kernel
theorem dX0_beginSending_100 : decode cX0_beginSending 100 = .ok (.return_, 1) := by decide +kernel
theorem cwX0_beginSending : mw_cwV yX0_beginSending cX0_beginSending 4 (none) 1 := ⟨⟨wd_5, wd_1348, by decide +kernel⟩, wd_1347, sl_71⟩
set_option maxHeartbeats 4000000 in
set_option maxRecDepth 100000 in
theorem tX0_beginSending (l : Launch) (G : mwG) (ad : Nat → Nat) (fu : Nat) (a1 : Int32) (M : mwM) (L : mwL) {M0 : mwM} {L0 : mwL} (hD : DX0_beginSending fu a1 M L = some (M0, L0)) : Met l yX0_beginSending (Cond.code yX0_beginSending cX0_beginSending 4 (none) :: GT) ({ frames := 2, cells := 0, slots := 0, locals := 52 }) (mw_Pre G ad NF TF FF M L [.ref (ad 20), .int a1]) (mw_Qv G ad NF TF FF (mw_eqV M0 L0)) 0 0 (mw_fr G) := by
  refine mw_enter (by decide) (Nat.le_of_ble_eq_true rfl) ?_
  intro p e s m below meth c ls C hr hlocks hnm hw hl
  have hl : lv_has ls 4 [(0, .ref (ad 20)), (1, .int a1)] := hl
  have hh4 : ∀ (f : Nat) (v2 : Int32) (v3 : Int32) (M : mwM) (L : mwL) (H : Heap) (locs : List Loc) (ls : Array Slot), fX0_beginSending_h4 fu a1 f (v2, v3, M, L) = some (M0, L0) → mw_W G ad NF TF FF M L H locs → lv_has ls 4 [(0, .ref (ad 20)), (1, .int a1), (2, .int v2), (3, .int v3)] → W p l e ({ frames := 2, cells := 0, slots := 0, locals := 52 }) s m [.ref (ad 20), .int a1].toArray below meth c H locs 0 0 (MQ below (mw_Qv G ad NF TF FF (mw_eqV M0 L0)) [.ref (ad 20), .int a1].toArray s 0 0 (mw_fr G)) (F0 m 4 ls []) := by
    intro f
    induction f with
    | zero => intro v2 v3 M L H locs ls hD; cases hD
    | succ f4 ih4 =>
      intro v2 v3 M L H locs ls hD hw hl
      replace hD : fX0_beginSending_i4 fu a1 (fX0_beginSending_h4 fu a1 f4) v2 v3 M L = some (M0, L0) := hD
      have hb50 : ∀ (v2 : Int32) (v3 : Int32) (M : mwM) (L : mwL) (H : Heap) (locs : List Loc) (ls : Array Slot), fX0_beginSending_b50 fu a1 (fX0_beginSending_h4 fu a1 f4) v2 v3 M L = some (M0, L0) → mw_W G ad NF TF FF M L H locs → lv_has ls 4 [(0, .ref (ad 20)), (1, .int a1), (2, .int v2), (3, .int v3)] → W p l e ({ frames := 2, cells := 0, slots := 0, locals := 52 }) s m [.ref (ad 20), .int a1].toArray below meth c H locs 0 0 (MQ below (mw_Qv G ad NF TF FF (mw_eqV M0 L0)) [.ref (ad 20), .int a1].toArray s 0 0 (mw_fr G)) (F0 m 50 ls []) := by
        intro v2 v3 M L H locs ls hD hw hl
        unfold fX0_beginSending_b50 at hD
        obtain ⟨x26, ex26, hD⟩ := g_let hD
        refine lv_iinc (v := x26) (lv' := [(3, .int x26), (0, .ref (ad 20)), (1, .int a1), (2, .int v2)]) C.1.1 C.1.2.1 dX0_beginSending_50 hl (k := 3) rfl (by rw [ex26]; rfl) (by decide) rfl (fun ls hl => ?_)
        refine lv_goto (tgt := 4) C.1.1 C.1.2.1 dX0_beginSending_53 (by decide) ?_
        exact ih4 v2 x26 M L _ _ ls hD hw (lv_sub hl [1, 2, 3, 0] rfl)
      have hb48 : ∀ (v3 : Int32) (M : mwM) (L : mwL) (H : Heap) (locs : List Loc) (ls : Array Slot), fX0_beginSending_b48 fu a1 (fX0_beginSending_h4 fu a1 f4) v3 M L = some (M0, L0) → mw_W G ad NF TF FF M L H locs → lv_has ls 4 [(0, .ref (ad 20)), (1, .int a1), (3, .int v3)] → W p l e ({ frames := 2, cells := 0, slots := 0, locals := 52 }) s m [.ref (ad 20), .int a1].toArray below meth c H locs 0 0 (MQ below (mw_Qv G ad NF TF FF (mw_eqV M0 L0)) [.ref (ad 20), .int a1].toArray s 0 0 (mw_fr G)) (F0 m 48 ls []) := by
        intro v3 M L H locs ls hD hw hl
        unfold fX0_beginSending_b48 at hD
        refine lv_iload_n C.1.1 C.1.2.1 dX0_beginSending_48 rfl (lv_at hl 2 rfl) ?_
        refine lv_istore_n (lv' := [(2, .int v3), (0, .ref (ad 20)), (1, .int a1), (3, .int v3)]) C.1.1 C.1.2.1 dX0_beginSending_49 rfl hl (by decide) rfl (fun ls hl => ?_)
        exact hb50 v3 v3 M L _ _ ls hD hw (lv_sub hl [1, 2, 0, 3] rfl)
      unfold fX0_beginSending_i4 at hD
      refine lv_iload_n C.1.1 C.1.2.1 dX0_beginSending_4 rfl (lv_at hl 3 rfl) ?_
      refine lv_aload_n C.1.1 C.1.2.1 dX0_beginSending_5 rfl (lv_at hl 0 rfl) ?_
      refine mr_getI C hw kc_0 9 (by decide) tf_20 wd_184 dX0_beginSending_6 (by decide) rfl ?_
      refine lv_icmp_ge (tgt := 56) C.1.1 C.1.2.1 dX0_beginSending_9 (by decide) (fun c1 => ?_) (fun c1 => ?_)
      · replace hD := g_pos c1 hD
        refine lv_aload_n C.1.1 C.1.2.1 dX0_beginSending_56 rfl (lv_at hl 0 rfl) ?_
        refine mr_getR C hw kc_0 3 (by decide) tf_20 ff_20_3 wd_176 dX0_beginSending_57 (by decide) rfl ?_
        refine lv_iconst (v := 0) C.1.1 C.1.2.1 dX0_beginSending_60 (by decide) ?_
        refine mr_aald C hw (by decide) tf_24 (by decide) (by decide) rfl rfl (show vp_in 0 8 from by unfold vp_in; decide) ff_24_0 dX0_beginSending_61 ?_
        refine lv_iload_n C.1.1 C.1.2.1 dX0_beginSending_62 rfl (lv_at hl 1 rfl) ?_
        refine lv_iconst (v := 1) C.1.1 C.1.2.1 dX0_beginSending_63 (by decide) ?_
        obtain ⟨q3, hD⟩ := g_ck hD
        obtain ⟨M4, eM4, hD⟩ := g_let hD
        refine mr_iast C hw (by decide) tf_25 q3 dX0_beginSending_64 (fun H locs hw => ?_)
        replace hw : mw_W G ad NF TF FF M4 L H locs := by rw [eM4]; exact hw
        refine lv_aload_n C.1.1 C.1.2.1 dX0_beginSending_65 rfl (lv_at hl 0 rfl) ?_
        refine mr_getR C hw kc_0 3 (by decide) tf_20 ff_20_3 wd_176 dX0_beginSending_66 (by decide) rfl ?_
        refine lv_iconst (v := 2) C.1.1 C.1.2.1 dX0_beginSending_69 (by decide) ?_
        refine mr_aald C hw (by decide) tf_24 (by decide) (by decide) rfl rfl (show vp_in 2 8 from by unfold vp_in; decide) ff_24_2 dX0_beginSending_70 ?_
        refine lv_iload_n C.1.1 C.1.2.1 dX0_beginSending_71 rfl (lv_at hl 1 rfl) ?_
        refine lv_iload_n C.1.1 C.1.2.1 dX0_beginSending_72 rfl (lv_at hl 2 rfl) ?_
        refine lv_iconst (v := 0) C.1.1 C.1.2.1 dX0_beginSending_73 (by decide) ?_
        refine va_mmax C.1.1 C.1.2.1 (C.1.2.2.1.trans hl.1.symm) C.1.2.2.2.1 (C.1.2.2.2.2 _ wd_1353) (C.1.2.2.2.2 _ wd_1173) (C.1.2.2.2.2 _ wd_30) (C.1.2.2.2.2 _ wd_1174) (Nat.le_of_ble_eq_true rfl) (Nat.le_of_ble_eq_true rfl) (Nat.zero_le _) (Nat.zero_le _) dX0_beginSending_74 ?_
        obtain ⟨q6, hD⟩ := g_ck hD
        obtain ⟨M7, eM7, hD⟩ := g_let hD
        refine mr_iast C hw (by decide) tf_27 q6 dX0_beginSending_77 (fun H locs hw => ?_)
        replace hw : mw_W G ad NF TF FF M7 L H locs := by rw [eM7]; exact hw
        refine lv_aload_n C.1.1 C.1.2.1 dX0_beginSending_78 rfl (lv_at hl 0 rfl) ?_
        refine mr_getR C hw kc_0 3 (by decide) tf_20 ff_20_3 wd_176 dX0_beginSending_79 (by decide) rfl ?_
        refine lv_iconst (v := 3) C.1.1 C.1.2.1 dX0_beginSending_82 (by decide) ?_
        refine mr_aald C hw (by decide) tf_24 (by decide) (by decide) rfl rfl (show vp_in 3 8 from by unfold vp_in; decide) ff_24_3 dX0_beginSending_83 ?_
        refine lv_iload_n C.1.1 C.1.2.1 dX0_beginSending_84 rfl (lv_at hl 1 rfl) ?_
        refine lv_iconst (v := 0) C.1.1 C.1.2.1 dX0_beginSending_85 (by decide) ?_
        obtain ⟨q9, hD⟩ := g_ck hD
        obtain ⟨M10, eM10, hD⟩ := g_let hD
        refine mr_iast C hw (by decide) tf_28 q9 dX0_beginSending_86 (fun H locs hw => ?_)
        replace hw : mw_W G ad NF TF FF M10 L H locs := by rw [eM10]; exact hw
        refine lv_aload_n C.1.1 C.1.2.1 dX0_beginSending_87 rfl (lv_at hl 0 rfl) ?_
        refine lv_iload_n C.1.1 C.1.2.1 dX0_beginSending_88 rfl (lv_at hl 1 rfl) ?_
        refine lv_aload_n C.1.1 C.1.2.1 dX0_beginSending_89 rfl (lv_at hl 0 rfl) ?_
        refine mr_getR C hw kc_0 3 (by decide) tf_20 ff_20_3 wd_176 dX0_beginSending_90 (by decide) rfl ?_
        refine lv_iconst (v := 2) C.1.1 C.1.2.1 dX0_beginSending_93 (by decide) ?_
        refine mr_aald C hw (by decide) tf_24 (by decide) (by decide) rfl rfl (show vp_in 2 8 from by unfold vp_in; decide) ff_24_2 dX0_beginSending_94 ?_
        refine lv_iload_n C.1.1 C.1.2.1 dX0_beginSending_95 rfl (lv_at hl 1 rfl) ?_
        obtain ⟨q12, hD⟩ := g_ck hD
        refine mr_iald C hw (by decide) tf_27 q12 dX0_beginSending_96 ?_
        obtain ⟨M13, L14, h1, hD⟩ := g_b2 hD
        refine md_cvV (As := [.int a1, .int (M10 27 a1.toNatClampNeg)]) (rest := []) C hw (tX0_layOut l G ad fu a1 (M10 27 a1.toNatClampNeg) M10 L h1) kc_0 (by decide) tf_20 wd_1354 cwX0_layOut ⟨Nat.le_of_ble_eq_true rfl, Nat.le_of_ble_eq_true rfl⟩ rfl hl.1 (Nat.le_of_ble_eq_true rfl) dX0_beginSending_97 rfl rfl ⟨Nat.zero_le _, Nat.zero_le _⟩ rfl (fun H locs hw => ?_)
        exact mr_vret C hr hlocks hw (Option.some.inj hD) dX0_beginSending_100
      · replace hD := g_neg c1 hD
        refine lv_aload_n C.1.1 C.1.2.1 dX0_beginSending_12 rfl (lv_at hl 0 rfl) ?_
        refine mr_getR C hw kc_0 6 (by decide) tf_20 ff_20_6 wd_181 dX0_beginSending_13 (by decide) rfl ?_
        refine lv_iconst (v := 0) C.1.1 C.1.2.1 dX0_beginSending_16 (by decide) ?_
        refine mr_aald C hw (by decide) tf_42 (by decide) (by decide) rfl rfl (show vp_in 0 3 from by unfold vp_in; decide) ff_42_0 dX0_beginSending_17 ?_
        refine lv_iload_n C.1.1 C.1.2.1 dX0_beginSending_18 rfl (lv_at hl 3 rfl) ?_
        obtain ⟨q16, hD⟩ := g_ck hD
        refine mr_iald C hw (by decide) tf_43 q16 dX0_beginSending_19 ?_
        refine lv_iload_n C.1.1 C.1.2.1 dX0_beginSending_20 rfl (lv_at hl 1 rfl) ?_
        refine lv_icmp_ne (tgt := 50) C.1.1 C.1.2.1 dX0_beginSending_21 (by decide) (fun c17 => ?_) (fun c17 => ?_)
        · replace hD := g_neg c17 hD
          exact hb50 v2 v3 M L _ _ ls hD hw (lv_sub hl [0, 1, 2, 3] rfl)
        · replace hD := g_pos c17 hD
          refine lv_aload_n C.1.1 C.1.2.1 dX0_beginSending_24 rfl (lv_at hl 0 rfl) ?_
          refine mr_getR C hw kc_0 6 (by decide) tf_20 ff_20_6 wd_181 dX0_beginSending_25 (by decide) rfl ?_
          refine lv_iconst (v := 2) C.1.1 C.1.2.1 dX0_beginSending_28 (by decide) ?_
          refine mr_aald C hw (by decide) tf_42 (by decide) (by decide) rfl rfl (show vp_in 2 3 from by unfold vp_in; decide) ff_42_2 dX0_beginSending_29 ?_
          refine lv_iload_n C.1.1 C.1.2.1 dX0_beginSending_30 rfl (lv_at hl 3 rfl) ?_
          obtain ⟨q19, hD⟩ := g_ck hD
          refine mr_iald C hw (by decide) tf_45 q19 dX0_beginSending_31 ?_
          refine lv_if_ne (tgt := 50) C.1.1 C.1.2.1 dX0_beginSending_32 (by decide) (fun c20 => ?_) (fun c20 => ?_)
          · replace hD := g_neg c20 hD
            exact hb50 v2 v3 M L _ _ ls hD hw (lv_sub hl [0, 1, 2, 3] rfl)
          · replace hD := g_pos c20 hD
            refine lv_iload_n C.1.1 C.1.2.1 dX0_beginSending_35 rfl (lv_at hl 2 rfl) ?_
            refine lv_if_lt (tgt := 48) C.1.1 C.1.2.1 dX0_beginSending_36 (by decide) (fun c21 => ?_) (fun c21 => ?_)
            · replace hD := g_pos c21 hD
              exact hb48 v3 M L _ _ ls hD hw (lv_sub hl [0, 1, 3] rfl)
            · replace hD := g_neg c21 hD
              refine lv_aload_n C.1.1 C.1.2.1 dX0_beginSending_39 rfl (lv_at hl 0 rfl) ?_
              refine lv_iload_n C.1.1 C.1.2.1 dX0_beginSending_40 rfl (lv_at hl 3 rfl) ?_
              refine lv_iload_n C.1.1 C.1.2.1 dX0_beginSending_41 rfl (lv_at hl 2 rfl) ?_
              obtain ⟨r24, M22, L23, h1, hD⟩ := g_b3 hD
              refine md_cvI (As := [.int v3, .int v2]) (rest := []) C hw (tX0_isBefore l G ad fu v3 v2 M L h1) kc_0 (by decide) tf_20 wd_1349 cwX0_isBefore ⟨Nat.le_of_ble_eq_true rfl, Nat.le_of_ble_eq_true rfl⟩ rfl hl.1 (Nat.le_of_ble_eq_true rfl) dX0_beginSending_42 rfl rfl ⟨Nat.zero_le _, Nat.zero_le _⟩ rfl (fun H locs hw => ?_)
              refine lv_if_eq (tgt := 50) C.1.1 C.1.2.1 dX0_beginSending_45 (by decide) (fun c25 => ?_) (fun c25 => ?_)
              · replace hD := g_pos c25 hD
                exact hb50 v2 v3 M22 L23 _ _ ls hD hw (lv_sub hl [0, 1, 2, 3] rfl)
              · replace hD := g_neg c25 hD
                exact hb48 v3 M22 L23 _ _ ls hD hw (lv_sub hl [0, 1, 3] rfl)
  unfold DX0_beginSending at hD
  refine lv_iconst (v := (-1)) C.1.1 C.1.2.1 dX0_beginSending_0 (by decide) ?_
  refine lv_istore_n (lv' := [(2, .int ((-1))), (0, .ref (ad 20)), (1, .int a1)]) C.1.1 C.1.2.1 dX0_beginSending_1 rfl hl (by decide) rfl (fun ls hl => ?_)
  refine lv_iconst (v := 0) C.1.1 C.1.2.1 dX0_beginSending_2 (by decide) ?_
  refine lv_istore_n (lv' := [(3, .int 0), (2, .int ((-1))), (0, .ref (ad 20)), (1, .int a1)]) C.1.1 C.1.2.1 dX0_beginSending_3 rfl hl (by decide) rfl (fun ls hl => ?_)
  exact hh4 fu ((-1)) 0 M L _ _ ls hD hw (lv_sub hl [2, 3, 1, 0] rfl)

theorem dX0_putOf_0 : decode cX0_putOf 0 = .ok (.aload_n 0, 1) := by decide +kernel
theorem dX0_putOf_1 : decode cX0_putOf 1 = .ok (.getfield 24, 3) := by decide +kernel
theorem dX0_putOf_4 : decode cX0_putOf 4 = .ok (.iconst 0, 1) := by decide +kernel
theorem dX0_putOf_5 : decode cX0_putOf 5 = .ok (.aaload, 1) := by decide +kernel
theorem dX0_putOf_6 : decode cX0_putOf 6 = .ok (.iload_n 1, 1) := by decide +kernel
theorem dX0_putOf_7 : decode cX0_putOf 7 = .ok (.iaload, 1) := by decide +kernel
theorem dX0_putOf_8 : decode cX0_putOf 8 = .ok (.tableswitch 82 0 3 #[32, 52, 70, 80], 32) := by decide +kernel
theorem dX0_putOf_40 : decode cX0_putOf 40 = .ok (.aload_n 0, 1) := by decide +kernel
theorem dX0_putOf_41 : decode cX0_putOf 41 = .ok (.getfield 24, 3) := by decide +kernel
theorem dX0_putOf_44 : decode cX0_putOf 44 = .ok (.iconst 5, 1) := by decide +kernel
theorem dX0_putOf_45 : decode cX0_putOf 45 = .ok (.aaload, 1) := by decide +kernel
theorem dX0_putOf_46 : decode cX0_putOf 46 = .ok (.iload_n 1, 1) := by decide +kernel
theorem dX0_putOf_47 : decode cX0_putOf 47 = .ok (.iaload, 1) := by decide +kernel
theorem dX0_putOf_48 : decode cX0_putOf 48 = .ok (.ifCond .ne 5, 3) := by decide +kernel
theorem dX0_putOf_51 : decode cX0_putOf 51 = .ok (.iconst 1, 1) := by decide +kernel
theorem dX0_putOf_52 : decode cX0_putOf 52 = .ok (.ireturn, 1) := by decide +kernel
theorem dX0_putOf_53 : decode cX0_putOf 53 = .ok (.aload_n 0, 1) := by decide +kernel
theorem dX0_putOf_54 : decode cX0_putOf 54 = .ok (.iload_n 1, 1) := by decide +kernel
theorem dX0_putOf_55 : decode cX0_putOf 55 = .ok (.invokevirtual 77, 3) := by decide +kernel
theorem dX0_putOf_58 : decode cX0_putOf 58 = .ok (.iconst 0, 1) := by decide +kernel
theorem dX0_putOf_59 : decode cX0_putOf 59 = .ok (.ireturn, 1) := by decide +kernel
theorem dX0_putOf_60 : decode cX0_putOf 60 = .ok (.aload_n 0, 1) := by decide +kernel
theorem dX0_putOf_61 : decode cX0_putOf 61 = .ok (.getfield 27, 3) := by decide +kernel
theorem dX0_putOf_64 : decode cX0_putOf 64 = .ok (.iload_n 1, 1) := by decide +kernel
theorem dX0_putOf_65 : decode cX0_putOf 65 = .ok (.aaload, 1) := by decide +kernel
theorem dX0_putOf_66 : decode cX0_putOf 66 = .ok (.aload_n 0, 1) := by decide +kernel
theorem dX0_putOf_67 : decode cX0_putOf 67 = .ok (.getfield 24, 3) := by decide +kernel
theorem dX0_putOf_70 : decode cX0_putOf 70 = .ok (.iconst 3, 1) := by decide +kernel
theorem dX0_putOf_71 : decode cX0_putOf 71 = .ok (.aaload, 1) := by decide +kernel
theorem dX0_putOf_72 : decode cX0_putOf 72 = .ok (.iload_n 1, 1) := by decide +kernel
theorem dX0_putOf_73 : decode cX0_putOf 73 = .ok (.iaload, 1) := by decide +kernel
theorem dX0_putOf_74 : decode cX0_putOf 74 = .ok (.iaload, 1) := by decide +kernel
theorem dX0_putOf_75 : decode cX0_putOf 75 = .ok (.iconst 1, 1) := by decide +kernel
theorem dX0_putOf_76 : decode cX0_putOf 76 = .ok (.iand, 1) := by decide +kernel
theorem dX0_putOf_77 : decode cX0_putOf 77 = .ok (.ireturn, 1) := by decide +kernel
theorem dX0_putOf_78 : decode cX0_putOf 78 = .ok (.aload_n 0, 1) := by decide +kernel
theorem dX0_putOf_79 : decode cX0_putOf 79 = .ok (.getfield 32, 3) := by decide +kernel
theorem dX0_putOf_82 : decode cX0_putOf 82 = .ok (.iload_n 1, 1) := by decide +kernel
theorem dX0_putOf_83 : decode cX0_putOf 83 = .ok (.aaload, 1) := by decide +kernel
theorem dX0_putOf_84 : decode cX0_putOf 84 = .ok (.invokevirtual 81, 3) := by decide +kernel
theorem dX0_putOf_87 : decode cX0_putOf 87 = .ok (.ireturn, 1) := by decide +kernel
theorem dX0_putOf_88 : decode cX0_putOf 88 = .ok (.iconst 0, 1) := by decide +kernel
theorem dX0_putOf_89 : decode cX0_putOf 89 = .ok (.ireturn, 1) := by decide +kernel
theorem dX0_putOf_90 : decode cX0_putOf 90 = .ok (.iconst 1, 1) := by decide +kernel
theorem dX0_putOf_91 : decode cX0_putOf 91 = .ok (.ireturn, 1) := by decide +kernel
theorem cwX0_putOf : mw_cwV yX0_putOf cX0_putOf 2 ((some .int)) 1 := ⟨⟨wd_5, wd_1344, by decide +kernel⟩, wd_1343, sl_70⟩
set_option maxHeartbeats 4000000 in
set_option maxRecDepth 100000 in
theorem tX0_putOf (l : Launch) (G : mwG) (ad : Nat → Nat) (fu : Nat) (a1 : Int32) (M : mwM) (L : mwL) {r0 : Int32} {M0 : mwM} {L0 : mwL} (hD : DX0_putOf fu a1 M L = some (r0, M0, L0)) : Met l yX0_putOf (Cond.code yX0_putOf cX0_putOf 2 ((some .int)) :: GT) ({ frames := 3, cells := 0, slots := 0, locals := 75 }) (mw_Pre G ad NF TF FF M L [.ref (ad 20), .int a1]) (mw_Qi G ad NF TF FF (mw_eqI r0 M0 L0)) 0 0 (mw_fr G) := by
  refine mw_enter (by decide) (Nat.le_of_ble_eq_true rfl) ?_
  intro p e s m below meth c ls C hr hlocks hnm hw hl
  have hl : lv_has ls 2 [(0, .ref (ad 20)), (1, .int a1)] := hl
  unfold DX0_putOf at hD
  refine lv_aload_n C.1.1 C.1.2.1 dX0_putOf_0 rfl (lv_at hl 0 rfl) ?_
  refine mr_getR C hw kc_0 3 (by decide) tf_20 ff_20_3 wd_176 dX0_putOf_1 (by decide) rfl ?_
  refine lv_iconst (v := 0) C.1.1 C.1.2.1 dX0_putOf_4 (by decide) ?_
  refine mr_aald C hw (by decide) tf_24 (by decide) (by decide) rfl rfl (show vp_in 0 8 from by unfold vp_in; decide) ff_24_0 dX0_putOf_5 ?_
  refine lv_iload_n C.1.1 C.1.2.1 dX0_putOf_6 rfl (lv_at hl 1 rfl) ?_
  obtain ⟨q2, hD⟩ := g_ck hD
  refine mr_iald C hw (by decide) tf_25 q2 dX0_putOf_7 ?_
  obtain ⟨x3, ex3, hD⟩ := g_let hD
  refine W.eq (g2 := F0 m 8 ls (.int x3 :: [])) (by rw [ex3]) ?_
  by_cases c4 : x3 = 0
  · replace hD := g_pos c4 hD
    refine lv_tableIn (tgt := 40) C.1.1 C.1.2.1 dX0_putOf_8 (by rw [c4]; decide) (by rw [c4]; decide) (off := 32) (by rw [c4]; decide) (by decide) ?_
    refine lv_aload_n C.1.1 C.1.2.1 dX0_putOf_40 rfl (lv_at hl 0 rfl) ?_
    refine mr_getR C hw kc_0 3 (by decide) tf_20 ff_20_3 wd_176 dX0_putOf_41 (by decide) rfl ?_
    refine lv_iconst (v := 5) C.1.1 C.1.2.1 dX0_putOf_44 (by decide) ?_
    refine mr_aald C hw (by decide) tf_24 (by decide) (by decide) rfl rfl (show vp_in 5 8 from by unfold vp_in; decide) ff_24_5 dX0_putOf_45 ?_
    refine lv_iload_n C.1.1 C.1.2.1 dX0_putOf_46 rfl (lv_at hl 1 rfl) ?_
    obtain ⟨q6, hD⟩ := g_ck hD
    refine mr_iald C hw (by decide) tf_30 q6 dX0_putOf_47 ?_
    refine lv_if_ne (tgt := 53) C.1.1 C.1.2.1 dX0_putOf_48 (by decide) (fun c7 => ?_) (fun c7 => ?_)
    · replace hD := g_neg c7 hD
      refine lv_aload_n C.1.1 C.1.2.1 dX0_putOf_53 rfl (lv_at hl 0 rfl) ?_
      refine lv_iload_n C.1.1 C.1.2.1 dX0_putOf_54 rfl (lv_at hl 1 rfl) ?_
      obtain ⟨M8, L9, h1, hD⟩ := g_b2 hD
      refine md_cvV (As := [.int a1]) (rest := []) C hw (tX0_beginSending l G ad fu a1 M L h1) kc_0 (by decide) tf_20 wd_1345 cwX0_beginSending ⟨Nat.le_of_ble_eq_true rfl, Nat.le_of_ble_eq_true rfl⟩ rfl hl.1 (Nat.le_of_ble_eq_true rfl) dX0_putOf_55 rfl rfl ⟨Nat.zero_le _, Nat.zero_le _⟩ rfl (fun H locs hw => ?_)
      refine lv_iconst (v := 0) C.1.1 C.1.2.1 dX0_putOf_58 (by decide) ?_
      exact mr_iret C hr hlocks hw rfl (Option.some.inj hD) dX0_putOf_59
    · replace hD := g_pos c7 hD
      refine lv_iconst (v := 1) C.1.1 C.1.2.1 dX0_putOf_51 (by decide) ?_
      exact mr_iret C hr hlocks hw rfl (Option.some.inj hD) dX0_putOf_52
  replace hD := g_neg c4 hD
  by_cases c10 : x3 = 1
  · replace hD := g_pos c10 hD
    refine lv_tableIn (tgt := 60) C.1.1 C.1.2.1 dX0_putOf_8 (by rw [c10]; decide) (by rw [c10]; decide) (off := 52) (by rw [c10]; decide) (by decide) ?_
    refine lv_aload_n C.1.1 C.1.2.1 dX0_putOf_60 rfl (lv_at hl 0 rfl) ?_
    refine mr_getR C hw kc_0 4 (by decide) tf_20 ff_20_4 wd_178 dX0_putOf_61 (by decide) rfl ?_
    refine lv_iload_n C.1.1 C.1.2.1 dX0_putOf_64 rfl (lv_at hl 1 rfl) ?_
    obtain ⟨q11, hD⟩ := g_ck hD
    refine mr_aald C hw (by decide) tf_33 (by decide) (by decide) rfl rfl q11 (fr_33 _ (g_lt q11)).1 dX0_putOf_65 ?_
    refine lv_aload_n C.1.1 C.1.2.1 dX0_putOf_66 rfl (lv_at hl 0 rfl) ?_
    refine mr_getR C hw kc_0 3 (by decide) tf_20 ff_20_3 wd_176 dX0_putOf_67 (by decide) rfl ?_
    refine lv_iconst (v := 3) C.1.1 C.1.2.1 dX0_putOf_70 (by decide) ?_
    refine mr_aald C hw (by decide) tf_24 (by decide) (by decide) rfl rfl (show vp_in 3 8 from by unfold vp_in; decide) ff_24_3 dX0_putOf_71 ?_
    refine lv_iload_n C.1.1 C.1.2.1 dX0_putOf_72 rfl (lv_at hl 1 rfl) ?_
    obtain ⟨q13, hD⟩ := g_ck hD
    refine mr_iald C hw (by decide) tf_28 q13 dX0_putOf_73 ?_
    obtain ⟨q14, hD⟩ := g_ck hD
    refine mr_iald C hw (fr_33 _ (g_lt q11)).2.2 (fr_33 _ (g_lt q11)).2.1 q14 dX0_putOf_74 ?_
    refine lv_iconst (v := 1) C.1.1 C.1.2.1 dX0_putOf_75 (by decide) ?_
    refine lv_iand C.1.1 C.1.2.1 dX0_putOf_76 ?_
    exact mr_iret C hr hlocks hw rfl (Option.some.inj hD) dX0_putOf_77
  replace hD := g_neg c10 hD
  by_cases c15 : x3 = 2
  · replace hD := g_pos c15 hD
    refine lv_tableIn (tgt := 78) C.1.1 C.1.2.1 dX0_putOf_8 (by rw [c15]; decide) (by rw [c15]; decide) (off := 70) (by rw [c15]; decide) (by decide) ?_
    refine lv_aload_n C.1.1 C.1.2.1 dX0_putOf_78 rfl (lv_at hl 0 rfl) ?_
    refine mr_getR C hw kc_0 5 (by decide) tf_20 ff_20_5 wd_179 dX0_putOf_79 (by decide) rfl ?_
    refine lv_iload_n C.1.1 C.1.2.1 dX0_putOf_82 rfl (lv_at hl 1 rfl) ?_
    obtain ⟨q16, hD⟩ := g_ck hD
    refine mr_aald C hw (by decide) tf_41 (by decide) (by decide) rfl rfl q16 (fr_41 _ (g_lt q16)) dX0_putOf_83 ?_
    obtain ⟨r19, M17, L18, h1, hD⟩ := g_b3 hD
    refine md_cvI (As := []) (rest := []) C hw (tX5_putBit l G ad fu ((47 + 2 * a1.toNatClampNeg)) M L h1 (isEa_of (g_lt q16))) kc_5 (Ea_N0 (isEa_of (g_lt q16))) (Ea_T0 (isEa_of (g_lt q16))) wd_1365 cwX5_putBit ⟨Nat.le_of_ble_eq_true rfl, Nat.le_of_ble_eq_true rfl⟩ rfl hl.1 (Nat.le_of_ble_eq_true rfl) dX0_putOf_84 rfl rfl ⟨Nat.zero_le _, Nat.zero_le _⟩ rfl (fun H locs hw => ?_)
    exact mr_iret C hr hlocks hw rfl (Option.some.inj hD) dX0_putOf_87
  replace hD := g_neg c15 hD
  by_cases c20 : x3 = 3
  · replace hD := g_pos c20 hD
    refine lv_tableIn (tgt := 88) C.1.1 C.1.2.1 dX0_putOf_8 (by rw [c20]; decide) (by rw [c20]; decide) (off := 80) (by rw [c20]; decide) (by decide) ?_
    refine lv_iconst (v := 0) C.1.1 C.1.2.1 dX0_putOf_88 (by decide) ?_
    exact mr_iret C hr hlocks hw rfl (Option.some.inj hD) dX0_putOf_89
  replace hD := g_neg c20 hD
  have nc4 : ¬ x3.toInt = 0 := fun q => c4 (Int32.toInt_inj.mp (q.trans (by decide)))
  have nc10 : ¬ x3.toInt = 1 := fun q => c10 (Int32.toInt_inj.mp (q.trans (by decide)))
  have nc15 : ¬ x3.toInt = 2 := fun q => c15 (Int32.toInt_inj.mp (q.trans (by decide)))
  have nc20 : ¬ x3.toInt = 3 := fun q => c20 (Int32.toInt_inj.mp (q.trans (by decide)))
  refine lv_tableOut (tgt := 90) C.1.1 C.1.2.1 dX0_putOf_8 (by omega) (by decide) ?_
  refine lv_iconst (v := 1) C.1.1 C.1.2.1 dX0_putOf_90 (by decide) ?_
  exact mr_iret C hr hlocks hw rfl (Option.some.inj hD) dX0_putOf_91

theorem dX0_beginListening_0 : decode cX0_beginListening 0 = .ok (.aload_n 0, 1) := by decide +kernel
theorem dX0_beginListening_1 : decode cX0_beginListening 1 = .ok (.getfield 24, 3) := by decide +kernel
theorem dX0_beginListening_4 : decode cX0_beginListening 4 = .ok (.iconst 0, 1) := by decide +kernel
theorem dX0_beginListening_5 : decode cX0_beginListening 5 = .ok (.aaload, 1) := by decide +kernel
theorem dX0_beginListening_6 : decode cX0_beginListening 6 = .ok (.iload_n 1, 1) := by decide +kernel
theorem dX0_beginListening_7 : decode cX0_beginListening 7 = .ok (.iconst 2, 1) := by decide +kernel
theorem dX0_beginListening_8 : decode cX0_beginListening 8 = .ok (.iastore, 1) := by decide +kernel
theorem dX0_beginListening_9 : decode cX0_beginListening 9 = .ok (.aload_n 0, 1) := by decide +kernel
theorem dX0_beginListening_10 : decode cX0_beginListening 10 = .ok (.getfield 32, 3) := by decide +kernel
theorem dX0_beginListening_13 : decode cX0_beginListening 13 = .ok (.iload_n 1, 1) := by decide +kernel
theorem dX0_beginListening_14 : decode cX0_beginListening 14 = .ok (.aaload, 1) := by decide +kernel
theorem dX0_beginListening_15 : decode cX0_beginListening 15 = .ok (.invokevirtual 119, 3) := by decide +kernel
theorem dX0_beginListening_18 : decode cX0_beginListening 18 = .ok (.return_, 1) := by decide +kernel
theorem cwX0_beginListening : mw_cwV yX0_beginListening cX0_beginListening 2 (none) 1 := ⟨⟨wd_5, wd_1380, by decide +kernel⟩, wd_1379, sl_77⟩
set_option maxHeartbeats 4000000 in
set_option maxRecDepth 100000 in
theorem tX0_beginListening (l : Launch) (G : mwG) (ad : Nat → Nat) (fu : Nat) (a1 : Int32) (M : mwM) (L : mwL) {M0 : mwM} {L0 : mwL} (hD : DX0_beginListening fu a1 M L = some (M0, L0)) : Met l yX0_beginListening (Cond.code yX0_beginListening cX0_beginListening 2 (none) :: GT) ({ frames := 2, cells := 0, slots := 0, locals := 44 }) (mw_Pre G ad NF TF FF M L [.ref (ad 20), .int a1]) (mw_Qv G ad NF TF FF (mw_eqV M0 L0)) 0 0 (mw_fr G) := by
  refine mw_enter (by decide) (Nat.le_of_ble_eq_true rfl) ?_
  intro p e s m below meth c ls C hr hlocks hnm hw hl
  have hl : lv_has ls 2 [(0, .ref (ad 20)), (1, .int a1)] := hl
  unfold DX0_beginListening at hD
  refine lv_aload_n C.1.1 C.1.2.1 dX0_beginListening_0 rfl (lv_at hl 0 rfl) ?_
  refine mr_getR C hw kc_0 3 (by decide) tf_20 ff_20_3 wd_176 dX0_beginListening_1 (by decide) rfl ?_
  refine lv_iconst (v := 0) C.1.1 C.1.2.1 dX0_beginListening_4 (by decide) ?_
  refine mr_aald C hw (by decide) tf_24 (by decide) (by decide) rfl rfl (show vp_in 0 8 from by unfold vp_in; decide) ff_24_0 dX0_beginListening_5 ?_
  refine lv_iload_n C.1.1 C.1.2.1 dX0_beginListening_6 rfl (lv_at hl 1 rfl) ?_
  refine lv_iconst (v := 2) C.1.1 C.1.2.1 dX0_beginListening_7 (by decide) ?_
  obtain ⟨q2, hD⟩ := g_ck hD
  obtain ⟨M3, eM3, hD⟩ := g_let hD
  refine mr_iast C hw (by decide) tf_25 q2 dX0_beginListening_8 (fun H locs hw => ?_)
  replace hw : mw_W G ad NF TF FF M3 L H locs := by rw [eM3]; exact hw
  refine lv_aload_n C.1.1 C.1.2.1 dX0_beginListening_9 rfl (lv_at hl 0 rfl) ?_
  refine mr_getR C hw kc_0 5 (by decide) tf_20 ff_20_5 wd_179 dX0_beginListening_10 (by decide) rfl ?_
  refine lv_iload_n C.1.1 C.1.2.1 dX0_beginListening_13 rfl (lv_at hl 1 rfl) ?_
  obtain ⟨q4, hD⟩ := g_ck hD
  refine mr_aald C hw (by decide) tf_41 (by decide) (by decide) rfl rfl q4 (fr_41 _ (g_lt q4)) dX0_beginListening_14 ?_
  obtain ⟨M5, L6, h1, hD⟩ := g_b2 hD
  refine md_cvV (As := []) (rest := []) C hw (tX5_begin l G ad fu ((47 + 2 * a1.toNatClampNeg)) M3 L h1 (isEa_of (g_lt q4))) kc_5 (Ea_N0 (isEa_of (g_lt q4))) (Ea_T0 (isEa_of (g_lt q4))) wd_1381 cwX5_begin ⟨Nat.le_of_ble_eq_true rfl, Nat.le_of_ble_eq_true rfl⟩ rfl hl.1 (Nat.le_of_ble_eq_true rfl) dX0_beginListening_15 rfl rfl ⟨Nat.zero_le _, Nat.zero_le _⟩ rfl (fun H locs hw => ?_)
  exact mr_vret C hr hlocks hw (Option.some.inj hD) dX0_beginListening_18

theorem dX0_isLosing_0 : decode cX0_isLosing 0 = .ok (.iload_n 2, 1) := by decide +kernel
theorem dX0_isLosing_1 : decode cX0_isLosing 1 = .ok (.aload_n 0, 1) := by decide +kernel
theorem dX0_isLosing_2 : decode cX0_isLosing 2 = .ok (.getfield 24, 3) := by decide +kernel
theorem dX0_isLosing_5 : decode cX0_isLosing 5 = .ok (.bipush 7, 2) := by decide +kernel
theorem dX0_isLosing_7 : decode cX0_isLosing 7 = .ok (.aaload, 1) := by decide +kernel
theorem dX0_isLosing_8 : decode cX0_isLosing 8 = .ok (.iload_n 1, 1) := by decide +kernel
theorem dX0_isLosing_9 : decode cX0_isLosing 9 = .ok (.iaload, 1) := by decide +kernel
theorem dX0_isLosing_10 : decode cX0_isLosing 10 = .ok (.if_icmp .ge 27, 3) := by decide +kernel
theorem dX0_isLosing_13 : decode cX0_isLosing 13 = .ok (.aload_n 0, 1) := by decide +kernel
theorem dX0_isLosing_14 : decode cX0_isLosing 14 = .ok (.getfield 27, 3) := by decide +kernel
theorem dX0_isLosing_17 : decode cX0_isLosing 17 = .ok (.iload_n 1, 1) := by decide +kernel
theorem dX0_isLosing_18 : decode cX0_isLosing 18 = .ok (.aaload, 1) := by decide +kernel
theorem dX0_isLosing_19 : decode cX0_isLosing 19 = .ok (.aload_n 0, 1) := by decide +kernel
theorem dX0_isLosing_20 : decode cX0_isLosing 20 = .ok (.getfield 24, 3) := by decide +kernel
theorem dX0_isLosing_23 : decode cX0_isLosing 23 = .ok (.iconst 3, 1) := by decide +kernel
theorem dX0_isLosing_24 : decode cX0_isLosing 24 = .ok (.aaload, 1) := by decide +kernel
theorem dX0_isLosing_25 : decode cX0_isLosing 25 = .ok (.iload_n 1, 1) := by decide +kernel
theorem dX0_isLosing_26 : decode cX0_isLosing 26 = .ok (.iaload, 1) := by decide +kernel
theorem dX0_isLosing_27 : decode cX0_isLosing 27 = .ok (.iaload, 1) := by decide +kernel
theorem dX0_isLosing_28 : decode cX0_isLosing 28 = .ok (.iconst 2, 1) := by decide +kernel
theorem dX0_isLosing_29 : decode cX0_isLosing 29 = .ok (.iand, 1) := by decide +kernel
theorem dX0_isLosing_30 : decode cX0_isLosing 30 = .ok (.ifCond .eq 7, 3) := by decide +kernel
theorem dX0_isLosing_33 : decode cX0_isLosing 33 = .ok (.iconst 1, 1) := by decide +kernel
theorem dX0_isLosing_34 : decode cX0_isLosing 34 = .ok (.goto 4, 3) := by decide +kernel
theorem dX0_isLosing_37 : decode cX0_isLosing 37 = .ok (.iconst 0, 1) := by decide +kernel
theorem dX0_isLosing_38 : decode cX0_isLosing 38 = .ok (.ireturn, 1) := by decide +kernel
theorem cwX0_isLosing : mw_cwV yX0_isLosing cX0_isLosing 3 ((some .boolean)) 2 := ⟨⟨wd_5, wd_1394, by decide +kernel⟩, wd_1393, sl_78⟩
set_option maxHeartbeats 4000000 in
set_option maxRecDepth 100000 in
theorem tX0_isLosing (l : Launch) (G : mwG) (ad : Nat → Nat) (fu : Nat) (a1 : Int32) (a2 : Int32) (M : mwM) (L : mwL) {r0 : Int32} {M0 : mwM} {L0 : mwL} (hD : DX0_isLosing fu a1 a2 M L = some (r0, M0, L0)) : Met l yX0_isLosing (Cond.code yX0_isLosing cX0_isLosing 3 ((some .boolean)) :: GT) ({ frames := 0, cells := 0, slots := 0, locals := 0 }) (mw_Pre G ad NF TF FF M L [.ref (ad 20), .int a1, .int a2]) (mw_Qi G ad NF TF FF (mw_eqI r0 M0 L0)) 0 0 (mw_fr G) := by
  refine mw_enter (by decide) (Nat.le_of_ble_eq_true rfl) ?_
  intro p e s m below meth c ls C hr hlocks hnm hw hl
  have hl : lv_has ls 3 [(0, .ref (ad 20)), (1, .int a1), (2, .int a2)] := hl
  have hb38 : ∀ (s0 : Int32) (M : mwM) (L : mwL) (H : Heap) (locs : List Loc) (ls : Array Slot), fX0_isLosing_b38 fu a1 a2 s0 M L = some (r0, M0, L0) → mw_W G ad NF TF FF M L H locs → lv_has ls 3 [] → W p l e ({ frames := 0, cells := 0, slots := 0, locals := 0 }) s m [.ref (ad 20), .int a1, .int a2].toArray below meth c H locs 0 0 (MQ below (mw_Qi G ad NF TF FF (mw_eqI r0 M0 L0)) [.ref (ad 20), .int a1, .int a2].toArray s 0 0 (mw_fr G)) (F0 m 38 ls [.int s0]) := by
    intro s0 M L H locs ls hD hw hl
    unfold fX0_isLosing_b38 at hD
    obtain ⟨z1, hD⟩ := g_zz hD
    exact mr_iret C hr hlocks hw (nz_zz z1) (Option.some.inj hD) dX0_isLosing_38
  have hb37 : ∀ (M : mwM) (L : mwL) (H : Heap) (locs : List Loc) (ls : Array Slot), fX0_isLosing_b37 fu a1 a2 M L = some (r0, M0, L0) → mw_W G ad NF TF FF M L H locs → lv_has ls 3 [] → W p l e ({ frames := 0, cells := 0, slots := 0, locals := 0 }) s m [.ref (ad 20), .int a1, .int a2].toArray below meth c H locs 0 0 (MQ below (mw_Qi G ad NF TF FF (mw_eqI r0 M0 L0)) [.ref (ad 20), .int a1, .int a2].toArray s 0 0 (mw_fr G)) (F0 m 37 ls []) := by
    intro M L H locs ls hD hw hl
    unfold fX0_isLosing_b37 at hD
    refine lv_iconst (v := 0) C.1.1 C.1.2.1 dX0_isLosing_37 (by decide) ?_
    exact hb38 0 M L _ _ ls hD hw (lv_sub hl [] rfl)
  unfold DX0_isLosing at hD
  refine lv_iload_n C.1.1 C.1.2.1 dX0_isLosing_0 rfl (lv_at hl 2 rfl) ?_
  refine lv_aload_n C.1.1 C.1.2.1 dX0_isLosing_1 rfl (lv_at hl 0 rfl) ?_
  refine mr_getR C hw kc_0 3 (by decide) tf_20 ff_20_3 wd_176 dX0_isLosing_2 (by decide) rfl ?_
  refine lv_bipush (v := 7) C.1.1 C.1.2.1 dX0_isLosing_5 (by decide) ?_
  refine mr_aald C hw (by decide) tf_24 (by decide) (by decide) rfl rfl (show vp_in 7 8 from by unfold vp_in; decide) ff_24_7 dX0_isLosing_7 ?_
  refine lv_iload_n C.1.1 C.1.2.1 dX0_isLosing_8 rfl (lv_at hl 1 rfl) ?_
  obtain ⟨q3, hD⟩ := g_ck hD
  refine mr_iald C hw (by decide) tf_32 q3 dX0_isLosing_9 ?_
  refine lv_icmp_ge (tgt := 37) C.1.1 C.1.2.1 dX0_isLosing_10 (by decide) (fun c4 => ?_) (fun c4 => ?_)
  · replace hD := g_pos c4 hD
    exact hb37 M L _ _ ls hD hw (lv_sub hl [] rfl)
  · replace hD := g_neg c4 hD
    refine lv_aload_n C.1.1 C.1.2.1 dX0_isLosing_13 rfl (lv_at hl 0 rfl) ?_
    refine mr_getR C hw kc_0 4 (by decide) tf_20 ff_20_4 wd_178 dX0_isLosing_14 (by decide) rfl ?_
    refine lv_iload_n C.1.1 C.1.2.1 dX0_isLosing_17 rfl (lv_at hl 1 rfl) ?_
    obtain ⟨q5, hD⟩ := g_ck hD
    refine mr_aald C hw (by decide) tf_33 (by decide) (by decide) rfl rfl q5 (fr_33 _ (g_lt q5)).1 dX0_isLosing_18 ?_
    refine lv_aload_n C.1.1 C.1.2.1 dX0_isLosing_19 rfl (lv_at hl 0 rfl) ?_
    refine mr_getR C hw kc_0 3 (by decide) tf_20 ff_20_3 wd_176 dX0_isLosing_20 (by decide) rfl ?_
    refine lv_iconst (v := 3) C.1.1 C.1.2.1 dX0_isLosing_23 (by decide) ?_
    refine mr_aald C hw (by decide) tf_24 (by decide) (by decide) rfl rfl (show vp_in 3 8 from by unfold vp_in; decide) ff_24_3 dX0_isLosing_24 ?_
    refine lv_iload_n C.1.1 C.1.2.1 dX0_isLosing_25 rfl (lv_at hl 1 rfl) ?_
    obtain ⟨q7, hD⟩ := g_ck hD
    refine mr_iald C hw (by decide) tf_28 q7 dX0_isLosing_26 ?_
    obtain ⟨q8, hD⟩ := g_ck hD
    refine mr_iald C hw (fr_33 _ (g_lt q5)).2.2 (fr_33 _ (g_lt q5)).2.1 q8 dX0_isLosing_27 ?_
    refine lv_iconst (v := 2) C.1.1 C.1.2.1 dX0_isLosing_28 (by decide) ?_
    refine lv_iand C.1.1 C.1.2.1 dX0_isLosing_29 ?_
    refine lv_if_eq (tgt := 37) C.1.1 C.1.2.1 dX0_isLosing_30 (by decide) (fun c9 => ?_) (fun c9 => ?_)
    · replace hD := g_pos c9 hD
      exact hb37 M L _ _ ls hD hw (lv_sub hl [] rfl)
    · replace hD := g_neg c9 hD
      refine lv_iconst (v := 1) C.1.1 C.1.2.1 dX0_isLosing_33 (by decide) ?_
      refine lv_goto (tgt := 38) C.1.1 C.1.2.1 dX0_isLosing_34 (by decide) ?_
      exact hb38 1 M L _ _ ls hD hw (lv_sub hl [] rfl)

theorem dX0_loseArbitration_0 : decode cX0_loseArbitration 0 = .ok (.aload_n 0, 1) := by decide +kernel
theorem dX0_loseArbitration_1 : decode cX0_loseArbitration 1 = .ok (.iload_n 1, 1) := by decide +kernel
theorem dX0_loseArbitration_2 : decode cX0_loseArbitration 2 = .ok (.invokevirtual 85, 3) := by decide +kernel
theorem dX0_loseArbitration_5 : decode cX0_loseArbitration 5 = .ok (.iconst 1, 1) := by decide +kernel
theorem dX0_loseArbitration_6 : decode cX0_loseArbitration 6 = .ok (.istore_n 2, 1) := by decide +kernel
theorem dX0_loseArbitration_7 : decode cX0_loseArbitration 7 = .ok (.iload_n 2, 1) := by decide +kernel
theorem dX0_loseArbitration_8 : decode cX0_loseArbitration 8 = .ok (.aload_n 0, 1) := by decide +kernel
theorem dX0_loseArbitration_9 : decode cX0_loseArbitration 9 = .ok (.getfield 24, 3) := by decide +kernel
theorem dX0_loseArbitration_12 : decode cX0_loseArbitration 12 = .ok (.iconst 3, 1) := by decide +kernel
theorem dX0_loseArbitration_13 : decode cX0_loseArbitration 13 = .ok (.aaload, 1) := by decide +kernel
theorem dX0_loseArbitration_14 : decode cX0_loseArbitration 14 = .ok (.iload_n 1, 1) := by decide +kernel
theorem dX0_loseArbitration_15 : decode cX0_loseArbitration 15 = .ok (.iaload, 1) := by decide +kernel
theorem dX0_loseArbitration_16 : decode cX0_loseArbitration 16 = .ok (.if_icmp .ge 29, 3) := by decide +kernel
theorem dX0_loseArbitration_19 : decode cX0_loseArbitration 19 = .ok (.aload_n 0, 1) := by decide +kernel
theorem dX0_loseArbitration_20 : decode cX0_loseArbitration 20 = .ok (.getfield 32, 3) := by decide +kernel
theorem dX0_loseArbitration_23 : decode cX0_loseArbitration 23 = .ok (.iload_n 1, 1) := by decide +kernel
theorem dX0_loseArbitration_24 : decode cX0_loseArbitration 24 = .ok (.aaload, 1) := by decide +kernel
theorem dX0_loseArbitration_25 : decode cX0_loseArbitration 25 = .ok (.aload_n 0, 1) := by decide +kernel
theorem dX0_loseArbitration_26 : decode cX0_loseArbitration 26 = .ok (.getfield 27, 3) := by decide +kernel
theorem dX0_loseArbitration_29 : decode cX0_loseArbitration 29 = .ok (.iload_n 1, 1) := by decide +kernel
theorem dX0_loseArbitration_30 : decode cX0_loseArbitration 30 = .ok (.aaload, 1) := by decide +kernel
theorem dX0_loseArbitration_31 : decode cX0_loseArbitration 31 = .ok (.iload_n 2, 1) := by decide +kernel
theorem dX0_loseArbitration_32 : decode cX0_loseArbitration 32 = .ok (.iaload, 1) := by decide +kernel
theorem dX0_loseArbitration_33 : decode cX0_loseArbitration 33 = .ok (.iconst 1, 1) := by decide +kernel
theorem dX0_loseArbitration_34 : decode cX0_loseArbitration 34 = .ok (.iand, 1) := by decide +kernel
theorem dX0_loseArbitration_35 : decode cX0_loseArbitration 35 = .ok (.invokevirtual 116, 3) := by decide +kernel
theorem dX0_loseArbitration_38 : decode cX0_loseArbitration 38 = .ok (.pop, 1) := by decide +kernel
theorem dX0_loseArbitration_39 : decode cX0_loseArbitration 39 = .ok (.iinc 2 1, 3) := by decide +kernel
theorem dX0_loseArbitration_42 : decode cX0_loseArbitration 42 = .ok (.goto (-35), 3) := by decide +kernel
theorem dX0_loseArbitration_45 : decode cX0_loseArbitration 45 = .ok (.aload_n 0, 1) := by decide +kernel
theorem dX0_loseArbitration_46 : decode cX0_loseArbitration 46 = .ok (.getfield 32, 3) := by decide +kernel
theorem dX0_loseArbitration_49 : decode cX0_loseArbitration 49 = .ok (.iload_n 1, 1) := by decide +kernel
theorem dX0_loseArbitration_50 : decode cX0_loseArbitration 50 = .ok (.aaload, 1) := by decide +kernel
theorem dX0_loseArbitration_51 : decode cX0_loseArbitration 51 = .ok (.iconst 0, 1) := by decide +kernel
theorem dX0_loseArbitration_52 : decode cX0_loseArbitration 52 = .ok (.invokevirtual 116, 3) := by decide +kernel
theorem dX0_loseArbitration_55 : decode cX0_loseArbitration 55 = .ok (.pop, 1) := by decide +kernel
theorem dX0_loseArbitration_56 : decode cX0_loseArbitration 56 = .ok (.return_, 1) := by decide +kernel
theorem cwX0_loseArbitration : mw_cwV yX0_loseArbitration cX0_loseArbitration 3 (none) 1 := ⟨⟨wd_5, wd_1398, by decide +kernel⟩, wd_1397, sl_79⟩
set_option maxHeartbeats 4000000 in
set_option maxRecDepth 100000 in
theorem tX0_loseArbitration (l : Launch) (G : mwG) (ad : Nat → Nat) (fu : Nat) (a1 : Int32) (M : mwM) (L : mwL) {M0 : mwM} {L0 : mwL} (hD : DX0_loseArbitration fu a1 M L = some (M0, L0)) : Met l yX0_loseArbitration (Cond.code yX0_loseArbitration cX0_loseArbitration 3 (none) :: GT) ({ frames := 4, cells := 0, slots := 0, locals := 88 }) (mw_Pre G ad NF TF FF M L [.ref (ad 20), .int a1]) (mw_Qv G ad NF TF FF (mw_eqV M0 L0)) 0 0 (mw_fr G) := by
  refine mw_enter (by decide) (Nat.le_of_ble_eq_true rfl) ?_
  intro p e s m below meth c ls C hr hlocks hnm hw hl
  have hl : lv_has ls 3 [(0, .ref (ad 20)), (1, .int a1)] := hl
  have hh7 : ∀ (f : Nat) (v2 : Int32) (M : mwM) (L : mwL) (H : Heap) (locs : List Loc) (ls : Array Slot), fX0_loseArbitration_h7 fu a1 f (v2, M, L) = some (M0, L0) → mw_W G ad NF TF FF M L H locs → lv_has ls 3 [(0, .ref (ad 20)), (1, .int a1), (2, .int v2)] → W p l e ({ frames := 4, cells := 0, slots := 0, locals := 88 }) s m [.ref (ad 20), .int a1].toArray below meth c H locs 0 0 (MQ below (mw_Qv G ad NF TF FF (mw_eqV M0 L0)) [.ref (ad 20), .int a1].toArray s 0 0 (mw_fr G)) (F0 m 7 ls []) := by
    intro f
    induction f with
    | zero => intro v2 M L H locs ls hD; cases hD
    | succ f7 ih7 =>
      intro v2 M L H locs ls hD hw hl
      replace hD : fX0_loseArbitration_i7 fu a1 (fX0_loseArbitration_h7 fu a1 f7) v2 M L = some (M0, L0) := hD
      unfold fX0_loseArbitration_i7 at hD
      refine lv_iload_n C.1.1 C.1.2.1 dX0_loseArbitration_7 rfl (lv_at hl 2 rfl) ?_
      refine lv_aload_n C.1.1 C.1.2.1 dX0_loseArbitration_8 rfl (lv_at hl 0 rfl) ?_
      refine mr_getR C hw kc_0 3 (by decide) tf_20 ff_20_3 wd_176 dX0_loseArbitration_9 (by decide) rfl ?_
      refine lv_iconst (v := 3) C.1.1 C.1.2.1 dX0_loseArbitration_12 (by decide) ?_
      refine mr_aald C hw (by decide) tf_24 (by decide) (by decide) rfl rfl (show vp_in 3 8 from by unfold vp_in; decide) ff_24_3 dX0_loseArbitration_13 ?_
      refine lv_iload_n C.1.1 C.1.2.1 dX0_loseArbitration_14 rfl (lv_at hl 1 rfl) ?_
      obtain ⟨q2, hD⟩ := g_ck hD
      refine mr_iald C hw (by decide) tf_28 q2 dX0_loseArbitration_15 ?_
      refine lv_icmp_ge (tgt := 45) C.1.1 C.1.2.1 dX0_loseArbitration_16 (by decide) (fun c3 => ?_) (fun c3 => ?_)
      · replace hD := g_pos c3 hD
        refine lv_aload_n C.1.1 C.1.2.1 dX0_loseArbitration_45 rfl (lv_at hl 0 rfl) ?_
        refine mr_getR C hw kc_0 5 (by decide) tf_20 ff_20_5 wd_179 dX0_loseArbitration_46 (by decide) rfl ?_
        refine lv_iload_n C.1.1 C.1.2.1 dX0_loseArbitration_49 rfl (lv_at hl 1 rfl) ?_
        obtain ⟨q4, hD⟩ := g_ck hD
        refine mr_aald C hw (by decide) tf_41 (by decide) (by decide) rfl rfl q4 (fr_41 _ (g_lt q4)) dX0_loseArbitration_50 ?_
        refine lv_iconst (v := 0) C.1.1 C.1.2.1 dX0_loseArbitration_51 (by decide) ?_
        obtain ⟨r8, M5, L6, h1, hD⟩ := g_b3 hD
        refine md_cvI (As := [.int 0]) (rest := []) C hw (tX5_hear l G ad fu ((47 + 2 * a1.toNatClampNeg)) 0 M L h1 (isEa_of (g_lt q4))) kc_5 (Ea_N0 (isEa_of (g_lt q4))) (Ea_T0 (isEa_of (g_lt q4))) wd_1399 cwX5_hear ⟨Nat.le_of_ble_eq_true rfl, Nat.le_of_ble_eq_true rfl⟩ rfl hl.1 (Nat.le_of_ble_eq_true rfl) dX0_loseArbitration_52 rfl rfl ⟨Nat.zero_le _, Nat.zero_le _⟩ rfl (fun H locs hw => ?_)
        refine lv_pop C.1.1 C.1.2.1 dX0_loseArbitration_55 rfl ?_
        exact mr_vret C hr hlocks hw (Option.some.inj hD) dX0_loseArbitration_56
      · replace hD := g_neg c3 hD
        refine lv_aload_n C.1.1 C.1.2.1 dX0_loseArbitration_19 rfl (lv_at hl 0 rfl) ?_
        refine mr_getR C hw kc_0 5 (by decide) tf_20 ff_20_5 wd_179 dX0_loseArbitration_20 (by decide) rfl ?_
        refine lv_iload_n C.1.1 C.1.2.1 dX0_loseArbitration_23 rfl (lv_at hl 1 rfl) ?_
        obtain ⟨q9, hD⟩ := g_ck hD
        refine mr_aald C hw (by decide) tf_41 (by decide) (by decide) rfl rfl q9 (fr_41 _ (g_lt q9)) dX0_loseArbitration_24 ?_
        refine lv_aload_n C.1.1 C.1.2.1 dX0_loseArbitration_25 rfl (lv_at hl 0 rfl) ?_
        refine mr_getR C hw kc_0 4 (by decide) tf_20 ff_20_4 wd_178 dX0_loseArbitration_26 (by decide) rfl ?_
        refine lv_iload_n C.1.1 C.1.2.1 dX0_loseArbitration_29 rfl (lv_at hl 1 rfl) ?_
        obtain ⟨q10, hD⟩ := g_ck hD
        refine mr_aald C hw (by decide) tf_33 (by decide) (by decide) rfl rfl q10 (fr_33 _ (g_lt q10)).1 dX0_loseArbitration_30 ?_
        refine lv_iload_n C.1.1 C.1.2.1 dX0_loseArbitration_31 rfl (lv_at hl 2 rfl) ?_
        obtain ⟨q11, hD⟩ := g_ck hD
        refine mr_iald C hw (fr_33 _ (g_lt q10)).2.2 (fr_33 _ (g_lt q10)).2.1 q11 dX0_loseArbitration_32 ?_
        refine lv_iconst (v := 1) C.1.1 C.1.2.1 dX0_loseArbitration_33 (by decide) ?_
        refine lv_iand C.1.1 C.1.2.1 dX0_loseArbitration_34 ?_
        obtain ⟨r14, M12, L13, h1, hD⟩ := g_b3 hD
        refine md_cvI (As := [.int ((M (34 + a1.toNatClampNeg) v2.toNatClampNeg) &&& 1)]) (rest := []) C hw (tX5_hear l G ad fu ((47 + 2 * a1.toNatClampNeg)) ((M (34 + a1.toNatClampNeg) v2.toNatClampNeg) &&& 1) M L h1 (isEa_of (g_lt q9))) kc_5 (Ea_N0 (isEa_of (g_lt q9))) (Ea_T0 (isEa_of (g_lt q9))) wd_1399 cwX5_hear ⟨Nat.le_of_ble_eq_true rfl, Nat.le_of_ble_eq_true rfl⟩ rfl hl.1 (Nat.le_of_ble_eq_true rfl) dX0_loseArbitration_35 rfl rfl ⟨Nat.zero_le _, Nat.zero_le _⟩ rfl (fun H locs hw => ?_)
        refine lv_pop C.1.1 C.1.2.1 dX0_loseArbitration_38 rfl ?_
        obtain ⟨x15, ex15, hD⟩ := g_let hD
        refine lv_iinc (v := x15) (lv' := [(2, .int x15), (0, .ref (ad 20)), (1, .int a1)]) C.1.1 C.1.2.1 dX0_loseArbitration_39 hl (k := 2) rfl (by rw [ex15]; rfl) (by decide) rfl (fun ls hl => ?_)
        refine lv_goto (tgt := 7) C.1.1 C.1.2.1 dX0_loseArbitration_42 (by decide) ?_
        exact ih7 x15 M12 L13 _ _ ls hD hw (lv_sub hl [1, 2, 0] rfl)
  unfold DX0_loseArbitration at hD
  refine lv_aload_n C.1.1 C.1.2.1 dX0_loseArbitration_0 rfl (lv_at hl 0 rfl) ?_
  refine lv_iload_n C.1.1 C.1.2.1 dX0_loseArbitration_1 rfl (lv_at hl 1 rfl) ?_
  obtain ⟨M16, L17, h1, hD⟩ := g_b2 hD
  refine md_cvV (As := [.int a1]) (rest := []) C hw (tX0_beginListening l G ad fu a1 M L h1) kc_0 (by decide) tf_20 wd_1377 cwX0_beginListening ⟨Nat.le_of_ble_eq_true rfl, Nat.le_of_ble_eq_true rfl⟩ rfl hl.1 (Nat.le_of_ble_eq_true rfl) dX0_loseArbitration_2 rfl rfl ⟨Nat.zero_le _, Nat.zero_le _⟩ rfl (fun H locs hw => ?_)
  refine lv_iconst (v := 1) C.1.1 C.1.2.1 dX0_loseArbitration_5 (by decide) ?_
  refine lv_istore_n (lv' := [(2, .int 1), (0, .ref (ad 20)), (1, .int a1)]) C.1.1 C.1.2.1 dX0_loseArbitration_6 rfl hl (by decide) rfl (fun ls hl => ?_)
  exact hh7 fu 1 M16 L17 _ _ ls hD hw (lv_sub hl [1, 2, 0] rfl)

theorem dX0_become_0 : decode cX0_become 0 = .ok (.aload_n 0, 1) := by decide +kernel
theorem dX0_become_1 : decode cX0_become 1 = .ok (.getfield 24, 3) := by decide +kernel
theorem dX0_become_4 : decode cX0_become 4 = .ok (.iconst 0, 1) := by decide +kernel
theorem dX0_become_5 : decode cX0_become 5 = .ok (.aaload, 1) := by decide +kernel
theorem dX0_become_6 : decode cX0_become 6 = .ok (.iload_n 1, 1) := by decide +kernel
theorem dX0_become_7 : decode cX0_become 7 = .ok (.iload_n 2, 1) := by decide +kernel
theorem dX0_become_8 : decode cX0_become 8 = .ok (.iastore, 1) := by decide +kernel
theorem dX0_become_9 : decode cX0_become 9 = .ok (.aload_n 0, 1) := by decide +kernel
theorem dX0_become_10 : decode cX0_become 10 = .ok (.getfield 24, 3) := by decide +kernel
theorem dX0_become_13 : decode cX0_become 13 = .ok (.iconst 1, 1) := by decide +kernel
theorem dX0_become_14 : decode cX0_become 14 = .ok (.aaload, 1) := by decide +kernel
theorem dX0_become_15 : decode cX0_become 15 = .ok (.iload_n 1, 1) := by decide +kernel
theorem dX0_become_16 : decode cX0_become 16 = .ok (.iload_n 3, 1) := by decide +kernel
theorem dX0_become_17 : decode cX0_become 17 = .ok (.iastore, 1) := by decide +kernel
theorem dX0_become_18 : decode cX0_become 18 = .ok (.return_, 1) := by decide +kernel
theorem cwX0_become : mw_cwV yX0_become cX0_become 4 (none) 3 := ⟨⟨wd_5, wd_1455, by decide +kernel⟩, wd_1454, sl_90⟩
set_option maxHeartbeats 4000000 in
set_option maxRecDepth 100000 in
theorem tX0_become (l : Launch) (G : mwG) (ad : Nat → Nat) (fu : Nat) (a1 : Int32) (a2 : Int32) (a3 : Int32) (M : mwM) (L : mwL) {M0 : mwM} {L0 : mwL} (hD : DX0_become fu a1 a2 a3 M L = some (M0, L0)) : Met l yX0_become (Cond.code yX0_become cX0_become 4 (none) :: GT) ({ frames := 0, cells := 0, slots := 0, locals := 0 }) (mw_Pre G ad NF TF FF M L [.ref (ad 20), .int a1, .int a2, .int a3]) (mw_Qv G ad NF TF FF (mw_eqV M0 L0)) 0 0 (mw_fr G) := by
  refine mw_enter (by decide) (Nat.le_of_ble_eq_true rfl) ?_
  intro p e s m below meth c ls C hr hlocks hnm hw hl
  have hl : lv_has ls 4 [(0, .ref (ad 20)), (1, .int a1), (2, .int a2), (3, .int a3)] := hl
  unfold DX0_become at hD
  refine lv_aload_n C.1.1 C.1.2.1 dX0_become_0 rfl (lv_at hl 0 rfl) ?_
  refine mr_getR C hw kc_0 3 (by decide) tf_20 ff_20_3 wd_176 dX0_become_1 (by decide) rfl ?_
  refine lv_iconst (v := 0) C.1.1 C.1.2.1 dX0_become_4 (by decide) ?_
  refine mr_aald C hw (by decide) tf_24 (by decide) (by decide) rfl rfl (show vp_in 0 8 from by unfold vp_in; decide) ff_24_0 dX0_become_5 ?_
  refine lv_iload_n C.1.1 C.1.2.1 dX0_become_6 rfl (lv_at hl 1 rfl) ?_
  refine lv_iload_n C.1.1 C.1.2.1 dX0_become_7 rfl (lv_at hl 2 rfl) ?_
  obtain ⟨q2, hD⟩ := g_ck hD
  obtain ⟨M3, eM3, hD⟩ := g_let hD
  refine mr_iast C hw (by decide) tf_25 q2 dX0_become_8 (fun H locs hw => ?_)
  replace hw : mw_W G ad NF TF FF M3 L H locs := by rw [eM3]; exact hw
  refine lv_aload_n C.1.1 C.1.2.1 dX0_become_9 rfl (lv_at hl 0 rfl) ?_
  refine mr_getR C hw kc_0 3 (by decide) tf_20 ff_20_3 wd_176 dX0_become_10 (by decide) rfl ?_
  refine lv_iconst (v := 1) C.1.1 C.1.2.1 dX0_become_13 (by decide) ?_
  refine mr_aald C hw (by decide) tf_24 (by decide) (by decide) rfl rfl (show vp_in 1 8 from by unfold vp_in; decide) ff_24_1 dX0_become_14 ?_
  refine lv_iload_n C.1.1 C.1.2.1 dX0_become_15 rfl (lv_at hl 1 rfl) ?_
  refine lv_iload_n C.1.1 C.1.2.1 dX0_become_16 rfl (lv_at hl 3 rfl) ?_
  obtain ⟨q5, hD⟩ := g_ck hD
  obtain ⟨M6, eM6, hD⟩ := g_let hD
  refine mr_iast C hw (by decide) tf_26 q5 dX0_become_17 (fun H locs hw => ?_)
  replace hw : mw_W G ad NF TF FF M6 L H locs := by rw [eM6]; exact hw
  exact mr_vret C hr hlocks hw (Option.some.inj hD) dX0_become_18

theorem dX0_tellFault_0 : decode cX0_tellFault 0 = .ok (.aload_n 0, 1) := by decide +kernel
theorem dX0_tellFault_1 : decode cX0_tellFault 1 = .ok (.getfield 56, 3) := by decide +kernel
theorem dX0_tellFault_4 : decode cX0_tellFault 4 = .ok (.sipush 17507, 3) := by decide +kernel
theorem dX0_tellFault_7 : decode cX0_tellFault 7 = .ok (.if_icmp .ge 32, 3) := by decide +kernel
theorem dX0_tellFault_10 : decode cX0_tellFault 10 = .ok (.aload_n 0, 1) := by decide +kernel
theorem dX0_tellFault_11 : decode cX0_tellFault 11 = .ok (.getfield 18, 3) := by decide +kernel
theorem dX0_tellFault_14 : decode cX0_tellFault 14 = .ok (.aload_n 0, 1) := by decide +kernel
theorem dX0_tellFault_15 : decode cX0_tellFault 15 = .ok (.getfield 56, 3) := by decide +kernel
theorem dX0_tellFault_18 : decode cX0_tellFault 18 = .ok (.iload_n 2, 1) := by decide +kernel
theorem dX0_tellFault_19 : decode cX0_tellFault 19 = .ok (.iload_n 1, 1) := by decide +kernel
theorem dX0_tellFault_20 : decode cX0_tellFault 20 = .ok (.iconst 3, 1) := by decide +kernel
theorem dX0_tellFault_21 : decode cX0_tellFault 21 = .ok (.ishl, 1) := by decide +kernel
theorem dX0_tellFault_22 : decode cX0_tellFault 22 = .ok (.ior, 1) := by decide +kernel
theorem dX0_tellFault_23 : decode cX0_tellFault 23 = .ok (.iload_n 3, 1) := by decide +kernel
theorem dX0_tellFault_24 : decode cX0_tellFault 24 = .ok (.bipush 6, 2) := by decide +kernel
theorem dX0_tellFault_26 : decode cX0_tellFault 26 = .ok (.ishl, 1) := by decide +kernel
theorem dX0_tellFault_27 : decode cX0_tellFault 27 = .ok (.ior, 1) := by decide +kernel
theorem dX0_tellFault_28 : decode cX0_tellFault 28 = .ok (.iastore, 1) := by decide +kernel
theorem dX0_tellFault_29 : decode cX0_tellFault 29 = .ok (.aload_n 0, 1) := by decide +kernel
theorem dX0_tellFault_30 : decode cX0_tellFault 30 = .ok (.dup, 1) := by decide +kernel
theorem dX0_tellFault_31 : decode cX0_tellFault 31 = .ok (.getfield 56, 3) := by decide +kernel
theorem dX0_tellFault_34 : decode cX0_tellFault 34 = .ok (.iconst 1, 1) := by decide +kernel
theorem dX0_tellFault_35 : decode cX0_tellFault 35 = .ok (.iadd, 1) := by decide +kernel
theorem dX0_tellFault_36 : decode cX0_tellFault 36 = .ok (.putfield 56, 3) := by decide +kernel
theorem dX0_tellFault_39 : decode cX0_tellFault 39 = .ok (.aload_n 0, 1) := by decide +kernel
theorem dX0_tellFault_40 : decode cX0_tellFault 40 = .ok (.iload_n 1, 1) := by decide +kernel
theorem dX0_tellFault_41 : decode cX0_tellFault 41 = .ok (.iconst 3, 1) := by decide +kernel
theorem dX0_tellFault_42 : decode cX0_tellFault 42 = .ok (.bipush 6, 2) := by decide +kernel
theorem dX0_tellFault_44 : decode cX0_tellFault 44 = .ok (.invokevirtual 101, 3) := by decide +kernel
theorem dX0_tellFault_47 : decode cX0_tellFault 47 = .ok (.return_, 1) := by decide +kernel
theorem cwX0_tellFault : mw_cwV yX0_tellFault cX0_tellFault 4 (none) 3 := ⟨⟨wd_5, wd_1451, by decide +kernel⟩, wd_1450, sl_89⟩
set_option maxHeartbeats 4000000 in
set_option maxRecDepth 100000 in
theorem tX0_tellFault (l : Launch) (G : mwG) (ad : Nat → Nat) (fu : Nat) (a1 : Int32) (a2 : Int32) (a3 : Int32) (M : mwM) (L : mwL) {M0 : mwM} {L0 : mwL} (hD : DX0_tellFault fu a1 a2 a3 M L = some (M0, L0)) : Met l yX0_tellFault (Cond.code yX0_tellFault cX0_tellFault 4 (none) :: GT) ({ frames := 1, cells := 0, slots := 0, locals := 23 }) (mw_Pre G ad NF TF FF M L [.ref (ad 20), .int a1, .int a2, .int a3]) (mw_Qv G ad NF TF FF (mw_eqV M0 L0)) 0 0 (mw_fr G) := by
  refine mw_enter (by decide) (Nat.le_of_ble_eq_true rfl) ?_
  intro p e s m below meth c ls C hr hlocks hnm hw hl
  have hl : lv_has ls 4 [(0, .ref (ad 20)), (1, .int a1), (2, .int a2), (3, .int a3)] := hl
  have hb39 : ∀ (M : mwM) (L : mwL) (H : Heap) (locs : List Loc) (ls : Array Slot), fX0_tellFault_b39 fu a1 a2 a3 M L = some (M0, L0) → mw_W G ad NF TF FF M L H locs → lv_has ls 4 [(0, .ref (ad 20)), (1, .int a1)] → W p l e ({ frames := 1, cells := 0, slots := 0, locals := 23 }) s m [.ref (ad 20), .int a1, .int a2, .int a3].toArray below meth c H locs 0 0 (MQ below (mw_Qv G ad NF TF FF (mw_eqV M0 L0)) [.ref (ad 20), .int a1, .int a2, .int a3].toArray s 0 0 (mw_fr G)) (F0 m 39 ls []) := by
    intro M L H locs ls hD hw hl
    unfold fX0_tellFault_b39 at hD
    refine lv_aload_n C.1.1 C.1.2.1 dX0_tellFault_39 rfl (lv_at hl 0 rfl) ?_
    refine lv_iload_n C.1.1 C.1.2.1 dX0_tellFault_40 rfl (lv_at hl 1 rfl) ?_
    refine lv_iconst (v := 3) C.1.1 C.1.2.1 dX0_tellFault_41 (by decide) ?_
    refine lv_bipush (v := 6) C.1.1 C.1.2.1 dX0_tellFault_42 (by decide) ?_
    obtain ⟨M1, L2, h1, hD⟩ := g_b2 hD
    refine md_cvV (As := [.int a1, .int 3, .int 6]) (rest := []) C hw (tX0_become l G ad fu a1 3 6 M L h1) kc_0 (by decide) tf_20 wd_1452 cwX0_become ⟨Nat.le_of_ble_eq_true rfl, Nat.le_of_ble_eq_true rfl⟩ rfl hl.1 (Nat.le_of_ble_eq_true rfl) dX0_tellFault_44 rfl rfl ⟨Nat.zero_le _, Nat.zero_le _⟩ rfl (fun H locs hw => ?_)
    exact mr_vret C hr hlocks hw (Option.some.inj hD) dX0_tellFault_47
  unfold DX0_tellFault at hD
  refine lv_aload_n C.1.1 C.1.2.1 dX0_tellFault_0 rfl (lv_at hl 0 rfl) ?_
  refine mr_getI C hw kc_0 10 (by decide) tf_20 wd_185 dX0_tellFault_1 (by decide) rfl ?_
  refine lv_sipush (v := 17507) C.1.1 C.1.2.1 dX0_tellFault_4 (by decide) ?_
  refine lv_icmp_ge (tgt := 39) C.1.1 C.1.2.1 dX0_tellFault_7 (by decide) (fun c3 => ?_) (fun c3 => ?_)
  · replace hD := g_pos c3 hD
    exact hb39 M L _ _ ls hD hw (lv_sub hl [0, 1] rfl)
  · replace hD := g_neg c3 hD
    refine lv_aload_n C.1.1 C.1.2.1 dX0_tellFault_10 rfl (lv_at hl 0 rfl) ?_
    refine mr_getR C hw kc_0 2 (by decide) tf_20 ff_20_2 wd_175 dX0_tellFault_11 (by decide) rfl ?_
    refine lv_aload_n C.1.1 C.1.2.1 dX0_tellFault_14 rfl (lv_at hl 0 rfl) ?_
    refine mr_getI C hw kc_0 10 (by decide) tf_20 wd_185 dX0_tellFault_15 (by decide) rfl ?_
    refine lv_iload_n C.1.1 C.1.2.1 dX0_tellFault_18 rfl (lv_at hl 2 rfl) ?_
    refine lv_iload_n C.1.1 C.1.2.1 dX0_tellFault_19 rfl (lv_at hl 1 rfl) ?_
    refine lv_iconst (v := 3) C.1.1 C.1.2.1 dX0_tellFault_20 (by decide) ?_
    refine lv_ishl C.1.1 C.1.2.1 dX0_tellFault_21 ?_
    refine lv_ior C.1.1 C.1.2.1 dX0_tellFault_22 ?_
    refine lv_iload_n C.1.1 C.1.2.1 dX0_tellFault_23 rfl (lv_at hl 3 rfl) ?_
    refine lv_bipush (v := 6) C.1.1 C.1.2.1 dX0_tellFault_24 (by decide) ?_
    refine lv_ishl C.1.1 C.1.2.1 dX0_tellFault_26 ?_
    refine lv_ior C.1.1 C.1.2.1 dX0_tellFault_27 ?_
    obtain ⟨q4, hD⟩ := g_ck hD
    obtain ⟨M5, eM5, hD⟩ := g_let hD
    refine mr_iast C hw (by decide) tf_23 q4 dX0_tellFault_28 (fun H locs hw => ?_)
    replace hw : mw_W G ad NF TF FF M5 L H locs := by rw [eM5]; exact hw
    refine lv_aload_n C.1.1 C.1.2.1 dX0_tellFault_29 rfl (lv_at hl 0 rfl) ?_
    refine lv_dup C.1.1 C.1.2.1 dX0_tellFault_30 rfl ?_
    refine mr_getI C hw kc_0 10 (by decide) tf_20 wd_185 dX0_tellFault_31 (by decide) rfl ?_
    refine lv_iconst (v := 1) C.1.1 C.1.2.1 dX0_tellFault_34 (by decide) ?_
    refine lv_iadd C.1.1 C.1.2.1 dX0_tellFault_35 ?_
    obtain ⟨M6, eM6, hD⟩ := g_let hD
    refine mr_putI C hw kc_0 10 (by decide) tf_20 wd_185 dX0_tellFault_36 (by decide) rfl rfl rfl rfl (fun H locs hw => ?_)
    replace hw : mw_W G ad NF TF FF M6 L H locs := by rw [eM6]; exact hw
    exact hb39 M6 L _ _ ls hD hw (lv_sub hl [0, 1] rfl)

theorem dX0_endSending_0 : decode cX0_endSending 0 = .ok (.aload_n 0, 1) := by decide +kernel
theorem dX0_endSending_1 : decode cX0_endSending 1 = .ok (.getfield 36, 3) := by decide +kernel
theorem dX0_endSending_4 : decode cX0_endSending 4 = .ok (.iconst 2, 1) := by decide +kernel
theorem dX0_endSending_5 : decode cX0_endSending 5 = .ok (.aaload, 1) := by decide +kernel
theorem dX0_endSending_6 : decode cX0_endSending 6 = .ok (.aload_n 0, 1) := by decide +kernel
theorem dX0_endSending_7 : decode cX0_endSending 7 = .ok (.getfield 24, 3) := by decide +kernel
theorem dX0_endSending_10 : decode cX0_endSending 10 = .ok (.iconst 2, 1) := by decide +kernel
theorem dX0_endSending_11 : decode cX0_endSending 11 = .ok (.aaload, 1) := by decide +kernel
theorem dX0_endSending_12 : decode cX0_endSending 12 = .ok (.iload_n 1, 1) := by decide +kernel
theorem dX0_endSending_13 : decode cX0_endSending 13 = .ok (.iaload, 1) := by decide +kernel
theorem dX0_endSending_14 : decode cX0_endSending 14 = .ok (.iconst 1, 1) := by decide +kernel
theorem dX0_endSending_15 : decode cX0_endSending 15 = .ok (.iastore, 1) := by decide +kernel
theorem dX0_endSending_16 : decode cX0_endSending 16 = .ok (.aload_n 0, 1) := by decide +kernel
theorem dX0_endSending_17 : decode cX0_endSending 17 = .ok (.getfield 24, 3) := by decide +kernel
theorem dX0_endSending_20 : decode cX0_endSending 20 = .ok (.iconst 5, 1) := by decide +kernel
theorem dX0_endSending_21 : decode cX0_endSending 21 = .ok (.aaload, 1) := by decide +kernel
theorem dX0_endSending_22 : decode cX0_endSending 22 = .ok (.iload_n 1, 1) := by decide +kernel
theorem dX0_endSending_23 : decode cX0_endSending 23 = .ok (.dup2, 1) := by decide +kernel
theorem dX0_endSending_24 : decode cX0_endSending 24 = .ok (.iaload, 1) := by decide +kernel
theorem dX0_endSending_25 : decode cX0_endSending 25 = .ok (.iconst 1, 1) := by decide +kernel
theorem dX0_endSending_26 : decode cX0_endSending 26 = .ok (.isub, 1) := by decide +kernel
theorem dX0_endSending_27 : decode cX0_endSending 27 = .ok (.iastore, 1) := by decide +kernel
theorem dX0_endSending_28 : decode cX0_endSending 28 = .ok (.aload_n 0, 1) := by decide +kernel
theorem dX0_endSending_29 : decode cX0_endSending 29 = .ok (.dup, 1) := by decide +kernel
theorem dX0_endSending_30 : decode cX0_endSending 30 = .ok (.getfield 59, 3) := by decide +kernel
theorem dX0_endSending_33 : decode cX0_endSending 33 = .ok (.iconst 1, 1) := by decide +kernel
theorem dX0_endSending_34 : decode cX0_endSending 34 = .ok (.iadd, 1) := by decide +kernel
theorem dX0_endSending_35 : decode cX0_endSending 35 = .ok (.putfield 59, 3) := by decide +kernel
theorem dX0_endSending_38 : decode cX0_endSending 38 = .ok (.aload_n 0, 1) := by decide +kernel
theorem dX0_endSending_39 : decode cX0_endSending 39 = .ok (.iload_n 1, 1) := by decide +kernel
theorem dX0_endSending_40 : decode cX0_endSending 40 = .ok (.bipush 6, 2) := by decide +kernel
theorem dX0_endSending_42 : decode cX0_endSending 42 = .ok (.iconst 3, 1) := by decide +kernel
theorem dX0_endSending_43 : decode cX0_endSending 43 = .ok (.invokevirtual 101, 3) := by decide +kernel
theorem dX0_endSending_46 : decode cX0_endSending 46 = .ok (.return_, 1) := by decide +kernel
theorem cwX0_endSending : mw_cwV yX0_endSending cX0_endSending 2 (none) 1 := ⟨⟨wd_5, wd_1459, by decide +kernel⟩, wd_1458, sl_91⟩
set_option maxHeartbeats 4000000 in
set_option maxRecDepth 100000 in
theorem tX0_endSending (l : Launch) (G : mwG) (ad : Nat → Nat) (fu : Nat) (a1 : Int32) (M : mwM) (L : mwL) {M0 : mwM} {L0 : mwL} (hD : DX0_endSending fu a1 M L = some (M0, L0)) : Met l yX0_endSending (Cond.code yX0_endSending cX0_endSending 2 (none) :: GT) ({ frames := 1, cells := 0, slots := 0, locals := 23 }) (mw_Pre G ad NF TF FF M L [.ref (ad 20), .int a1]) (mw_Qv G ad NF TF FF (mw_eqV M0 L0)) 0 0 (mw_fr G) := by
  refine mw_enter (by decide) (Nat.le_of_ble_eq_true rfl) ?_
  intro p e s m below meth c ls C hr hlocks hnm hw hl
  have hl : lv_has ls 2 [(0, .ref (ad 20)), (1, .int a1)] := hl
  unfold DX0_endSending at hD
  refine lv_aload_n C.1.1 C.1.2.1 dX0_endSending_0 rfl (lv_at hl 0 rfl) ?_
  refine mr_getR C hw kc_0 6 (by decide) tf_20 ff_20_6 wd_181 dX0_endSending_1 (by decide) rfl ?_
  refine lv_iconst (v := 2) C.1.1 C.1.2.1 dX0_endSending_4 (by decide) ?_
  refine mr_aald C hw (by decide) tf_42 (by decide) (by decide) rfl rfl (show vp_in 2 3 from by unfold vp_in; decide) ff_42_2 dX0_endSending_5 ?_
  refine lv_aload_n C.1.1 C.1.2.1 dX0_endSending_6 rfl (lv_at hl 0 rfl) ?_
  refine mr_getR C hw kc_0 3 (by decide) tf_20 ff_20_3 wd_176 dX0_endSending_7 (by decide) rfl ?_
  refine lv_iconst (v := 2) C.1.1 C.1.2.1 dX0_endSending_10 (by decide) ?_
  refine mr_aald C hw (by decide) tf_24 (by decide) (by decide) rfl rfl (show vp_in 2 8 from by unfold vp_in; decide) ff_24_2 dX0_endSending_11 ?_
  refine lv_iload_n C.1.1 C.1.2.1 dX0_endSending_12 rfl (lv_at hl 1 rfl) ?_
  obtain ⟨q3, hD⟩ := g_ck hD
  refine mr_iald C hw (by decide) tf_27 q3 dX0_endSending_13 ?_
  refine lv_iconst (v := 1) C.1.1 C.1.2.1 dX0_endSending_14 (by decide) ?_
  obtain ⟨q4, hD⟩ := g_ck hD
  obtain ⟨M5, eM5, hD⟩ := g_let hD
  refine mr_iast C hw (by decide) tf_45 q4 dX0_endSending_15 (fun H locs hw => ?_)
  replace hw : mw_W G ad NF TF FF M5 L H locs := by rw [eM5]; exact hw
  refine lv_aload_n C.1.1 C.1.2.1 dX0_endSending_16 rfl (lv_at hl 0 rfl) ?_
  refine mr_getR C hw kc_0 3 (by decide) tf_20 ff_20_3 wd_176 dX0_endSending_17 (by decide) rfl ?_
  refine lv_iconst (v := 5) C.1.1 C.1.2.1 dX0_endSending_20 (by decide) ?_
  refine mr_aald C hw (by decide) tf_24 (by decide) (by decide) rfl rfl (show vp_in 5 8 from by unfold vp_in; decide) ff_24_5 dX0_endSending_21 ?_
  refine lv_iload_n C.1.1 C.1.2.1 dX0_endSending_22 rfl (lv_at hl 1 rfl) ?_
  refine lv_dup2_11 C.1.1 C.1.2.1 dX0_endSending_23 rfl rfl ?_
  obtain ⟨q7, hD⟩ := g_ck hD
  refine mr_iald C hw (by decide) tf_30 q7 dX0_endSending_24 ?_
  refine lv_iconst (v := 1) C.1.1 C.1.2.1 dX0_endSending_25 (by decide) ?_
  refine lv_isub C.1.1 C.1.2.1 dX0_endSending_26 ?_
  obtain ⟨q8, hD⟩ := g_ck hD
  obtain ⟨M9, eM9, hD⟩ := g_let hD
  refine mr_iast C hw (by decide) tf_30 q8 dX0_endSending_27 (fun H locs hw => ?_)
  replace hw : mw_W G ad NF TF FF M9 L H locs := by rw [eM9]; exact hw
  refine lv_aload_n C.1.1 C.1.2.1 dX0_endSending_28 rfl (lv_at hl 0 rfl) ?_
  refine lv_dup C.1.1 C.1.2.1 dX0_endSending_29 rfl ?_
  refine mr_getI C hw kc_0 11 (by decide) tf_20 wd_187 dX0_endSending_30 (by decide) rfl ?_
  refine lv_iconst (v := 1) C.1.1 C.1.2.1 dX0_endSending_33 (by decide) ?_
  refine lv_iadd C.1.1 C.1.2.1 dX0_endSending_34 ?_
  obtain ⟨M10, eM10, hD⟩ := g_let hD
  refine mr_putI C hw kc_0 11 (by decide) tf_20 wd_187 dX0_endSending_35 (by decide) rfl rfl rfl rfl (fun H locs hw => ?_)
  replace hw : mw_W G ad NF TF FF M10 L H locs := by rw [eM10]; exact hw
  refine lv_aload_n C.1.1 C.1.2.1 dX0_endSending_38 rfl (lv_at hl 0 rfl) ?_
  refine lv_iload_n C.1.1 C.1.2.1 dX0_endSending_39 rfl (lv_at hl 1 rfl) ?_
  refine lv_bipush (v := 6) C.1.1 C.1.2.1 dX0_endSending_40 (by decide) ?_
  refine lv_iconst (v := 3) C.1.1 C.1.2.1 dX0_endSending_42 (by decide) ?_
  obtain ⟨M11, L12, h1, hD⟩ := g_b2 hD
  refine md_cvV (As := [.int a1, .int 6, .int 3]) (rest := []) C hw (tX0_become l G ad fu a1 6 3 M10 L h1) kc_0 (by decide) tf_20 wd_1452 cwX0_become ⟨Nat.le_of_ble_eq_true rfl, Nat.le_of_ble_eq_true rfl⟩ rfl hl.1 (Nat.le_of_ble_eq_true rfl) dX0_endSending_43 rfl rfl ⟨Nat.zero_le _, Nat.zero_le _⟩ rfl (fun H locs hw => ?_)
  exact mr_vret C hr hlocks hw (Option.some.inj hD) dX0_endSending_46

theorem dX0_seeSending_0 : decode cX0_seeSending 0 = .ok (.aload_n 0, 1) := by decide +kernel
theorem dX0_seeSending_1 : decode cX0_seeSending 1 = .ok (.getfield 24, 3) := by decide +kernel
theorem dX0_seeSending_4 : decode cX0_seeSending 4 = .ok (.iconst 3, 1) := by decide +kernel
theorem dX0_seeSending_5 : decode cX0_seeSending 5 = .ok (.aaload, 1) := by decide +kernel
theorem dX0_seeSending_6 : decode cX0_seeSending 6 = .ok (.iload_n 1, 1) := by decide +kernel
theorem dX0_seeSending_7 : decode cX0_seeSending 7 = .ok (.iaload, 1) := by decide +kernel
theorem dX0_seeSending_8 : decode cX0_seeSending 8 = .ok (.aload_n 0, 1) := by decide +kernel
theorem dX0_seeSending_9 : decode cX0_seeSending 9 = .ok (.getfield 24, 3) := by decide +kernel
theorem dX0_seeSending_12 : decode cX0_seeSending 12 = .ok (.iconst 4, 1) := by decide +kernel
theorem dX0_seeSending_13 : decode cX0_seeSending 13 = .ok (.aaload, 1) := by decide +kernel
theorem dX0_seeSending_14 : decode cX0_seeSending 14 = .ok (.iload_n 1, 1) := by decide +kernel
theorem dX0_seeSending_15 : decode cX0_seeSending 15 = .ok (.iaload, 1) := by decide +kernel
theorem dX0_seeSending_16 : decode cX0_seeSending 16 = .ok (.bipush 10, 2) := by decide +kernel
theorem dX0_seeSending_18 : decode cX0_seeSending 18 = .ok (.isub, 1) := by decide +kernel
theorem dX0_seeSending_19 : decode cX0_seeSending 19 = .ok (.iconst 1, 1) := by decide +kernel
theorem dX0_seeSending_20 : decode cX0_seeSending 20 = .ok (.iadd, 1) := by decide +kernel
theorem dX0_seeSending_21 : decode cX0_seeSending 21 = .ok (.if_icmp .ne 7, 3) := by decide +kernel
theorem dX0_seeSending_24 : decode cX0_seeSending 24 = .ok (.iconst 1, 1) := by decide +kernel
theorem dX0_seeSending_25 : decode cX0_seeSending 25 = .ok (.goto 4, 3) := by decide +kernel
theorem dX0_seeSending_28 : decode cX0_seeSending 28 = .ok (.iconst 0, 1) := by decide +kernel
theorem dX0_seeSending_29 : decode cX0_seeSending 29 = .ok (.istore 4, 2) := by decide +kernel
theorem dX0_seeSending_31 : decode cX0_seeSending 31 = .ok (.iload 4, 2) := by decide +kernel
theorem dX0_seeSending_33 : decode cX0_seeSending 33 = .ok (.ifCond .eq 18, 3) := by decide +kernel
theorem dX0_seeSending_36 : decode cX0_seeSending 36 = .ok (.iload_n 2, 1) := by decide +kernel
theorem dX0_seeSending_37 : decode cX0_seeSending 37 = .ok (.iconst 1, 1) := by decide +kernel
theorem dX0_seeSending_38 : decode cX0_seeSending 38 = .ok (.if_icmp .ne 13, 3) := by decide +kernel
theorem dX0_seeSending_41 : decode cX0_seeSending 41 = .ok (.aload_n 0, 1) := by decide +kernel
theorem dX0_seeSending_42 : decode cX0_seeSending 42 = .ok (.iload_n 1, 1) := by decide +kernel
theorem dX0_seeSending_43 : decode cX0_seeSending 43 = .ok (.iconst 4, 1) := by decide +kernel
theorem dX0_seeSending_44 : decode cX0_seeSending 44 = .ok (.iload_n 3, 1) := by decide +kernel
theorem dX0_seeSending_45 : decode cX0_seeSending 45 = .ok (.invokevirtual 110, 3) := by decide +kernel
theorem dX0_seeSending_48 : decode cX0_seeSending 48 = .ok (.goto 67, 3) := by decide +kernel
theorem dX0_seeSending_51 : decode cX0_seeSending 51 = .ok (.iload 4, 2) := by decide +kernel
theorem dX0_seeSending_53 : decode cX0_seeSending 53 = .ok (.ifCond .ne 26, 3) := by decide +kernel
theorem dX0_seeSending_56 : decode cX0_seeSending 56 = .ok (.iload_n 2, 1) := by decide +kernel
theorem dX0_seeSending_57 : decode cX0_seeSending 57 = .ok (.aload_n 0, 1) := by decide +kernel
theorem dX0_seeSending_58 : decode cX0_seeSending 58 = .ok (.getfield 24, 3) := by decide +kernel
theorem dX0_seeSending_61 : decode cX0_seeSending 61 = .ok (.bipush 7, 2) := by decide +kernel
theorem dX0_seeSending_63 : decode cX0_seeSending 63 = .ok (.aaload, 1) := by decide +kernel
theorem dX0_seeSending_64 : decode cX0_seeSending 64 = .ok (.iload_n 1, 1) := by decide +kernel
theorem dX0_seeSending_65 : decode cX0_seeSending 65 = .ok (.iaload, 1) := by decide +kernel
theorem dX0_seeSending_66 : decode cX0_seeSending 66 = .ok (.if_icmp .eq 13, 3) := by decide +kernel
theorem dX0_seeSending_69 : decode cX0_seeSending 69 = .ok (.aload_n 0, 1) := by decide +kernel
theorem dX0_seeSending_70 : decode cX0_seeSending 70 = .ok (.iload_n 1, 1) := by decide +kernel
theorem dX0_seeSending_71 : decode cX0_seeSending 71 = .ok (.iconst 0, 1) := by decide +kernel
theorem dX0_seeSending_72 : decode cX0_seeSending 72 = .ok (.iload_n 3, 1) := by decide +kernel
theorem dX0_seeSending_73 : decode cX0_seeSending 73 = .ok (.invokevirtual 110, 3) := by decide +kernel
theorem dX0_seeSending_76 : decode cX0_seeSending 76 = .ok (.goto 39, 3) := by decide +kernel
theorem dX0_seeSending_79 : decode cX0_seeSending 79 = .ok (.aload_n 0, 1) := by decide +kernel
theorem dX0_seeSending_80 : decode cX0_seeSending 80 = .ok (.getfield 24, 3) := by decide +kernel
theorem dX0_seeSending_83 : decode cX0_seeSending 83 = .ok (.iconst 3, 1) := by decide +kernel
theorem dX0_seeSending_84 : decode cX0_seeSending 84 = .ok (.aaload, 1) := by decide +kernel
theorem dX0_seeSending_85 : decode cX0_seeSending 85 = .ok (.iload_n 1, 1) := by decide +kernel
theorem dX0_seeSending_86 : decode cX0_seeSending 86 = .ok (.dup2, 1) := by decide +kernel
theorem dX0_seeSending_87 : decode cX0_seeSending 87 = .ok (.iaload, 1) := by decide +kernel
theorem dX0_seeSending_88 : decode cX0_seeSending 88 = .ok (.iconst 1, 1) := by decide +kernel
theorem dX0_seeSending_89 : decode cX0_seeSending 89 = .ok (.iadd, 1) := by decide +kernel
theorem dX0_seeSending_90 : decode cX0_seeSending 90 = .ok (.iastore, 1) := by decide +kernel
theorem dX0_seeSending_91 : decode cX0_seeSending 91 = .ok (.aload_n 0, 1) := by decide +kernel
theorem dX0_seeSending_92 : decode cX0_seeSending 92 = .ok (.getfield 24, 3) := by decide +kernel
theorem dX0_seeSending_95 : decode cX0_seeSending 95 = .ok (.iconst 3, 1) := by decide +kernel
theorem dX0_seeSending_96 : decode cX0_seeSending 96 = .ok (.aaload, 1) := by decide +kernel
theorem dX0_seeSending_97 : decode cX0_seeSending 97 = .ok (.iload_n 1, 1) := by decide +kernel
theorem dX0_seeSending_98 : decode cX0_seeSending 98 = .ok (.iaload, 1) := by decide +kernel
theorem dX0_seeSending_99 : decode cX0_seeSending 99 = .ok (.aload_n 0, 1) := by decide +kernel
theorem dX0_seeSending_100 : decode cX0_seeSending 100 = .ok (.getfield 24, 3) := by decide +kernel
theorem dX0_seeSending_103 : decode cX0_seeSending 103 = .ok (.iconst 4, 1) := by decide +kernel
theorem dX0_seeSending_104 : decode cX0_seeSending 104 = .ok (.aaload, 1) := by decide +kernel
theorem dX0_seeSending_105 : decode cX0_seeSending 105 = .ok (.iload_n 1, 1) := by decide +kernel
theorem dX0_seeSending_106 : decode cX0_seeSending 106 = .ok (.iaload, 1) := by decide +kernel
theorem dX0_seeSending_107 : decode cX0_seeSending 107 = .ok (.if_icmp .lt 8, 3) := by decide +kernel
theorem dX0_seeSending_110 : decode cX0_seeSending 110 = .ok (.aload_n 0, 1) := by decide +kernel
theorem dX0_seeSending_111 : decode cX0_seeSending 111 = .ok (.iload_n 1, 1) := by decide +kernel
theorem dX0_seeSending_112 : decode cX0_seeSending 112 = .ok (.invokevirtual 113, 3) := by decide +kernel
theorem dX0_seeSending_115 : decode cX0_seeSending 115 = .ok (.return_, 1) := by decide +kernel
theorem cwX0_seeSending : mw_cwV yX0_seeSending cX0_seeSending 5 (none) 3 := ⟨⟨wd_5, wd_1447, by decide +kernel⟩, wd_1446, sl_88⟩
set_option maxHeartbeats 4000000 in
set_option maxRecDepth 100000 in
theorem tX0_seeSending (l : Launch) (G : mwG) (ad : Nat → Nat) (fu : Nat) (a1 : Int32) (a2 : Int32) (a3 : Int32) (M : mwM) (L : mwL) {M0 : mwM} {L0 : mwL} (hD : DX0_seeSending fu a1 a2 a3 M L = some (M0, L0)) : Met l yX0_seeSending (Cond.code yX0_seeSending cX0_seeSending 5 (none) :: GT) ({ frames := 2, cells := 0, slots := 0, locals := 46 }) (mw_Pre G ad NF TF FF M L [.ref (ad 20), .int a1, .int a2, .int a3]) (mw_Qv G ad NF TF FF (mw_eqV M0 L0)) 0 0 (mw_fr G) := by
  refine mw_enter (by decide) (Nat.le_of_ble_eq_true rfl) ?_
  intro p e s m below meth c ls C hr hlocks hnm hw hl
  have hl : lv_has ls 5 [(0, .ref (ad 20)), (1, .int a1), (2, .int a2), (3, .int a3)] := hl
  have hb115 : ∀ (M : mwM) (L : mwL) (H : Heap) (locs : List Loc) (ls : Array Slot), fX0_seeSending_b115 fu a1 a2 a3 M L = some (M0, L0) → mw_W G ad NF TF FF M L H locs → lv_has ls 5 [] → W p l e ({ frames := 2, cells := 0, slots := 0, locals := 46 }) s m [.ref (ad 20), .int a1, .int a2, .int a3].toArray below meth c H locs 0 0 (MQ below (mw_Qv G ad NF TF FF (mw_eqV M0 L0)) [.ref (ad 20), .int a1, .int a2, .int a3].toArray s 0 0 (mw_fr G)) (F0 m 115 ls []) := by
    intro M L H locs ls hD hw hl
    unfold fX0_seeSending_b115 at hD
    exact mr_vret C hr hlocks hw (Option.some.inj hD) dX0_seeSending_115
  have hb79 : ∀ (M : mwM) (L : mwL) (H : Heap) (locs : List Loc) (ls : Array Slot), fX0_seeSending_b79 fu a1 a2 a3 M L = some (M0, L0) → mw_W G ad NF TF FF M L H locs → lv_has ls 5 [(0, .ref (ad 20)), (1, .int a1)] → W p l e ({ frames := 2, cells := 0, slots := 0, locals := 46 }) s m [.ref (ad 20), .int a1, .int a2, .int a3].toArray below meth c H locs 0 0 (MQ below (mw_Qv G ad NF TF FF (mw_eqV M0 L0)) [.ref (ad 20), .int a1, .int a2, .int a3].toArray s 0 0 (mw_fr G)) (F0 m 79 ls []) := by
    intro M L H locs ls hD hw hl
    unfold fX0_seeSending_b79 at hD
    refine lv_aload_n C.1.1 C.1.2.1 dX0_seeSending_79 rfl (lv_at hl 0 rfl) ?_
    refine mr_getR C hw kc_0 3 (by decide) tf_20 ff_20_3 wd_176 dX0_seeSending_80 (by decide) rfl ?_
    refine lv_iconst (v := 3) C.1.1 C.1.2.1 dX0_seeSending_83 (by decide) ?_
    refine mr_aald C hw (by decide) tf_24 (by decide) (by decide) rfl rfl (show vp_in 3 8 from by unfold vp_in; decide) ff_24_3 dX0_seeSending_84 ?_
    refine lv_iload_n C.1.1 C.1.2.1 dX0_seeSending_85 rfl (lv_at hl 1 rfl) ?_
    refine lv_dup2_11 C.1.1 C.1.2.1 dX0_seeSending_86 rfl rfl ?_
    obtain ⟨q12, hD⟩ := g_ck hD
    refine mr_iald C hw (by decide) tf_28 q12 dX0_seeSending_87 ?_
    refine lv_iconst (v := 1) C.1.1 C.1.2.1 dX0_seeSending_88 (by decide) ?_
    refine lv_iadd C.1.1 C.1.2.1 dX0_seeSending_89 ?_
    obtain ⟨q13, hD⟩ := g_ck hD
    obtain ⟨M14, eM14, hD⟩ := g_let hD
    refine mr_iast C hw (by decide) tf_28 q13 dX0_seeSending_90 (fun H locs hw => ?_)
    replace hw : mw_W G ad NF TF FF M14 L H locs := by rw [eM14]; exact hw
    refine lv_aload_n C.1.1 C.1.2.1 dX0_seeSending_91 rfl (lv_at hl 0 rfl) ?_
    refine mr_getR C hw kc_0 3 (by decide) tf_20 ff_20_3 wd_176 dX0_seeSending_92 (by decide) rfl ?_
    refine lv_iconst (v := 3) C.1.1 C.1.2.1 dX0_seeSending_95 (by decide) ?_
    refine mr_aald C hw (by decide) tf_24 (by decide) (by decide) rfl rfl (show vp_in 3 8 from by unfold vp_in; decide) ff_24_3 dX0_seeSending_96 ?_
    refine lv_iload_n C.1.1 C.1.2.1 dX0_seeSending_97 rfl (lv_at hl 1 rfl) ?_
    obtain ⟨q16, hD⟩ := g_ck hD
    refine mr_iald C hw (by decide) tf_28 q16 dX0_seeSending_98 ?_
    refine lv_aload_n C.1.1 C.1.2.1 dX0_seeSending_99 rfl (lv_at hl 0 rfl) ?_
    refine mr_getR C hw kc_0 3 (by decide) tf_20 ff_20_3 wd_176 dX0_seeSending_100 (by decide) rfl ?_
    refine lv_iconst (v := 4) C.1.1 C.1.2.1 dX0_seeSending_103 (by decide) ?_
    refine mr_aald C hw (by decide) tf_24 (by decide) (by decide) rfl rfl (show vp_in 4 8 from by unfold vp_in; decide) ff_24_4 dX0_seeSending_104 ?_
    refine lv_iload_n C.1.1 C.1.2.1 dX0_seeSending_105 rfl (lv_at hl 1 rfl) ?_
    obtain ⟨q18, hD⟩ := g_ck hD
    refine mr_iald C hw (by decide) tf_29 q18 dX0_seeSending_106 ?_
    refine lv_icmp_lt (tgt := 115) C.1.1 C.1.2.1 dX0_seeSending_107 (by decide) (fun c19 => ?_) (fun c19 => ?_)
    · replace hD := g_pos c19 hD
      exact hb115 M14 L _ _ ls hD hw (lv_sub hl [] rfl)
    · replace hD := g_neg c19 hD
      refine lv_aload_n C.1.1 C.1.2.1 dX0_seeSending_110 rfl (lv_at hl 0 rfl) ?_
      refine lv_iload_n C.1.1 C.1.2.1 dX0_seeSending_111 rfl (lv_at hl 1 rfl) ?_
      obtain ⟨M20, L21, h1, hD⟩ := g_b2 hD
      refine md_cvV (As := [.int a1]) (rest := []) C hw (tX0_endSending l G ad fu a1 M14 L h1) kc_0 (by decide) tf_20 wd_1456 cwX0_endSending ⟨Nat.le_of_ble_eq_true rfl, Nat.le_of_ble_eq_true rfl⟩ rfl hl.1 (Nat.le_of_ble_eq_true rfl) dX0_seeSending_112 rfl rfl ⟨Nat.zero_le _, Nat.zero_le _⟩ rfl (fun H locs hw => ?_)
      exact hb115 M20 L21 _ _ ls hD hw (lv_sub hl [] rfl)
  have hb51 : ∀ (v4 : Int32) (M : mwM) (L : mwL) (H : Heap) (locs : List Loc) (ls : Array Slot), fX0_seeSending_b51 fu a1 a2 a3 v4 M L = some (M0, L0) → mw_W G ad NF TF FF M L H locs → lv_has ls 5 [(0, .ref (ad 20)), (1, .int a1), (2, .int a2), (3, .int a3), (4, .int v4)] → W p l e ({ frames := 2, cells := 0, slots := 0, locals := 46 }) s m [.ref (ad 20), .int a1, .int a2, .int a3].toArray below meth c H locs 0 0 (MQ below (mw_Qv G ad NF TF FF (mw_eqV M0 L0)) [.ref (ad 20), .int a1, .int a2, .int a3].toArray s 0 0 (mw_fr G)) (F0 m 51 ls []) := by
    intro v4 M L H locs ls hD hw hl
    unfold fX0_seeSending_b51 at hD
    refine lv_iload C.1.1 C.1.2.1 dX0_seeSending_51 (lv_at hl 4 rfl) ?_
    refine lv_if_ne (tgt := 79) C.1.1 C.1.2.1 dX0_seeSending_53 (by decide) (fun c5 => ?_) (fun c5 => ?_)
    · replace hD := g_neg c5 hD
      exact hb79 M L _ _ ls hD hw (lv_sub hl [0, 1] rfl)
    · replace hD := g_pos c5 hD
      refine lv_iload_n C.1.1 C.1.2.1 dX0_seeSending_56 rfl (lv_at hl 2 rfl) ?_
      refine lv_aload_n C.1.1 C.1.2.1 dX0_seeSending_57 rfl (lv_at hl 0 rfl) ?_
      refine mr_getR C hw kc_0 3 (by decide) tf_20 ff_20_3 wd_176 dX0_seeSending_58 (by decide) rfl ?_
      refine lv_bipush (v := 7) C.1.1 C.1.2.1 dX0_seeSending_61 (by decide) ?_
      refine mr_aald C hw (by decide) tf_24 (by decide) (by decide) rfl rfl (show vp_in 7 8 from by unfold vp_in; decide) ff_24_7 dX0_seeSending_63 ?_
      refine lv_iload_n C.1.1 C.1.2.1 dX0_seeSending_64 rfl (lv_at hl 1 rfl) ?_
      obtain ⟨q7, hD⟩ := g_ck hD
      refine mr_iald C hw (by decide) tf_32 q7 dX0_seeSending_65 ?_
      refine lv_icmp_eq (tgt := 79) C.1.1 C.1.2.1 dX0_seeSending_66 (by decide) (fun c8 => ?_) (fun c8 => ?_)
      · replace hD := g_pos c8 hD
        exact hb79 M L _ _ ls hD hw (lv_sub hl [0, 1] rfl)
      · replace hD := g_neg c8 hD
        refine lv_aload_n C.1.1 C.1.2.1 dX0_seeSending_69 rfl (lv_at hl 0 rfl) ?_
        refine lv_iload_n C.1.1 C.1.2.1 dX0_seeSending_70 rfl (lv_at hl 1 rfl) ?_
        refine lv_iconst (v := 0) C.1.1 C.1.2.1 dX0_seeSending_71 (by decide) ?_
        refine lv_iload_n C.1.1 C.1.2.1 dX0_seeSending_72 rfl (lv_at hl 3 rfl) ?_
        obtain ⟨M9, L10, h1, hD⟩ := g_b2 hD
        refine md_cvV (As := [.int a1, .int 0, .int a3]) (rest := []) C hw (tX0_tellFault l G ad fu a1 0 a3 M L h1) kc_0 (by decide) tf_20 wd_1448 cwX0_tellFault ⟨Nat.le_of_ble_eq_true rfl, Nat.le_of_ble_eq_true rfl⟩ rfl hl.1 (Nat.le_of_ble_eq_true rfl) dX0_seeSending_73 rfl rfl ⟨Nat.zero_le _, Nat.zero_le _⟩ rfl (fun H locs hw => ?_)
        refine lv_goto (tgt := 115) C.1.1 C.1.2.1 dX0_seeSending_76 (by decide) ?_
        exact hb115 M9 L10 _ _ ls hD hw (lv_sub hl [] rfl)
  have hb29 : ∀ (s0 : Int32) (M : mwM) (L : mwL) (H : Heap) (locs : List Loc) (ls : Array Slot), fX0_seeSending_b29 fu a1 a2 a3 s0 M L = some (M0, L0) → mw_W G ad NF TF FF M L H locs → lv_has ls 5 [(0, .ref (ad 20)), (1, .int a1), (2, .int a2), (3, .int a3)] → W p l e ({ frames := 2, cells := 0, slots := 0, locals := 46 }) s m [.ref (ad 20), .int a1, .int a2, .int a3].toArray below meth c H locs 0 0 (MQ below (mw_Qv G ad NF TF FF (mw_eqV M0 L0)) [.ref (ad 20), .int a1, .int a2, .int a3].toArray s 0 0 (mw_fr G)) (F0 m 29 ls [.int s0]) := by
    intro s0 M L H locs ls hD hw hl
    unfold fX0_seeSending_b29 at hD
    refine lv_istore (lv' := [(4, .int s0), (0, .ref (ad 20)), (1, .int a1), (2, .int a2), (3, .int a3)]) C.1.1 C.1.2.1 dX0_seeSending_29 hl (by decide) rfl (fun ls hl => ?_)
    refine lv_iload C.1.1 C.1.2.1 dX0_seeSending_31 (lv_at hl 0 rfl) ?_
    refine lv_if_eq (tgt := 51) C.1.1 C.1.2.1 dX0_seeSending_33 (by decide) (fun c1 => ?_) (fun c1 => ?_)
    · replace hD := g_pos c1 hD
      exact hb51 s0 M L _ _ ls hD hw (lv_sub hl [1, 2, 3, 4, 0] rfl)
    · replace hD := g_neg c1 hD
      refine lv_iload_n C.1.1 C.1.2.1 dX0_seeSending_36 rfl (lv_at hl 3 rfl) ?_
      refine lv_iconst (v := 1) C.1.1 C.1.2.1 dX0_seeSending_37 (by decide) ?_
      refine lv_icmp_ne (tgt := 51) C.1.1 C.1.2.1 dX0_seeSending_38 (by decide) (fun c2 => ?_) (fun c2 => ?_)
      · replace hD := g_neg c2 hD
        exact hb51 s0 M L _ _ ls hD hw (lv_sub hl [1, 2, 3, 4, 0] rfl)
      · replace hD := g_pos c2 hD
        refine lv_aload_n C.1.1 C.1.2.1 dX0_seeSending_41 rfl (lv_at hl 1 rfl) ?_
        refine lv_iload_n C.1.1 C.1.2.1 dX0_seeSending_42 rfl (lv_at hl 2 rfl) ?_
        refine lv_iconst (v := 4) C.1.1 C.1.2.1 dX0_seeSending_43 (by decide) ?_
        refine lv_iload_n C.1.1 C.1.2.1 dX0_seeSending_44 rfl (lv_at hl 4 rfl) ?_
        obtain ⟨M3, L4, h1, hD⟩ := g_b2 hD
        refine md_cvV (As := [.int a1, .int 4, .int a3]) (rest := []) C hw (tX0_tellFault l G ad fu a1 4 a3 M L h1) kc_0 (by decide) tf_20 wd_1448 cwX0_tellFault ⟨Nat.le_of_ble_eq_true rfl, Nat.le_of_ble_eq_true rfl⟩ rfl hl.1 (Nat.le_of_ble_eq_true rfl) dX0_seeSending_45 rfl rfl ⟨Nat.zero_le _, Nat.zero_le _⟩ rfl (fun H locs hw => ?_)
        refine lv_goto (tgt := 115) C.1.1 C.1.2.1 dX0_seeSending_48 (by decide) ?_
        exact hb115 M3 L4 _ _ ls hD hw (lv_sub hl [] rfl)
  unfold DX0_seeSending at hD
  refine lv_aload_n C.1.1 C.1.2.1 dX0_seeSending_0 rfl (lv_at hl 0 rfl) ?_
  refine mr_getR C hw kc_0 3 (by decide) tf_20 ff_20_3 wd_176 dX0_seeSending_1 (by decide) rfl ?_
  refine lv_iconst (v := 3) C.1.1 C.1.2.1 dX0_seeSending_4 (by decide) ?_
  refine mr_aald C hw (by decide) tf_24 (by decide) (by decide) rfl rfl (show vp_in 3 8 from by unfold vp_in; decide) ff_24_3 dX0_seeSending_5 ?_
  refine lv_iload_n C.1.1 C.1.2.1 dX0_seeSending_6 rfl (lv_at hl 1 rfl) ?_
  obtain ⟨q23, hD⟩ := g_ck hD
  refine mr_iald C hw (by decide) tf_28 q23 dX0_seeSending_7 ?_
  refine lv_aload_n C.1.1 C.1.2.1 dX0_seeSending_8 rfl (lv_at hl 0 rfl) ?_
  refine mr_getR C hw kc_0 3 (by decide) tf_20 ff_20_3 wd_176 dX0_seeSending_9 (by decide) rfl ?_
  refine lv_iconst (v := 4) C.1.1 C.1.2.1 dX0_seeSending_12 (by decide) ?_
  refine mr_aald C hw (by decide) tf_24 (by decide) (by decide) rfl rfl (show vp_in 4 8 from by unfold vp_in; decide) ff_24_4 dX0_seeSending_13 ?_
  refine lv_iload_n C.1.1 C.1.2.1 dX0_seeSending_14 rfl (lv_at hl 1 rfl) ?_
  obtain ⟨q25, hD⟩ := g_ck hD
  refine mr_iald C hw (by decide) tf_29 q25 dX0_seeSending_15 ?_
  refine lv_bipush (v := 10) C.1.1 C.1.2.1 dX0_seeSending_16 (by decide) ?_
  refine lv_isub C.1.1 C.1.2.1 dX0_seeSending_18 ?_
  refine lv_iconst (v := 1) C.1.1 C.1.2.1 dX0_seeSending_19 (by decide) ?_
  refine lv_iadd C.1.1 C.1.2.1 dX0_seeSending_20 ?_
  refine lv_icmp_ne (tgt := 28) C.1.1 C.1.2.1 dX0_seeSending_21 (by decide) (fun c26 => ?_) (fun c26 => ?_)
  · replace hD := g_neg c26 hD
    refine lv_iconst (v := 0) C.1.1 C.1.2.1 dX0_seeSending_28 (by decide) ?_
    exact hb29 0 M L _ _ ls hD hw (lv_sub hl [0, 1, 2, 3] rfl)
  · replace hD := g_pos c26 hD
    refine lv_iconst (v := 1) C.1.1 C.1.2.1 dX0_seeSending_24 (by decide) ?_
    refine lv_goto (tgt := 29) C.1.1 C.1.2.1 dX0_seeSending_25 (by decide) ?_
    exact hb29 1 M L _ _ ls hD hw (lv_sub hl [0, 1, 2, 3] rfl)

theorem dX0_seeListening_0 : decode cX0_seeListening 0 = .ok (.aload_n 0, 1) := by decide +kernel
theorem dX0_seeListening_1 : decode cX0_seeListening 1 = .ok (.getfield 32, 3) := by decide +kernel
theorem dX0_seeListening_4 : decode cX0_seeListening 4 = .ok (.iload_n 1, 1) := by decide +kernel
theorem dX0_seeListening_5 : decode cX0_seeListening 5 = .ok (.aaload, 1) := by decide +kernel
theorem dX0_seeListening_6 : decode cX0_seeListening 6 = .ok (.iload_n 2, 1) := by decide +kernel
theorem dX0_seeListening_7 : decode cX0_seeListening 7 = .ok (.invokevirtual 116, 3) := by decide +kernel
theorem dX0_seeListening_10 : decode cX0_seeListening 10 = .ok (.istore 4, 2) := by decide +kernel
theorem dX0_seeListening_12 : decode cX0_seeListening 12 = .ok (.iload 4, 2) := by decide +kernel
theorem dX0_seeListening_14 : decode cX0_seeListening 14 = .ok (.bipush (-2), 2) := by decide +kernel
theorem dX0_seeListening_16 : decode cX0_seeListening 16 = .ok (.if_icmp .ne 31, 3) := by decide +kernel
theorem dX0_seeListening_19 : decode cX0_seeListening 19 = .ok (.aload_n 0, 1) := by decide +kernel
theorem dX0_seeListening_20 : decode cX0_seeListening 20 = .ok (.getfield 24, 3) := by decide +kernel
theorem dX0_seeListening_23 : decode cX0_seeListening 23 = .ok (.bipush 6, 2) := by decide +kernel
theorem dX0_seeListening_25 : decode cX0_seeListening 25 = .ok (.aaload, 1) := by decide +kernel
theorem dX0_seeListening_26 : decode cX0_seeListening 26 = .ok (.iload_n 1, 1) := by decide +kernel
theorem dX0_seeListening_27 : decode cX0_seeListening 27 = .ok (.dup2, 1) := by decide +kernel
theorem dX0_seeListening_28 : decode cX0_seeListening 28 = .ok (.iaload, 1) := by decide +kernel
theorem dX0_seeListening_29 : decode cX0_seeListening 29 = .ok (.iconst 1, 1) := by decide +kernel
theorem dX0_seeListening_30 : decode cX0_seeListening 30 = .ok (.iadd, 1) := by decide +kernel
theorem dX0_seeListening_31 : decode cX0_seeListening 31 = .ok (.iastore, 1) := by decide +kernel
theorem dX0_seeListening_32 : decode cX0_seeListening 32 = .ok (.aload_n 0, 1) := by decide +kernel
theorem dX0_seeListening_33 : decode cX0_seeListening 33 = .ok (.dup, 1) := by decide +kernel
theorem dX0_seeListening_34 : decode cX0_seeListening 34 = .ok (.getfield 62, 3) := by decide +kernel
theorem dX0_seeListening_37 : decode cX0_seeListening 37 = .ok (.iconst 1, 1) := by decide +kernel
theorem dX0_seeListening_38 : decode cX0_seeListening 38 = .ok (.iload_n 1, 1) := by decide +kernel
theorem dX0_seeListening_39 : decode cX0_seeListening 39 = .ok (.ishl, 1) := by decide +kernel
theorem dX0_seeListening_40 : decode cX0_seeListening 40 = .ok (.ior, 1) := by decide +kernel
theorem dX0_seeListening_41 : decode cX0_seeListening 41 = .ok (.putfield 62, 3) := by decide +kernel
theorem dX0_seeListening_44 : decode cX0_seeListening 44 = .ok (.goto 35, 3) := by decide +kernel
theorem dX0_seeListening_47 : decode cX0_seeListening 47 = .ok (.iload 4, 2) := by decide +kernel
theorem dX0_seeListening_49 : decode cX0_seeListening 49 = .ok (.bipush (-3), 2) := by decide +kernel
theorem dX0_seeListening_51 : decode cX0_seeListening 51 = .ok (.if_icmp .ne 14, 3) := by decide +kernel
theorem dX0_seeListening_54 : decode cX0_seeListening 54 = .ok (.aload_n 0, 1) := by decide +kernel
theorem dX0_seeListening_55 : decode cX0_seeListening 55 = .ok (.iload_n 1, 1) := by decide +kernel
theorem dX0_seeListening_56 : decode cX0_seeListening 56 = .ok (.bipush 6, 2) := by decide +kernel
theorem dX0_seeListening_58 : decode cX0_seeListening 58 = .ok (.iconst 3, 1) := by decide +kernel
theorem dX0_seeListening_59 : decode cX0_seeListening 59 = .ok (.invokevirtual 101, 3) := by decide +kernel
theorem dX0_seeListening_62 : decode cX0_seeListening 62 = .ok (.goto 17, 3) := by decide +kernel
theorem dX0_seeListening_65 : decode cX0_seeListening 65 = .ok (.iload 4, 2) := by decide +kernel
theorem dX0_seeListening_67 : decode cX0_seeListening 67 = .ok (.iconst (-1), 1) := by decide +kernel
theorem dX0_seeListening_68 : decode cX0_seeListening 68 = .ok (.if_icmp .eq 11, 3) := by decide +kernel
theorem dX0_seeListening_71 : decode cX0_seeListening 71 = .ok (.aload_n 0, 1) := by decide +kernel
theorem dX0_seeListening_72 : decode cX0_seeListening 72 = .ok (.iload_n 1, 1) := by decide +kernel
theorem dX0_seeListening_73 : decode cX0_seeListening 73 = .ok (.iload 4, 2) := by decide +kernel
theorem dX0_seeListening_75 : decode cX0_seeListening 75 = .ok (.iload_n 3, 1) := by decide +kernel
theorem dX0_seeListening_76 : decode cX0_seeListening 76 = .ok (.invokevirtual 110, 3) := by decide +kernel
theorem dX0_seeListening_79 : decode cX0_seeListening 79 = .ok (.return_, 1) := by decide +kernel
theorem cwX0_seeListening : mw_cwV yX0_seeListening cX0_seeListening 5 (none) 3 := ⟨⟨wd_5, wd_1463, by decide +kernel⟩, wd_1462, sl_92⟩
set_option maxHeartbeats 4000000 in
set_option maxRecDepth 100000 in
theorem tX0_seeListening (l : Launch) (G : mwG) (ad : Nat → Nat) (fu : Nat) (a1 : Int32) (a2 : Int32) (a3 : Int32) (M : mwM) (L : mwL) {M0 : mwM} {L0 : mwL} (hD : DX0_seeListening fu a1 a2 a3 M L = some (M0, L0)) : Met l yX0_seeListening (Cond.code yX0_seeListening cX0_seeListening 5 (none) :: GT) ({ frames := 4, cells := 0, slots := 0, locals := 88 }) (mw_Pre G ad NF TF FF M L [.ref (ad 20), .int a1, .int a2, .int a3]) (mw_Qv G ad NF TF FF (mw_eqV M0 L0)) 0 0 (mw_fr G) := by
  refine mw_enter (by decide) (Nat.le_of_ble_eq_true rfl) ?_
  intro p e s m below meth c ls C hr hlocks hnm hw hl
  have hl : lv_has ls 5 [(0, .ref (ad 20)), (1, .int a1), (2, .int a2), (3, .int a3)] := hl
  have hb79 : ∀ (M : mwM) (L : mwL) (H : Heap) (locs : List Loc) (ls : Array Slot), fX0_seeListening_b79 fu a1 a2 a3 M L = some (M0, L0) → mw_W G ad NF TF FF M L H locs → lv_has ls 5 [] → W p l e ({ frames := 4, cells := 0, slots := 0, locals := 88 }) s m [.ref (ad 20), .int a1, .int a2, .int a3].toArray below meth c H locs 0 0 (MQ below (mw_Qv G ad NF TF FF (mw_eqV M0 L0)) [.ref (ad 20), .int a1, .int a2, .int a3].toArray s 0 0 (mw_fr G)) (F0 m 79 ls []) := by
    intro M L H locs ls hD hw hl
    unfold fX0_seeListening_b79 at hD
    exact mr_vret C hr hlocks hw (Option.some.inj hD) dX0_seeListening_79
  unfold DX0_seeListening at hD
  refine lv_aload_n C.1.1 C.1.2.1 dX0_seeListening_0 rfl (lv_at hl 0 rfl) ?_
  refine mr_getR C hw kc_0 5 (by decide) tf_20 ff_20_5 wd_179 dX0_seeListening_1 (by decide) rfl ?_
  refine lv_iload_n C.1.1 C.1.2.1 dX0_seeListening_4 rfl (lv_at hl 1 rfl) ?_
  obtain ⟨q1, hD⟩ := g_ck hD
  refine mr_aald C hw (by decide) tf_41 (by decide) (by decide) rfl rfl q1 (fr_41 _ (g_lt q1)) dX0_seeListening_5 ?_
  refine lv_iload_n C.1.1 C.1.2.1 dX0_seeListening_6 rfl (lv_at hl 2 rfl) ?_
  obtain ⟨r4, M2, L3, h1, hD⟩ := g_b3 hD
  refine md_cvI (As := [.int a2]) (rest := []) C hw (tX5_hear l G ad fu ((47 + 2 * a1.toNatClampNeg)) a2 M L h1 (isEa_of (g_lt q1))) kc_5 (Ea_N0 (isEa_of (g_lt q1))) (Ea_T0 (isEa_of (g_lt q1))) wd_1399 cwX5_hear ⟨Nat.le_of_ble_eq_true rfl, Nat.le_of_ble_eq_true rfl⟩ rfl hl.1 (Nat.le_of_ble_eq_true rfl) dX0_seeListening_7 rfl rfl ⟨Nat.zero_le _, Nat.zero_le _⟩ rfl (fun H locs hw => ?_)
  refine lv_istore (lv' := [(4, .int r4), (0, .ref (ad 20)), (1, .int a1), (2, .int a2), (3, .int a3)]) C.1.1 C.1.2.1 dX0_seeListening_10 hl (by decide) rfl (fun ls hl => ?_)
  refine lv_iload C.1.1 C.1.2.1 dX0_seeListening_12 (lv_at hl 0 rfl) ?_
  refine lv_bipush (v := (-2)) C.1.1 C.1.2.1 dX0_seeListening_14 (by decide) ?_
  refine lv_icmp_ne (tgt := 47) C.1.1 C.1.2.1 dX0_seeListening_16 (by decide) (fun c5 => ?_) (fun c5 => ?_)
  · replace hD := g_neg c5 hD
    refine lv_iload C.1.1 C.1.2.1 dX0_seeListening_47 (lv_at hl 0 rfl) ?_
    refine lv_bipush (v := (-3)) C.1.1 C.1.2.1 dX0_seeListening_49 (by decide) ?_
    refine lv_icmp_ne (tgt := 65) C.1.1 C.1.2.1 dX0_seeListening_51 (by decide) (fun c6 => ?_) (fun c6 => ?_)
    · replace hD := g_neg c6 hD
      refine lv_iload C.1.1 C.1.2.1 dX0_seeListening_65 (lv_at hl 0 rfl) ?_
      refine lv_iconst (v := (-1)) C.1.1 C.1.2.1 dX0_seeListening_67 (by decide) ?_
      refine lv_icmp_eq (tgt := 79) C.1.1 C.1.2.1 dX0_seeListening_68 (by decide) (fun c7 => ?_) (fun c7 => ?_)
      · replace hD := g_pos c7 hD
        exact hb79 M2 L3 _ _ ls hD hw (lv_sub hl [] rfl)
      · replace hD := g_neg c7 hD
        refine lv_aload_n C.1.1 C.1.2.1 dX0_seeListening_71 rfl (lv_at hl 1 rfl) ?_
        refine lv_iload_n C.1.1 C.1.2.1 dX0_seeListening_72 rfl (lv_at hl 2 rfl) ?_
        refine lv_iload C.1.1 C.1.2.1 dX0_seeListening_73 (lv_at hl 0 rfl) ?_
        refine lv_iload_n C.1.1 C.1.2.1 dX0_seeListening_75 rfl (lv_at hl 4 rfl) ?_
        obtain ⟨M8, L9, h1, hD⟩ := g_b2 hD
        refine md_cvV (As := [.int a1, .int r4, .int a3]) (rest := []) C hw (tX0_tellFault l G ad fu a1 r4 a3 M2 L3 h1) kc_0 (by decide) tf_20 wd_1448 cwX0_tellFault ⟨Nat.le_of_ble_eq_true rfl, Nat.le_of_ble_eq_true rfl⟩ rfl hl.1 (Nat.le_of_ble_eq_true rfl) dX0_seeListening_76 rfl rfl ⟨Nat.zero_le _, Nat.zero_le _⟩ rfl (fun H locs hw => ?_)
        exact hb79 M8 L9 _ _ ls hD hw (lv_sub hl [] rfl)
    · replace hD := g_pos c6 hD
      refine lv_aload_n C.1.1 C.1.2.1 dX0_seeListening_54 rfl (lv_at hl 1 rfl) ?_
      refine lv_iload_n C.1.1 C.1.2.1 dX0_seeListening_55 rfl (lv_at hl 2 rfl) ?_
      refine lv_bipush (v := 6) C.1.1 C.1.2.1 dX0_seeListening_56 (by decide) ?_
      refine lv_iconst (v := 3) C.1.1 C.1.2.1 dX0_seeListening_58 (by decide) ?_
      obtain ⟨M10, L11, h1, hD⟩ := g_b2 hD
      refine md_cvV (As := [.int a1, .int 6, .int 3]) (rest := []) C hw (tX0_become l G ad fu a1 6 3 M2 L3 h1) kc_0 (by decide) tf_20 wd_1452 cwX0_become ⟨Nat.le_of_ble_eq_true rfl, Nat.le_of_ble_eq_true rfl⟩ rfl hl.1 (Nat.le_of_ble_eq_true rfl) dX0_seeListening_59 rfl rfl ⟨Nat.zero_le _, Nat.zero_le _⟩ rfl (fun H locs hw => ?_)
      refine lv_goto (tgt := 79) C.1.1 C.1.2.1 dX0_seeListening_62 (by decide) ?_
      exact hb79 M10 L11 _ _ ls hD hw (lv_sub hl [] rfl)
  · replace hD := g_pos c5 hD
    refine lv_aload_n C.1.1 C.1.2.1 dX0_seeListening_19 rfl (lv_at hl 1 rfl) ?_
    refine mr_getR C hw kc_0 3 (by decide) tf_20 ff_20_3 wd_176 dX0_seeListening_20 (by decide) rfl ?_
    refine lv_bipush (v := 6) C.1.1 C.1.2.1 dX0_seeListening_23 (by decide) ?_
    refine mr_aald C hw (by decide) tf_24 (by decide) (by decide) rfl rfl (show vp_in 6 8 from by unfold vp_in; decide) ff_24_6 dX0_seeListening_25 ?_
    refine lv_iload_n C.1.1 C.1.2.1 dX0_seeListening_26 rfl (lv_at hl 2 rfl) ?_
    refine lv_dup2_11 C.1.1 C.1.2.1 dX0_seeListening_27 rfl rfl ?_
    obtain ⟨q13, hD⟩ := g_ck hD
    refine mr_iald C hw (by decide) tf_31 q13 dX0_seeListening_28 ?_
    refine lv_iconst (v := 1) C.1.1 C.1.2.1 dX0_seeListening_29 (by decide) ?_
    refine lv_iadd C.1.1 C.1.2.1 dX0_seeListening_30 ?_
    obtain ⟨q14, hD⟩ := g_ck hD
    obtain ⟨M15, eM15, hD⟩ := g_let hD
    refine mr_iast C hw (by decide) tf_31 q14 dX0_seeListening_31 (fun H locs hw => ?_)
    replace hw : mw_W G ad NF TF FF M15 L3 H locs := by rw [eM15]; exact hw
    refine lv_aload_n C.1.1 C.1.2.1 dX0_seeListening_32 rfl (lv_at hl 1 rfl) ?_
    refine lv_dup C.1.1 C.1.2.1 dX0_seeListening_33 rfl ?_
    refine mr_getI C hw kc_0 12 (by decide) tf_20 wd_189 dX0_seeListening_34 (by decide) rfl ?_
    refine lv_iconst (v := 1) C.1.1 C.1.2.1 dX0_seeListening_37 (by decide) ?_
    refine lv_iload_n C.1.1 C.1.2.1 dX0_seeListening_38 rfl (lv_at hl 2 rfl) ?_
    refine lv_ishl C.1.1 C.1.2.1 dX0_seeListening_39 ?_
    refine lv_ior C.1.1 C.1.2.1 dX0_seeListening_40 ?_
    obtain ⟨M16, eM16, hD⟩ := g_let hD
    refine mr_putI C hw kc_0 12 (by decide) tf_20 wd_189 dX0_seeListening_41 (by decide) rfl rfl rfl rfl (fun H locs hw => ?_)
    replace hw : mw_W G ad NF TF FF M16 L3 H locs := by rw [eM16]; exact hw
    refine lv_goto (tgt := 79) C.1.1 C.1.2.1 dX0_seeListening_44 (by decide) ?_
    exact hb79 M16 L3 _ _ ls hD hw (lv_sub hl [] rfl)
