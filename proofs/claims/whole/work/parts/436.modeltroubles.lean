theorem dX18_anew_0 : decode cX18_anew 0 = .ok (.aload_n 0, 1) := by decide +kernel
theorem dX18_anew_1 : decode cX18_anew 1 = .ok (.iload_n 1, 1) := by decide +kernel
theorem dX18_anew_2 : decode cX18_anew 2 = .ok (.putfield 65, 3) := by decide +kernel
theorem dX18_anew_5 : decode cX18_anew 5 = .ok (.aload_n 0, 1) := by decide +kernel
theorem dX18_anew_6 : decode cX18_anew 6 = .ok (.iconst 0, 1) := by decide +kernel
theorem dX18_anew_7 : decode cX18_anew 7 = .ok (.putfield 69, 3) := by decide +kernel
theorem dX18_anew_10 : decode cX18_anew 10 = .ok (.aload_n 0, 1) := by decide +kernel
theorem dX18_anew_11 : decode cX18_anew 11 = .ok (.iconst 0, 1) := by decide +kernel
theorem dX18_anew_12 : decode cX18_anew 12 = .ok (.putfield 72, 3) := by decide +kernel
theorem dX18_anew_15 : decode cX18_anew 15 = .ok (.aload_n 0, 1) := by decide +kernel
theorem dX18_anew_16 : decode cX18_anew 16 = .ok (.iconst 0, 1) := by decide +kernel
theorem dX18_anew_17 : decode cX18_anew 17 = .ok (.putfield 75, 3) := by decide +kernel
theorem dX18_anew_20 : decode cX18_anew 20 = .ok (.aload_n 0, 1) := by decide +kernel
theorem dX18_anew_21 : decode cX18_anew 21 = .ok (.iconst 0, 1) := by decide +kernel
theorem dX18_anew_22 : decode cX18_anew 22 = .ok (.putfield 78, 3) := by decide +kernel
theorem dX18_anew_25 : decode cX18_anew 25 = .ok (.aload_n 0, 1) := by decide +kernel
theorem dX18_anew_26 : decode cX18_anew 26 = .ok (.iconst 0, 1) := by decide +kernel
theorem dX18_anew_27 : decode cX18_anew 27 = .ok (.putfield 82, 3) := by decide +kernel
theorem dX18_anew_30 : decode cX18_anew 30 = .ok (.aload_n 0, 1) := by decide +kernel
theorem dX18_anew_31 : decode cX18_anew 31 = .ok (.iconst 0, 1) := by decide +kernel
theorem dX18_anew_32 : decode cX18_anew 32 = .ok (.putfield 85, 3) := by decide +kernel
theorem dX18_anew_35 : decode cX18_anew 35 = .ok (.iconst 0, 1) := by decide +kernel
theorem dX18_anew_36 : decode cX18_anew 36 = .ok (.istore_n 2, 1) := by decide +kernel
theorem dX18_anew_37 : decode cX18_anew 37 = .ok (.iload_n 2, 1) := by decide +kernel
theorem dX18_anew_38 : decode cX18_anew 38 = .ok (.bipush 32, 2) := by decide +kernel
theorem dX18_anew_40 : decode cX18_anew 40 = .ok (.if_icmp .ge 16, 3) := by decide +kernel
theorem dX18_anew_43 : decode cX18_anew 43 = .ok (.aload_n 0, 1) := by decide +kernel
theorem dX18_anew_44 : decode cX18_anew 44 = .ok (.getfield 62, 3) := by decide +kernel
theorem dX18_anew_47 : decode cX18_anew 47 = .ok (.iload_n 2, 1) := by decide +kernel
theorem dX18_anew_48 : decode cX18_anew 48 = .ok (.iconst 0, 1) := by decide +kernel
theorem dX18_anew_49 : decode cX18_anew 49 = .ok (.bastore, 1) := by decide +kernel
theorem dX18_anew_50 : decode cX18_anew 50 = .ok (.iinc 2 1, 3) := by decide +kernel
theorem dX18_anew_53 : decode cX18_anew 53 = .ok (.goto (-16), 3) := by decide +kernel
theorem dX18_anew_56 : decode cX18_anew 56 = .ok (.iconst 0, 1) := by decide +kernel
theorem dX18_anew_57 : decode cX18_anew 57 = .ok (.istore_n 2, 1) := by decide +kernel
theorem dX18_anew_58 : decode cX18_anew 58 = .ok (.iload_n 2, 1) := by decide +kernel
theorem dX18_anew_59 : decode cX18_anew 59 = .ok (.sipush 201, 3) := by decide +kernel
theorem dX18_anew_62 : decode cX18_anew 62 = .ok (.if_icmp .ge 30, 3) := by decide +kernel
theorem dX18_anew_65 : decode cX18_anew 65 = .ok (.aload_n 0, 1) := by decide +kernel
theorem dX18_anew_66 : decode cX18_anew 66 = .ok (.getfield 19, 3) := by decide +kernel
theorem dX18_anew_69 : decode cX18_anew 69 = .ok (.iload_n 2, 1) := by decide +kernel
theorem dX18_anew_70 : decode cX18_anew 70 = .ok (.iconst 0, 1) := by decide +kernel
theorem dX18_anew_71 : decode cX18_anew 71 = .ok (.iastore, 1) := by decide +kernel
theorem dX18_anew_72 : decode cX18_anew 72 = .ok (.aload_n 0, 1) := by decide +kernel
theorem dX18_anew_73 : decode cX18_anew 73 = .ok (.getfield 50, 3) := by decide +kernel
theorem dX18_anew_76 : decode cX18_anew 76 = .ok (.iload_n 2, 1) := by decide +kernel
theorem dX18_anew_77 : decode cX18_anew 77 = .ok (.iconst 0, 1) := by decide +kernel
theorem dX18_anew_78 : decode cX18_anew 78 = .ok (.iastore, 1) := by decide +kernel
theorem dX18_anew_79 : decode cX18_anew 79 = .ok (.aload_n 0, 1) := by decide +kernel
theorem dX18_anew_80 : decode cX18_anew 80 = .ok (.getfield 53, 3) := by decide +kernel
theorem dX18_anew_83 : decode cX18_anew 83 = .ok (.iload_n 2, 1) := by decide +kernel
theorem dX18_anew_84 : decode cX18_anew 84 = .ok (.iconst 0, 1) := by decide +kernel
theorem dX18_anew_85 : decode cX18_anew 85 = .ok (.iastore, 1) := by decide +kernel
theorem dX18_anew_86 : decode cX18_anew 86 = .ok (.iinc 2 1, 3) := by decide +kernel
theorem dX18_anew_89 : decode cX18_anew 89 = .ok (.goto (-31), 3) := by decide +kernel
theorem dX18_anew_92 : decode cX18_anew 92 = .ok (.return_, 1) := by decide +kernel
theorem cwX18_anew : mw_cwV yX18_anew cX18_anew 3 (none) 1 := ⟨⟨wd_18, wd_3140, by decide +kernel⟩, wd_3138, wd_3139⟩
set_option maxHeartbeats 4000000 in
set_option maxRecDepth 100000 in
theorem tX18_anew (l : Launch) (G : mwG) (ad : Nat → Nat) (fu : Nat) (a1 : Int32) (M : mwM) (L : mwL) {M0 : mwM} {L0 : mwL} (hD : DX18_anew fu a1 M L = some (M0, L0)) : Met l yX18_anew (Cond.code yX18_anew cX18_anew 3 (none) :: GT) ({ frames := 0, cells := 0, slots := 0, locals := 0 }) (mw_Pre G ad NF TF FF M L [.ref (ad 902), .int a1]) (mw_Qv G ad NF TF FF (mw_eqV M0 L0)) 0 0 (mw_fr G) := by
  refine mw_enter (by decide) (Nat.le_of_ble_eq_true rfl) ?_
  intro p e s m below meth c ls C hr hlocks hnm hw hl
  have hl : lv_has ls 3 [(0, .ref (ad 902)), (1, .int a1)] := hl
  have hh58 : ∀ (f : Nat) (v2 : Int32) (M : mwM) (L : mwL) (H : Heap) (locs : List Loc) (ls : Array Slot), fX18_anew_h58 fu a1 f (v2, M, L) = some (M0, L0) → mw_W G ad NF TF FF M L H locs → lv_has ls 3 [(0, .ref (ad 902)), (2, .int v2)] → W p l e ({ frames := 0, cells := 0, slots := 0, locals := 0 }) s m [.ref (ad 902), .int a1].toArray below meth c H locs 0 0 (MQ below (mw_Qv G ad NF TF FF (mw_eqV M0 L0)) [.ref (ad 902), .int a1].toArray s 0 0 (mw_fr G)) (F0 m 58 ls []) := by
    intro f
    induction f with
    | zero => intro v2 M L H locs ls hD; cases hD
    | succ f58 ih58 =>
      intro v2 M L H locs ls hD hw hl
      replace hD : fX18_anew_i58 fu a1 (fX18_anew_h58 fu a1 f58) v2 M L = some (M0, L0) := hD
      unfold fX18_anew_i58 at hD
      refine lv_iload_n C.1.1 C.1.2.1 dX18_anew_58 rfl (lv_at hl 1 rfl) ?_
      refine lv_sipush (v := 201) C.1.1 C.1.2.1 dX18_anew_59 (by decide) ?_
      refine lv_icmp_ge (tgt := 92) C.1.1 C.1.2.1 dX18_anew_62 (by decide) (fun c5 => ?_) (fun c5 => ?_)
      · replace hD := g_pos c5 hD
        exact mr_vret C hr hlocks hw (Option.some.inj hD) dX18_anew_92
      · replace hD := g_neg c5 hD
        refine lv_aload_n C.1.1 C.1.2.1 dX18_anew_65 rfl (lv_at hl 0 rfl) ?_
        refine mr_getR C hw kc_18 6 (by decide) tf_902 ff_902_6 wd_2473 dX18_anew_66 (by decide) rfl ?_
        refine lv_iload_n C.1.1 C.1.2.1 dX18_anew_69 rfl (lv_at hl 1 rfl) ?_
        refine lv_iconst (v := 0) C.1.1 C.1.2.1 dX18_anew_70 (by decide) ?_
        obtain ⟨q6, hD⟩ := g_ck hD
        obtain ⟨M7, eM7, hD⟩ := g_let hD
        refine mr_iast C hw (by decide) tf_906 q6 dX18_anew_71 (fun H locs hw => ?_)
        replace hw : mw_W G ad NF TF FF M7 L H locs := by rw [eM7]; exact hw
        refine lv_aload_n C.1.1 C.1.2.1 dX18_anew_72 rfl (lv_at hl 0 rfl) ?_
        refine mr_getR C hw kc_18 16 (by decide) tf_902 ff_902_16 wd_2483 dX18_anew_73 (by decide) rfl ?_
        refine lv_iload_n C.1.1 C.1.2.1 dX18_anew_76 rfl (lv_at hl 1 rfl) ?_
        refine lv_iconst (v := 0) C.1.1 C.1.2.1 dX18_anew_77 (by decide) ?_
        obtain ⟨q8, hD⟩ := g_ck hD
        obtain ⟨M9, eM9, hD⟩ := g_let hD
        refine mr_iast C hw (by decide) tf_916 q8 dX18_anew_78 (fun H locs hw => ?_)
        replace hw : mw_W G ad NF TF FF M9 L H locs := by rw [eM9]; exact hw
        refine lv_aload_n C.1.1 C.1.2.1 dX18_anew_79 rfl (lv_at hl 0 rfl) ?_
        refine mr_getR C hw kc_18 17 (by decide) tf_902 ff_902_17 wd_2484 dX18_anew_80 (by decide) rfl ?_
        refine lv_iload_n C.1.1 C.1.2.1 dX18_anew_83 rfl (lv_at hl 1 rfl) ?_
        refine lv_iconst (v := 0) C.1.1 C.1.2.1 dX18_anew_84 (by decide) ?_
        obtain ⟨q10, hD⟩ := g_ck hD
        obtain ⟨M11, eM11, hD⟩ := g_let hD
        refine mr_iast C hw (by decide) tf_917 q10 dX18_anew_85 (fun H locs hw => ?_)
        replace hw : mw_W G ad NF TF FF M11 L H locs := by rw [eM11]; exact hw
        obtain ⟨x12, ex12, hD⟩ := g_let hD
        refine lv_iinc (v := x12) (lv' := [(2, .int x12), (0, .ref (ad 902))]) C.1.1 C.1.2.1 dX18_anew_86 hl (k := 1) rfl (by rw [ex12]; rfl) (by decide) rfl (fun ls hl => ?_)
        refine lv_goto (tgt := 58) C.1.1 C.1.2.1 dX18_anew_89 (by decide) ?_
        exact ih58 x12 M11 L _ _ ls hD hw (lv_sub hl [1, 0] rfl)
  have hh37 : ∀ (f : Nat) (v2 : Int32) (M : mwM) (L : mwL) (H : Heap) (locs : List Loc) (ls : Array Slot), fX18_anew_h37 fu a1 f (v2, M, L) = some (M0, L0) → mw_W G ad NF TF FF M L H locs → lv_has ls 3 [(0, .ref (ad 902)), (2, .int v2)] → W p l e ({ frames := 0, cells := 0, slots := 0, locals := 0 }) s m [.ref (ad 902), .int a1].toArray below meth c H locs 0 0 (MQ below (mw_Qv G ad NF TF FF (mw_eqV M0 L0)) [.ref (ad 902), .int a1].toArray s 0 0 (mw_fr G)) (F0 m 37 ls []) := by
    intro f
    induction f with
    | zero => intro v2 M L H locs ls hD; cases hD
    | succ f37 ih37 =>
      intro v2 M L H locs ls hD hw hl
      replace hD : fX18_anew_i37 fu a1 (fX18_anew_h37 fu a1 f37) v2 M L = some (M0, L0) := hD
      unfold fX18_anew_i37 at hD
      refine lv_iload_n C.1.1 C.1.2.1 dX18_anew_37 rfl (lv_at hl 1 rfl) ?_
      refine lv_bipush (v := 32) C.1.1 C.1.2.1 dX18_anew_38 (by decide) ?_
      refine lv_icmp_ge (tgt := 56) C.1.1 C.1.2.1 dX18_anew_40 (by decide) (fun c1 => ?_) (fun c1 => ?_)
      · replace hD := g_pos c1 hD
        refine lv_iconst (v := 0) C.1.1 C.1.2.1 dX18_anew_56 (by decide) ?_
        refine lv_istore_n (lv' := [(2, .int 0), (0, .ref (ad 902))]) C.1.1 C.1.2.1 dX18_anew_57 rfl hl (by decide) rfl (fun ls hl => ?_)
        exact hh58 fu 0 M L _ _ ls hD hw (lv_sub hl [1, 0] rfl)
      · replace hD := g_neg c1 hD
        refine lv_aload_n C.1.1 C.1.2.1 dX18_anew_43 rfl (lv_at hl 0 rfl) ?_
        refine mr_getR C hw kc_18 22 (by decide) tf_902 ff_902_22 wd_2489 dX18_anew_44 (by decide) rfl ?_
        refine lv_iload_n C.1.1 C.1.2.1 dX18_anew_47 rfl (lv_at hl 1 rfl) ?_
        refine lv_iconst (v := 0) C.1.1 C.1.2.1 dX18_anew_48 (by decide) ?_
        obtain ⟨q2, hD⟩ := g_ck hD
        obtain ⟨M3, eM3, hD⟩ := g_let hD
        refine mr_zast C hw (by decide) tf_920 q2 dX18_anew_49 (fun H locs hw => ?_)
        replace hw : mw_W G ad NF TF FF M3 L H locs := by rw [eM3]; exact hw
        obtain ⟨x4, ex4, hD⟩ := g_let hD
        refine lv_iinc (v := x4) (lv' := [(2, .int x4), (0, .ref (ad 902))]) C.1.1 C.1.2.1 dX18_anew_50 hl (k := 1) rfl (by rw [ex4]; rfl) (by decide) rfl (fun ls hl => ?_)
        refine lv_goto (tgt := 37) C.1.1 C.1.2.1 dX18_anew_53 (by decide) ?_
        exact ih37 x4 M3 L _ _ ls hD hw (lv_sub hl [1, 0] rfl)
  unfold DX18_anew at hD
  refine lv_aload_n C.1.1 C.1.2.1 dX18_anew_0 rfl (lv_at hl 0 rfl) ?_
  refine lv_iload_n C.1.1 C.1.2.1 dX18_anew_1 rfl (lv_at hl 1 rfl) ?_
  obtain ⟨M13, eM13, hD⟩ := g_let hD
  refine mr_putI C hw kc_18 1 (by decide) tf_902 wd_2468 dX18_anew_2 (by decide) rfl rfl rfl rfl (fun H locs hw => ?_)
  replace hw : mw_W G ad NF TF FF M13 L H locs := by rw [eM13]; exact hw
  refine lv_aload_n C.1.1 C.1.2.1 dX18_anew_5 rfl (lv_at hl 0 rfl) ?_
  refine lv_iconst (v := 0) C.1.1 C.1.2.1 dX18_anew_6 (by decide) ?_
  obtain ⟨M14, eM14, hD⟩ := g_let hD
  refine mr_putI C hw kc_18 2 (by decide) tf_902 wd_2469 dX18_anew_7 (by decide) rfl rfl rfl rfl (fun H locs hw => ?_)
  replace hw : mw_W G ad NF TF FF M14 L H locs := by rw [eM14]; exact hw
  refine lv_aload_n C.1.1 C.1.2.1 dX18_anew_10 rfl (lv_at hl 0 rfl) ?_
  refine lv_iconst (v := 0) C.1.1 C.1.2.1 dX18_anew_11 (by decide) ?_
  obtain ⟨M15, eM15, hD⟩ := g_let hD
  refine mr_putI C hw kc_18 19 (by decide) tf_902 wd_2486 dX18_anew_12 (by decide) rfl rfl rfl rfl (fun H locs hw => ?_)
  replace hw : mw_W G ad NF TF FF M15 L H locs := by rw [eM15]; exact hw
  refine lv_aload_n C.1.1 C.1.2.1 dX18_anew_15 rfl (lv_at hl 0 rfl) ?_
  refine lv_iconst (v := 0) C.1.1 C.1.2.1 dX18_anew_16 (by decide) ?_
  obtain ⟨M16, eM16, hD⟩ := g_let hD
  refine mr_putI C hw kc_18 20 (by decide) tf_902 wd_2487 dX18_anew_17 (by decide) rfl rfl rfl rfl (fun H locs hw => ?_)
  replace hw : mw_W G ad NF TF FF M16 L H locs := by rw [eM16]; exact hw
  refine lv_aload_n C.1.1 C.1.2.1 dX18_anew_20 rfl (lv_at hl 0 rfl) ?_
  refine lv_iconst (v := 0) C.1.1 C.1.2.1 dX18_anew_21 (by decide) ?_
  obtain ⟨M17, eM17, hD⟩ := g_let hD
  refine mr_putI C hw kc_18 23 (by decide) tf_902 wd_2490 dX18_anew_22 (by decide) rfl rfl (by decide +kernel) (by decide +kernel) (fun H locs hw => ?_)
  replace hw : mw_W G ad NF TF FF M17 L H locs := by rw [eM17]; exact hw
  refine lv_aload_n C.1.1 C.1.2.1 dX18_anew_25 rfl (lv_at hl 0 rfl) ?_
  refine lv_iconst (v := 0) C.1.1 C.1.2.1 dX18_anew_26 (by decide) ?_
  obtain ⟨M18, eM18, hD⟩ := g_let hD
  refine mr_putI C hw kc_18 24 (by decide) tf_902 wd_2491 dX18_anew_27 (by decide) rfl rfl rfl rfl (fun H locs hw => ?_)
  replace hw : mw_W G ad NF TF FF M18 L H locs := by rw [eM18]; exact hw
  refine lv_aload_n C.1.1 C.1.2.1 dX18_anew_30 rfl (lv_at hl 0 rfl) ?_
  refine lv_iconst (v := 0) C.1.1 C.1.2.1 dX18_anew_31 (by decide) ?_
  obtain ⟨M19, eM19, hD⟩ := g_let hD
  refine mr_putI C hw kc_18 25 (by decide) tf_902 wd_2492 dX18_anew_32 (by decide) rfl rfl rfl rfl (fun H locs hw => ?_)
  replace hw : mw_W G ad NF TF FF M19 L H locs := by rw [eM19]; exact hw
  refine lv_iconst (v := 0) C.1.1 C.1.2.1 dX18_anew_35 (by decide) ?_
  refine lv_istore_n (lv' := [(2, .int 0), (0, .ref (ad 902)), (1, .int a1)]) C.1.1 C.1.2.1 dX18_anew_36 rfl hl (by decide) rfl (fun ls hl => ?_)
  exact hh37 fu 0 M19 L _ _ ls hD hw (lv_sub hl [1, 0] rfl)

theorem dX18_none_0 : decode cX18_none 0 = .ok (.aload_n 0, 1) := by decide +kernel
theorem dX18_none_1 : decode cX18_none 1 = .ok (.iconst 0, 1) := by decide +kernel
theorem dX18_none_2 : decode cX18_none 2 = .ok (.putfield 88, 3) := by decide +kernel
theorem dX18_none_5 : decode cX18_none 5 = .ok (.iload_n 1, 1) := by decide +kernel
theorem dX18_none_6 : decode cX18_none 6 = .ok (.iconst 1, 1) := by decide +kernel
theorem dX18_none_7 : decode cX18_none 7 = .ok (.if_icmp .lt 11, 3) := by decide +kernel
theorem dX18_none_10 : decode cX18_none 10 = .ok (.iload_n 1, 1) := by decide +kernel
theorem dX18_none_11 : decode cX18_none 11 = .ok (.aload_n 0, 1) := by decide +kernel
theorem dX18_none_12 : decode cX18_none 12 = .ok (.getfield 69, 3) := by decide +kernel
theorem dX18_none_15 : decode cX18_none 15 = .ok (.if_icmp .le 7, 3) := by decide +kernel
theorem dX18_none_18 : decode cX18_none 18 = .ok (.iconst 1, 1) := by decide +kernel
theorem dX18_none_19 : decode cX18_none 19 = .ok (.goto 4, 3) := by decide +kernel
theorem dX18_none_22 : decode cX18_none 22 = .ok (.iconst 0, 1) := by decide +kernel
theorem dX18_none_23 : decode cX18_none 23 = .ok (.ireturn, 1) := by decide +kernel
theorem cwX18_none : mw_cwV yX18_none cX18_none 2 ((some .boolean)) 1 := ⟨⟨wd_18, wd_3887, by decide +kernel⟩, wd_3886, sl_281⟩
set_option maxHeartbeats 4000000 in
set_option maxRecDepth 100000 in
theorem tX18_none (l : Launch) (G : mwG) (ad : Nat → Nat) (fu : Nat) (a1 : Int32) (M : mwM) (L : mwL) {r0 : Int32} {M0 : mwM} {L0 : mwL} (hD : DX18_none fu a1 M L = some (r0, M0, L0)) : Met l yX18_none (Cond.code yX18_none cX18_none 2 ((some .boolean)) :: GT) ({ frames := 0, cells := 0, slots := 0, locals := 0 }) (mw_Pre G ad NF TF FF M L [.ref (ad 902), .int a1]) (mw_Qi G ad NF TF FF (mw_eqI r0 M0 L0)) 0 0 (mw_fr G) := by
  refine mw_enter (by decide) (Nat.le_of_ble_eq_true rfl) ?_
  intro p e s m below meth c ls C hr hlocks hnm hw hl
  have hl : lv_has ls 2 [(0, .ref (ad 902)), (1, .int a1)] := hl
  have hb23 : ∀ (s0 : Int32) (M : mwM) (L : mwL) (H : Heap) (locs : List Loc) (ls : Array Slot), fX18_none_b23 fu a1 s0 M L = some (r0, M0, L0) → mw_W G ad NF TF FF M L H locs → lv_has ls 2 [] → W p l e ({ frames := 0, cells := 0, slots := 0, locals := 0 }) s m [.ref (ad 902), .int a1].toArray below meth c H locs 0 0 (MQ below (mw_Qi G ad NF TF FF (mw_eqI r0 M0 L0)) [.ref (ad 902), .int a1].toArray s 0 0 (mw_fr G)) (F0 m 23 ls [.int s0]) := by
    intro s0 M L H locs ls hD hw hl
    unfold fX18_none_b23 at hD
    obtain ⟨z1, hD⟩ := g_zz hD
    exact mr_iret C hr hlocks hw (nz_zz z1) (Option.some.inj hD) dX18_none_23
  have hb18 : ∀ (M : mwM) (L : mwL) (H : Heap) (locs : List Loc) (ls : Array Slot), fX18_none_b18 fu a1 M L = some (r0, M0, L0) → mw_W G ad NF TF FF M L H locs → lv_has ls 2 [] → W p l e ({ frames := 0, cells := 0, slots := 0, locals := 0 }) s m [.ref (ad 902), .int a1].toArray below meth c H locs 0 0 (MQ below (mw_Qi G ad NF TF FF (mw_eqI r0 M0 L0)) [.ref (ad 902), .int a1].toArray s 0 0 (mw_fr G)) (F0 m 18 ls []) := by
    intro M L H locs ls hD hw hl
    unfold fX18_none_b18 at hD
    refine lv_iconst (v := 1) C.1.1 C.1.2.1 dX18_none_18 (by decide) ?_
    refine lv_goto (tgt := 23) C.1.1 C.1.2.1 dX18_none_19 (by decide) ?_
    exact hb23 1 M L _ _ ls hD hw (lv_sub hl [] rfl)
  unfold DX18_none at hD
  refine lv_aload_n C.1.1 C.1.2.1 dX18_none_0 rfl (lv_at hl 0 rfl) ?_
  refine lv_iconst (v := 0) C.1.1 C.1.2.1 dX18_none_1 (by decide) ?_
  obtain ⟨M2, eM2, hD⟩ := g_let hD
  refine mr_putI C hw kc_18 0 (by decide) tf_902 wd_2467 dX18_none_2 (by decide) rfl rfl rfl rfl (fun H locs hw => ?_)
  replace hw : mw_W G ad NF TF FF M2 L H locs := by rw [eM2]; exact hw
  refine lv_iload_n C.1.1 C.1.2.1 dX18_none_5 rfl (lv_at hl 1 rfl) ?_
  refine lv_iconst (v := 1) C.1.1 C.1.2.1 dX18_none_6 (by decide) ?_
  refine lv_icmp_lt (tgt := 18) C.1.1 C.1.2.1 dX18_none_7 (by decide) (fun c3 => ?_) (fun c3 => ?_)
  · replace hD := g_pos c3 hD
    exact hb18 M2 L _ _ ls hD hw (lv_sub hl [] rfl)
  · replace hD := g_neg c3 hD
    refine lv_iload_n C.1.1 C.1.2.1 dX18_none_10 rfl (lv_at hl 1 rfl) ?_
    refine lv_aload_n C.1.1 C.1.2.1 dX18_none_11 rfl (lv_at hl 0 rfl) ?_
    refine mr_getI C hw kc_18 2 (by decide) tf_902 wd_2469 dX18_none_12 (by decide) rfl ?_
    refine lv_icmp_le (tgt := 22) C.1.1 C.1.2.1 dX18_none_15 (by decide) (fun c4 => ?_) (fun c4 => ?_)
    · replace hD := g_pos c4 hD
      refine lv_iconst (v := 0) C.1.1 C.1.2.1 dX18_none_22 (by decide) ?_
      exact hb23 0 M2 L _ _ ls hD hw (lv_sub hl [] rfl)
    · replace hD := g_neg c4 hD
      exact hb18 M2 L _ _ ls hD hw (lv_sub hl [] rfl)

theorem dX18_is_0 : decode cX18_is 0 = .ok (.aload_n 0, 1) := by decide +kernel
theorem dX18_is_1 : decode cX18_is 1 = .ok (.getfield 25, 3) := by decide +kernel
theorem dX18_is_4 : decode cX18_is 4 = .ok (.bipush 8, 2) := by decide +kernel
theorem dX18_is_6 : decode cX18_is 6 = .ok (.iload_n 1, 1) := by decide +kernel
theorem dX18_is_7 : decode cX18_is 7 = .ok (.imul, 1) := by decide +kernel
theorem dX18_is_8 : decode cX18_is 8 = .ok (.iload_n 2, 1) := by decide +kernel
theorem dX18_is_9 : decode cX18_is 9 = .ok (.iadd, 1) := by decide +kernel
theorem dX18_is_10 : decode cX18_is 10 = .ok (.baload, 1) := by decide +kernel
theorem dX18_is_11 : decode cX18_is 11 = .ok (.ireturn, 1) := by decide +kernel
theorem cwX18_is : mw_cwV yX18_is cX18_is 3 ((some .boolean)) 2 := ⟨⟨wd_18, wd_3390, by decide +kernel⟩, wd_3389, sl_192⟩
set_option maxHeartbeats 4000000 in
set_option maxRecDepth 100000 in
theorem tX18_is (l : Launch) (G : mwG) (ad : Nat → Nat) (fu : Nat) (a1 : Int32) (a2 : Int32) (M : mwM) (L : mwL) {r0 : Int32} {M0 : mwM} {L0 : mwL} (hD : DX18_is fu a1 a2 M L = some (r0, M0, L0)) : Met l yX18_is (Cond.code yX18_is cX18_is 3 ((some .boolean)) :: GT) ({ frames := 0, cells := 0, slots := 0, locals := 0 }) (mw_Pre G ad NF TF FF M L [.ref (ad 902), .int a1, .int a2]) (mw_Qi G ad NF TF FF (mw_eqI r0 M0 L0)) 0 0 (mw_fr G) := by
  refine mw_enter (by decide) (Nat.le_of_ble_eq_true rfl) ?_
  intro p e s m below meth c ls C hr hlocks hnm hw hl
  have hl : lv_has ls 3 [(0, .ref (ad 902)), (1, .int a1), (2, .int a2)] := hl
  unfold DX18_is at hD
  refine lv_aload_n C.1.1 C.1.2.1 dX18_is_0 rfl (lv_at hl 0 rfl) ?_
  refine mr_getR C hw kc_18 8 (by decide) tf_902 ff_902_8 wd_2475 dX18_is_1 (by decide) rfl ?_
  refine lv_bipush (v := 8) C.1.1 C.1.2.1 dX18_is_4 (by decide) ?_
  refine lv_iload_n C.1.1 C.1.2.1 dX18_is_6 rfl (lv_at hl 1 rfl) ?_
  refine lv_imul C.1.1 C.1.2.1 dX18_is_7 ?_
  refine lv_iload_n C.1.1 C.1.2.1 dX18_is_8 rfl (lv_at hl 2 rfl) ?_
  refine lv_iadd C.1.1 C.1.2.1 dX18_is_9 ?_
  obtain ⟨q1, hD⟩ := g_ck hD
  refine mr_zald C hw (by decide) tf_908 q1 dX18_is_10 ?_
  obtain ⟨z2, hD⟩ := g_zz hD
  exact mr_iret C hr hlocks hw (nz_zz z2) (Option.some.inj hD) dX18_is_11

theorem dX18_set_0 : decode cX18_set 0 = .ok (.aload_n 0, 1) := by decide +kernel
theorem dX18_set_1 : decode cX18_set 1 = .ok (.getfield 25, 3) := by decide +kernel
theorem dX18_set_4 : decode cX18_set 4 = .ok (.bipush 8, 2) := by decide +kernel
theorem dX18_set_6 : decode cX18_set 6 = .ok (.iload_n 1, 1) := by decide +kernel
theorem dX18_set_7 : decode cX18_set 7 = .ok (.imul, 1) := by decide +kernel
theorem dX18_set_8 : decode cX18_set 8 = .ok (.iload_n 2, 1) := by decide +kernel
theorem dX18_set_9 : decode cX18_set 9 = .ok (.iadd, 1) := by decide +kernel
theorem dX18_set_10 : decode cX18_set 10 = .ok (.iload_n 3, 1) := by decide +kernel
theorem dX18_set_11 : decode cX18_set 11 = .ok (.bastore, 1) := by decide +kernel
theorem dX18_set_12 : decode cX18_set 12 = .ok (.return_, 1) := by decide +kernel
theorem cwX18_set : mw_cwV yX18_set cX18_set 4 (none) 3 := ⟨⟨wd_18, wd_3382, by decide +kernel⟩, wd_3381, sl_190⟩
set_option maxHeartbeats 4000000 in
set_option maxRecDepth 100000 in
theorem tX18_set (l : Launch) (G : mwG) (ad : Nat → Nat) (fu : Nat) (a1 : Int32) (a2 : Int32) (a3 : Int32) (M : mwM) (L : mwL) {M0 : mwM} {L0 : mwL} (hD : DX18_set fu a1 a2 a3 M L = some (M0, L0)) : Met l yX18_set (Cond.code yX18_set cX18_set 4 (none) :: GT) ({ frames := 0, cells := 0, slots := 0, locals := 0 }) (mw_Pre G ad NF TF FF M L [.ref (ad 902), .int a1, .int a2, .int a3]) (mw_Qv G ad NF TF FF (mw_eqV M0 L0)) 0 0 (mw_fr G) := by
  refine mw_enter (by decide) (Nat.le_of_ble_eq_true rfl) ?_
  intro p e s m below meth c ls C hr hlocks hnm hw hl
  have hl : lv_has ls 4 [(0, .ref (ad 902)), (1, .int a1), (2, .int a2), (3, .int a3)] := hl
  unfold DX18_set at hD
  refine lv_aload_n C.1.1 C.1.2.1 dX18_set_0 rfl (lv_at hl 0 rfl) ?_
  refine mr_getR C hw kc_18 8 (by decide) tf_902 ff_902_8 wd_2475 dX18_set_1 (by decide) rfl ?_
  refine lv_bipush (v := 8) C.1.1 C.1.2.1 dX18_set_4 (by decide) ?_
  refine lv_iload_n C.1.1 C.1.2.1 dX18_set_6 rfl (lv_at hl 1 rfl) ?_
  refine lv_imul C.1.1 C.1.2.1 dX18_set_7 ?_
  refine lv_iload_n C.1.1 C.1.2.1 dX18_set_8 rfl (lv_at hl 2 rfl) ?_
  refine lv_iadd C.1.1 C.1.2.1 dX18_set_9 ?_
  refine lv_iload_n C.1.1 C.1.2.1 dX18_set_10 rfl (lv_at hl 3 rfl) ?_
  obtain ⟨q1, hD⟩ := g_ck hD
  obtain ⟨M2, eM2, hD⟩ := g_let hD
  refine mr_zast C hw (by decide) tf_908 q1 dX18_set_11 (fun H locs hw => ?_)
  replace hw : mw_W G ad NF TF FF M2 L H locs := by rw [eM2]; exact hw
  exact mr_vret C hr hlocks hw (Option.some.inj hD) dX18_set_12

theorem dX18_statusOf_0 : decode cX18_statusOf 0 = .ok (.iconst 0, 1) := by decide +kernel
theorem dX18_statusOf_1 : decode cX18_statusOf 1 = .ok (.istore_n 2, 1) := by decide +kernel
theorem dX18_statusOf_2 : decode cX18_statusOf 2 = .ok (.iconst 0, 1) := by decide +kernel
theorem dX18_statusOf_3 : decode cX18_statusOf 3 = .ok (.istore_n 3, 1) := by decide +kernel
theorem dX18_statusOf_4 : decode cX18_statusOf 4 = .ok (.iload_n 3, 1) := by decide +kernel
theorem dX18_statusOf_5 : decode cX18_statusOf 5 = .ok (.bipush 8, 2) := by decide +kernel
theorem dX18_statusOf_7 : decode cX18_statusOf 7 = .ok (.if_icmp .ge 28, 3) := by decide +kernel
theorem dX18_statusOf_10 : decode cX18_statusOf 10 = .ok (.aload_n 0, 1) := by decide +kernel
theorem dX18_statusOf_11 : decode cX18_statusOf 11 = .ok (.iload_n 1, 1) := by decide +kernel
theorem dX18_statusOf_12 : decode cX18_statusOf 12 = .ok (.iload_n 3, 1) := by decide +kernel
theorem dX18_statusOf_13 : decode cX18_statusOf 13 = .ok (.invokevirtual 91, 3) := by decide +kernel
theorem dX18_statusOf_16 : decode cX18_statusOf 16 = .ok (.ifCond .eq 11, 3) := by decide +kernel
theorem dX18_statusOf_19 : decode cX18_statusOf 19 = .ok (.iload_n 2, 1) := by decide +kernel
theorem dX18_statusOf_20 : decode cX18_statusOf 20 = .ok (.iconst 1, 1) := by decide +kernel
theorem dX18_statusOf_21 : decode cX18_statusOf 21 = .ok (.iload_n 3, 1) := by decide +kernel
theorem dX18_statusOf_22 : decode cX18_statusOf 22 = .ok (.ishl, 1) := by decide +kernel
theorem dX18_statusOf_23 : decode cX18_statusOf 23 = .ok (.iadd, 1) := by decide +kernel
theorem dX18_statusOf_24 : decode cX18_statusOf 24 = .ok (.goto 4, 3) := by decide +kernel
theorem dX18_statusOf_27 : decode cX18_statusOf 27 = .ok (.iload_n 2, 1) := by decide +kernel
theorem dX18_statusOf_28 : decode cX18_statusOf 28 = .ok (.istore_n 2, 1) := by decide +kernel
theorem dX18_statusOf_29 : decode cX18_statusOf 29 = .ok (.iinc 3 1, 3) := by decide +kernel
theorem dX18_statusOf_32 : decode cX18_statusOf 32 = .ok (.goto (-28), 3) := by decide +kernel
theorem dX18_statusOf_35 : decode cX18_statusOf 35 = .ok (.iload_n 2, 1) := by decide +kernel
theorem dX18_statusOf_36 : decode cX18_statusOf 36 = .ok (.ireturn, 1) := by decide +kernel
theorem cwX18_statusOf : mw_cwV yX18_statusOf cX18_statusOf 4 ((some .int)) 1 := ⟨⟨wd_18, wd_3891, by decide +kernel⟩, wd_3890, sl_282⟩
set_option maxHeartbeats 4000000 in
set_option maxRecDepth 100000 in
theorem tX18_statusOf (l : Launch) (G : mwG) (ad : Nat → Nat) (fu : Nat) (a1 : Int32) (M : mwM) (L : mwL) {r0 : Int32} {M0 : mwM} {L0 : mwL} (hD : DX18_statusOf fu a1 M L = some (r0, M0, L0)) : Met l yX18_statusOf (Cond.code yX18_statusOf cX18_statusOf 4 ((some .int)) :: GT) ({ frames := 1, cells := 0, slots := 0, locals := 22 }) (mw_Pre G ad NF TF FF M L [.ref (ad 902), .int a1]) (mw_Qi G ad NF TF FF (mw_eqI r0 M0 L0)) 0 0 (mw_fr G) := by
  refine mw_enter (by decide) (Nat.le_of_ble_eq_true rfl) ?_
  intro p e s m below meth c ls C hr hlocks hnm hw hl
  have hl : lv_has ls 4 [(0, .ref (ad 902)), (1, .int a1)] := hl
  have hh4 : ∀ (f : Nat) (v2 : Int32) (v3 : Int32) (M : mwM) (L : mwL) (H : Heap) (locs : List Loc) (ls : Array Slot), fX18_statusOf_h4 fu a1 f (v2, v3, M, L) = some (r0, M0, L0) → mw_W G ad NF TF FF M L H locs → lv_has ls 4 [(0, .ref (ad 902)), (1, .int a1), (2, .int v2), (3, .int v3)] → W p l e ({ frames := 1, cells := 0, slots := 0, locals := 22 }) s m [.ref (ad 902), .int a1].toArray below meth c H locs 0 0 (MQ below (mw_Qi G ad NF TF FF (mw_eqI r0 M0 L0)) [.ref (ad 902), .int a1].toArray s 0 0 (mw_fr G)) (F0 m 4 ls []) := by
    intro f
    induction f with
    | zero => intro v2 v3 M L H locs ls hD; cases hD
    | succ f4 ih4 =>
      intro v2 v3 M L H locs ls hD hw hl
      replace hD : fX18_statusOf_i4 fu a1 (fX18_statusOf_h4 fu a1 f4) v2 v3 M L = some (r0, M0, L0) := hD
      have hb28 : ∀ (v3 : Int32) (s0 : Int32) (M : mwM) (L : mwL) (H : Heap) (locs : List Loc) (ls : Array Slot), fX18_statusOf_b28 fu a1 (fX18_statusOf_h4 fu a1 f4) v3 s0 M L = some (r0, M0, L0) → mw_W G ad NF TF FF M L H locs → lv_has ls 4 [(0, .ref (ad 902)), (1, .int a1), (3, .int v3)] → W p l e ({ frames := 1, cells := 0, slots := 0, locals := 22 }) s m [.ref (ad 902), .int a1].toArray below meth c H locs 0 0 (MQ below (mw_Qi G ad NF TF FF (mw_eqI r0 M0 L0)) [.ref (ad 902), .int a1].toArray s 0 0 (mw_fr G)) (F0 m 28 ls [.int s0]) := by
        intro v3 s0 M L H locs ls hD hw hl
        unfold fX18_statusOf_b28 at hD
        refine lv_istore_n (lv' := [(2, .int s0), (0, .ref (ad 902)), (1, .int a1), (3, .int v3)]) C.1.1 C.1.2.1 dX18_statusOf_28 rfl hl (by decide) rfl (fun ls hl => ?_)
        obtain ⟨x7, ex7, hD⟩ := g_let hD
        refine lv_iinc (v := x7) (lv' := [(3, .int x7), (2, .int s0), (0, .ref (ad 902)), (1, .int a1)]) C.1.1 C.1.2.1 dX18_statusOf_29 hl (k := 3) rfl (by rw [ex7]; rfl) (by decide) rfl (fun ls hl => ?_)
        refine lv_goto (tgt := 4) C.1.1 C.1.2.1 dX18_statusOf_32 (by decide) ?_
        exact ih4 s0 x7 M L _ _ ls hD hw (lv_sub hl [2, 3, 1, 0] rfl)
      unfold fX18_statusOf_i4 at hD
      refine lv_iload_n C.1.1 C.1.2.1 dX18_statusOf_4 rfl (lv_at hl 3 rfl) ?_
      refine lv_bipush (v := 8) C.1.1 C.1.2.1 dX18_statusOf_5 (by decide) ?_
      refine lv_icmp_ge (tgt := 35) C.1.1 C.1.2.1 dX18_statusOf_7 (by decide) (fun c1 => ?_) (fun c1 => ?_)
      · replace hD := g_pos c1 hD
        refine lv_iload_n C.1.1 C.1.2.1 dX18_statusOf_35 rfl (lv_at hl 2 rfl) ?_
        exact mr_iret C hr hlocks hw rfl (Option.some.inj hD) dX18_statusOf_36
      · replace hD := g_neg c1 hD
        refine lv_aload_n C.1.1 C.1.2.1 dX18_statusOf_10 rfl (lv_at hl 0 rfl) ?_
        refine lv_iload_n C.1.1 C.1.2.1 dX18_statusOf_11 rfl (lv_at hl 1 rfl) ?_
        refine lv_iload_n C.1.1 C.1.2.1 dX18_statusOf_12 rfl (lv_at hl 3 rfl) ?_
        obtain ⟨r5, M2, L3, h1, hD⟩ := g_b3 hD
        refine md_cvI (As := [.int a1, .int v3]) (rest := []) C hw (tX18_is l G ad fu a1 v3 M L h1) kc_18 (by decide) tf_902 wd_3387 cwX18_is ⟨Nat.le_of_ble_eq_true rfl, Nat.le_of_ble_eq_true rfl⟩ rfl hl.1 (Nat.le_of_ble_eq_true rfl) dX18_statusOf_13 rfl rfl ⟨Nat.zero_le _, Nat.zero_le _⟩ rfl (fun H locs hw => ?_)
        refine lv_if_eq (tgt := 27) C.1.1 C.1.2.1 dX18_statusOf_16 (by decide) (fun c6 => ?_) (fun c6 => ?_)
        · replace hD := g_pos c6 hD
          refine lv_iload_n C.1.1 C.1.2.1 dX18_statusOf_27 rfl (lv_at hl 2 rfl) ?_
          exact hb28 v3 v2 M2 L3 _ _ ls hD hw (lv_sub hl [0, 1, 3] rfl)
        · replace hD := g_neg c6 hD
          refine lv_iload_n C.1.1 C.1.2.1 dX18_statusOf_19 rfl (lv_at hl 2 rfl) ?_
          refine lv_iconst (v := 1) C.1.1 C.1.2.1 dX18_statusOf_20 (by decide) ?_
          refine lv_iload_n C.1.1 C.1.2.1 dX18_statusOf_21 rfl (lv_at hl 3 rfl) ?_
          refine lv_ishl C.1.1 C.1.2.1 dX18_statusOf_22 ?_
          refine lv_iadd C.1.1 C.1.2.1 dX18_statusOf_23 ?_
          refine lv_goto (tgt := 28) C.1.1 C.1.2.1 dX18_statusOf_24 (by decide) ?_
          exact hb28 v3 (v2 + (1 <<< (v3 &&& 31))) M2 L3 _ _ ls hD hw (lv_sub hl [0, 1, 3] rfl)
  unfold DX18_statusOf at hD
  refine lv_iconst (v := 0) C.1.1 C.1.2.1 dX18_statusOf_0 (by decide) ?_
  refine lv_istore_n (lv' := [(2, .int 0), (0, .ref (ad 902)), (1, .int a1)]) C.1.1 C.1.2.1 dX18_statusOf_1 rfl hl (by decide) rfl (fun ls hl => ?_)
  refine lv_iconst (v := 0) C.1.1 C.1.2.1 dX18_statusOf_2 (by decide) ?_
  refine lv_istore_n (lv' := [(3, .int 0), (2, .int 0), (0, .ref (ad 902)), (1, .int a1)]) C.1.1 C.1.2.1 dX18_statusOf_3 rfl hl (by decide) rfl (fun ls hl => ?_)
  exact hh4 fu 0 0 M L _ _ ls hD hw (lv_sub hl [2, 3, 1, 0] rfl)

theorem dX18_freshen_0 : decode cX18_freshen 0 = .ok (.iconst 0, 1) := by decide +kernel
theorem dX18_freshen_1 : decode cX18_freshen 1 = .ok (.istore_n 2, 1) := by decide +kernel
theorem dX18_freshen_2 : decode cX18_freshen 2 = .ok (.iload_n 2, 1) := by decide +kernel
theorem dX18_freshen_3 : decode cX18_freshen 3 = .ok (.bipush 8, 2) := by decide +kernel
theorem dX18_freshen_5 : decode cX18_freshen 5 = .ok (.if_icmp .ge 31, 3) := by decide +kernel
theorem dX18_freshen_8 : decode cX18_freshen 8 = .ok (.aload_n 0, 1) := by decide +kernel
theorem dX18_freshen_9 : decode cX18_freshen 9 = .ok (.iload_n 1, 1) := by decide +kernel
theorem dX18_freshen_10 : decode cX18_freshen 10 = .ok (.iload_n 2, 1) := by decide +kernel
theorem dX18_freshen_11 : decode cX18_freshen 11 = .ok (.iload_n 2, 1) := by decide +kernel
theorem dX18_freshen_12 : decode cX18_freshen 12 = .ok (.iconst 4, 1) := by decide +kernel
theorem dX18_freshen_13 : decode cX18_freshen 13 = .ok (.if_icmp .eq 9, 3) := by decide +kernel
theorem dX18_freshen_16 : decode cX18_freshen 16 = .ok (.iload_n 2, 1) := by decide +kernel
theorem dX18_freshen_17 : decode cX18_freshen 17 = .ok (.bipush 6, 2) := by decide +kernel
theorem dX18_freshen_19 : decode cX18_freshen 19 = .ok (.if_icmp .ne 7, 3) := by decide +kernel
theorem dX18_freshen_22 : decode cX18_freshen 22 = .ok (.iconst 1, 1) := by decide +kernel
theorem dX18_freshen_23 : decode cX18_freshen 23 = .ok (.goto 4, 3) := by decide +kernel
theorem dX18_freshen_26 : decode cX18_freshen 26 = .ok (.iconst 0, 1) := by decide +kernel
theorem dX18_freshen_27 : decode cX18_freshen 27 = .ok (.invokevirtual 95, 3) := by decide +kernel
theorem dX18_freshen_30 : decode cX18_freshen 30 = .ok (.iinc 2 1, 3) := by decide +kernel
theorem dX18_freshen_33 : decode cX18_freshen 33 = .ok (.goto (-31), 3) := by decide +kernel
theorem dX18_freshen_36 : decode cX18_freshen 36 = .ok (.aload_n 0, 1) := by decide +kernel
theorem dX18_freshen_37 : decode cX18_freshen 37 = .ok (.getfield 22, 3) := by decide +kernel
theorem dX18_freshen_40 : decode cX18_freshen 40 = .ok (.iload_n 1, 1) := by decide +kernel
theorem dX18_freshen_41 : decode cX18_freshen 41 = .ok (.iconst 0, 1) := by decide +kernel
theorem dX18_freshen_42 : decode cX18_freshen 42 = .ok (.iastore, 1) := by decide +kernel
theorem dX18_freshen_43 : decode cX18_freshen 43 = .ok (.aload_n 0, 1) := by decide +kernel
theorem dX18_freshen_44 : decode cX18_freshen 44 = .ok (.getfield 29, 3) := by decide +kernel
theorem dX18_freshen_47 : decode cX18_freshen 47 = .ok (.iload_n 1, 1) := by decide +kernel
theorem dX18_freshen_48 : decode cX18_freshen 48 = .ok (.iconst 0, 1) := by decide +kernel
theorem dX18_freshen_49 : decode cX18_freshen 49 = .ok (.iastore, 1) := by decide +kernel
theorem dX18_freshen_50 : decode cX18_freshen 50 = .ok (.aload_n 0, 1) := by decide +kernel
theorem dX18_freshen_51 : decode cX18_freshen 51 = .ok (.getfield 32, 3) := by decide +kernel
theorem dX18_freshen_54 : decode cX18_freshen 54 = .ok (.iload_n 1, 1) := by decide +kernel
theorem dX18_freshen_55 : decode cX18_freshen 55 = .ok (.iconst 0, 1) := by decide +kernel
theorem dX18_freshen_56 : decode cX18_freshen 56 = .ok (.iastore, 1) := by decide +kernel
theorem dX18_freshen_57 : decode cX18_freshen 57 = .ok (.aload_n 0, 1) := by decide +kernel
theorem dX18_freshen_58 : decode cX18_freshen 58 = .ok (.getfield 35, 3) := by decide +kernel
theorem dX18_freshen_61 : decode cX18_freshen 61 = .ok (.iload_n 1, 1) := by decide +kernel
theorem dX18_freshen_62 : decode cX18_freshen 62 = .ok (.iconst 0, 1) := by decide +kernel
theorem dX18_freshen_63 : decode cX18_freshen 63 = .ok (.iastore, 1) := by decide +kernel
theorem dX18_freshen_64 : decode cX18_freshen 64 = .ok (.return_, 1) := by decide +kernel
theorem cwX18_freshen : mw_cwV yX18_freshen cX18_freshen 3 (none) 1 := ⟨⟨wd_18, wd_3378, by decide +kernel⟩, wd_3377, sl_189⟩
set_option maxHeartbeats 4000000 in
set_option maxRecDepth 100000 in
theorem tX18_freshen (l : Launch) (G : mwG) (ad : Nat → Nat) (fu : Nat) (a1 : Int32) (M : mwM) (L : mwL) {M0 : mwM} {L0 : mwL} (hD : DX18_freshen fu a1 M L = some (M0, L0)) : Met l yX18_freshen (Cond.code yX18_freshen cX18_freshen 3 (none) :: GT) ({ frames := 1, cells := 0, slots := 0, locals := 23 }) (mw_Pre G ad NF TF FF M L [.ref (ad 902), .int a1]) (mw_Qv G ad NF TF FF (mw_eqV M0 L0)) 0 0 (mw_fr G) := by
  refine mw_enter (by decide) (Nat.le_of_ble_eq_true rfl) ?_
  intro p e s m below meth c ls C hr hlocks hnm hw hl
  have hl : lv_has ls 3 [(0, .ref (ad 902)), (1, .int a1)] := hl
  have hh2 : ∀ (f : Nat) (v2 : Int32) (M : mwM) (L : mwL) (H : Heap) (locs : List Loc) (ls : Array Slot), fX18_freshen_h2 fu a1 f (v2, M, L) = some (M0, L0) → mw_W G ad NF TF FF M L H locs → lv_has ls 3 [(0, .ref (ad 902)), (1, .int a1), (2, .int v2)] → W p l e ({ frames := 1, cells := 0, slots := 0, locals := 23 }) s m [.ref (ad 902), .int a1].toArray below meth c H locs 0 0 (MQ below (mw_Qv G ad NF TF FF (mw_eqV M0 L0)) [.ref (ad 902), .int a1].toArray s 0 0 (mw_fr G)) (F0 m 2 ls []) := by
    intro f
    induction f with
    | zero => intro v2 M L H locs ls hD; cases hD
    | succ f2 ih2 =>
      intro v2 M L H locs ls hD hw hl
      replace hD : fX18_freshen_i2 fu a1 (fX18_freshen_h2 fu a1 f2) v2 M L = some (M0, L0) := hD
      have hb27 : ∀ (v2 : Int32) (s2 : Int32) (s3 : Int32) (M : mwM) (L : mwL) (H : Heap) (locs : List Loc) (ls : Array Slot), fX18_freshen_b27 fu a1 (fX18_freshen_h2 fu a1 f2) v2 s2 s3 M L = some (M0, L0) → mw_W G ad NF TF FF M L H locs → lv_has ls 3 [(0, .ref (ad 902)), (1, .int a1), (2, .int v2)] → W p l e ({ frames := 1, cells := 0, slots := 0, locals := 23 }) s m [.ref (ad 902), .int a1].toArray below meth c H locs 0 0 (MQ below (mw_Qv G ad NF TF FF (mw_eqV M0 L0)) [.ref (ad 902), .int a1].toArray s 0 0 (mw_fr G)) (F0 m 27 ls [.int s3, .int s2, .int a1, .ref (ad 902)]) := by
        intro v2 s2 s3 M L H locs ls hD hw hl
        unfold fX18_freshen_b27 at hD
        obtain ⟨M12, L13, h1, hD⟩ := g_b2 hD
        refine md_cvV (As := [.int a1, .int s2, .int s3]) (rest := []) C hw (tX18_set l G ad fu a1 s2 s3 M L h1) kc_18 (by decide) tf_902 wd_3379 cwX18_set ⟨Nat.le_of_ble_eq_true rfl, Nat.le_of_ble_eq_true rfl⟩ rfl hl.1 (Nat.le_of_ble_eq_true rfl) dX18_freshen_27 rfl rfl ⟨Nat.zero_le _, Nat.zero_le _⟩ rfl (fun H locs hw => ?_)
        obtain ⟨x14, ex14, hD⟩ := g_let hD
        refine lv_iinc (v := x14) (lv' := [(2, .int x14), (0, .ref (ad 902)), (1, .int a1)]) C.1.1 C.1.2.1 dX18_freshen_30 hl (k := 2) rfl (by rw [ex14]; rfl) (by decide) rfl (fun ls hl => ?_)
        refine lv_goto (tgt := 2) C.1.1 C.1.2.1 dX18_freshen_33 (by decide) ?_
        exact ih2 x14 M12 L13 _ _ ls hD hw (lv_sub hl [1, 2, 0] rfl)
      have hb22 : ∀ (v2 : Int32) (s2 : Int32) (M : mwM) (L : mwL) (H : Heap) (locs : List Loc) (ls : Array Slot), fX18_freshen_b22 fu a1 (fX18_freshen_h2 fu a1 f2) v2 s2 M L = some (M0, L0) → mw_W G ad NF TF FF M L H locs → lv_has ls 3 [(0, .ref (ad 902)), (1, .int a1), (2, .int v2)] → W p l e ({ frames := 1, cells := 0, slots := 0, locals := 23 }) s m [.ref (ad 902), .int a1].toArray below meth c H locs 0 0 (MQ below (mw_Qv G ad NF TF FF (mw_eqV M0 L0)) [.ref (ad 902), .int a1].toArray s 0 0 (mw_fr G)) (F0 m 22 ls [.int s2, .int a1, .ref (ad 902)]) := by
        intro v2 s2 M L H locs ls hD hw hl
        unfold fX18_freshen_b22 at hD
        refine lv_iconst (v := 1) C.1.1 C.1.2.1 dX18_freshen_22 (by decide) ?_
        refine lv_goto (tgt := 27) C.1.1 C.1.2.1 dX18_freshen_23 (by decide) ?_
        exact hb27 v2 s2 1 M L _ _ ls hD hw (lv_sub hl [0, 1, 2] rfl)
      unfold fX18_freshen_i2 at hD
      refine lv_iload_n C.1.1 C.1.2.1 dX18_freshen_2 rfl (lv_at hl 2 rfl) ?_
      refine lv_bipush (v := 8) C.1.1 C.1.2.1 dX18_freshen_3 (by decide) ?_
      refine lv_icmp_ge (tgt := 36) C.1.1 C.1.2.1 dX18_freshen_5 (by decide) (fun c1 => ?_) (fun c1 => ?_)
      · replace hD := g_pos c1 hD
        refine lv_aload_n C.1.1 C.1.2.1 dX18_freshen_36 rfl (lv_at hl 0 rfl) ?_
        refine mr_getR C hw kc_18 7 (by decide) tf_902 ff_902_7 wd_2474 dX18_freshen_37 (by decide) rfl ?_
        refine lv_iload_n C.1.1 C.1.2.1 dX18_freshen_40 rfl (lv_at hl 1 rfl) ?_
        refine lv_iconst (v := 0) C.1.1 C.1.2.1 dX18_freshen_41 (by decide) ?_
        obtain ⟨q2, hD⟩ := g_ck hD
        obtain ⟨M3, eM3, hD⟩ := g_let hD
        refine mr_iast C hw (by decide) tf_907 q2 dX18_freshen_42 (fun H locs hw => ?_)
        replace hw : mw_W G ad NF TF FF M3 L H locs := by rw [eM3]; exact hw
        refine lv_aload_n C.1.1 C.1.2.1 dX18_freshen_43 rfl (lv_at hl 0 rfl) ?_
        refine mr_getR C hw kc_18 9 (by decide) tf_902 ff_902_9 wd_2476 dX18_freshen_44 (by decide) rfl ?_
        refine lv_iload_n C.1.1 C.1.2.1 dX18_freshen_47 rfl (lv_at hl 1 rfl) ?_
        refine lv_iconst (v := 0) C.1.1 C.1.2.1 dX18_freshen_48 (by decide) ?_
        obtain ⟨q4, hD⟩ := g_ck hD
        obtain ⟨M5, eM5, hD⟩ := g_let hD
        refine mr_iast C hw (by decide) tf_909 q4 dX18_freshen_49 (fun H locs hw => ?_)
        replace hw : mw_W G ad NF TF FF M5 L H locs := by rw [eM5]; exact hw
        refine lv_aload_n C.1.1 C.1.2.1 dX18_freshen_50 rfl (lv_at hl 0 rfl) ?_
        refine mr_getR C hw kc_18 10 (by decide) tf_902 ff_902_10 wd_2477 dX18_freshen_51 (by decide) rfl ?_
        refine lv_iload_n C.1.1 C.1.2.1 dX18_freshen_54 rfl (lv_at hl 1 rfl) ?_
        refine lv_iconst (v := 0) C.1.1 C.1.2.1 dX18_freshen_55 (by decide) ?_
        obtain ⟨q6, hD⟩ := g_ck hD
        obtain ⟨M7, eM7, hD⟩ := g_let hD
        refine mr_iast C hw (by decide) tf_910 q6 dX18_freshen_56 (fun H locs hw => ?_)
        replace hw : mw_W G ad NF TF FF M7 L H locs := by rw [eM7]; exact hw
        refine lv_aload_n C.1.1 C.1.2.1 dX18_freshen_57 rfl (lv_at hl 0 rfl) ?_
        refine mr_getR C hw kc_18 11 (by decide) tf_902 ff_902_11 wd_2478 dX18_freshen_58 (by decide) rfl ?_
        refine lv_iload_n C.1.1 C.1.2.1 dX18_freshen_61 rfl (lv_at hl 1 rfl) ?_
        refine lv_iconst (v := 0) C.1.1 C.1.2.1 dX18_freshen_62 (by decide) ?_
        obtain ⟨q8, hD⟩ := g_ck hD
        obtain ⟨M9, eM9, hD⟩ := g_let hD
        refine mr_iast C hw (by decide) tf_911 q8 dX18_freshen_63 (fun H locs hw => ?_)
        replace hw : mw_W G ad NF TF FF M9 L H locs := by rw [eM9]; exact hw
        exact mr_vret C hr hlocks hw (Option.some.inj hD) dX18_freshen_64
      · replace hD := g_neg c1 hD
        refine lv_aload_n C.1.1 C.1.2.1 dX18_freshen_8 rfl (lv_at hl 0 rfl) ?_
        refine lv_iload_n C.1.1 C.1.2.1 dX18_freshen_9 rfl (lv_at hl 1 rfl) ?_
        refine lv_iload_n C.1.1 C.1.2.1 dX18_freshen_10 rfl (lv_at hl 2 rfl) ?_
        refine lv_iload_n C.1.1 C.1.2.1 dX18_freshen_11 rfl (lv_at hl 2 rfl) ?_
        refine lv_iconst (v := 4) C.1.1 C.1.2.1 dX18_freshen_12 (by decide) ?_
        refine lv_icmp_eq (tgt := 22) C.1.1 C.1.2.1 dX18_freshen_13 (by decide) (fun c10 => ?_) (fun c10 => ?_)
        · replace hD := g_pos c10 hD
          exact hb22 v2 v2 M L _ _ ls hD hw (lv_sub hl [0, 1, 2] rfl)
        · replace hD := g_neg c10 hD
          refine lv_iload_n C.1.1 C.1.2.1 dX18_freshen_16 rfl (lv_at hl 2 rfl) ?_
          refine lv_bipush (v := 6) C.1.1 C.1.2.1 dX18_freshen_17 (by decide) ?_
          refine lv_icmp_ne (tgt := 26) C.1.1 C.1.2.1 dX18_freshen_19 (by decide) (fun c11 => ?_) (fun c11 => ?_)
          · replace hD := g_neg c11 hD
            refine lv_iconst (v := 0) C.1.1 C.1.2.1 dX18_freshen_26 (by decide) ?_
            exact hb27 v2 v2 0 M L _ _ ls hD hw (lv_sub hl [0, 1, 2] rfl)
          · replace hD := g_pos c11 hD
            exact hb22 v2 v2 M L _ _ ls hD hw (lv_sub hl [0, 1, 2] rfl)
  unfold DX18_freshen at hD
  refine lv_iconst (v := 0) C.1.1 C.1.2.1 dX18_freshen_0 (by decide) ?_
  refine lv_istore_n (lv' := [(2, .int 0), (0, .ref (ad 902)), (1, .int a1)]) C.1.1 C.1.2.1 dX18_freshen_1 rfl hl (by decide) rfl (fun ls hl => ?_)
  exact hh2 fu 0 M L _ _ ls hD hw (lv_sub hl [1, 2, 0] rfl)

theorem dX18_keep_0 : decode cX18_keep 0 = .ok (.iconst 0, 1) := by decide +kernel
theorem dX18_keep_1 : decode cX18_keep 1 = .ok (.istore_n 2, 1) := by decide +kernel
theorem dX18_keep_2 : decode cX18_keep 2 = .ok (.iload_n 2, 1) := by decide +kernel
theorem dX18_keep_3 : decode cX18_keep 3 = .ok (.bipush 8, 2) := by decide +kernel
theorem dX18_keep_5 : decode cX18_keep 5 = .ok (.if_icmp .ge 26, 3) := by decide +kernel
theorem dX18_keep_8 : decode cX18_keep 8 = .ok (.aload_n 0, 1) := by decide +kernel
theorem dX18_keep_9 : decode cX18_keep 9 = .ok (.getfield 38, 3) := by decide +kernel
theorem dX18_keep_12 : decode cX18_keep 12 = .ok (.bipush 8, 2) := by decide +kernel
theorem dX18_keep_14 : decode cX18_keep 14 = .ok (.iload_n 1, 1) := by decide +kernel
theorem dX18_keep_15 : decode cX18_keep 15 = .ok (.imul, 1) := by decide +kernel
theorem dX18_keep_16 : decode cX18_keep 16 = .ok (.iload_n 2, 1) := by decide +kernel
theorem dX18_keep_17 : decode cX18_keep 17 = .ok (.iadd, 1) := by decide +kernel
theorem dX18_keep_18 : decode cX18_keep 18 = .ok (.aload_n 0, 1) := by decide +kernel
theorem dX18_keep_19 : decode cX18_keep 19 = .ok (.iload_n 1, 1) := by decide +kernel
theorem dX18_keep_20 : decode cX18_keep 20 = .ok (.iload_n 2, 1) := by decide +kernel
theorem dX18_keep_21 : decode cX18_keep 21 = .ok (.invokevirtual 91, 3) := by decide +kernel
theorem dX18_keep_24 : decode cX18_keep 24 = .ok (.bastore, 1) := by decide +kernel
theorem dX18_keep_25 : decode cX18_keep 25 = .ok (.iinc 2 1, 3) := by decide +kernel
theorem dX18_keep_28 : decode cX18_keep 28 = .ok (.goto (-26), 3) := by decide +kernel
theorem dX18_keep_31 : decode cX18_keep 31 = .ok (.aload_n 0, 1) := by decide +kernel
theorem dX18_keep_32 : decode cX18_keep 32 = .ok (.getfield 41, 3) := by decide +kernel
theorem dX18_keep_35 : decode cX18_keep 35 = .ok (.iload_n 1, 1) := by decide +kernel
theorem dX18_keep_36 : decode cX18_keep 36 = .ok (.aload_n 0, 1) := by decide +kernel
theorem dX18_keep_37 : decode cX18_keep 37 = .ok (.getfield 29, 3) := by decide +kernel
theorem dX18_keep_40 : decode cX18_keep 40 = .ok (.iload_n 1, 1) := by decide +kernel
theorem dX18_keep_41 : decode cX18_keep 41 = .ok (.iaload, 1) := by decide +kernel
theorem dX18_keep_42 : decode cX18_keep 42 = .ok (.iastore, 1) := by decide +kernel
theorem dX18_keep_43 : decode cX18_keep 43 = .ok (.aload_n 0, 1) := by decide +kernel
theorem dX18_keep_44 : decode cX18_keep 44 = .ok (.getfield 44, 3) := by decide +kernel
theorem dX18_keep_47 : decode cX18_keep 47 = .ok (.iload_n 1, 1) := by decide +kernel
theorem dX18_keep_48 : decode cX18_keep 48 = .ok (.aload_n 0, 1) := by decide +kernel
theorem dX18_keep_49 : decode cX18_keep 49 = .ok (.getfield 32, 3) := by decide +kernel
theorem dX18_keep_52 : decode cX18_keep 52 = .ok (.iload_n 1, 1) := by decide +kernel
theorem dX18_keep_53 : decode cX18_keep 53 = .ok (.iaload, 1) := by decide +kernel
theorem dX18_keep_54 : decode cX18_keep 54 = .ok (.iastore, 1) := by decide +kernel
theorem dX18_keep_55 : decode cX18_keep 55 = .ok (.aload_n 0, 1) := by decide +kernel
theorem dX18_keep_56 : decode cX18_keep 56 = .ok (.getfield 47, 3) := by decide +kernel
theorem dX18_keep_59 : decode cX18_keep 59 = .ok (.iload_n 1, 1) := by decide +kernel
theorem dX18_keep_60 : decode cX18_keep 60 = .ok (.aload_n 0, 1) := by decide +kernel
theorem dX18_keep_61 : decode cX18_keep 61 = .ok (.getfield 35, 3) := by decide +kernel
theorem dX18_keep_64 : decode cX18_keep 64 = .ok (.iload_n 1, 1) := by decide +kernel
theorem dX18_keep_65 : decode cX18_keep 65 = .ok (.iaload, 1) := by decide +kernel
theorem dX18_keep_66 : decode cX18_keep 66 = .ok (.iastore, 1) := by decide +kernel
theorem dX18_keep_67 : decode cX18_keep 67 = .ok (.return_, 1) := by decide +kernel
theorem cwX18_keep : mw_cwV yX18_keep cX18_keep 3 (none) 1 := ⟨⟨wd_18, wd_3386, by decide +kernel⟩, wd_3385, sl_191⟩
set_option maxHeartbeats 4000000 in
set_option maxRecDepth 100000 in
theorem tX18_keep (l : Launch) (G : mwG) (ad : Nat → Nat) (fu : Nat) (a1 : Int32) (M : mwM) (L : mwL) {M0 : mwM} {L0 : mwL} (hD : DX18_keep fu a1 M L = some (M0, L0)) : Met l yX18_keep (Cond.code yX18_keep cX18_keep 3 (none) :: GT) ({ frames := 1, cells := 0, slots := 0, locals := 22 }) (mw_Pre G ad NF TF FF M L [.ref (ad 902), .int a1]) (mw_Qv G ad NF TF FF (mw_eqV M0 L0)) 0 0 (mw_fr G) := by
  refine mw_enter (by decide) (Nat.le_of_ble_eq_true rfl) ?_
  intro p e s m below meth c ls C hr hlocks hnm hw hl
  have hl : lv_has ls 3 [(0, .ref (ad 902)), (1, .int a1)] := hl
  have hh2 : ∀ (f : Nat) (v2 : Int32) (M : mwM) (L : mwL) (H : Heap) (locs : List Loc) (ls : Array Slot), fX18_keep_h2 fu a1 f (v2, M, L) = some (M0, L0) → mw_W G ad NF TF FF M L H locs → lv_has ls 3 [(0, .ref (ad 902)), (1, .int a1), (2, .int v2)] → W p l e ({ frames := 1, cells := 0, slots := 0, locals := 22 }) s m [.ref (ad 902), .int a1].toArray below meth c H locs 0 0 (MQ below (mw_Qv G ad NF TF FF (mw_eqV M0 L0)) [.ref (ad 902), .int a1].toArray s 0 0 (mw_fr G)) (F0 m 2 ls []) := by
    intro f
    induction f with
    | zero => intro v2 M L H locs ls hD; cases hD
    | succ f2 ih2 =>
      intro v2 M L H locs ls hD hw hl
      replace hD : fX18_keep_i2 fu a1 (fX18_keep_h2 fu a1 f2) v2 M L = some (M0, L0) := hD
      unfold fX18_keep_i2 at hD
      refine lv_iload_n C.1.1 C.1.2.1 dX18_keep_2 rfl (lv_at hl 2 rfl) ?_
      refine lv_bipush (v := 8) C.1.1 C.1.2.1 dX18_keep_3 (by decide) ?_
      refine lv_icmp_ge (tgt := 31) C.1.1 C.1.2.1 dX18_keep_5 (by decide) (fun c1 => ?_) (fun c1 => ?_)
      · replace hD := g_pos c1 hD
        refine lv_aload_n C.1.1 C.1.2.1 dX18_keep_31 rfl (lv_at hl 0 rfl) ?_
        refine mr_getR C hw kc_18 13 (by decide) tf_902 ff_902_13 wd_2480 dX18_keep_32 (by decide) rfl ?_
        refine lv_iload_n C.1.1 C.1.2.1 dX18_keep_35 rfl (lv_at hl 1 rfl) ?_
        refine lv_aload_n C.1.1 C.1.2.1 dX18_keep_36 rfl (lv_at hl 0 rfl) ?_
        refine mr_getR C hw kc_18 9 (by decide) tf_902 ff_902_9 wd_2476 dX18_keep_37 (by decide) rfl ?_
        refine lv_iload_n C.1.1 C.1.2.1 dX18_keep_40 rfl (lv_at hl 1 rfl) ?_
        obtain ⟨q2, hD⟩ := g_ck hD
        refine mr_iald C hw (by decide) tf_909 q2 dX18_keep_41 ?_
        obtain ⟨q3, hD⟩ := g_ck hD
        obtain ⟨M4, eM4, hD⟩ := g_let hD
        refine mr_iast C hw (by decide) tf_913 q3 dX18_keep_42 (fun H locs hw => ?_)
        replace hw : mw_W G ad NF TF FF M4 L H locs := by rw [eM4]; exact hw
        refine lv_aload_n C.1.1 C.1.2.1 dX18_keep_43 rfl (lv_at hl 0 rfl) ?_
        refine mr_getR C hw kc_18 14 (by decide) tf_902 ff_902_14 wd_2481 dX18_keep_44 (by decide) rfl ?_
        refine lv_iload_n C.1.1 C.1.2.1 dX18_keep_47 rfl (lv_at hl 1 rfl) ?_
        refine lv_aload_n C.1.1 C.1.2.1 dX18_keep_48 rfl (lv_at hl 0 rfl) ?_
        refine mr_getR C hw kc_18 10 (by decide) tf_902 ff_902_10 wd_2477 dX18_keep_49 (by decide) rfl ?_
        refine lv_iload_n C.1.1 C.1.2.1 dX18_keep_52 rfl (lv_at hl 1 rfl) ?_
        obtain ⟨q5, hD⟩ := g_ck hD
        refine mr_iald C hw (by decide) tf_910 q5 dX18_keep_53 ?_
        obtain ⟨q6, hD⟩ := g_ck hD
        obtain ⟨M7, eM7, hD⟩ := g_let hD
        refine mr_iast C hw (by decide) tf_914 q6 dX18_keep_54 (fun H locs hw => ?_)
        replace hw : mw_W G ad NF TF FF M7 L H locs := by rw [eM7]; exact hw
        refine lv_aload_n C.1.1 C.1.2.1 dX18_keep_55 rfl (lv_at hl 0 rfl) ?_
        refine mr_getR C hw kc_18 15 (by decide) tf_902 ff_902_15 wd_2482 dX18_keep_56 (by decide) rfl ?_
        refine lv_iload_n C.1.1 C.1.2.1 dX18_keep_59 rfl (lv_at hl 1 rfl) ?_
        refine lv_aload_n C.1.1 C.1.2.1 dX18_keep_60 rfl (lv_at hl 0 rfl) ?_
        refine mr_getR C hw kc_18 11 (by decide) tf_902 ff_902_11 wd_2478 dX18_keep_61 (by decide) rfl ?_
        refine lv_iload_n C.1.1 C.1.2.1 dX18_keep_64 rfl (lv_at hl 1 rfl) ?_
        obtain ⟨q8, hD⟩ := g_ck hD
        refine mr_iald C hw (by decide) tf_911 q8 dX18_keep_65 ?_
        obtain ⟨q9, hD⟩ := g_ck hD
        obtain ⟨M10, eM10, hD⟩ := g_let hD
        refine mr_iast C hw (by decide) tf_915 q9 dX18_keep_66 (fun H locs hw => ?_)
        replace hw : mw_W G ad NF TF FF M10 L H locs := by rw [eM10]; exact hw
        exact mr_vret C hr hlocks hw (Option.some.inj hD) dX18_keep_67
      · replace hD := g_neg c1 hD
        refine lv_aload_n C.1.1 C.1.2.1 dX18_keep_8 rfl (lv_at hl 0 rfl) ?_
        refine mr_getR C hw kc_18 12 (by decide) tf_902 ff_902_12 wd_2479 dX18_keep_9 (by decide) rfl ?_
        refine lv_bipush (v := 8) C.1.1 C.1.2.1 dX18_keep_12 (by decide) ?_
        refine lv_iload_n C.1.1 C.1.2.1 dX18_keep_14 rfl (lv_at hl 1 rfl) ?_
        refine lv_imul C.1.1 C.1.2.1 dX18_keep_15 ?_
        refine lv_iload_n C.1.1 C.1.2.1 dX18_keep_16 rfl (lv_at hl 2 rfl) ?_
        refine lv_iadd C.1.1 C.1.2.1 dX18_keep_17 ?_
        refine lv_aload_n C.1.1 C.1.2.1 dX18_keep_18 rfl (lv_at hl 0 rfl) ?_
        refine lv_iload_n C.1.1 C.1.2.1 dX18_keep_19 rfl (lv_at hl 1 rfl) ?_
        refine lv_iload_n C.1.1 C.1.2.1 dX18_keep_20 rfl (lv_at hl 2 rfl) ?_
        obtain ⟨r13, M11, L12, h1, hD⟩ := g_b3 hD
        refine md_cvI (As := [.int a1, .int v2]) (rest := [.int ((8 * a1) + v2), .ref (ad 912)]) C hw (tX18_is l G ad fu a1 v2 M L h1) kc_18 (by decide) tf_902 wd_3387 cwX18_is ⟨Nat.le_of_ble_eq_true rfl, Nat.le_of_ble_eq_true rfl⟩ rfl hl.1 (Nat.le_of_ble_eq_true rfl) dX18_keep_21 rfl rfl ⟨Nat.zero_le _, Nat.zero_le _⟩ rfl (fun H locs hw => ?_)
        obtain ⟨q14, hD⟩ := g_ck hD
        obtain ⟨M15, eM15, hD⟩ := g_let hD
        refine mr_zast C hw (by decide) tf_912 q14 dX18_keep_24 (fun H locs hw => ?_)
        replace hw : mw_W G ad NF TF FF M15 L12 H locs := by rw [eM15]; exact hw
        obtain ⟨x16, ex16, hD⟩ := g_let hD
        refine lv_iinc (v := x16) (lv' := [(2, .int x16), (0, .ref (ad 902)), (1, .int a1)]) C.1.1 C.1.2.1 dX18_keep_25 hl (k := 2) rfl (by rw [ex16]; rfl) (by decide) rfl (fun ls hl => ?_)
        refine lv_goto (tgt := 2) C.1.1 C.1.2.1 dX18_keep_28 (by decide) ?_
        exact ih2 x16 M15 L12 _ _ ls hD hw (lv_sub hl [1, 2, 0] rfl)
  unfold DX18_keep at hD
  refine lv_iconst (v := 0) C.1.1 C.1.2.1 dX18_keep_0 (by decide) ?_
  refine lv_istore_n (lv' := [(2, .int 0), (0, .ref (ad 902)), (1, .int a1)]) C.1.1 C.1.2.1 dX18_keep_1 rfl hl (by decide) rfl (fun ls hl => ?_)
  exact hh2 fu 0 M L _ _ ls hD hw (lv_sub hl [1, 2, 0] rfl)

theorem dX18_code_0 : decode cX18_code 0 = .ok (.aload_n 0, 1) := by decide +kernel
theorem dX18_code_1 : decode cX18_code 1 = .ok (.iconst 0, 1) := by decide +kernel
theorem dX18_code_2 : decode cX18_code 2 = .ok (.putfield 88, 3) := by decide +kernel
theorem dX18_code_5 : decode cX18_code 5 = .ok (.iload_n 1, 1) := by decide +kernel
theorem dX18_code_6 : decode cX18_code 6 = .ok (.iconst 1, 1) := by decide +kernel
theorem dX18_code_7 : decode cX18_code 7 = .ok (.if_icmp .lt 32, 3) := by decide +kernel
theorem dX18_code_10 : decode cX18_code 10 = .ok (.iload_n 1, 1) := by decide +kernel
theorem dX18_code_11 : decode cX18_code 11 = .ok (.sipush 255, 3) := by decide +kernel
theorem dX18_code_14 : decode cX18_code 14 = .ok (.if_icmp .gt 25, 3) := by decide +kernel
theorem dX18_code_17 : decode cX18_code 17 = .ok (.iload_n 2, 1) := by decide +kernel
theorem dX18_code_18 : decode cX18_code 18 = .ok (.iconst 1, 1) := by decide +kernel
theorem dX18_code_19 : decode cX18_code 19 = .ok (.if_icmp .lt 20, 3) := by decide +kernel
theorem dX18_code_22 : decode cX18_code 22 = .ok (.iload_n 2, 1) := by decide +kernel
theorem dX18_code_23 : decode cX18_code 23 = .ok (.bipush 127, 2) := by decide +kernel
theorem dX18_code_25 : decode cX18_code 25 = .ok (.if_icmp .gt 14, 3) := by decide +kernel
theorem dX18_code_28 : decode cX18_code 28 = .ok (.iload_n 3, 1) := by decide +kernel
theorem dX18_code_29 : decode cX18_code 29 = .ok (.iconst 1, 1) := by decide +kernel
theorem dX18_code_30 : decode cX18_code 30 = .ok (.if_icmp .lt 9, 3) := by decide +kernel
theorem dX18_code_33 : decode cX18_code 33 = .ok (.iload_n 3, 1) := by decide +kernel
theorem dX18_code_34 : decode cX18_code 34 = .ok (.bipush 127, 2) := by decide +kernel
theorem dX18_code_36 : decode cX18_code 36 = .ok (.if_icmp .le 6, 3) := by decide +kernel
theorem dX18_code_39 : decode cX18_code 39 = .ok (.bipush (-2), 2) := by decide +kernel
theorem dX18_code_41 : decode cX18_code 41 = .ok (.ireturn, 1) := by decide +kernel
theorem dX18_code_42 : decode cX18_code 42 = .ok (.aload_n 0, 1) := by decide +kernel
theorem dX18_code_43 : decode cX18_code 43 = .ok (.getfield 78, 3) := by decide +kernel
theorem dX18_code_46 : decode cX18_code 46 = .ok (.ifCond .eq 6, 3) := by decide +kernel
theorem dX18_code_49 : decode cX18_code 49 = .ok (.bipush (-3), 2) := by decide +kernel
theorem dX18_code_51 : decode cX18_code 51 = .ok (.ireturn, 1) := by decide +kernel
theorem dX18_code_52 : decode cX18_code 52 = .ok (.aload_n 0, 1) := by decide +kernel
theorem dX18_code_53 : decode cX18_code 53 = .ok (.getfield 69, 3) := by decide +kernel
theorem dX18_code_56 : decode cX18_code 56 = .ok (.sipush 200, 3) := by decide +kernel
theorem dX18_code_59 : decode cX18_code 59 = .ok (.if_icmp .ne 6, 3) := by decide +kernel
theorem dX18_code_62 : decode cX18_code 62 = .ok (.bipush (-4), 2) := by decide +kernel
theorem dX18_code_64 : decode cX18_code 64 = .ok (.ireturn, 1) := by decide +kernel
theorem dX18_code_65 : decode cX18_code 65 = .ok (.aload_n 0, 1) := by decide +kernel
theorem dX18_code_66 : decode cX18_code 66 = .ok (.dup, 1) := by decide +kernel
theorem dX18_code_67 : decode cX18_code 67 = .ok (.getfield 69, 3) := by decide +kernel
theorem dX18_code_70 : decode cX18_code 70 = .ok (.iconst 1, 1) := by decide +kernel
theorem dX18_code_71 : decode cX18_code 71 = .ok (.iadd, 1) := by decide +kernel
theorem dX18_code_72 : decode cX18_code 72 = .ok (.putfield 69, 3) := by decide +kernel
theorem dX18_code_75 : decode cX18_code 75 = .ok (.aload_n 0, 1) := by decide +kernel
theorem dX18_code_76 : decode cX18_code 76 = .ok (.getfield 7, 3) := by decide +kernel
theorem dX18_code_79 : decode cX18_code 79 = .ok (.aload_n 0, 1) := by decide +kernel
theorem dX18_code_80 : decode cX18_code 80 = .ok (.getfield 69, 3) := by decide +kernel
theorem dX18_code_83 : decode cX18_code 83 = .ok (.iload_n 1, 1) := by decide +kernel
theorem dX18_code_84 : decode cX18_code 84 = .ok (.iastore, 1) := by decide +kernel
theorem dX18_code_85 : decode cX18_code 85 = .ok (.aload_n 0, 1) := by decide +kernel
theorem dX18_code_86 : decode cX18_code 86 = .ok (.getfield 13, 3) := by decide +kernel
theorem dX18_code_89 : decode cX18_code 89 = .ok (.aload_n 0, 1) := by decide +kernel
theorem dX18_code_90 : decode cX18_code 90 = .ok (.getfield 69, 3) := by decide +kernel
theorem dX18_code_93 : decode cX18_code 93 = .ok (.iload_n 2, 1) := by decide +kernel
theorem dX18_code_94 : decode cX18_code 94 = .ok (.iastore, 1) := by decide +kernel
theorem dX18_code_95 : decode cX18_code 95 = .ok (.aload_n 0, 1) := by decide +kernel
theorem dX18_code_96 : decode cX18_code 96 = .ok (.getfield 16, 3) := by decide +kernel
theorem dX18_code_99 : decode cX18_code 99 = .ok (.aload_n 0, 1) := by decide +kernel
theorem dX18_code_100 : decode cX18_code 100 = .ok (.getfield 69, 3) := by decide +kernel
theorem dX18_code_103 : decode cX18_code 103 = .ok (.iload_n 3, 1) := by decide +kernel
theorem dX18_code_104 : decode cX18_code 104 = .ok (.iastore, 1) := by decide +kernel
theorem dX18_code_105 : decode cX18_code 105 = .ok (.aload_n 0, 1) := by decide +kernel
theorem dX18_code_106 : decode cX18_code 106 = .ok (.aload_n 0, 1) := by decide +kernel
theorem dX18_code_107 : decode cX18_code 107 = .ok (.getfield 69, 3) := by decide +kernel
theorem dX18_code_110 : decode cX18_code 110 = .ok (.invokevirtual 99, 3) := by decide +kernel
theorem dX18_code_113 : decode cX18_code 113 = .ok (.aload_n 0, 1) := by decide +kernel
theorem dX18_code_114 : decode cX18_code 114 = .ok (.aload_n 0, 1) := by decide +kernel
theorem dX18_code_115 : decode cX18_code 115 = .ok (.getfield 69, 3) := by decide +kernel
theorem dX18_code_118 : decode cX18_code 118 = .ok (.invokevirtual 103, 3) := by decide +kernel
theorem dX18_code_121 : decode cX18_code 121 = .ok (.aload_n 0, 1) := by decide +kernel
theorem dX18_code_122 : decode cX18_code 122 = .ok (.getfield 69, 3) := by decide +kernel
theorem dX18_code_125 : decode cX18_code 125 = .ok (.ireturn, 1) := by decide +kernel
theorem cwX18_code : mw_cwV yX18_code cX18_code 4 ((some .int)) 3 := ⟨⟨wd_18, wd_3374, by decide +kernel⟩, wd_3372, wd_3373⟩
set_option maxHeartbeats 4000000 in
set_option maxRecDepth 100000 in
theorem tX18_code (l : Launch) (G : mwG) (ad : Nat → Nat) (fu : Nat) (a1 : Int32) (a2 : Int32) (a3 : Int32) (M : mwM) (L : mwL) {r0 : Int32} {M0 : mwM} {L0 : mwL} (hD : DX18_code fu a1 a2 a3 M L = some (r0, M0, L0)) : Met l yX18_code (Cond.code yX18_code cX18_code 4 ((some .int)) :: GT) ({ frames := 2, cells := 0, slots := 0, locals := 45 }) (mw_Pre G ad NF TF FF M L [.ref (ad 902), .int a1, .int a2, .int a3]) (mw_Qi G ad NF TF FF (mw_eqI r0 M0 L0)) 0 0 (mw_fr G) := by
  refine mw_enter (by decide) (Nat.le_of_ble_eq_true rfl) ?_
  intro p e s m below meth c ls C hr hlocks hnm hw hl
  have hl : lv_has ls 4 [(0, .ref (ad 902)), (1, .int a1), (2, .int a2), (3, .int a3)] := hl
  have hb39 : ∀ (M : mwM) (L : mwL) (H : Heap) (locs : List Loc) (ls : Array Slot), fX18_code_b39 fu a1 a2 a3 M L = some (r0, M0, L0) → mw_W G ad NF TF FF M L H locs → lv_has ls 4 [] → W p l e ({ frames := 2, cells := 0, slots := 0, locals := 45 }) s m [.ref (ad 902), .int a1, .int a2, .int a3].toArray below meth c H locs 0 0 (MQ below (mw_Qi G ad NF TF FF (mw_eqI r0 M0 L0)) [.ref (ad 902), .int a1, .int a2, .int a3].toArray s 0 0 (mw_fr G)) (F0 m 39 ls []) := by
    intro M L H locs ls hD hw hl
    unfold fX18_code_b39 at hD
    refine lv_bipush (v := (-2)) C.1.1 C.1.2.1 dX18_code_39 (by decide) ?_
    exact mr_iret C hr hlocks hw rfl (Option.some.inj hD) dX18_code_41
  unfold DX18_code at hD
  refine lv_aload_n C.1.1 C.1.2.1 dX18_code_0 rfl (lv_at hl 0 rfl) ?_
  refine lv_iconst (v := 0) C.1.1 C.1.2.1 dX18_code_1 (by decide) ?_
  obtain ⟨M1, eM1, hD⟩ := g_let hD
  refine mr_putI C hw kc_18 0 (by decide) tf_902 wd_2467 dX18_code_2 (by decide) rfl rfl rfl rfl (fun H locs hw => ?_)
  replace hw : mw_W G ad NF TF FF M1 L H locs := by rw [eM1]; exact hw
  refine lv_iload_n C.1.1 C.1.2.1 dX18_code_5 rfl (lv_at hl 1 rfl) ?_
  refine lv_iconst (v := 1) C.1.1 C.1.2.1 dX18_code_6 (by decide) ?_
  refine lv_icmp_lt (tgt := 39) C.1.1 C.1.2.1 dX18_code_7 (by decide) (fun c2 => ?_) (fun c2 => ?_)
  · replace hD := g_pos c2 hD
    exact hb39 M1 L _ _ ls hD hw (lv_sub hl [] rfl)
  · replace hD := g_neg c2 hD
    refine lv_iload_n C.1.1 C.1.2.1 dX18_code_10 rfl (lv_at hl 1 rfl) ?_
    refine lv_sipush (v := 255) C.1.1 C.1.2.1 dX18_code_11 (by decide) ?_
    refine lv_icmp_gt (tgt := 39) C.1.1 C.1.2.1 dX18_code_14 (by decide) (fun c3 => ?_) (fun c3 => ?_)
    · replace hD := g_pos c3 hD
      exact hb39 M1 L _ _ ls hD hw (lv_sub hl [] rfl)
    · replace hD := g_neg c3 hD
      refine lv_iload_n C.1.1 C.1.2.1 dX18_code_17 rfl (lv_at hl 2 rfl) ?_
      refine lv_iconst (v := 1) C.1.1 C.1.2.1 dX18_code_18 (by decide) ?_
      refine lv_icmp_lt (tgt := 39) C.1.1 C.1.2.1 dX18_code_19 (by decide) (fun c4 => ?_) (fun c4 => ?_)
      · replace hD := g_pos c4 hD
        exact hb39 M1 L _ _ ls hD hw (lv_sub hl [] rfl)
      · replace hD := g_neg c4 hD
        refine lv_iload_n C.1.1 C.1.2.1 dX18_code_22 rfl (lv_at hl 2 rfl) ?_
        refine lv_bipush (v := 127) C.1.1 C.1.2.1 dX18_code_23 (by decide) ?_
        refine lv_icmp_gt (tgt := 39) C.1.1 C.1.2.1 dX18_code_25 (by decide) (fun c5 => ?_) (fun c5 => ?_)
        · replace hD := g_pos c5 hD
          exact hb39 M1 L _ _ ls hD hw (lv_sub hl [] rfl)
        · replace hD := g_neg c5 hD
          refine lv_iload_n C.1.1 C.1.2.1 dX18_code_28 rfl (lv_at hl 3 rfl) ?_
          refine lv_iconst (v := 1) C.1.1 C.1.2.1 dX18_code_29 (by decide) ?_
          refine lv_icmp_lt (tgt := 39) C.1.1 C.1.2.1 dX18_code_30 (by decide) (fun c6 => ?_) (fun c6 => ?_)
          · replace hD := g_pos c6 hD
            exact hb39 M1 L _ _ ls hD hw (lv_sub hl [] rfl)
          · replace hD := g_neg c6 hD
            refine lv_iload_n C.1.1 C.1.2.1 dX18_code_33 rfl (lv_at hl 3 rfl) ?_
            refine lv_bipush (v := 127) C.1.1 C.1.2.1 dX18_code_34 (by decide) ?_
            refine lv_icmp_le (tgt := 42) C.1.1 C.1.2.1 dX18_code_36 (by decide) (fun c7 => ?_) (fun c7 => ?_)
            · replace hD := g_pos c7 hD
              refine lv_aload_n C.1.1 C.1.2.1 dX18_code_42 rfl (lv_at hl 0 rfl) ?_
              refine mr_getI C hw kc_18 23 (by decide) tf_902 wd_2490 dX18_code_43 (by decide) rfl ?_
              refine lv_if_eq (tgt := 52) C.1.1 C.1.2.1 dX18_code_46 (by decide) (fun c8 => ?_) (fun c8 => ?_)
              · replace hD := g_pos c8 hD
                refine lv_aload_n C.1.1 C.1.2.1 dX18_code_52 rfl (lv_at hl 0 rfl) ?_
                refine mr_getI C hw kc_18 2 (by decide) tf_902 wd_2469 dX18_code_53 (by decide) rfl ?_
                refine lv_sipush (v := 200) C.1.1 C.1.2.1 dX18_code_56 (by decide) ?_
                refine lv_icmp_ne (tgt := 65) C.1.1 C.1.2.1 dX18_code_59 (by decide) (fun c9 => ?_) (fun c9 => ?_)
                · replace hD := g_neg c9 hD
                  refine lv_aload_n C.1.1 C.1.2.1 dX18_code_65 rfl (lv_at hl 0 rfl) ?_
                  refine lv_dup C.1.1 C.1.2.1 dX18_code_66 rfl ?_
                  refine mr_getI C hw kc_18 2 (by decide) tf_902 wd_2469 dX18_code_67 (by decide) rfl ?_
                  refine lv_iconst (v := 1) C.1.1 C.1.2.1 dX18_code_70 (by decide) ?_
                  refine lv_iadd C.1.1 C.1.2.1 dX18_code_71 ?_
                  obtain ⟨M10, eM10, hD⟩ := g_let hD
                  refine mr_putI C hw kc_18 2 (by decide) tf_902 wd_2469 dX18_code_72 (by decide) rfl rfl rfl rfl (fun H locs hw => ?_)
                  replace hw : mw_W G ad NF TF FF M10 L H locs := by rw [eM10]; exact hw
                  refine lv_aload_n C.1.1 C.1.2.1 dX18_code_75 rfl (lv_at hl 0 rfl) ?_
                  refine mr_getR C hw kc_18 3 (by decide) tf_902 ff_902_3 wd_2470 dX18_code_76 (by decide) rfl ?_
                  refine lv_aload_n C.1.1 C.1.2.1 dX18_code_79 rfl (lv_at hl 0 rfl) ?_
                  refine mr_getI C hw kc_18 2 (by decide) tf_902 wd_2469 dX18_code_80 (by decide) rfl ?_
                  refine lv_iload_n C.1.1 C.1.2.1 dX18_code_83 rfl (lv_at hl 1 rfl) ?_
                  obtain ⟨q11, hD⟩ := g_ck hD
                  obtain ⟨M12, eM12, hD⟩ := g_let hD
                  refine mr_iast C hw (by decide) tf_903 q11 dX18_code_84 (fun H locs hw => ?_)
                  replace hw : mw_W G ad NF TF FF M12 L H locs := by rw [eM12]; exact hw
                  refine lv_aload_n C.1.1 C.1.2.1 dX18_code_85 rfl (lv_at hl 0 rfl) ?_
                  refine mr_getR C hw kc_18 4 (by decide) tf_902 ff_902_4 wd_2471 dX18_code_86 (by decide) rfl ?_
                  refine lv_aload_n C.1.1 C.1.2.1 dX18_code_89 rfl (lv_at hl 0 rfl) ?_
                  refine mr_getI C hw kc_18 2 (by decide) tf_902 wd_2469 dX18_code_90 (by decide) rfl ?_
                  refine lv_iload_n C.1.1 C.1.2.1 dX18_code_93 rfl (lv_at hl 2 rfl) ?_
                  obtain ⟨q13, hD⟩ := g_ck hD
                  obtain ⟨M14, eM14, hD⟩ := g_let hD
                  refine mr_iast C hw (by decide) tf_904 q13 dX18_code_94 (fun H locs hw => ?_)
                  replace hw : mw_W G ad NF TF FF M14 L H locs := by rw [eM14]; exact hw
                  refine lv_aload_n C.1.1 C.1.2.1 dX18_code_95 rfl (lv_at hl 0 rfl) ?_
                  refine mr_getR C hw kc_18 5 (by decide) tf_902 ff_902_5 wd_2472 dX18_code_96 (by decide) rfl ?_
                  refine lv_aload_n C.1.1 C.1.2.1 dX18_code_99 rfl (lv_at hl 0 rfl) ?_
                  refine mr_getI C hw kc_18 2 (by decide) tf_902 wd_2469 dX18_code_100 (by decide) rfl ?_
                  refine lv_iload_n C.1.1 C.1.2.1 dX18_code_103 rfl (lv_at hl 3 rfl) ?_
                  obtain ⟨q15, hD⟩ := g_ck hD
                  obtain ⟨M16, eM16, hD⟩ := g_let hD
                  refine mr_iast C hw (by decide) tf_905 q15 dX18_code_104 (fun H locs hw => ?_)
                  replace hw : mw_W G ad NF TF FF M16 L H locs := by rw [eM16]; exact hw
                  refine lv_aload_n C.1.1 C.1.2.1 dX18_code_105 rfl (lv_at hl 0 rfl) ?_
                  refine lv_aload_n C.1.1 C.1.2.1 dX18_code_106 rfl (lv_at hl 0 rfl) ?_
                  refine mr_getI C hw kc_18 2 (by decide) tf_902 wd_2469 dX18_code_107 (by decide) rfl ?_
                  obtain ⟨M17, L18, h1, hD⟩ := g_b2 hD
                  refine md_cvV (As := [.int (M16 902 2)]) (rest := []) C hw (tX18_freshen l G ad fu (M16 902 2) M16 L h1) kc_18 (by decide) tf_902 wd_3375 cwX18_freshen ⟨Nat.le_of_ble_eq_true rfl, Nat.le_of_ble_eq_true rfl⟩ rfl hl.1 (Nat.le_of_ble_eq_true rfl) dX18_code_110 rfl rfl ⟨Nat.zero_le _, Nat.zero_le _⟩ rfl (fun H locs hw => ?_)
                  refine lv_aload_n C.1.1 C.1.2.1 dX18_code_113 rfl (lv_at hl 0 rfl) ?_
                  refine lv_aload_n C.1.1 C.1.2.1 dX18_code_114 rfl (lv_at hl 0 rfl) ?_
                  refine mr_getI C hw kc_18 2 (by decide) tf_902 wd_2469 dX18_code_115 (by decide) rfl ?_
                  obtain ⟨M19, L20, h1, hD⟩ := g_b2 hD
                  refine md_cvV (As := [.int (M17 902 2)]) (rest := []) C hw (tX18_keep l G ad fu (M17 902 2) M17 L18 h1) kc_18 (by decide) tf_902 wd_3383 cwX18_keep ⟨Nat.le_of_ble_eq_true rfl, Nat.le_of_ble_eq_true rfl⟩ rfl hl.1 (Nat.le_of_ble_eq_true rfl) dX18_code_118 rfl rfl ⟨Nat.zero_le _, Nat.zero_le _⟩ rfl (fun H locs hw => ?_)
                  refine lv_aload_n C.1.1 C.1.2.1 dX18_code_121 rfl (lv_at hl 0 rfl) ?_
                  refine mr_getI C hw kc_18 2 (by decide) tf_902 wd_2469 dX18_code_122 (by decide) rfl ?_
                  exact mr_iret C hr hlocks hw rfl (Option.some.inj hD) dX18_code_125
                · replace hD := g_pos c9 hD
                  refine lv_bipush (v := (-4)) C.1.1 C.1.2.1 dX18_code_62 (by decide) ?_
                  exact mr_iret C hr hlocks hw rfl (Option.some.inj hD) dX18_code_64
              · replace hD := g_neg c8 hD
                refine lv_bipush (v := (-3)) C.1.1 C.1.2.1 dX18_code_49 (by decide) ?_
                exact mr_iret C hr hlocks hw rfl (Option.some.inj hD) dX18_code_51
            · replace hD := g_neg c7 hD
              exact hb39 M1 L _ _ ls hD hw (lv_sub hl [] rfl)

theorem dX18_many_0 : decode cX18_many 0 = .ok (.iconst 0, 1) := by decide +kernel
theorem dX18_many_1 : decode cX18_many 1 = .ok (.istore_n 2, 1) := by decide +kernel
theorem dX18_many_2 : decode cX18_many 2 = .ok (.iconst 1, 1) := by decide +kernel
theorem dX18_many_3 : decode cX18_many 3 = .ok (.istore_n 3, 1) := by decide +kernel
theorem dX18_many_4 : decode cX18_many 4 = .ok (.iload_n 3, 1) := by decide +kernel
theorem dX18_many_5 : decode cX18_many 5 = .ok (.aload_n 0, 1) := by decide +kernel
theorem dX18_many_6 : decode cX18_many 6 = .ok (.getfield 69, 3) := by decide +kernel
theorem dX18_many_9 : decode cX18_many 9 = .ok (.if_icmp .gt 26, 3) := by decide +kernel
theorem dX18_many_12 : decode cX18_many 12 = .ok (.aload_n 0, 1) := by decide +kernel
theorem dX18_many_13 : decode cX18_many 13 = .ok (.iload_n 3, 1) := by decide +kernel
theorem dX18_many_14 : decode cX18_many 14 = .ok (.iload_n 1, 1) := by decide +kernel
theorem dX18_many_15 : decode cX18_many 15 = .ok (.invokevirtual 91, 3) := by decide +kernel
theorem dX18_many_18 : decode cX18_many 18 = .ok (.ifCond .eq 9, 3) := by decide +kernel
theorem dX18_many_21 : decode cX18_many 21 = .ok (.iload_n 2, 1) := by decide +kernel
theorem dX18_many_22 : decode cX18_many 22 = .ok (.iconst 1, 1) := by decide +kernel
theorem dX18_many_23 : decode cX18_many 23 = .ok (.iadd, 1) := by decide +kernel
theorem dX18_many_24 : decode cX18_many 24 = .ok (.goto 4, 3) := by decide +kernel
theorem dX18_many_27 : decode cX18_many 27 = .ok (.iload_n 2, 1) := by decide +kernel
theorem dX18_many_28 : decode cX18_many 28 = .ok (.istore_n 2, 1) := by decide +kernel
theorem dX18_many_29 : decode cX18_many 29 = .ok (.iinc 3 1, 3) := by decide +kernel
theorem dX18_many_32 : decode cX18_many 32 = .ok (.goto (-28), 3) := by decide +kernel
theorem dX18_many_35 : decode cX18_many 35 = .ok (.iload_n 2, 1) := by decide +kernel
theorem dX18_many_36 : decode cX18_many 36 = .ok (.ireturn, 1) := by decide +kernel
theorem cwX18_many : mw_cwV yX18_many cX18_many 4 ((some .int)) 1 := ⟨⟨wd_18, wd_3911, by decide +kernel⟩, wd_3910, sl_287⟩
set_option maxHeartbeats 4000000 in
set_option maxRecDepth 100000 in
theorem tX18_many (l : Launch) (G : mwG) (ad : Nat → Nat) (fu : Nat) (a1 : Int32) (M : mwM) (L : mwL) {r0 : Int32} {M0 : mwM} {L0 : mwL} (hD : DX18_many fu a1 M L = some (r0, M0, L0)) : Met l yX18_many (Cond.code yX18_many cX18_many 4 ((some .int)) :: GT) ({ frames := 1, cells := 0, slots := 0, locals := 22 }) (mw_Pre G ad NF TF FF M L [.ref (ad 902), .int a1]) (mw_Qi G ad NF TF FF (mw_eqI r0 M0 L0)) 0 0 (mw_fr G) := by
  refine mw_enter (by decide) (Nat.le_of_ble_eq_true rfl) ?_
  intro p e s m below meth c ls C hr hlocks hnm hw hl
  have hl : lv_has ls 4 [(0, .ref (ad 902)), (1, .int a1)] := hl
  have hh4 : ∀ (f : Nat) (v2 : Int32) (v3 : Int32) (M : mwM) (L : mwL) (H : Heap) (locs : List Loc) (ls : Array Slot), fX18_many_h4 fu a1 f (v2, v3, M, L) = some (r0, M0, L0) → mw_W G ad NF TF FF M L H locs → lv_has ls 4 [(0, .ref (ad 902)), (1, .int a1), (2, .int v2), (3, .int v3)] → W p l e ({ frames := 1, cells := 0, slots := 0, locals := 22 }) s m [.ref (ad 902), .int a1].toArray below meth c H locs 0 0 (MQ below (mw_Qi G ad NF TF FF (mw_eqI r0 M0 L0)) [.ref (ad 902), .int a1].toArray s 0 0 (mw_fr G)) (F0 m 4 ls []) := by
    intro f
    induction f with
    | zero => intro v2 v3 M L H locs ls hD; cases hD
    | succ f4 ih4 =>
      intro v2 v3 M L H locs ls hD hw hl
      replace hD : fX18_many_i4 fu a1 (fX18_many_h4 fu a1 f4) v2 v3 M L = some (r0, M0, L0) := hD
      have hb28 : ∀ (v3 : Int32) (s0 : Int32) (M : mwM) (L : mwL) (H : Heap) (locs : List Loc) (ls : Array Slot), fX18_many_b28 fu a1 (fX18_many_h4 fu a1 f4) v3 s0 M L = some (r0, M0, L0) → mw_W G ad NF TF FF M L H locs → lv_has ls 4 [(0, .ref (ad 902)), (1, .int a1), (3, .int v3)] → W p l e ({ frames := 1, cells := 0, slots := 0, locals := 22 }) s m [.ref (ad 902), .int a1].toArray below meth c H locs 0 0 (MQ below (mw_Qi G ad NF TF FF (mw_eqI r0 M0 L0)) [.ref (ad 902), .int a1].toArray s 0 0 (mw_fr G)) (F0 m 28 ls [.int s0]) := by
        intro v3 s0 M L H locs ls hD hw hl
        unfold fX18_many_b28 at hD
        refine lv_istore_n (lv' := [(2, .int s0), (0, .ref (ad 902)), (1, .int a1), (3, .int v3)]) C.1.1 C.1.2.1 dX18_many_28 rfl hl (by decide) rfl (fun ls hl => ?_)
        obtain ⟨x7, ex7, hD⟩ := g_let hD
        refine lv_iinc (v := x7) (lv' := [(3, .int x7), (2, .int s0), (0, .ref (ad 902)), (1, .int a1)]) C.1.1 C.1.2.1 dX18_many_29 hl (k := 3) rfl (by rw [ex7]; rfl) (by decide) rfl (fun ls hl => ?_)
        refine lv_goto (tgt := 4) C.1.1 C.1.2.1 dX18_many_32 (by decide) ?_
        exact ih4 s0 x7 M L _ _ ls hD hw (lv_sub hl [2, 3, 1, 0] rfl)
      unfold fX18_many_i4 at hD
      refine lv_iload_n C.1.1 C.1.2.1 dX18_many_4 rfl (lv_at hl 3 rfl) ?_
      refine lv_aload_n C.1.1 C.1.2.1 dX18_many_5 rfl (lv_at hl 0 rfl) ?_
      refine mr_getI C hw kc_18 2 (by decide) tf_902 wd_2469 dX18_many_6 (by decide) rfl ?_
      refine lv_icmp_gt (tgt := 35) C.1.1 C.1.2.1 dX18_many_9 (by decide) (fun c1 => ?_) (fun c1 => ?_)
      · replace hD := g_pos c1 hD
        refine lv_iload_n C.1.1 C.1.2.1 dX18_many_35 rfl (lv_at hl 2 rfl) ?_
        exact mr_iret C hr hlocks hw rfl (Option.some.inj hD) dX18_many_36
      · replace hD := g_neg c1 hD
        refine lv_aload_n C.1.1 C.1.2.1 dX18_many_12 rfl (lv_at hl 0 rfl) ?_
        refine lv_iload_n C.1.1 C.1.2.1 dX18_many_13 rfl (lv_at hl 3 rfl) ?_
        refine lv_iload_n C.1.1 C.1.2.1 dX18_many_14 rfl (lv_at hl 1 rfl) ?_
        obtain ⟨r5, M2, L3, h1, hD⟩ := g_b3 hD
        refine md_cvI (As := [.int v3, .int a1]) (rest := []) C hw (tX18_is l G ad fu v3 a1 M L h1) kc_18 (by decide) tf_902 wd_3387 cwX18_is ⟨Nat.le_of_ble_eq_true rfl, Nat.le_of_ble_eq_true rfl⟩ rfl hl.1 (Nat.le_of_ble_eq_true rfl) dX18_many_15 rfl rfl ⟨Nat.zero_le _, Nat.zero_le _⟩ rfl (fun H locs hw => ?_)
        refine lv_if_eq (tgt := 27) C.1.1 C.1.2.1 dX18_many_18 (by decide) (fun c6 => ?_) (fun c6 => ?_)
        · replace hD := g_pos c6 hD
          refine lv_iload_n C.1.1 C.1.2.1 dX18_many_27 rfl (lv_at hl 2 rfl) ?_
          exact hb28 v3 v2 M2 L3 _ _ ls hD hw (lv_sub hl [0, 1, 3] rfl)
        · replace hD := g_neg c6 hD
          refine lv_iload_n C.1.1 C.1.2.1 dX18_many_21 rfl (lv_at hl 2 rfl) ?_
          refine lv_iconst (v := 1) C.1.1 C.1.2.1 dX18_many_22 (by decide) ?_
          refine lv_iadd C.1.1 C.1.2.1 dX18_many_23 ?_
          refine lv_goto (tgt := 28) C.1.1 C.1.2.1 dX18_many_24 (by decide) ?_
          exact hb28 v3 (v2 + 1) M2 L3 _ _ ls hD hw (lv_sub hl [0, 1, 3] rfl)
  unfold DX18_many at hD
  refine lv_iconst (v := 0) C.1.1 C.1.2.1 dX18_many_0 (by decide) ?_
  refine lv_istore_n (lv' := [(2, .int 0), (0, .ref (ad 902)), (1, .int a1)]) C.1.1 C.1.2.1 dX18_many_1 rfl hl (by decide) rfl (fun ls hl => ?_)
  refine lv_iconst (v := 1) C.1.1 C.1.2.1 dX18_many_2 (by decide) ?_
  refine lv_istore_n (lv' := [(3, .int 1), (2, .int 0), (0, .ref (ad 902)), (1, .int a1)]) C.1.1 C.1.2.1 dX18_many_3 rfl hl (by decide) rfl (fun ls hl => ?_)
  exact hh4 fu 0 1 M L _ _ ls hD hw (lv_sub hl [2, 3, 1, 0] rfl)

theorem dX18_entries_0 : decode cX18_entries 0 = .ok (.iconst 0, 1) := by decide +kernel
theorem dX18_entries_1 : decode cX18_entries 1 = .ok (.istore_n 1, 1) := by decide +kernel
theorem dX18_entries_2 : decode cX18_entries 2 = .ok (.iconst 1, 1) := by decide +kernel
theorem dX18_entries_3 : decode cX18_entries 3 = .ok (.istore_n 2, 1) := by decide +kernel
theorem dX18_entries_4 : decode cX18_entries 4 = .ok (.iload_n 2, 1) := by decide +kernel
theorem dX18_entries_5 : decode cX18_entries 5 = .ok (.aload_n 0, 1) := by decide +kernel
theorem dX18_entries_6 : decode cX18_entries 6 = .ok (.getfield 69, 3) := by decide +kernel
theorem dX18_entries_9 : decode cX18_entries 9 = .ok (.if_icmp .gt 26, 3) := by decide +kernel
theorem dX18_entries_12 : decode cX18_entries 12 = .ok (.aload_n 0, 1) := by decide +kernel
theorem dX18_entries_13 : decode cX18_entries 13 = .ok (.getfield 50, 3) := by decide +kernel
theorem dX18_entries_16 : decode cX18_entries 16 = .ok (.iload_n 2, 1) := by decide +kernel
theorem dX18_entries_17 : decode cX18_entries 17 = .ok (.iaload, 1) := by decide +kernel
theorem dX18_entries_18 : decode cX18_entries 18 = .ok (.ifCond .le 9, 3) := by decide +kernel
theorem dX18_entries_21 : decode cX18_entries 21 = .ok (.iload_n 1, 1) := by decide +kernel
theorem dX18_entries_22 : decode cX18_entries 22 = .ok (.iconst 1, 1) := by decide +kernel
theorem dX18_entries_23 : decode cX18_entries 23 = .ok (.iadd, 1) := by decide +kernel
theorem dX18_entries_24 : decode cX18_entries 24 = .ok (.goto 4, 3) := by decide +kernel
theorem dX18_entries_27 : decode cX18_entries 27 = .ok (.iload_n 1, 1) := by decide +kernel
theorem dX18_entries_28 : decode cX18_entries 28 = .ok (.istore_n 1, 1) := by decide +kernel
theorem dX18_entries_29 : decode cX18_entries 29 = .ok (.iinc 2 1, 3) := by decide +kernel
theorem dX18_entries_32 : decode cX18_entries 32 = .ok (.goto (-28), 3) := by decide +kernel
theorem dX18_entries_35 : decode cX18_entries 35 = .ok (.iload_n 1, 1) := by decide +kernel
theorem dX18_entries_36 : decode cX18_entries 36 = .ok (.ireturn, 1) := by decide +kernel
theorem cwX18_entries : mw_cwV yX18_entries cX18_entries 3 ((some .int)) 0 := ⟨⟨wd_18, wd_3915, by decide +kernel⟩, wd_3914, sl_288⟩
set_option maxHeartbeats 4000000 in
set_option maxRecDepth 100000 in
theorem tX18_entries (l : Launch) (G : mwG) (ad : Nat → Nat) (fu : Nat) (M : mwM) (L : mwL) {r0 : Int32} {M0 : mwM} {L0 : mwL} (hD : DX18_entries fu M L = some (r0, M0, L0)) : Met l yX18_entries (Cond.code yX18_entries cX18_entries 3 ((some .int)) :: GT) ({ frames := 0, cells := 0, slots := 0, locals := 0 }) (mw_Pre G ad NF TF FF M L [.ref (ad 902)]) (mw_Qi G ad NF TF FF (mw_eqI r0 M0 L0)) 0 0 (mw_fr G) := by
  refine mw_enter (by decide) (Nat.le_of_ble_eq_true rfl) ?_
  intro p e s m below meth c ls C hr hlocks hnm hw hl
  have hl : lv_has ls 3 [(0, .ref (ad 902))] := hl
  have hh4 : ∀ (f : Nat) (v1 : Int32) (v2 : Int32) (M : mwM) (L : mwL) (H : Heap) (locs : List Loc) (ls : Array Slot), fX18_entries_h4 fu f (v1, v2, M, L) = some (r0, M0, L0) → mw_W G ad NF TF FF M L H locs → lv_has ls 3 [(0, .ref (ad 902)), (1, .int v1), (2, .int v2)] → W p l e ({ frames := 0, cells := 0, slots := 0, locals := 0 }) s m [.ref (ad 902)].toArray below meth c H locs 0 0 (MQ below (mw_Qi G ad NF TF FF (mw_eqI r0 M0 L0)) [.ref (ad 902)].toArray s 0 0 (mw_fr G)) (F0 m 4 ls []) := by
    intro f
    induction f with
    | zero => intro v1 v2 M L H locs ls hD; cases hD
    | succ f4 ih4 =>
      intro v1 v2 M L H locs ls hD hw hl
      replace hD : fX18_entries_i4 fu (fX18_entries_h4 fu f4) v1 v2 M L = some (r0, M0, L0) := hD
      have hb28 : ∀ (v2 : Int32) (s0 : Int32) (M : mwM) (L : mwL) (H : Heap) (locs : List Loc) (ls : Array Slot), fX18_entries_b28 fu (fX18_entries_h4 fu f4) v2 s0 M L = some (r0, M0, L0) → mw_W G ad NF TF FF M L H locs → lv_has ls 3 [(0, .ref (ad 902)), (2, .int v2)] → W p l e ({ frames := 0, cells := 0, slots := 0, locals := 0 }) s m [.ref (ad 902)].toArray below meth c H locs 0 0 (MQ below (mw_Qi G ad NF TF FF (mw_eqI r0 M0 L0)) [.ref (ad 902)].toArray s 0 0 (mw_fr G)) (F0 m 28 ls [.int s0]) := by
        intro v2 s0 M L H locs ls hD hw hl
        unfold fX18_entries_b28 at hD
        refine lv_istore_n (lv' := [(1, .int s0), (0, .ref (ad 902)), (2, .int v2)]) C.1.1 C.1.2.1 dX18_entries_28 rfl hl (by decide) rfl (fun ls hl => ?_)
        obtain ⟨x4, ex4, hD⟩ := g_let hD
        refine lv_iinc (v := x4) (lv' := [(2, .int x4), (1, .int s0), (0, .ref (ad 902))]) C.1.1 C.1.2.1 dX18_entries_29 hl (k := 2) rfl (by rw [ex4]; rfl) (by decide) rfl (fun ls hl => ?_)
        refine lv_goto (tgt := 4) C.1.1 C.1.2.1 dX18_entries_32 (by decide) ?_
        exact ih4 s0 x4 M L _ _ ls hD hw (lv_sub hl [2, 1, 0] rfl)
      unfold fX18_entries_i4 at hD
      refine lv_iload_n C.1.1 C.1.2.1 dX18_entries_4 rfl (lv_at hl 2 rfl) ?_
      refine lv_aload_n C.1.1 C.1.2.1 dX18_entries_5 rfl (lv_at hl 0 rfl) ?_
      refine mr_getI C hw kc_18 2 (by decide) tf_902 wd_2469 dX18_entries_6 (by decide) rfl ?_
      refine lv_icmp_gt (tgt := 35) C.1.1 C.1.2.1 dX18_entries_9 (by decide) (fun c1 => ?_) (fun c1 => ?_)
      · replace hD := g_pos c1 hD
        refine lv_iload_n C.1.1 C.1.2.1 dX18_entries_35 rfl (lv_at hl 1 rfl) ?_
        exact mr_iret C hr hlocks hw rfl (Option.some.inj hD) dX18_entries_36
      · replace hD := g_neg c1 hD
        refine lv_aload_n C.1.1 C.1.2.1 dX18_entries_12 rfl (lv_at hl 0 rfl) ?_
        refine mr_getR C hw kc_18 16 (by decide) tf_902 ff_902_16 wd_2483 dX18_entries_13 (by decide) rfl ?_
        refine lv_iload_n C.1.1 C.1.2.1 dX18_entries_16 rfl (lv_at hl 2 rfl) ?_
        obtain ⟨q2, hD⟩ := g_ck hD
        refine mr_iald C hw (by decide) tf_916 q2 dX18_entries_17 ?_
        refine lv_if_le (tgt := 27) C.1.1 C.1.2.1 dX18_entries_18 (by decide) (fun c3 => ?_) (fun c3 => ?_)
        · replace hD := g_pos c3 hD
          refine lv_iload_n C.1.1 C.1.2.1 dX18_entries_27 rfl (lv_at hl 1 rfl) ?_
          exact hb28 v2 v1 M L _ _ ls hD hw (lv_sub hl [0, 2] rfl)
        · replace hD := g_neg c3 hD
          refine lv_iload_n C.1.1 C.1.2.1 dX18_entries_21 rfl (lv_at hl 1 rfl) ?_
          refine lv_iconst (v := 1) C.1.1 C.1.2.1 dX18_entries_22 (by decide) ?_
          refine lv_iadd C.1.1 C.1.2.1 dX18_entries_23 ?_
          refine lv_goto (tgt := 28) C.1.1 C.1.2.1 dX18_entries_24 (by decide) ?_
          exact hb28 v2 (v1 + 1) M L _ _ ls hD hw (lv_sub hl [0, 2] rfl)
  unfold DX18_entries at hD
  refine lv_iconst (v := 0) C.1.1 C.1.2.1 dX18_entries_0 (by decide) ?_
  refine lv_istore_n (lv' := [(1, .int 0), (0, .ref (ad 902))]) C.1.1 C.1.2.1 dX18_entries_1 rfl hl (by decide) rfl (fun ls hl => ?_)
  refine lv_iconst (v := 1) C.1.1 C.1.2.1 dX18_entries_2 (by decide) ?_
  refine lv_istore_n (lv' := [(2, .int 1), (1, .int 0), (0, .ref (ad 902))]) C.1.1 C.1.2.1 dX18_entries_3 rfl hl (by decide) rfl (fun ls hl => ?_)
  exact hh4 fu 0 1 M L _ _ ls hD hw (lv_sub hl [2, 1, 0] rfl)

theorem dX18_goes_0 : decode cX18_goes 0 = .ok (.iconst 0, 1) := by decide +kernel
theorem dX18_goes_1 : decode cX18_goes 1 = .ok (.istore_n 2, 1) := by decide +kernel
theorem dX18_goes_2 : decode cX18_goes 2 = .ok (.iconst 1, 1) := by decide +kernel
theorem dX18_goes_3 : decode cX18_goes 3 = .ok (.istore_n 3, 1) := by decide +kernel
theorem dX18_goes_4 : decode cX18_goes 4 = .ok (.iload_n 3, 1) := by decide +kernel
theorem dX18_goes_5 : decode cX18_goes 5 = .ok (.aload_n 0, 1) := by decide +kernel
theorem dX18_goes_6 : decode cX18_goes 6 = .ok (.getfield 69, 3) := by decide +kernel
theorem dX18_goes_9 : decode cX18_goes 9 = .ok (.if_icmp .gt 90, 3) := by decide +kernel
theorem dX18_goes_12 : decode cX18_goes 12 = .ok (.aload_n 0, 1) := by decide +kernel
theorem dX18_goes_13 : decode cX18_goes 13 = .ok (.getfield 50, 3) := by decide +kernel
theorem dX18_goes_16 : decode cX18_goes 16 = .ok (.iload_n 3, 1) := by decide +kernel
theorem dX18_goes_17 : decode cX18_goes 17 = .ok (.iaload, 1) := by decide +kernel
theorem dX18_goes_18 : decode cX18_goes 18 = .ok (.ifCond .le 46, 3) := by decide +kernel
theorem dX18_goes_21 : decode cX18_goes 21 = .ok (.aload_n 0, 1) := by decide +kernel
theorem dX18_goes_22 : decode cX18_goes 22 = .ok (.getfield 7, 3) := by decide +kernel
theorem dX18_goes_25 : decode cX18_goes 25 = .ok (.iload_n 3, 1) := by decide +kernel
theorem dX18_goes_26 : decode cX18_goes 26 = .ok (.iaload, 1) := by decide +kernel
theorem dX18_goes_27 : decode cX18_goes 27 = .ok (.aload_n 0, 1) := by decide +kernel
theorem dX18_goes_28 : decode cX18_goes 28 = .ok (.getfield 7, 3) := by decide +kernel
theorem dX18_goes_31 : decode cX18_goes 31 = .ok (.iload_n 1, 1) := by decide +kernel
theorem dX18_goes_32 : decode cX18_goes 32 = .ok (.iaload, 1) := by decide +kernel
theorem dX18_goes_33 : decode cX18_goes 33 = .ok (.if_icmp .gt 27, 3) := by decide +kernel
theorem dX18_goes_36 : decode cX18_goes 36 = .ok (.aload_n 0, 1) := by decide +kernel
theorem dX18_goes_37 : decode cX18_goes 37 = .ok (.getfield 7, 3) := by decide +kernel
theorem dX18_goes_40 : decode cX18_goes 40 = .ok (.iload_n 3, 1) := by decide +kernel
theorem dX18_goes_41 : decode cX18_goes 41 = .ok (.iaload, 1) := by decide +kernel
theorem dX18_goes_42 : decode cX18_goes 42 = .ok (.aload_n 0, 1) := by decide +kernel
theorem dX18_goes_43 : decode cX18_goes 43 = .ok (.getfield 7, 3) := by decide +kernel
theorem dX18_goes_46 : decode cX18_goes 46 = .ok (.iload_n 1, 1) := by decide +kernel
theorem dX18_goes_47 : decode cX18_goes 47 = .ok (.iaload, 1) := by decide +kernel
theorem dX18_goes_48 : decode cX18_goes 48 = .ok (.if_icmp .ne 16, 3) := by decide +kernel
theorem dX18_goes_51 : decode cX18_goes 51 = .ok (.aload_n 0, 1) := by decide +kernel
theorem dX18_goes_52 : decode cX18_goes 52 = .ok (.iload_n 3, 1) := by decide +kernel
theorem dX18_goes_53 : decode cX18_goes 53 = .ok (.iconst 0, 1) := by decide +kernel
theorem dX18_goes_54 : decode cX18_goes 54 = .ok (.invokevirtual 91, 3) := by decide +kernel
theorem dX18_goes_57 : decode cX18_goes 57 = .ok (.ifCond .ne 7, 3) := by decide +kernel
theorem dX18_goes_60 : decode cX18_goes 60 = .ok (.iconst 1, 1) := by decide +kernel
theorem dX18_goes_61 : decode cX18_goes 61 = .ok (.goto 4, 3) := by decide +kernel
theorem dX18_goes_64 : decode cX18_goes 64 = .ok (.iconst 0, 1) := by decide +kernel
theorem dX18_goes_65 : decode cX18_goes 65 = .ok (.istore 4, 2) := by decide +kernel
theorem dX18_goes_67 : decode cX18_goes 67 = .ok (.iload 4, 2) := by decide +kernel
theorem dX18_goes_69 : decode cX18_goes 69 = .ok (.ifCond .eq 22, 3) := by decide +kernel
theorem dX18_goes_72 : decode cX18_goes 72 = .ok (.aload_n 0, 1) := by decide +kernel
theorem dX18_goes_73 : decode cX18_goes 73 = .ok (.getfield 7, 3) := by decide +kernel
theorem dX18_goes_76 : decode cX18_goes 76 = .ok (.iload_n 3, 1) := by decide +kernel
theorem dX18_goes_77 : decode cX18_goes 77 = .ok (.iaload, 1) := by decide +kernel
theorem dX18_goes_78 : decode cX18_goes 78 = .ok (.iload_n 2, 1) := by decide +kernel
theorem dX18_goes_79 : decode cX18_goes 79 = .ok (.if_icmp .le 12, 3) := by decide +kernel
theorem dX18_goes_82 : decode cX18_goes 82 = .ok (.aload_n 0, 1) := by decide +kernel
theorem dX18_goes_83 : decode cX18_goes 83 = .ok (.getfield 7, 3) := by decide +kernel
theorem dX18_goes_86 : decode cX18_goes 86 = .ok (.iload_n 3, 1) := by decide +kernel
theorem dX18_goes_87 : decode cX18_goes 87 = .ok (.iaload, 1) := by decide +kernel
theorem dX18_goes_88 : decode cX18_goes 88 = .ok (.goto 4, 3) := by decide +kernel
theorem dX18_goes_91 : decode cX18_goes 91 = .ok (.iload_n 2, 1) := by decide +kernel
theorem dX18_goes_92 : decode cX18_goes 92 = .ok (.istore_n 2, 1) := by decide +kernel
theorem dX18_goes_93 : decode cX18_goes 93 = .ok (.iinc 3 1, 3) := by decide +kernel
theorem dX18_goes_96 : decode cX18_goes 96 = .ok (.goto (-92), 3) := by decide +kernel
theorem dX18_goes_99 : decode cX18_goes 99 = .ok (.iconst 0, 1) := by decide +kernel
theorem dX18_goes_100 : decode cX18_goes 100 = .ok (.istore_n 3, 1) := by decide +kernel
theorem dX18_goes_101 : decode cX18_goes 101 = .ok (.iconst 1, 1) := by decide +kernel
theorem dX18_goes_102 : decode cX18_goes 102 = .ok (.istore 4, 2) := by decide +kernel
theorem dX18_goes_104 : decode cX18_goes 104 = .ok (.iload 4, 2) := by decide +kernel
theorem dX18_goes_106 : decode cX18_goes 106 = .ok (.aload_n 0, 1) := by decide +kernel
theorem dX18_goes_107 : decode cX18_goes 107 = .ok (.getfield 69, 3) := by decide +kernel
theorem dX18_goes_110 : decode cX18_goes 110 = .ok (.if_icmp .gt 50, 3) := by decide +kernel
theorem dX18_goes_113 : decode cX18_goes 113 = .ok (.iload_n 3, 1) := by decide +kernel
theorem dX18_goes_114 : decode cX18_goes 114 = .ok (.ifCond .ne 34, 3) := by decide +kernel
theorem dX18_goes_117 : decode cX18_goes 117 = .ok (.aload_n 0, 1) := by decide +kernel
theorem dX18_goes_118 : decode cX18_goes 118 = .ok (.getfield 50, 3) := by decide +kernel
theorem dX18_goes_121 : decode cX18_goes 121 = .ok (.iload 4, 2) := by decide +kernel
theorem dX18_goes_123 : decode cX18_goes 123 = .ok (.iaload, 1) := by decide +kernel
theorem dX18_goes_124 : decode cX18_goes 124 = .ok (.ifCond .le 28, 3) := by decide +kernel
theorem dX18_goes_127 : decode cX18_goes 127 = .ok (.aload_n 0, 1) := by decide +kernel
theorem dX18_goes_128 : decode cX18_goes 128 = .ok (.getfield 7, 3) := by decide +kernel
theorem dX18_goes_131 : decode cX18_goes 131 = .ok (.iload 4, 2) := by decide +kernel
theorem dX18_goes_133 : decode cX18_goes 133 = .ok (.iaload, 1) := by decide +kernel
theorem dX18_goes_134 : decode cX18_goes 134 = .ok (.iload_n 2, 1) := by decide +kernel
theorem dX18_goes_135 : decode cX18_goes 135 = .ok (.if_icmp .ne 17, 3) := by decide +kernel
theorem dX18_goes_138 : decode cX18_goes 138 = .ok (.aload_n 0, 1) := by decide +kernel
theorem dX18_goes_139 : decode cX18_goes 139 = .ok (.iload 4, 2) := by decide +kernel
theorem dX18_goes_141 : decode cX18_goes 141 = .ok (.iconst 0, 1) := by decide +kernel
theorem dX18_goes_142 : decode cX18_goes 142 = .ok (.invokevirtual 91, 3) := by decide +kernel
theorem dX18_goes_145 : decode cX18_goes 145 = .ok (.ifCond .ne 7, 3) := by decide +kernel
theorem dX18_goes_148 : decode cX18_goes 148 = .ok (.iconst 1, 1) := by decide +kernel
theorem dX18_goes_149 : decode cX18_goes 149 = .ok (.goto 4, 3) := by decide +kernel
theorem dX18_goes_152 : decode cX18_goes 152 = .ok (.iconst 0, 1) := by decide +kernel
theorem dX18_goes_153 : decode cX18_goes 153 = .ok (.istore_n 3, 1) := by decide +kernel
theorem dX18_goes_154 : decode cX18_goes 154 = .ok (.iinc 4 1, 3) := by decide +kernel
theorem dX18_goes_157 : decode cX18_goes 157 = .ok (.goto (-53), 3) := by decide +kernel
theorem dX18_goes_160 : decode cX18_goes 160 = .ok (.iconst 0, 1) := by decide +kernel
theorem dX18_goes_161 : decode cX18_goes 161 = .ok (.istore 4, 2) := by decide +kernel
theorem dX18_goes_163 : decode cX18_goes 163 = .ok (.iconst 1, 1) := by decide +kernel
theorem dX18_goes_164 : decode cX18_goes 164 = .ok (.istore 5, 2) := by decide +kernel
theorem dX18_goes_166 : decode cX18_goes 166 = .ok (.iload 5, 2) := by decide +kernel
theorem dX18_goes_168 : decode cX18_goes 168 = .ok (.aload_n 0, 1) := by decide +kernel
theorem dX18_goes_169 : decode cX18_goes 169 = .ok (.getfield 69, 3) := by decide +kernel
theorem dX18_goes_172 : decode cX18_goes 172 = .ok (.if_icmp .gt 91, 3) := by decide +kernel
theorem dX18_goes_175 : decode cX18_goes 175 = .ok (.iload_n 2, 1) := by decide +kernel
theorem dX18_goes_176 : decode cX18_goes 176 = .ok (.ifCond .le 87, 3) := by decide +kernel
theorem dX18_goes_179 : decode cX18_goes 179 = .ok (.aload_n 0, 1) := by decide +kernel
theorem dX18_goes_180 : decode cX18_goes 180 = .ok (.getfield 50, 3) := by decide +kernel
theorem dX18_goes_183 : decode cX18_goes 183 = .ok (.iload 5, 2) := by decide +kernel
theorem dX18_goes_185 : decode cX18_goes 185 = .ok (.iaload, 1) := by decide +kernel
theorem dX18_goes_186 : decode cX18_goes 186 = .ok (.ifCond .le 32, 3) := by decide +kernel
theorem dX18_goes_189 : decode cX18_goes 189 = .ok (.aload_n 0, 1) := by decide +kernel
theorem dX18_goes_190 : decode cX18_goes 190 = .ok (.getfield 7, 3) := by decide +kernel
theorem dX18_goes_193 : decode cX18_goes 193 = .ok (.iload 5, 2) := by decide +kernel
theorem dX18_goes_195 : decode cX18_goes 195 = .ok (.iaload, 1) := by decide +kernel
theorem dX18_goes_196 : decode cX18_goes 196 = .ok (.iload_n 2, 1) := by decide +kernel
theorem dX18_goes_197 : decode cX18_goes 197 = .ok (.if_icmp .ne 21, 3) := by decide +kernel
theorem dX18_goes_200 : decode cX18_goes 200 = .ok (.iload_n 3, 1) := by decide +kernel
theorem dX18_goes_201 : decode cX18_goes 201 = .ok (.ifCond .eq 13, 3) := by decide +kernel
theorem dX18_goes_204 : decode cX18_goes 204 = .ok (.aload_n 0, 1) := by decide +kernel
theorem dX18_goes_205 : decode cX18_goes 205 = .ok (.iload 5, 2) := by decide +kernel
theorem dX18_goes_207 : decode cX18_goes 207 = .ok (.iconst 0, 1) := by decide +kernel
theorem dX18_goes_208 : decode cX18_goes 208 = .ok (.invokevirtual 91, 3) := by decide +kernel
theorem dX18_goes_211 : decode cX18_goes 211 = .ok (.ifCond .ne 7, 3) := by decide +kernel
theorem dX18_goes_214 : decode cX18_goes 214 = .ok (.iconst 1, 1) := by decide +kernel
theorem dX18_goes_215 : decode cX18_goes 215 = .ok (.goto 4, 3) := by decide +kernel
theorem dX18_goes_218 : decode cX18_goes 218 = .ok (.iconst 0, 1) := by decide +kernel
theorem dX18_goes_219 : decode cX18_goes 219 = .ok (.istore 6, 2) := by decide +kernel
theorem dX18_goes_221 : decode cX18_goes 221 = .ok (.iload 6, 2) := by decide +kernel
theorem dX18_goes_223 : decode cX18_goes 223 = .ok (.ifCond .eq 30, 3) := by decide +kernel
theorem dX18_goes_226 : decode cX18_goes 226 = .ok (.iload 4, 2) := by decide +kernel
theorem dX18_goes_228 : decode cX18_goes 228 = .ok (.ifCond .eq 20, 3) := by decide +kernel
theorem dX18_goes_231 : decode cX18_goes 231 = .ok (.aload_n 0, 1) := by decide +kernel
theorem dX18_goes_232 : decode cX18_goes 232 = .ok (.getfield 50, 3) := by decide +kernel
theorem dX18_goes_235 : decode cX18_goes 235 = .ok (.iload 5, 2) := by decide +kernel
theorem dX18_goes_237 : decode cX18_goes 237 = .ok (.iaload, 1) := by decide +kernel
theorem dX18_goes_238 : decode cX18_goes 238 = .ok (.aload_n 0, 1) := by decide +kernel
theorem dX18_goes_239 : decode cX18_goes 239 = .ok (.getfield 50, 3) := by decide +kernel
theorem dX18_goes_242 : decode cX18_goes 242 = .ok (.iload 4, 2) := by decide +kernel
theorem dX18_goes_244 : decode cX18_goes 244 = .ok (.iaload, 1) := by decide +kernel
theorem dX18_goes_245 : decode cX18_goes 245 = .ok (.if_icmp .ge 8, 3) := by decide +kernel
theorem dX18_goes_248 : decode cX18_goes 248 = .ok (.iload 5, 2) := by decide +kernel
theorem dX18_goes_250 : decode cX18_goes 250 = .ok (.goto 5, 3) := by decide +kernel
theorem dX18_goes_253 : decode cX18_goes 253 = .ok (.iload 4, 2) := by decide +kernel
theorem dX18_goes_255 : decode cX18_goes 255 = .ok (.istore 4, 2) := by decide +kernel
theorem dX18_goes_257 : decode cX18_goes 257 = .ok (.iinc 5 1, 3) := by decide +kernel
theorem dX18_goes_260 : decode cX18_goes 260 = .ok (.goto (-94), 3) := by decide +kernel
theorem dX18_goes_263 : decode cX18_goes 263 = .ok (.iload 4, 2) := by decide +kernel
theorem dX18_goes_265 : decode cX18_goes 265 = .ok (.ireturn, 1) := by decide +kernel
theorem cwX18_goes : mw_cwV yX18_goes cX18_goes 7 ((some .int)) 1 := ⟨⟨wd_18, wd_3919, by decide +kernel⟩, wd_3918, sl_289⟩
set_option maxHeartbeats 4000000 in
set_option maxRecDepth 100000 in
theorem tX18_goes (l : Launch) (G : mwG) (ad : Nat → Nat) (fu : Nat) (a1 : Int32) (M : mwM) (L : mwL) {r0 : Int32} {M0 : mwM} {L0 : mwL} (hD : DX18_goes fu a1 M L = some (r0, M0, L0)) : Met l yX18_goes (Cond.code yX18_goes cX18_goes 7 ((some .int)) :: GT) ({ frames := 1, cells := 0, slots := 0, locals := 22 }) (mw_Pre G ad NF TF FF M L [.ref (ad 902), .int a1]) (mw_Qi G ad NF TF FF (mw_eqI r0 M0 L0)) 0 0 (mw_fr G) := by
  refine mw_enter (by decide) (Nat.le_of_ble_eq_true rfl) ?_
  intro p e s m below meth c ls C hr hlocks hnm hw hl
  have hl : lv_has ls 7 [(0, .ref (ad 902)), (1, .int a1)] := hl
  have hb263 : ∀ (v4 : Int32) (M : mwM) (L : mwL) (H : Heap) (locs : List Loc) (ls : Array Slot), fX18_goes_b263 fu a1 v4 M L = some (r0, M0, L0) → mw_W G ad NF TF FF M L H locs → lv_has ls 7 [(4, .int v4)] → W p l e ({ frames := 1, cells := 0, slots := 0, locals := 22 }) s m [.ref (ad 902), .int a1].toArray below meth c H locs 0 0 (MQ below (mw_Qi G ad NF TF FF (mw_eqI r0 M0 L0)) [.ref (ad 902), .int a1].toArray s 0 0 (mw_fr G)) (F0 m 263 ls []) := by
    intro v4 M L H locs ls hD hw hl
    unfold fX18_goes_b263 at hD
    refine lv_iload C.1.1 C.1.2.1 dX18_goes_263 (lv_at hl 0 rfl) ?_
    exact mr_iret C hr hlocks hw rfl (Option.some.inj hD) dX18_goes_265
  have hh166 : ∀ (f : Nat) (v2 : Int32) (v3 : Int32) (v4 : Int32) (v5 : Int32) (M : mwM) (L : mwL) (H : Heap) (locs : List Loc) (ls : Array Slot), fX18_goes_h166 fu a1 f (v2, v3, v4, v5, M, L) = some (r0, M0, L0) → mw_W G ad NF TF FF M L H locs → lv_has ls 7 [(0, .ref (ad 902)), (2, .int v2), (3, .int v3), (4, .int v4), (5, .int v5)] → W p l e ({ frames := 1, cells := 0, slots := 0, locals := 22 }) s m [.ref (ad 902), .int a1].toArray below meth c H locs 0 0 (MQ below (mw_Qi G ad NF TF FF (mw_eqI r0 M0 L0)) [.ref (ad 902), .int a1].toArray s 0 0 (mw_fr G)) (F0 m 166 ls []) := by
    intro f
    induction f with
    | zero => intro v2 v3 v4 v5 M L H locs ls hD; cases hD
    | succ f166 ih166 =>
      intro v2 v3 v4 v5 M L H locs ls hD hw hl
      replace hD : fX18_goes_i166 fu a1 (fX18_goes_h166 fu a1 f166) v2 v3 v4 v5 M L = some (r0, M0, L0) := hD
      have hb255 : ∀ (v2 : Int32) (v3 : Int32) (v5 : Int32) (s0 : Int32) (M : mwM) (L : mwL) (H : Heap) (locs : List Loc) (ls : Array Slot), fX18_goes_b255 fu a1 (fX18_goes_h166 fu a1 f166) v2 v3 v5 s0 M L = some (r0, M0, L0) → mw_W G ad NF TF FF M L H locs → lv_has ls 7 [(0, .ref (ad 902)), (2, .int v2), (3, .int v3), (5, .int v5)] → W p l e ({ frames := 1, cells := 0, slots := 0, locals := 22 }) s m [.ref (ad 902), .int a1].toArray below meth c H locs 0 0 (MQ below (mw_Qi G ad NF TF FF (mw_eqI r0 M0 L0)) [.ref (ad 902), .int a1].toArray s 0 0 (mw_fr G)) (F0 m 255 ls [.int s0]) := by
        intro v2 v3 v5 s0 M L H locs ls hD hw hl
        unfold fX18_goes_b255 at hD
        refine lv_istore (lv' := [(4, .int s0), (0, .ref (ad 902)), (2, .int v2), (3, .int v3), (5, .int v5)]) C.1.1 C.1.2.1 dX18_goes_255 hl (by decide) rfl (fun ls hl => ?_)
        obtain ⟨x46, ex46, hD⟩ := g_let hD
        refine lv_iinc (v := x46) (lv' := [(5, .int x46), (4, .int s0), (0, .ref (ad 902)), (2, .int v2), (3, .int v3)]) C.1.1 C.1.2.1 dX18_goes_257 hl (k := 4) rfl (by rw [ex46]; rfl) (by decide) rfl (fun ls hl => ?_)
        refine lv_goto (tgt := 166) C.1.1 C.1.2.1 dX18_goes_260 (by decide) ?_
        exact ih166 v2 v3 s0 x46 M L _ _ ls hD hw (lv_sub hl [2, 3, 4, 1, 0] rfl)
      have hb253 : ∀ (v2 : Int32) (v3 : Int32) (v4 : Int32) (v5 : Int32) (M : mwM) (L : mwL) (H : Heap) (locs : List Loc) (ls : Array Slot), fX18_goes_b253 fu a1 (fX18_goes_h166 fu a1 f166) v2 v3 v4 v5 M L = some (r0, M0, L0) → mw_W G ad NF TF FF M L H locs → lv_has ls 7 [(0, .ref (ad 902)), (2, .int v2), (3, .int v3), (4, .int v4), (5, .int v5)] → W p l e ({ frames := 1, cells := 0, slots := 0, locals := 22 }) s m [.ref (ad 902), .int a1].toArray below meth c H locs 0 0 (MQ below (mw_Qi G ad NF TF FF (mw_eqI r0 M0 L0)) [.ref (ad 902), .int a1].toArray s 0 0 (mw_fr G)) (F0 m 253 ls []) := by
        intro v2 v3 v4 v5 M L H locs ls hD hw hl
        unfold fX18_goes_b253 at hD
        refine lv_iload C.1.1 C.1.2.1 dX18_goes_253 (lv_at hl 3 rfl) ?_
        exact hb255 v2 v3 v5 v4 M L _ _ ls hD hw (lv_sub hl [0, 1, 2, 4] rfl)
      have hb248 : ∀ (v2 : Int32) (v3 : Int32) (v5 : Int32) (M : mwM) (L : mwL) (H : Heap) (locs : List Loc) (ls : Array Slot), fX18_goes_b248 fu a1 (fX18_goes_h166 fu a1 f166) v2 v3 v5 M L = some (r0, M0, L0) → mw_W G ad NF TF FF M L H locs → lv_has ls 7 [(0, .ref (ad 902)), (2, .int v2), (3, .int v3), (5, .int v5)] → W p l e ({ frames := 1, cells := 0, slots := 0, locals := 22 }) s m [.ref (ad 902), .int a1].toArray below meth c H locs 0 0 (MQ below (mw_Qi G ad NF TF FF (mw_eqI r0 M0 L0)) [.ref (ad 902), .int a1].toArray s 0 0 (mw_fr G)) (F0 m 248 ls []) := by
        intro v2 v3 v5 M L H locs ls hD hw hl
        unfold fX18_goes_b248 at hD
        refine lv_iload C.1.1 C.1.2.1 dX18_goes_248 (lv_at hl 3 rfl) ?_
        refine lv_goto (tgt := 255) C.1.1 C.1.2.1 dX18_goes_250 (by decide) ?_
        exact hb255 v2 v3 v5 v5 M L _ _ ls hD hw (lv_sub hl [0, 1, 2, 3] rfl)
      have hb219 : ∀ (v2 : Int32) (v3 : Int32) (v4 : Int32) (v5 : Int32) (s0 : Int32) (M : mwM) (L : mwL) (H : Heap) (locs : List Loc) (ls : Array Slot), fX18_goes_b219 fu a1 (fX18_goes_h166 fu a1 f166) v2 v3 v4 v5 s0 M L = some (r0, M0, L0) → mw_W G ad NF TF FF M L H locs → lv_has ls 7 [(0, .ref (ad 902)), (2, .int v2), (3, .int v3), (4, .int v4), (5, .int v5)] → W p l e ({ frames := 1, cells := 0, slots := 0, locals := 22 }) s m [.ref (ad 902), .int a1].toArray below meth c H locs 0 0 (MQ below (mw_Qi G ad NF TF FF (mw_eqI r0 M0 L0)) [.ref (ad 902), .int a1].toArray s 0 0 (mw_fr G)) (F0 m 219 ls [.int s0]) := by
        intro v2 v3 v4 v5 s0 M L H locs ls hD hw hl
        unfold fX18_goes_b219 at hD
        refine lv_istore (lv' := [(6, .int s0), (0, .ref (ad 902)), (2, .int v2), (3, .int v3), (4, .int v4), (5, .int v5)]) C.1.1 C.1.2.1 dX18_goes_219 hl (by decide) rfl (fun ls hl => ?_)
        refine lv_iload C.1.1 C.1.2.1 dX18_goes_221 (lv_at hl 0 rfl) ?_
        refine lv_if_eq (tgt := 253) C.1.1 C.1.2.1 dX18_goes_223 (by decide) (fun c41 => ?_) (fun c41 => ?_)
        · replace hD := g_pos c41 hD
          exact hb253 v2 v3 v4 v5 M L _ _ ls hD hw (lv_sub hl [1, 2, 3, 4, 5] rfl)
        · replace hD := g_neg c41 hD
          refine lv_iload C.1.1 C.1.2.1 dX18_goes_226 (lv_at hl 4 rfl) ?_
          refine lv_if_eq (tgt := 248) C.1.1 C.1.2.1 dX18_goes_228 (by decide) (fun c42 => ?_) (fun c42 => ?_)
          · replace hD := g_pos c42 hD
            exact hb248 v2 v3 v5 M L _ _ ls hD hw (lv_sub hl [1, 2, 3, 5] rfl)
          · replace hD := g_neg c42 hD
            refine lv_aload_n C.1.1 C.1.2.1 dX18_goes_231 rfl (lv_at hl 1 rfl) ?_
            refine mr_getR C hw kc_18 16 (by decide) tf_902 ff_902_16 wd_2483 dX18_goes_232 (by decide) rfl ?_
            refine lv_iload C.1.1 C.1.2.1 dX18_goes_235 (lv_at hl 5 rfl) ?_
            obtain ⟨q43, hD⟩ := g_ck hD
            refine mr_iald C hw (by decide) tf_916 q43 dX18_goes_237 ?_
            refine lv_aload_n C.1.1 C.1.2.1 dX18_goes_238 rfl (lv_at hl 1 rfl) ?_
            refine mr_getR C hw kc_18 16 (by decide) tf_902 ff_902_16 wd_2483 dX18_goes_239 (by decide) rfl ?_
            refine lv_iload C.1.1 C.1.2.1 dX18_goes_242 (lv_at hl 4 rfl) ?_
            obtain ⟨q44, hD⟩ := g_ck hD
            refine mr_iald C hw (by decide) tf_916 q44 dX18_goes_244 ?_
            refine lv_icmp_ge (tgt := 253) C.1.1 C.1.2.1 dX18_goes_245 (by decide) (fun c45 => ?_) (fun c45 => ?_)
            · replace hD := g_pos c45 hD
              exact hb253 v2 v3 v4 v5 M L _ _ ls hD hw (lv_sub hl [1, 2, 3, 4, 5] rfl)
            · replace hD := g_neg c45 hD
              exact hb248 v2 v3 v5 M L _ _ ls hD hw (lv_sub hl [1, 2, 3, 5] rfl)
      have hb218 : ∀ (v2 : Int32) (v3 : Int32) (v4 : Int32) (v5 : Int32) (M : mwM) (L : mwL) (H : Heap) (locs : List Loc) (ls : Array Slot), fX18_goes_b218 fu a1 (fX18_goes_h166 fu a1 f166) v2 v3 v4 v5 M L = some (r0, M0, L0) → mw_W G ad NF TF FF M L H locs → lv_has ls 7 [(0, .ref (ad 902)), (2, .int v2), (3, .int v3), (4, .int v4), (5, .int v5)] → W p l e ({ frames := 1, cells := 0, slots := 0, locals := 22 }) s m [.ref (ad 902), .int a1].toArray below meth c H locs 0 0 (MQ below (mw_Qi G ad NF TF FF (mw_eqI r0 M0 L0)) [.ref (ad 902), .int a1].toArray s 0 0 (mw_fr G)) (F0 m 218 ls []) := by
        intro v2 v3 v4 v5 M L H locs ls hD hw hl
        unfold fX18_goes_b218 at hD
        refine lv_iconst (v := 0) C.1.1 C.1.2.1 dX18_goes_218 (by decide) ?_
        exact hb219 v2 v3 v4 v5 0 M L _ _ ls hD hw (lv_sub hl [0, 1, 2, 3, 4] rfl)
      have hb214 : ∀ (v2 : Int32) (v3 : Int32) (v4 : Int32) (v5 : Int32) (M : mwM) (L : mwL) (H : Heap) (locs : List Loc) (ls : Array Slot), fX18_goes_b214 fu a1 (fX18_goes_h166 fu a1 f166) v2 v3 v4 v5 M L = some (r0, M0, L0) → mw_W G ad NF TF FF M L H locs → lv_has ls 7 [(0, .ref (ad 902)), (2, .int v2), (3, .int v3), (4, .int v4), (5, .int v5)] → W p l e ({ frames := 1, cells := 0, slots := 0, locals := 22 }) s m [.ref (ad 902), .int a1].toArray below meth c H locs 0 0 (MQ below (mw_Qi G ad NF TF FF (mw_eqI r0 M0 L0)) [.ref (ad 902), .int a1].toArray s 0 0 (mw_fr G)) (F0 m 214 ls []) := by
        intro v2 v3 v4 v5 M L H locs ls hD hw hl
        unfold fX18_goes_b214 at hD
        refine lv_iconst (v := 1) C.1.1 C.1.2.1 dX18_goes_214 (by decide) ?_
        refine lv_goto (tgt := 219) C.1.1 C.1.2.1 dX18_goes_215 (by decide) ?_
        exact hb219 v2 v3 v4 v5 1 M L _ _ ls hD hw (lv_sub hl [0, 1, 2, 3, 4] rfl)
      unfold fX18_goes_i166 at hD
      refine lv_iload C.1.1 C.1.2.1 dX18_goes_166 (lv_at hl 4 rfl) ?_
      refine lv_aload_n C.1.1 C.1.2.1 dX18_goes_168 rfl (lv_at hl 0 rfl) ?_
      refine mr_getI C hw kc_18 2 (by decide) tf_902 wd_2469 dX18_goes_169 (by decide) rfl ?_
      refine lv_icmp_gt (tgt := 263) C.1.1 C.1.2.1 dX18_goes_172 (by decide) (fun c30 => ?_) (fun c30 => ?_)
      · replace hD := g_pos c30 hD
        exact hb263 v4 M L _ _ ls hD hw (lv_sub hl [3] rfl)
      · replace hD := g_neg c30 hD
        refine lv_iload_n C.1.1 C.1.2.1 dX18_goes_175 rfl (lv_at hl 1 rfl) ?_
        refine lv_if_le (tgt := 263) C.1.1 C.1.2.1 dX18_goes_176 (by decide) (fun c31 => ?_) (fun c31 => ?_)
        · replace hD := g_pos c31 hD
          exact hb263 v4 M L _ _ ls hD hw (lv_sub hl [3] rfl)
        · replace hD := g_neg c31 hD
          refine lv_aload_n C.1.1 C.1.2.1 dX18_goes_179 rfl (lv_at hl 0 rfl) ?_
          refine mr_getR C hw kc_18 16 (by decide) tf_902 ff_902_16 wd_2483 dX18_goes_180 (by decide) rfl ?_
          refine lv_iload C.1.1 C.1.2.1 dX18_goes_183 (lv_at hl 4 rfl) ?_
          obtain ⟨q32, hD⟩ := g_ck hD
          refine mr_iald C hw (by decide) tf_916 q32 dX18_goes_185 ?_
          refine lv_if_le (tgt := 218) C.1.1 C.1.2.1 dX18_goes_186 (by decide) (fun c33 => ?_) (fun c33 => ?_)
          · replace hD := g_pos c33 hD
            exact hb218 v2 v3 v4 v5 M L _ _ ls hD hw (lv_sub hl [0, 1, 2, 3, 4] rfl)
          · replace hD := g_neg c33 hD
            refine lv_aload_n C.1.1 C.1.2.1 dX18_goes_189 rfl (lv_at hl 0 rfl) ?_
            refine mr_getR C hw kc_18 3 (by decide) tf_902 ff_902_3 wd_2470 dX18_goes_190 (by decide) rfl ?_
            refine lv_iload C.1.1 C.1.2.1 dX18_goes_193 (lv_at hl 4 rfl) ?_
            obtain ⟨q34, hD⟩ := g_ck hD
            refine mr_iald C hw (by decide) tf_903 q34 dX18_goes_195 ?_
            refine lv_iload_n C.1.1 C.1.2.1 dX18_goes_196 rfl (lv_at hl 1 rfl) ?_
            refine lv_icmp_ne (tgt := 218) C.1.1 C.1.2.1 dX18_goes_197 (by decide) (fun c35 => ?_) (fun c35 => ?_)
            · replace hD := g_neg c35 hD
              exact hb218 v2 v3 v4 v5 M L _ _ ls hD hw (lv_sub hl [0, 1, 2, 3, 4] rfl)
            · replace hD := g_pos c35 hD
              refine lv_iload_n C.1.1 C.1.2.1 dX18_goes_200 rfl (lv_at hl 2 rfl) ?_
              refine lv_if_eq (tgt := 214) C.1.1 C.1.2.1 dX18_goes_201 (by decide) (fun c36 => ?_) (fun c36 => ?_)
              · replace hD := g_pos c36 hD
                exact hb214 v2 v3 v4 v5 M L _ _ ls hD hw (lv_sub hl [0, 1, 2, 3, 4] rfl)
              · replace hD := g_neg c36 hD
                refine lv_aload_n C.1.1 C.1.2.1 dX18_goes_204 rfl (lv_at hl 0 rfl) ?_
                refine lv_iload C.1.1 C.1.2.1 dX18_goes_205 (lv_at hl 4 rfl) ?_
                refine lv_iconst (v := 0) C.1.1 C.1.2.1 dX18_goes_207 (by decide) ?_
                obtain ⟨r39, M37, L38, h1, hD⟩ := g_b3 hD
                refine md_cvI (As := [.int v5, .int 0]) (rest := []) C hw (tX18_is l G ad fu v5 0 M L h1) kc_18 (by decide) tf_902 wd_3387 cwX18_is ⟨Nat.le_of_ble_eq_true rfl, Nat.le_of_ble_eq_true rfl⟩ rfl hl.1 (Nat.le_of_ble_eq_true rfl) dX18_goes_208 rfl rfl ⟨Nat.zero_le _, Nat.zero_le _⟩ rfl (fun H locs hw => ?_)
                refine lv_if_ne (tgt := 218) C.1.1 C.1.2.1 dX18_goes_211 (by decide) (fun c40 => ?_) (fun c40 => ?_)
                · replace hD := g_neg c40 hD
                  exact hb218 v2 v3 v4 v5 M37 L38 _ _ ls hD hw (lv_sub hl [0, 1, 2, 3, 4] rfl)
                · replace hD := g_pos c40 hD
                  exact hb214 v2 v3 v4 v5 M37 L38 _ _ ls hD hw (lv_sub hl [0, 1, 2, 3, 4] rfl)
  have hh104 : ∀ (f : Nat) (v2 : Int32) (v3 : Int32) (v4 : Int32) (M : mwM) (L : mwL) (H : Heap) (locs : List Loc) (ls : Array Slot), fX18_goes_h104 fu a1 f (v2, v3, v4, M, L) = some (r0, M0, L0) → mw_W G ad NF TF FF M L H locs → lv_has ls 7 [(0, .ref (ad 902)), (2, .int v2), (3, .int v3), (4, .int v4)] → W p l e ({ frames := 1, cells := 0, slots := 0, locals := 22 }) s m [.ref (ad 902), .int a1].toArray below meth c H locs 0 0 (MQ below (mw_Qi G ad NF TF FF (mw_eqI r0 M0 L0)) [.ref (ad 902), .int a1].toArray s 0 0 (mw_fr G)) (F0 m 104 ls []) := by
    intro f
    induction f with
    | zero => intro v2 v3 v4 M L H locs ls hD; cases hD
    | succ f104 ih104 =>
      intro v2 v3 v4 M L H locs ls hD hw hl
      replace hD : fX18_goes_i104 fu a1 (fX18_goes_h104 fu a1 f104) v2 v3 v4 M L = some (r0, M0, L0) := hD
      have hb153 : ∀ (v2 : Int32) (v4 : Int32) (s0 : Int32) (M : mwM) (L : mwL) (H : Heap) (locs : List Loc) (ls : Array Slot), fX18_goes_b153 fu a1 (fX18_goes_h104 fu a1 f104) v2 v4 s0 M L = some (r0, M0, L0) → mw_W G ad NF TF FF M L H locs → lv_has ls 7 [(0, .ref (ad 902)), (2, .int v2), (4, .int v4)] → W p l e ({ frames := 1, cells := 0, slots := 0, locals := 22 }) s m [.ref (ad 902), .int a1].toArray below meth c H locs 0 0 (MQ below (mw_Qi G ad NF TF FF (mw_eqI r0 M0 L0)) [.ref (ad 902), .int a1].toArray s 0 0 (mw_fr G)) (F0 m 153 ls [.int s0]) := by
        intro v2 v4 s0 M L H locs ls hD hw hl
        unfold fX18_goes_b153 at hD
        refine lv_istore_n (lv' := [(3, .int s0), (0, .ref (ad 902)), (2, .int v2), (4, .int v4)]) C.1.1 C.1.2.1 dX18_goes_153 rfl hl (by decide) rfl (fun ls hl => ?_)
        obtain ⟨x29, ex29, hD⟩ := g_let hD
        refine lv_iinc (v := x29) (lv' := [(4, .int x29), (3, .int s0), (0, .ref (ad 902)), (2, .int v2)]) C.1.1 C.1.2.1 dX18_goes_154 hl (k := 3) rfl (by rw [ex29]; rfl) (by decide) rfl (fun ls hl => ?_)
        refine lv_goto (tgt := 104) C.1.1 C.1.2.1 dX18_goes_157 (by decide) ?_
        exact ih104 v2 s0 x29 M L _ _ ls hD hw (lv_sub hl [2, 3, 1, 0] rfl)
      have hb152 : ∀ (v2 : Int32) (v4 : Int32) (M : mwM) (L : mwL) (H : Heap) (locs : List Loc) (ls : Array Slot), fX18_goes_b152 fu a1 (fX18_goes_h104 fu a1 f104) v2 v4 M L = some (r0, M0, L0) → mw_W G ad NF TF FF M L H locs → lv_has ls 7 [(0, .ref (ad 902)), (2, .int v2), (4, .int v4)] → W p l e ({ frames := 1, cells := 0, slots := 0, locals := 22 }) s m [.ref (ad 902), .int a1].toArray below meth c H locs 0 0 (MQ below (mw_Qi G ad NF TF FF (mw_eqI r0 M0 L0)) [.ref (ad 902), .int a1].toArray s 0 0 (mw_fr G)) (F0 m 152 ls []) := by
        intro v2 v4 M L H locs ls hD hw hl
        unfold fX18_goes_b152 at hD
        refine lv_iconst (v := 0) C.1.1 C.1.2.1 dX18_goes_152 (by decide) ?_
        exact hb153 v2 v4 0 M L _ _ ls hD hw (lv_sub hl [0, 1, 2] rfl)
      have hb148 : ∀ (v2 : Int32) (v4 : Int32) (M : mwM) (L : mwL) (H : Heap) (locs : List Loc) (ls : Array Slot), fX18_goes_b148 fu a1 (fX18_goes_h104 fu a1 f104) v2 v4 M L = some (r0, M0, L0) → mw_W G ad NF TF FF M L H locs → lv_has ls 7 [(0, .ref (ad 902)), (2, .int v2), (4, .int v4)] → W p l e ({ frames := 1, cells := 0, slots := 0, locals := 22 }) s m [.ref (ad 902), .int a1].toArray below meth c H locs 0 0 (MQ below (mw_Qi G ad NF TF FF (mw_eqI r0 M0 L0)) [.ref (ad 902), .int a1].toArray s 0 0 (mw_fr G)) (F0 m 148 ls []) := by
        intro v2 v4 M L H locs ls hD hw hl
        unfold fX18_goes_b148 at hD
        refine lv_iconst (v := 1) C.1.1 C.1.2.1 dX18_goes_148 (by decide) ?_
        refine lv_goto (tgt := 153) C.1.1 C.1.2.1 dX18_goes_149 (by decide) ?_
        exact hb153 v2 v4 1 M L _ _ ls hD hw (lv_sub hl [0, 1, 2] rfl)
      unfold fX18_goes_i104 at hD
      refine lv_iload C.1.1 C.1.2.1 dX18_goes_104 (lv_at hl 3 rfl) ?_
      refine lv_aload_n C.1.1 C.1.2.1 dX18_goes_106 rfl (lv_at hl 0 rfl) ?_
      refine mr_getI C hw kc_18 2 (by decide) tf_902 wd_2469 dX18_goes_107 (by decide) rfl ?_
      refine lv_icmp_gt (tgt := 160) C.1.1 C.1.2.1 dX18_goes_110 (by decide) (fun c19 => ?_) (fun c19 => ?_)
      · replace hD := g_pos c19 hD
        refine lv_iconst (v := 0) C.1.1 C.1.2.1 dX18_goes_160 (by decide) ?_
        refine lv_istore (lv' := [(4, .int 0), (0, .ref (ad 902)), (2, .int v2), (3, .int v3)]) C.1.1 C.1.2.1 dX18_goes_161 hl (by decide) rfl (fun ls hl => ?_)
        refine lv_iconst (v := 1) C.1.1 C.1.2.1 dX18_goes_163 (by decide) ?_
        refine lv_istore (lv' := [(5, .int 1), (4, .int 0), (0, .ref (ad 902)), (2, .int v2), (3, .int v3)]) C.1.1 C.1.2.1 dX18_goes_164 hl (by decide) rfl (fun ls hl => ?_)
        exact hh166 fu v2 v3 0 1 M L _ _ ls hD hw (lv_sub hl [2, 3, 4, 1, 0] rfl)
      · replace hD := g_neg c19 hD
        refine lv_iload_n C.1.1 C.1.2.1 dX18_goes_113 rfl (lv_at hl 2 rfl) ?_
        refine lv_if_ne (tgt := 148) C.1.1 C.1.2.1 dX18_goes_114 (by decide) (fun c20 => ?_) (fun c20 => ?_)
        · replace hD := g_neg c20 hD
          exact hb148 v2 v4 M L _ _ ls hD hw (lv_sub hl [0, 1, 3] rfl)
        · replace hD := g_pos c20 hD
          refine lv_aload_n C.1.1 C.1.2.1 dX18_goes_117 rfl (lv_at hl 0 rfl) ?_
          refine mr_getR C hw kc_18 16 (by decide) tf_902 ff_902_16 wd_2483 dX18_goes_118 (by decide) rfl ?_
          refine lv_iload C.1.1 C.1.2.1 dX18_goes_121 (lv_at hl 3 rfl) ?_
          obtain ⟨q21, hD⟩ := g_ck hD
          refine mr_iald C hw (by decide) tf_916 q21 dX18_goes_123 ?_
          refine lv_if_le (tgt := 152) C.1.1 C.1.2.1 dX18_goes_124 (by decide) (fun c22 => ?_) (fun c22 => ?_)
          · replace hD := g_pos c22 hD
            exact hb152 v2 v4 M L _ _ ls hD hw (lv_sub hl [0, 1, 3] rfl)
          · replace hD := g_neg c22 hD
            refine lv_aload_n C.1.1 C.1.2.1 dX18_goes_127 rfl (lv_at hl 0 rfl) ?_
            refine mr_getR C hw kc_18 3 (by decide) tf_902 ff_902_3 wd_2470 dX18_goes_128 (by decide) rfl ?_
            refine lv_iload C.1.1 C.1.2.1 dX18_goes_131 (lv_at hl 3 rfl) ?_
            obtain ⟨q23, hD⟩ := g_ck hD
            refine mr_iald C hw (by decide) tf_903 q23 dX18_goes_133 ?_
            refine lv_iload_n C.1.1 C.1.2.1 dX18_goes_134 rfl (lv_at hl 1 rfl) ?_
            refine lv_icmp_ne (tgt := 152) C.1.1 C.1.2.1 dX18_goes_135 (by decide) (fun c24 => ?_) (fun c24 => ?_)
            · replace hD := g_neg c24 hD
              exact hb152 v2 v4 M L _ _ ls hD hw (lv_sub hl [0, 1, 3] rfl)
            · replace hD := g_pos c24 hD
              refine lv_aload_n C.1.1 C.1.2.1 dX18_goes_138 rfl (lv_at hl 0 rfl) ?_
              refine lv_iload C.1.1 C.1.2.1 dX18_goes_139 (lv_at hl 3 rfl) ?_
              refine lv_iconst (v := 0) C.1.1 C.1.2.1 dX18_goes_141 (by decide) ?_
              obtain ⟨r27, M25, L26, h1, hD⟩ := g_b3 hD
              refine md_cvI (As := [.int v4, .int 0]) (rest := []) C hw (tX18_is l G ad fu v4 0 M L h1) kc_18 (by decide) tf_902 wd_3387 cwX18_is ⟨Nat.le_of_ble_eq_true rfl, Nat.le_of_ble_eq_true rfl⟩ rfl hl.1 (Nat.le_of_ble_eq_true rfl) dX18_goes_142 rfl rfl ⟨Nat.zero_le _, Nat.zero_le _⟩ rfl (fun H locs hw => ?_)
              refine lv_if_ne (tgt := 152) C.1.1 C.1.2.1 dX18_goes_145 (by decide) (fun c28 => ?_) (fun c28 => ?_)
              · replace hD := g_neg c28 hD
                exact hb152 v2 v4 M25 L26 _ _ ls hD hw (lv_sub hl [0, 1, 3] rfl)
              · replace hD := g_pos c28 hD
                exact hb148 v2 v4 M25 L26 _ _ ls hD hw (lv_sub hl [0, 1, 3] rfl)
  have hh4 : ∀ (f : Nat) (v2 : Int32) (v3 : Int32) (M : mwM) (L : mwL) (H : Heap) (locs : List Loc) (ls : Array Slot), fX18_goes_h4 fu a1 f (v2, v3, M, L) = some (r0, M0, L0) → mw_W G ad NF TF FF M L H locs → lv_has ls 7 [(0, .ref (ad 902)), (1, .int a1), (2, .int v2), (3, .int v3)] → W p l e ({ frames := 1, cells := 0, slots := 0, locals := 22 }) s m [.ref (ad 902), .int a1].toArray below meth c H locs 0 0 (MQ below (mw_Qi G ad NF TF FF (mw_eqI r0 M0 L0)) [.ref (ad 902), .int a1].toArray s 0 0 (mw_fr G)) (F0 m 4 ls []) := by
    intro f
    induction f with
    | zero => intro v2 v3 M L H locs ls hD; cases hD
    | succ f4 ih4 =>
      intro v2 v3 M L H locs ls hD hw hl
      replace hD : fX18_goes_i4 fu a1 (fX18_goes_h4 fu a1 f4) v2 v3 M L = some (r0, M0, L0) := hD
      have hb92 : ∀ (v3 : Int32) (s0 : Int32) (M : mwM) (L : mwL) (H : Heap) (locs : List Loc) (ls : Array Slot), fX18_goes_b92 fu a1 (fX18_goes_h4 fu a1 f4) v3 s0 M L = some (r0, M0, L0) → mw_W G ad NF TF FF M L H locs → lv_has ls 7 [(0, .ref (ad 902)), (1, .int a1), (3, .int v3)] → W p l e ({ frames := 1, cells := 0, slots := 0, locals := 22 }) s m [.ref (ad 902), .int a1].toArray below meth c H locs 0 0 (MQ below (mw_Qi G ad NF TF FF (mw_eqI r0 M0 L0)) [.ref (ad 902), .int a1].toArray s 0 0 (mw_fr G)) (F0 m 92 ls [.int s0]) := by
        intro v3 s0 M L H locs ls hD hw hl
        unfold fX18_goes_b92 at hD
        refine lv_istore_n (lv' := [(2, .int s0), (0, .ref (ad 902)), (1, .int a1), (3, .int v3)]) C.1.1 C.1.2.1 dX18_goes_92 rfl hl (by decide) rfl (fun ls hl => ?_)
        obtain ⟨x18, ex18, hD⟩ := g_let hD
        refine lv_iinc (v := x18) (lv' := [(3, .int x18), (2, .int s0), (0, .ref (ad 902)), (1, .int a1)]) C.1.1 C.1.2.1 dX18_goes_93 hl (k := 3) rfl (by rw [ex18]; rfl) (by decide) rfl (fun ls hl => ?_)
        refine lv_goto (tgt := 4) C.1.1 C.1.2.1 dX18_goes_96 (by decide) ?_
        exact ih4 s0 x18 M L _ _ ls hD hw (lv_sub hl [2, 3, 1, 0] rfl)
      have hb91 : ∀ (v2 : Int32) (v3 : Int32) (M : mwM) (L : mwL) (H : Heap) (locs : List Loc) (ls : Array Slot), fX18_goes_b91 fu a1 (fX18_goes_h4 fu a1 f4) v2 v3 M L = some (r0, M0, L0) → mw_W G ad NF TF FF M L H locs → lv_has ls 7 [(0, .ref (ad 902)), (1, .int a1), (2, .int v2), (3, .int v3)] → W p l e ({ frames := 1, cells := 0, slots := 0, locals := 22 }) s m [.ref (ad 902), .int a1].toArray below meth c H locs 0 0 (MQ below (mw_Qi G ad NF TF FF (mw_eqI r0 M0 L0)) [.ref (ad 902), .int a1].toArray s 0 0 (mw_fr G)) (F0 m 91 ls []) := by
        intro v2 v3 M L H locs ls hD hw hl
        unfold fX18_goes_b91 at hD
        refine lv_iload_n C.1.1 C.1.2.1 dX18_goes_91 rfl (lv_at hl 2 rfl) ?_
        exact hb92 v3 v2 M L _ _ ls hD hw (lv_sub hl [0, 1, 3] rfl)
      have hb65 : ∀ (v2 : Int32) (v3 : Int32) (s0 : Int32) (M : mwM) (L : mwL) (H : Heap) (locs : List Loc) (ls : Array Slot), fX18_goes_b65 fu a1 (fX18_goes_h4 fu a1 f4) v2 v3 s0 M L = some (r0, M0, L0) → mw_W G ad NF TF FF M L H locs → lv_has ls 7 [(0, .ref (ad 902)), (1, .int a1), (2, .int v2), (3, .int v3)] → W p l e ({ frames := 1, cells := 0, slots := 0, locals := 22 }) s m [.ref (ad 902), .int a1].toArray below meth c H locs 0 0 (MQ below (mw_Qi G ad NF TF FF (mw_eqI r0 M0 L0)) [.ref (ad 902), .int a1].toArray s 0 0 (mw_fr G)) (F0 m 65 ls [.int s0]) := by
        intro v2 v3 s0 M L H locs ls hD hw hl
        unfold fX18_goes_b65 at hD
        refine lv_istore (lv' := [(4, .int s0), (0, .ref (ad 902)), (1, .int a1), (2, .int v2), (3, .int v3)]) C.1.1 C.1.2.1 dX18_goes_65 hl (by decide) rfl (fun ls hl => ?_)
        refine lv_iload C.1.1 C.1.2.1 dX18_goes_67 (lv_at hl 0 rfl) ?_
        refine lv_if_eq (tgt := 91) C.1.1 C.1.2.1 dX18_goes_69 (by decide) (fun c14 => ?_) (fun c14 => ?_)
        · replace hD := g_pos c14 hD
          exact hb91 v2 v3 M L _ _ ls hD hw (lv_sub hl [1, 2, 3, 4] rfl)
        · replace hD := g_neg c14 hD
          refine lv_aload_n C.1.1 C.1.2.1 dX18_goes_72 rfl (lv_at hl 1 rfl) ?_
          refine mr_getR C hw kc_18 3 (by decide) tf_902 ff_902_3 wd_2470 dX18_goes_73 (by decide) rfl ?_
          refine lv_iload_n C.1.1 C.1.2.1 dX18_goes_76 rfl (lv_at hl 4 rfl) ?_
          obtain ⟨q15, hD⟩ := g_ck hD
          refine mr_iald C hw (by decide) tf_903 q15 dX18_goes_77 ?_
          refine lv_iload_n C.1.1 C.1.2.1 dX18_goes_78 rfl (lv_at hl 3 rfl) ?_
          refine lv_icmp_le (tgt := 91) C.1.1 C.1.2.1 dX18_goes_79 (by decide) (fun c16 => ?_) (fun c16 => ?_)
          · replace hD := g_pos c16 hD
            exact hb91 v2 v3 M L _ _ ls hD hw (lv_sub hl [1, 2, 3, 4] rfl)
          · replace hD := g_neg c16 hD
            refine lv_aload_n C.1.1 C.1.2.1 dX18_goes_82 rfl (lv_at hl 1 rfl) ?_
            refine mr_getR C hw kc_18 3 (by decide) tf_902 ff_902_3 wd_2470 dX18_goes_83 (by decide) rfl ?_
            refine lv_iload_n C.1.1 C.1.2.1 dX18_goes_86 rfl (lv_at hl 4 rfl) ?_
            obtain ⟨q17, hD⟩ := g_ck hD
            refine mr_iald C hw (by decide) tf_903 q17 dX18_goes_87 ?_
            refine lv_goto (tgt := 92) C.1.1 C.1.2.1 dX18_goes_88 (by decide) ?_
            exact hb92 v3 (M 903 v3.toNatClampNeg) M L _ _ ls hD hw (lv_sub hl [1, 2, 4] rfl)
      have hb64 : ∀ (v2 : Int32) (v3 : Int32) (M : mwM) (L : mwL) (H : Heap) (locs : List Loc) (ls : Array Slot), fX18_goes_b64 fu a1 (fX18_goes_h4 fu a1 f4) v2 v3 M L = some (r0, M0, L0) → mw_W G ad NF TF FF M L H locs → lv_has ls 7 [(0, .ref (ad 902)), (1, .int a1), (2, .int v2), (3, .int v3)] → W p l e ({ frames := 1, cells := 0, slots := 0, locals := 22 }) s m [.ref (ad 902), .int a1].toArray below meth c H locs 0 0 (MQ below (mw_Qi G ad NF TF FF (mw_eqI r0 M0 L0)) [.ref (ad 902), .int a1].toArray s 0 0 (mw_fr G)) (F0 m 64 ls []) := by
        intro v2 v3 M L H locs ls hD hw hl
        unfold fX18_goes_b64 at hD
        refine lv_iconst (v := 0) C.1.1 C.1.2.1 dX18_goes_64 (by decide) ?_
        exact hb65 v2 v3 0 M L _ _ ls hD hw (lv_sub hl [0, 1, 2, 3] rfl)
      have hb60 : ∀ (v2 : Int32) (v3 : Int32) (M : mwM) (L : mwL) (H : Heap) (locs : List Loc) (ls : Array Slot), fX18_goes_b60 fu a1 (fX18_goes_h4 fu a1 f4) v2 v3 M L = some (r0, M0, L0) → mw_W G ad NF TF FF M L H locs → lv_has ls 7 [(0, .ref (ad 902)), (1, .int a1), (2, .int v2), (3, .int v3)] → W p l e ({ frames := 1, cells := 0, slots := 0, locals := 22 }) s m [.ref (ad 902), .int a1].toArray below meth c H locs 0 0 (MQ below (mw_Qi G ad NF TF FF (mw_eqI r0 M0 L0)) [.ref (ad 902), .int a1].toArray s 0 0 (mw_fr G)) (F0 m 60 ls []) := by
        intro v2 v3 M L H locs ls hD hw hl
        unfold fX18_goes_b60 at hD
        refine lv_iconst (v := 1) C.1.1 C.1.2.1 dX18_goes_60 (by decide) ?_
        refine lv_goto (tgt := 65) C.1.1 C.1.2.1 dX18_goes_61 (by decide) ?_
        exact hb65 v2 v3 1 M L _ _ ls hD hw (lv_sub hl [0, 1, 2, 3] rfl)
      unfold fX18_goes_i4 at hD
      refine lv_iload_n C.1.1 C.1.2.1 dX18_goes_4 rfl (lv_at hl 3 rfl) ?_
      refine lv_aload_n C.1.1 C.1.2.1 dX18_goes_5 rfl (lv_at hl 0 rfl) ?_
      refine mr_getI C hw kc_18 2 (by decide) tf_902 wd_2469 dX18_goes_6 (by decide) rfl ?_
      refine lv_icmp_gt (tgt := 99) C.1.1 C.1.2.1 dX18_goes_9 (by decide) (fun c1 => ?_) (fun c1 => ?_)
      · replace hD := g_pos c1 hD
        refine lv_iconst (v := 0) C.1.1 C.1.2.1 dX18_goes_99 (by decide) ?_
        refine lv_istore_n (lv' := [(3, .int 0), (0, .ref (ad 902)), (1, .int a1), (2, .int v2)]) C.1.1 C.1.2.1 dX18_goes_100 rfl hl (by decide) rfl (fun ls hl => ?_)
        refine lv_iconst (v := 1) C.1.1 C.1.2.1 dX18_goes_101 (by decide) ?_
        refine lv_istore (lv' := [(4, .int 1), (3, .int 0), (0, .ref (ad 902)), (1, .int a1), (2, .int v2)]) C.1.1 C.1.2.1 dX18_goes_102 hl (by decide) rfl (fun ls hl => ?_)
        exact hh104 fu v2 0 1 M L _ _ ls hD hw (lv_sub hl [2, 4, 1, 0] rfl)
      · replace hD := g_neg c1 hD
        refine lv_aload_n C.1.1 C.1.2.1 dX18_goes_12 rfl (lv_at hl 0 rfl) ?_
        refine mr_getR C hw kc_18 16 (by decide) tf_902 ff_902_16 wd_2483 dX18_goes_13 (by decide) rfl ?_
        refine lv_iload_n C.1.1 C.1.2.1 dX18_goes_16 rfl (lv_at hl 3 rfl) ?_
        obtain ⟨q2, hD⟩ := g_ck hD
        refine mr_iald C hw (by decide) tf_916 q2 dX18_goes_17 ?_
        refine lv_if_le (tgt := 64) C.1.1 C.1.2.1 dX18_goes_18 (by decide) (fun c3 => ?_) (fun c3 => ?_)
        · replace hD := g_pos c3 hD
          exact hb64 v2 v3 M L _ _ ls hD hw (lv_sub hl [0, 1, 2, 3] rfl)
        · replace hD := g_neg c3 hD
          refine lv_aload_n C.1.1 C.1.2.1 dX18_goes_21 rfl (lv_at hl 0 rfl) ?_
          refine mr_getR C hw kc_18 3 (by decide) tf_902 ff_902_3 wd_2470 dX18_goes_22 (by decide) rfl ?_
          refine lv_iload_n C.1.1 C.1.2.1 dX18_goes_25 rfl (lv_at hl 3 rfl) ?_
          obtain ⟨q4, hD⟩ := g_ck hD
          refine mr_iald C hw (by decide) tf_903 q4 dX18_goes_26 ?_
          refine lv_aload_n C.1.1 C.1.2.1 dX18_goes_27 rfl (lv_at hl 0 rfl) ?_
          refine mr_getR C hw kc_18 3 (by decide) tf_902 ff_902_3 wd_2470 dX18_goes_28 (by decide) rfl ?_
          refine lv_iload_n C.1.1 C.1.2.1 dX18_goes_31 rfl (lv_at hl 1 rfl) ?_
          obtain ⟨q5, hD⟩ := g_ck hD
          refine mr_iald C hw (by decide) tf_903 q5 dX18_goes_32 ?_
          refine lv_icmp_gt (tgt := 60) C.1.1 C.1.2.1 dX18_goes_33 (by decide) (fun c6 => ?_) (fun c6 => ?_)
          · replace hD := g_pos c6 hD
            exact hb60 v2 v3 M L _ _ ls hD hw (lv_sub hl [0, 1, 2, 3] rfl)
          · replace hD := g_neg c6 hD
            refine lv_aload_n C.1.1 C.1.2.1 dX18_goes_36 rfl (lv_at hl 0 rfl) ?_
            refine mr_getR C hw kc_18 3 (by decide) tf_902 ff_902_3 wd_2470 dX18_goes_37 (by decide) rfl ?_
            refine lv_iload_n C.1.1 C.1.2.1 dX18_goes_40 rfl (lv_at hl 3 rfl) ?_
            obtain ⟨q7, hD⟩ := g_ck hD
            refine mr_iald C hw (by decide) tf_903 q7 dX18_goes_41 ?_
            refine lv_aload_n C.1.1 C.1.2.1 dX18_goes_42 rfl (lv_at hl 0 rfl) ?_
            refine mr_getR C hw kc_18 3 (by decide) tf_902 ff_902_3 wd_2470 dX18_goes_43 (by decide) rfl ?_
            refine lv_iload_n C.1.1 C.1.2.1 dX18_goes_46 rfl (lv_at hl 1 rfl) ?_
            obtain ⟨q8, hD⟩ := g_ck hD
            refine mr_iald C hw (by decide) tf_903 q8 dX18_goes_47 ?_
            refine lv_icmp_ne (tgt := 64) C.1.1 C.1.2.1 dX18_goes_48 (by decide) (fun c9 => ?_) (fun c9 => ?_)
            · replace hD := g_neg c9 hD
              exact hb64 v2 v3 M L _ _ ls hD hw (lv_sub hl [0, 1, 2, 3] rfl)
            · replace hD := g_pos c9 hD
              refine lv_aload_n C.1.1 C.1.2.1 dX18_goes_51 rfl (lv_at hl 0 rfl) ?_
              refine lv_iload_n C.1.1 C.1.2.1 dX18_goes_52 rfl (lv_at hl 3 rfl) ?_
              refine lv_iconst (v := 0) C.1.1 C.1.2.1 dX18_goes_53 (by decide) ?_
              obtain ⟨r12, M10, L11, h1, hD⟩ := g_b3 hD
              refine md_cvI (As := [.int v3, .int 0]) (rest := []) C hw (tX18_is l G ad fu v3 0 M L h1) kc_18 (by decide) tf_902 wd_3387 cwX18_is ⟨Nat.le_of_ble_eq_true rfl, Nat.le_of_ble_eq_true rfl⟩ rfl hl.1 (Nat.le_of_ble_eq_true rfl) dX18_goes_54 rfl rfl ⟨Nat.zero_le _, Nat.zero_le _⟩ rfl (fun H locs hw => ?_)
              refine lv_if_ne (tgt := 64) C.1.1 C.1.2.1 dX18_goes_57 (by decide) (fun c13 => ?_) (fun c13 => ?_)
              · replace hD := g_neg c13 hD
                exact hb64 v2 v3 M10 L11 _ _ ls hD hw (lv_sub hl [0, 1, 2, 3] rfl)
              · replace hD := g_pos c13 hD
                exact hb60 v2 v3 M10 L11 _ _ ls hD hw (lv_sub hl [0, 1, 2, 3] rfl)
  unfold DX18_goes at hD
  refine lv_iconst (v := 0) C.1.1 C.1.2.1 dX18_goes_0 (by decide) ?_
  refine lv_istore_n (lv' := [(2, .int 0), (0, .ref (ad 902)), (1, .int a1)]) C.1.1 C.1.2.1 dX18_goes_1 rfl hl (by decide) rfl (fun ls hl => ?_)
  refine lv_iconst (v := 1) C.1.1 C.1.2.1 dX18_goes_2 (by decide) ?_
  refine lv_istore_n (lv' := [(3, .int 1), (2, .int 0), (0, .ref (ad 902)), (1, .int a1)]) C.1.1 C.1.2.1 dX18_goes_3 rfl hl (by decide) rfl (fun ls hl => ?_)
  exact hh4 fu 0 1 M L _ _ ls hD hw (lv_sub hl [2, 3, 1, 0] rfl)

theorem dX18_shoot_0 : decode cX18_shoot 0 = .ok (.bipush 8, 2) := by decide +kernel
theorem dX18_shoot_2 : decode cX18_shoot 2 = .ok (.iload_n 1, 1) := by decide +kernel
theorem dX18_shoot_3 : decode cX18_shoot 3 = .ok (.imul, 1) := by decide +kernel
theorem dX18_shoot_4 : decode cX18_shoot 4 = .ok (.iconst 4, 1) := by decide +kernel
theorem dX18_shoot_5 : decode cX18_shoot 5 = .ok (.iload_n 2, 1) := by decide +kernel
theorem dX18_shoot_6 : decode cX18_shoot 6 = .ok (.imul, 1) := by decide +kernel
theorem dX18_shoot_7 : decode cX18_shoot 7 = .ok (.iadd, 1) := by decide +kernel
theorem dX18_shoot_8 : decode cX18_shoot 8 = .ok (.istore_n 3, 1) := by decide +kernel
theorem dX18_shoot_9 : decode cX18_shoot 9 = .ok (.aload_n 0, 1) := by decide +kernel
theorem dX18_shoot_10 : decode cX18_shoot 10 = .ok (.getfield 56, 3) := by decide +kernel
theorem dX18_shoot_13 : decode cX18_shoot 13 = .ok (.iload_n 3, 1) := by decide +kernel
theorem dX18_shoot_14 : decode cX18_shoot 14 = .ok (.aload_n 0, 1) := by decide +kernel
theorem dX18_shoot_15 : decode cX18_shoot 15 = .ok (.getfield 82, 3) := by decide +kernel
theorem dX18_shoot_18 : decode cX18_shoot 18 = .ok (.iastore, 1) := by decide +kernel
theorem dX18_shoot_19 : decode cX18_shoot 19 = .ok (.aload_n 0, 1) := by decide +kernel
theorem dX18_shoot_20 : decode cX18_shoot 20 = .ok (.getfield 56, 3) := by decide +kernel
theorem dX18_shoot_23 : decode cX18_shoot 23 = .ok (.iload_n 3, 1) := by decide +kernel
theorem dX18_shoot_24 : decode cX18_shoot 24 = .ok (.iconst 1, 1) := by decide +kernel
theorem dX18_shoot_25 : decode cX18_shoot 25 = .ok (.iadd, 1) := by decide +kernel
theorem dX18_shoot_26 : decode cX18_shoot 26 = .ok (.aload_n 0, 1) := by decide +kernel
theorem dX18_shoot_27 : decode cX18_shoot 27 = .ok (.getfield 85, 3) := by decide +kernel
theorem dX18_shoot_30 : decode cX18_shoot 30 = .ok (.iastore, 1) := by decide +kernel
theorem dX18_shoot_31 : decode cX18_shoot 31 = .ok (.aload_n 0, 1) := by decide +kernel
theorem dX18_shoot_32 : decode cX18_shoot 32 = .ok (.getfield 56, 3) := by decide +kernel
theorem dX18_shoot_35 : decode cX18_shoot 35 = .ok (.iload_n 3, 1) := by decide +kernel
theorem dX18_shoot_36 : decode cX18_shoot 36 = .ok (.iconst 2, 1) := by decide +kernel
theorem dX18_shoot_37 : decode cX18_shoot 37 = .ok (.iadd, 1) := by decide +kernel
theorem dX18_shoot_38 : decode cX18_shoot 38 = .ok (.aload_n 0, 1) := by decide +kernel
theorem dX18_shoot_39 : decode cX18_shoot 39 = .ok (.iconst 0, 1) := by decide +kernel
theorem dX18_shoot_40 : decode cX18_shoot 40 = .ok (.invokevirtual 106, 3) := by decide +kernel
theorem dX18_shoot_43 : decode cX18_shoot 43 = .ok (.iastore, 1) := by decide +kernel
theorem dX18_shoot_44 : decode cX18_shoot 44 = .ok (.aload_n 0, 1) := by decide +kernel
theorem dX18_shoot_45 : decode cX18_shoot 45 = .ok (.getfield 56, 3) := by decide +kernel
theorem dX18_shoot_48 : decode cX18_shoot 48 = .ok (.iload_n 3, 1) := by decide +kernel
theorem dX18_shoot_49 : decode cX18_shoot 49 = .ok (.iconst 3, 1) := by decide +kernel
theorem dX18_shoot_50 : decode cX18_shoot 50 = .ok (.iadd, 1) := by decide +kernel
theorem dX18_shoot_51 : decode cX18_shoot 51 = .ok (.aload_n 0, 1) := by decide +kernel
theorem dX18_shoot_52 : decode cX18_shoot 52 = .ok (.getfield 13, 3) := by decide +kernel
theorem dX18_shoot_55 : decode cX18_shoot 55 = .ok (.iload_n 1, 1) := by decide +kernel
theorem dX18_shoot_56 : decode cX18_shoot 56 = .ok (.iaload, 1) := by decide +kernel
theorem dX18_shoot_57 : decode cX18_shoot 57 = .ok (.iastore, 1) := by decide +kernel
theorem dX18_shoot_58 : decode cX18_shoot 58 = .ok (.return_, 1) := by decide +kernel
theorem cwX18_shoot : mw_cwV yX18_shoot cX18_shoot 4 (none) 2 := ⟨⟨wd_18, wd_3907, by decide +kernel⟩, wd_3906, sl_286⟩
set_option maxHeartbeats 4000000 in
set_option maxRecDepth 100000 in
theorem tX18_shoot (l : Launch) (G : mwG) (ad : Nat → Nat) (fu : Nat) (a1 : Int32) (a2 : Int32) (M : mwM) (L : mwL) {M0 : mwM} {L0 : mwL} (hD : DX18_shoot fu a1 a2 M L = some (M0, L0)) : Met l yX18_shoot (Cond.code yX18_shoot cX18_shoot 4 (none) :: GT) ({ frames := 2, cells := 0, slots := 0, locals := 45 }) (mw_Pre G ad NF TF FF M L [.ref (ad 902), .int a1, .int a2]) (mw_Qv G ad NF TF FF (mw_eqV M0 L0)) 0 0 (mw_fr G) := by
  refine mw_enter (by decide) (Nat.le_of_ble_eq_true rfl) ?_
  intro p e s m below meth c ls C hr hlocks hnm hw hl
  have hl : lv_has ls 4 [(0, .ref (ad 902)), (1, .int a1), (2, .int a2)] := hl
  unfold DX18_shoot at hD
  refine lv_bipush (v := 8) C.1.1 C.1.2.1 dX18_shoot_0 (by decide) ?_
  refine lv_iload_n C.1.1 C.1.2.1 dX18_shoot_2 rfl (lv_at hl 1 rfl) ?_
  refine lv_imul C.1.1 C.1.2.1 dX18_shoot_3 ?_
  refine lv_iconst (v := 4) C.1.1 C.1.2.1 dX18_shoot_4 (by decide) ?_
  refine lv_iload_n C.1.1 C.1.2.1 dX18_shoot_5 rfl (lv_at hl 2 rfl) ?_
  refine lv_imul C.1.1 C.1.2.1 dX18_shoot_6 ?_
  refine lv_iadd C.1.1 C.1.2.1 dX18_shoot_7 ?_
  obtain ⟨x1, ex1, hD⟩ := g_let hD
  refine W.eq (g2 := F0 m 8 ls (.int x1 :: [])) (by rw [ex1]) ?_
  refine lv_istore_n (lv' := [(3, .int x1), (0, .ref (ad 902)), (1, .int a1), (2, .int a2)]) C.1.1 C.1.2.1 dX18_shoot_8 rfl hl (by decide) rfl (fun ls hl => ?_)
  refine lv_aload_n C.1.1 C.1.2.1 dX18_shoot_9 rfl (lv_at hl 1 rfl) ?_
  refine mr_getR C hw kc_18 18 (by decide) tf_902 ff_902_18 wd_2485 dX18_shoot_10 (by decide) rfl ?_
  refine lv_iload_n C.1.1 C.1.2.1 dX18_shoot_13 rfl (lv_at hl 0 rfl) ?_
  refine lv_aload_n C.1.1 C.1.2.1 dX18_shoot_14 rfl (lv_at hl 1 rfl) ?_
  refine mr_getI C hw kc_18 24 (by decide) tf_902 wd_2491 dX18_shoot_15 (by decide) rfl ?_
  obtain ⟨q2, hD⟩ := g_ck hD
  obtain ⟨M3, eM3, hD⟩ := g_let hD
  refine mr_iast C hw (by decide) tf_918 q2 dX18_shoot_18 (fun H locs hw => ?_)
  replace hw : mw_W G ad NF TF FF M3 L H locs := by rw [eM3]; exact hw
  refine lv_aload_n C.1.1 C.1.2.1 dX18_shoot_19 rfl (lv_at hl 1 rfl) ?_
  refine mr_getR C hw kc_18 18 (by decide) tf_902 ff_902_18 wd_2485 dX18_shoot_20 (by decide) rfl ?_
  refine lv_iload_n C.1.1 C.1.2.1 dX18_shoot_23 rfl (lv_at hl 0 rfl) ?_
  refine lv_iconst (v := 1) C.1.1 C.1.2.1 dX18_shoot_24 (by decide) ?_
  refine lv_iadd C.1.1 C.1.2.1 dX18_shoot_25 ?_
  refine lv_aload_n C.1.1 C.1.2.1 dX18_shoot_26 rfl (lv_at hl 1 rfl) ?_
  refine mr_getI C hw kc_18 25 (by decide) tf_902 wd_2492 dX18_shoot_27 (by decide) rfl ?_
  obtain ⟨q4, hD⟩ := g_ck hD
  obtain ⟨M5, eM5, hD⟩ := g_let hD
  refine mr_iast C hw (by decide) tf_918 q4 dX18_shoot_30 (fun H locs hw => ?_)
  replace hw : mw_W G ad NF TF FF M5 L H locs := by rw [eM5]; exact hw
  refine lv_aload_n C.1.1 C.1.2.1 dX18_shoot_31 rfl (lv_at hl 1 rfl) ?_
  refine mr_getR C hw kc_18 18 (by decide) tf_902 ff_902_18 wd_2485 dX18_shoot_32 (by decide) rfl ?_
  refine lv_iload_n C.1.1 C.1.2.1 dX18_shoot_35 rfl (lv_at hl 0 rfl) ?_
  refine lv_iconst (v := 2) C.1.1 C.1.2.1 dX18_shoot_36 (by decide) ?_
  refine lv_iadd C.1.1 C.1.2.1 dX18_shoot_37 ?_
  refine lv_aload_n C.1.1 C.1.2.1 dX18_shoot_38 rfl (lv_at hl 1 rfl) ?_
  refine lv_iconst (v := 0) C.1.1 C.1.2.1 dX18_shoot_39 (by decide) ?_
  obtain ⟨r8, M6, L7, h1, hD⟩ := g_b3 hD
  refine md_cvI (As := [.int 0]) (rest := [.int (x1 + 2), .ref (ad 918)]) C hw (tX18_many l G ad fu 0 M5 L h1) kc_18 (by decide) tf_902 wd_3908 cwX18_many ⟨Nat.le_of_ble_eq_true rfl, Nat.le_of_ble_eq_true rfl⟩ rfl hl.1 (Nat.le_of_ble_eq_true rfl) dX18_shoot_40 rfl rfl ⟨Nat.zero_le _, Nat.zero_le _⟩ rfl (fun H locs hw => ?_)
  obtain ⟨q9, hD⟩ := g_ck hD
  obtain ⟨M10, eM10, hD⟩ := g_let hD
  refine mr_iast C hw (by decide) tf_918 q9 dX18_shoot_43 (fun H locs hw => ?_)
  replace hw : mw_W G ad NF TF FF M10 L7 H locs := by rw [eM10]; exact hw
  refine lv_aload_n C.1.1 C.1.2.1 dX18_shoot_44 rfl (lv_at hl 1 rfl) ?_
  refine mr_getR C hw kc_18 18 (by decide) tf_902 ff_902_18 wd_2485 dX18_shoot_45 (by decide) rfl ?_
  refine lv_iload_n C.1.1 C.1.2.1 dX18_shoot_48 rfl (lv_at hl 0 rfl) ?_
  refine lv_iconst (v := 3) C.1.1 C.1.2.1 dX18_shoot_49 (by decide) ?_
  refine lv_iadd C.1.1 C.1.2.1 dX18_shoot_50 ?_
  refine lv_aload_n C.1.1 C.1.2.1 dX18_shoot_51 rfl (lv_at hl 1 rfl) ?_
  refine mr_getR C hw kc_18 4 (by decide) tf_902 ff_902_4 wd_2471 dX18_shoot_52 (by decide) rfl ?_
  refine lv_iload_n C.1.1 C.1.2.1 dX18_shoot_55 rfl (lv_at hl 2 rfl) ?_
  obtain ⟨q11, hD⟩ := g_ck hD
  refine mr_iald C hw (by decide) tf_904 q11 dX18_shoot_56 ?_
  obtain ⟨q12, hD⟩ := g_ck hD
  obtain ⟨M13, eM13, hD⟩ := g_let hD
  refine mr_iast C hw (by decide) tf_918 q12 dX18_shoot_57 (fun H locs hw => ?_)
  replace hw : mw_W G ad NF TF FF M13 L7 H locs := by rw [eM13]; exact hw
  exact mr_vret C hr hlocks hw (Option.some.inj hD) dX18_shoot_58

theorem dX18_store_0 : decode cX18_store 0 = .ok (.aload_n 0, 1) := by decide +kernel
theorem dX18_store_1 : decode cX18_store 1 = .ok (.getfield 50, 3) := by decide +kernel
theorem dX18_store_4 : decode cX18_store 4 = .ok (.iload_n 1, 1) := by decide +kernel
theorem dX18_store_5 : decode cX18_store 5 = .ok (.iaload, 1) := by decide +kernel
theorem dX18_store_6 : decode cX18_store 6 = .ok (.ifCond .le 42, 3) := by decide +kernel
theorem dX18_store_9 : decode cX18_store 9 = .ok (.aload_n 0, 1) := by decide +kernel
theorem dX18_store_10 : decode cX18_store 10 = .ok (.getfield 53, 3) := by decide +kernel
theorem dX18_store_13 : decode cX18_store 13 = .ok (.iload_n 1, 1) := by decide +kernel
theorem dX18_store_14 : decode cX18_store 14 = .ok (.aload_n 0, 1) := by decide +kernel
theorem dX18_store_15 : decode cX18_store 15 = .ok (.getfield 53, 3) := by decide +kernel
theorem dX18_store_18 : decode cX18_store 18 = .ok (.iload_n 1, 1) := by decide +kernel
theorem dX18_store_19 : decode cX18_store 19 = .ok (.iaload, 1) := by decide +kernel
theorem dX18_store_20 : decode cX18_store 20 = .ok (.sipush 255, 3) := by decide +kernel
theorem dX18_store_23 : decode cX18_store 23 = .ok (.if_icmp .ge 14, 3) := by decide +kernel
theorem dX18_store_26 : decode cX18_store 26 = .ok (.aload_n 0, 1) := by decide +kernel
theorem dX18_store_27 : decode cX18_store 27 = .ok (.getfield 53, 3) := by decide +kernel
theorem dX18_store_30 : decode cX18_store 30 = .ok (.iload_n 1, 1) := by decide +kernel
theorem dX18_store_31 : decode cX18_store 31 = .ok (.iaload, 1) := by decide +kernel
theorem dX18_store_32 : decode cX18_store 32 = .ok (.iconst 1, 1) := by decide +kernel
theorem dX18_store_33 : decode cX18_store 33 = .ok (.iadd, 1) := by decide +kernel
theorem dX18_store_34 : decode cX18_store 34 = .ok (.goto 6, 3) := by decide +kernel
theorem dX18_store_37 : decode cX18_store 37 = .ok (.sipush 255, 3) := by decide +kernel
theorem dX18_store_40 : decode cX18_store 40 = .ok (.iastore, 1) := by decide +kernel
theorem dX18_store_41 : decode cX18_store 41 = .ok (.aload_n 0, 1) := by decide +kernel
theorem dX18_store_42 : decode cX18_store 42 = .ok (.iload_n 1, 1) := by decide +kernel
theorem dX18_store_43 : decode cX18_store 43 = .ok (.iconst 1, 1) := by decide +kernel
theorem dX18_store_44 : decode cX18_store 44 = .ok (.invokevirtual 110, 3) := by decide +kernel
theorem dX18_store_47 : decode cX18_store 47 = .ok (.return_, 1) := by decide +kernel
theorem dX18_store_48 : decode cX18_store 48 = .ok (.aload_n 0, 1) := by decide +kernel
theorem dX18_store_49 : decode cX18_store 49 = .ok (.invokevirtual 114, 3) := by decide +kernel
theorem dX18_store_52 : decode cX18_store 52 = .ok (.aload_n 0, 1) := by decide +kernel
theorem dX18_store_53 : decode cX18_store 53 = .ok (.getfield 65, 3) := by decide +kernel
theorem dX18_store_56 : decode cX18_store 56 = .ok (.if_icmp .lt 51, 3) := by decide +kernel
theorem dX18_store_59 : decode cX18_store 59 = .ok (.aload_n 0, 1) := by decide +kernel
theorem dX18_store_60 : decode cX18_store 60 = .ok (.iload_n 1, 1) := by decide +kernel
theorem dX18_store_61 : decode cX18_store 61 = .ok (.invokevirtual 118, 3) := by decide +kernel
theorem dX18_store_64 : decode cX18_store 64 = .ok (.istore_n 2, 1) := by decide +kernel
theorem dX18_store_65 : decode cX18_store 65 = .ok (.iload_n 2, 1) := by decide +kernel
theorem dX18_store_66 : decode cX18_store 66 = .ok (.ifCond .ne 4, 3) := by decide +kernel
theorem dX18_store_69 : decode cX18_store 69 = .ok (.return_, 1) := by decide +kernel
theorem dX18_store_70 : decode cX18_store 70 = .ok (.aload_n 0, 1) := by decide +kernel
theorem dX18_store_71 : decode cX18_store 71 = .ok (.getfield 50, 3) := by decide +kernel
theorem dX18_store_74 : decode cX18_store 74 = .ok (.iload_n 2, 1) := by decide +kernel
theorem dX18_store_75 : decode cX18_store 75 = .ok (.iconst 0, 1) := by decide +kernel
theorem dX18_store_76 : decode cX18_store 76 = .ok (.iastore, 1) := by decide +kernel
theorem dX18_store_77 : decode cX18_store 77 = .ok (.aload_n 0, 1) := by decide +kernel
theorem dX18_store_78 : decode cX18_store 78 = .ok (.getfield 75, 3) := by decide +kernel
theorem dX18_store_81 : decode cX18_store 81 = .ok (.sipush 500, 3) := by decide +kernel
theorem dX18_store_84 : decode cX18_store 84 = .ok (.if_icmp .ge 23, 3) := by decide +kernel
theorem dX18_store_87 : decode cX18_store 87 = .ok (.aload_n 0, 1) := by decide +kernel
theorem dX18_store_88 : decode cX18_store 88 = .ok (.getfield 59, 3) := by decide +kernel
theorem dX18_store_91 : decode cX18_store 91 = .ok (.aload_n 0, 1) := by decide +kernel
theorem dX18_store_92 : decode cX18_store 92 = .ok (.getfield 75, 3) := by decide +kernel
theorem dX18_store_95 : decode cX18_store 95 = .ok (.iload_n 2, 1) := by decide +kernel
theorem dX18_store_96 : decode cX18_store 96 = .ok (.iastore, 1) := by decide +kernel
theorem dX18_store_97 : decode cX18_store 97 = .ok (.aload_n 0, 1) := by decide +kernel
theorem dX18_store_98 : decode cX18_store 98 = .ok (.dup, 1) := by decide +kernel
theorem dX18_store_99 : decode cX18_store 99 = .ok (.getfield 75, 3) := by decide +kernel
theorem dX18_store_102 : decode cX18_store 102 = .ok (.iconst 1, 1) := by decide +kernel
theorem dX18_store_103 : decode cX18_store 103 = .ok (.iadd, 1) := by decide +kernel
theorem dX18_store_104 : decode cX18_store 104 = .ok (.putfield 75, 3) := by decide +kernel
theorem dX18_store_107 : decode cX18_store 107 = .ok (.aload_n 0, 1) := by decide +kernel
theorem dX18_store_108 : decode cX18_store 108 = .ok (.dup, 1) := by decide +kernel
theorem dX18_store_109 : decode cX18_store 109 = .ok (.getfield 72, 3) := by decide +kernel
theorem dX18_store_112 : decode cX18_store 112 = .ok (.iconst 1, 1) := by decide +kernel
theorem dX18_store_113 : decode cX18_store 113 = .ok (.iadd, 1) := by decide +kernel
theorem dX18_store_114 : decode cX18_store 114 = .ok (.putfield 72, 3) := by decide +kernel
theorem dX18_store_117 : decode cX18_store 117 = .ok (.aload_n 0, 1) := by decide +kernel
theorem dX18_store_118 : decode cX18_store 118 = .ok (.getfield 50, 3) := by decide +kernel
theorem dX18_store_121 : decode cX18_store 121 = .ok (.iload_n 1, 1) := by decide +kernel
theorem dX18_store_122 : decode cX18_store 122 = .ok (.aload_n 0, 1) := by decide +kernel
theorem dX18_store_123 : decode cX18_store 123 = .ok (.getfield 72, 3) := by decide +kernel
theorem dX18_store_126 : decode cX18_store 126 = .ok (.iastore, 1) := by decide +kernel
theorem dX18_store_127 : decode cX18_store 127 = .ok (.aload_n 0, 1) := by decide +kernel
theorem dX18_store_128 : decode cX18_store 128 = .ok (.getfield 53, 3) := by decide +kernel
theorem dX18_store_131 : decode cX18_store 131 = .ok (.iload_n 1, 1) := by decide +kernel
theorem dX18_store_132 : decode cX18_store 132 = .ok (.iconst 1, 1) := by decide +kernel
theorem dX18_store_133 : decode cX18_store 133 = .ok (.iastore, 1) := by decide +kernel
theorem dX18_store_134 : decode cX18_store 134 = .ok (.aload_n 0, 1) := by decide +kernel
theorem dX18_store_135 : decode cX18_store 135 = .ok (.iload_n 1, 1) := by decide +kernel
theorem dX18_store_136 : decode cX18_store 136 = .ok (.iconst 0, 1) := by decide +kernel
theorem dX18_store_137 : decode cX18_store 137 = .ok (.invokevirtual 110, 3) := by decide +kernel
theorem dX18_store_140 : decode cX18_store 140 = .ok (.aload_n 0, 1) := by decide +kernel
theorem dX18_store_141 : decode cX18_store 141 = .ok (.iload_n 1, 1) := by decide +kernel
theorem dX18_store_142 : decode cX18_store 142 = .ok (.iconst 1, 1) := by decide +kernel
theorem dX18_store_143 : decode cX18_store 143 = .ok (.invokevirtual 110, 3) := by decide +kernel
theorem dX18_store_146 : decode cX18_store 146 = .ok (.return_, 1) := by decide +kernel
theorem cwX18_store : mw_cwV yX18_store cX18_store 3 (none) 1 := ⟨⟨wd_18, wd_3903, by decide +kernel⟩, wd_3902, sl_285⟩
set_option maxHeartbeats 4000000 in
set_option maxRecDepth 100000 in
theorem tX18_store (l : Launch) (G : mwG) (ad : Nat → Nat) (fu : Nat) (a1 : Int32) (M : mwM) (L : mwL) {M0 : mwM} {L0 : mwL} (hD : DX18_store fu a1 M L = some (M0, L0)) : Met l yX18_store (Cond.code yX18_store cX18_store 3 (none) :: GT) ({ frames := 3, cells := 0, slots := 0, locals := 68 }) (mw_Pre G ad NF TF FF M L [.ref (ad 902), .int a1]) (mw_Qv G ad NF TF FF (mw_eqV M0 L0)) 0 0 (mw_fr G) := by
  refine mw_enter (by decide) (Nat.le_of_ble_eq_true rfl) ?_
  intro p e s m below meth c ls C hr hlocks hnm hw hl
  have hl : lv_has ls 3 [(0, .ref (ad 902)), (1, .int a1)] := hl
  have hb40 : ∀ (s2 : Int32) (M : mwM) (L : mwL) (H : Heap) (locs : List Loc) (ls : Array Slot), fX18_store_b40 fu a1 s2 M L = some (M0, L0) → mw_W G ad NF TF FF M L H locs → lv_has ls 3 [(0, .ref (ad 902)), (1, .int a1)] → W p l e ({ frames := 3, cells := 0, slots := 0, locals := 68 }) s m [.ref (ad 902), .int a1].toArray below meth c H locs 0 0 (MQ below (mw_Qv G ad NF TF FF (mw_eqV M0 L0)) [.ref (ad 902), .int a1].toArray s 0 0 (mw_fr G)) (F0 m 40 ls [.int s2, .int a1, .ref (ad 917)]) := by
    intro s2 M L H locs ls hD hw hl
    unfold fX18_store_b40 at hD
    obtain ⟨q1, hD⟩ := g_ck hD
    obtain ⟨M2, eM2, hD⟩ := g_let hD
    refine mr_iast C hw (by decide) tf_917 q1 dX18_store_40 (fun H locs hw => ?_)
    replace hw : mw_W G ad NF TF FF M2 L H locs := by rw [eM2]; exact hw
    refine lv_aload_n C.1.1 C.1.2.1 dX18_store_41 rfl (lv_at hl 0 rfl) ?_
    refine lv_iload_n C.1.1 C.1.2.1 dX18_store_42 rfl (lv_at hl 1 rfl) ?_
    refine lv_iconst (v := 1) C.1.1 C.1.2.1 dX18_store_43 (by decide) ?_
    obtain ⟨M3, L4, h1, hD⟩ := g_b2 hD
    refine md_cvV (As := [.int a1, .int 1]) (rest := []) C hw (tX18_shoot l G ad fu a1 1 M2 L h1) kc_18 (by decide) tf_902 wd_3904 cwX18_shoot ⟨Nat.le_of_ble_eq_true rfl, Nat.le_of_ble_eq_true rfl⟩ rfl hl.1 (Nat.le_of_ble_eq_true rfl) dX18_store_44 rfl rfl ⟨Nat.zero_le _, Nat.zero_le _⟩ rfl (fun H locs hw => ?_)
    exact mr_vret C hr hlocks hw (Option.some.inj hD) dX18_store_47
  have hb107 : ∀ (M : mwM) (L : mwL) (H : Heap) (locs : List Loc) (ls : Array Slot), fX18_store_b107 fu a1 M L = some (M0, L0) → mw_W G ad NF TF FF M L H locs → lv_has ls 3 [(0, .ref (ad 902)), (1, .int a1)] → W p l e ({ frames := 3, cells := 0, slots := 0, locals := 68 }) s m [.ref (ad 902), .int a1].toArray below meth c H locs 0 0 (MQ below (mw_Qv G ad NF TF FF (mw_eqV M0 L0)) [.ref (ad 902), .int a1].toArray s 0 0 (mw_fr G)) (F0 m 107 ls []) := by
    intro M L H locs ls hD hw hl
    unfold fX18_store_b107 at hD
    refine lv_aload_n C.1.1 C.1.2.1 dX18_store_107 rfl (lv_at hl 0 rfl) ?_
    refine lv_dup C.1.1 C.1.2.1 dX18_store_108 rfl ?_
    refine mr_getI C hw kc_18 19 (by decide) tf_902 wd_2486 dX18_store_109 (by decide) rfl ?_
    refine lv_iconst (v := 1) C.1.1 C.1.2.1 dX18_store_112 (by decide) ?_
    refine lv_iadd C.1.1 C.1.2.1 dX18_store_113 ?_
    obtain ⟨M5, eM5, hD⟩ := g_let hD
    refine mr_putI C hw kc_18 19 (by decide) tf_902 wd_2486 dX18_store_114 (by decide) rfl rfl rfl rfl (fun H locs hw => ?_)
    replace hw : mw_W G ad NF TF FF M5 L H locs := by rw [eM5]; exact hw
    refine lv_aload_n C.1.1 C.1.2.1 dX18_store_117 rfl (lv_at hl 0 rfl) ?_
    refine mr_getR C hw kc_18 16 (by decide) tf_902 ff_902_16 wd_2483 dX18_store_118 (by decide) rfl ?_
    refine lv_iload_n C.1.1 C.1.2.1 dX18_store_121 rfl (lv_at hl 1 rfl) ?_
    refine lv_aload_n C.1.1 C.1.2.1 dX18_store_122 rfl (lv_at hl 0 rfl) ?_
    refine mr_getI C hw kc_18 19 (by decide) tf_902 wd_2486 dX18_store_123 (by decide) rfl ?_
    obtain ⟨q6, hD⟩ := g_ck hD
    obtain ⟨M7, eM7, hD⟩ := g_let hD
    refine mr_iast C hw (by decide) tf_916 q6 dX18_store_126 (fun H locs hw => ?_)
    replace hw : mw_W G ad NF TF FF M7 L H locs := by rw [eM7]; exact hw
    refine lv_aload_n C.1.1 C.1.2.1 dX18_store_127 rfl (lv_at hl 0 rfl) ?_
    refine mr_getR C hw kc_18 17 (by decide) tf_902 ff_902_17 wd_2484 dX18_store_128 (by decide) rfl ?_
    refine lv_iload_n C.1.1 C.1.2.1 dX18_store_131 rfl (lv_at hl 1 rfl) ?_
    refine lv_iconst (v := 1) C.1.1 C.1.2.1 dX18_store_132 (by decide) ?_
    obtain ⟨q8, hD⟩ := g_ck hD
    obtain ⟨M9, eM9, hD⟩ := g_let hD
    refine mr_iast C hw (by decide) tf_917 q8 dX18_store_133 (fun H locs hw => ?_)
    replace hw : mw_W G ad NF TF FF M9 L H locs := by rw [eM9]; exact hw
    refine lv_aload_n C.1.1 C.1.2.1 dX18_store_134 rfl (lv_at hl 0 rfl) ?_
    refine lv_iload_n C.1.1 C.1.2.1 dX18_store_135 rfl (lv_at hl 1 rfl) ?_
    refine lv_iconst (v := 0) C.1.1 C.1.2.1 dX18_store_136 (by decide) ?_
    obtain ⟨M10, L11, h1, hD⟩ := g_b2 hD
    refine md_cvV (As := [.int a1, .int 0]) (rest := []) C hw (tX18_shoot l G ad fu a1 0 M9 L h1) kc_18 (by decide) tf_902 wd_3904 cwX18_shoot ⟨Nat.le_of_ble_eq_true rfl, Nat.le_of_ble_eq_true rfl⟩ rfl hl.1 (Nat.le_of_ble_eq_true rfl) dX18_store_137 rfl rfl ⟨Nat.zero_le _, Nat.zero_le _⟩ rfl (fun H locs hw => ?_)
    refine lv_aload_n C.1.1 C.1.2.1 dX18_store_140 rfl (lv_at hl 0 rfl) ?_
    refine lv_iload_n C.1.1 C.1.2.1 dX18_store_141 rfl (lv_at hl 1 rfl) ?_
    refine lv_iconst (v := 1) C.1.1 C.1.2.1 dX18_store_142 (by decide) ?_
    obtain ⟨M12, L13, h1, hD⟩ := g_b2 hD
    refine md_cvV (As := [.int a1, .int 1]) (rest := []) C hw (tX18_shoot l G ad fu a1 1 M10 L11 h1) kc_18 (by decide) tf_902 wd_3904 cwX18_shoot ⟨Nat.le_of_ble_eq_true rfl, Nat.le_of_ble_eq_true rfl⟩ rfl hl.1 (Nat.le_of_ble_eq_true rfl) dX18_store_143 rfl rfl ⟨Nat.zero_le _, Nat.zero_le _⟩ rfl (fun H locs hw => ?_)
    exact mr_vret C hr hlocks hw (Option.some.inj hD) dX18_store_146
  unfold DX18_store at hD
  refine lv_aload_n C.1.1 C.1.2.1 dX18_store_0 rfl (lv_at hl 0 rfl) ?_
  refine mr_getR C hw kc_18 16 (by decide) tf_902 ff_902_16 wd_2483 dX18_store_1 (by decide) rfl ?_
  refine lv_iload_n C.1.1 C.1.2.1 dX18_store_4 rfl (lv_at hl 1 rfl) ?_
  obtain ⟨q14, hD⟩ := g_ck hD
  refine mr_iald C hw (by decide) tf_916 q14 dX18_store_5 ?_
  refine lv_if_le (tgt := 48) C.1.1 C.1.2.1 dX18_store_6 (by decide) (fun c15 => ?_) (fun c15 => ?_)
  · replace hD := g_pos c15 hD
    refine lv_aload_n C.1.1 C.1.2.1 dX18_store_48 rfl (lv_at hl 0 rfl) ?_
    obtain ⟨r18, M16, L17, h1, hD⟩ := g_b3 hD
    refine md_cvI (As := []) (rest := []) C hw (tX18_entries l G ad fu M L h1) kc_18 (by decide) tf_902 wd_3912 cwX18_entries ⟨Nat.le_of_ble_eq_true rfl, Nat.le_of_ble_eq_true rfl⟩ rfl hl.1 (Nat.le_of_ble_eq_true rfl) dX18_store_49 rfl rfl ⟨Nat.zero_le _, Nat.zero_le _⟩ rfl (fun H locs hw => ?_)
    refine lv_aload_n C.1.1 C.1.2.1 dX18_store_52 rfl (lv_at hl 0 rfl) ?_
    refine mr_getI C hw kc_18 1 (by decide) tf_902 wd_2468 dX18_store_53 (by decide) rfl ?_
    refine lv_icmp_lt (tgt := 107) C.1.1 C.1.2.1 dX18_store_56 (by decide) (fun c19 => ?_) (fun c19 => ?_)
    · replace hD := g_pos c19 hD
      exact hb107 M16 L17 _ _ ls hD hw (lv_sub hl [0, 1] rfl)
    · replace hD := g_neg c19 hD
      refine lv_aload_n C.1.1 C.1.2.1 dX18_store_59 rfl (lv_at hl 0 rfl) ?_
      refine lv_iload_n C.1.1 C.1.2.1 dX18_store_60 rfl (lv_at hl 1 rfl) ?_
      obtain ⟨r22, M20, L21, h1, hD⟩ := g_b3 hD
      refine md_cvI (As := [.int a1]) (rest := []) C hw (tX18_goes l G ad fu a1 M16 L17 h1) kc_18 (by decide) tf_902 wd_3916 cwX18_goes ⟨Nat.le_of_ble_eq_true rfl, Nat.le_of_ble_eq_true rfl⟩ rfl hl.1 (Nat.le_of_ble_eq_true rfl) dX18_store_61 rfl rfl ⟨Nat.zero_le _, Nat.zero_le _⟩ rfl (fun H locs hw => ?_)
      refine lv_istore_n (lv' := [(2, .int r22), (0, .ref (ad 902)), (1, .int a1)]) C.1.1 C.1.2.1 dX18_store_64 rfl hl (by decide) rfl (fun ls hl => ?_)
      refine lv_iload_n C.1.1 C.1.2.1 dX18_store_65 rfl (lv_at hl 0 rfl) ?_
      refine lv_if_ne (tgt := 70) C.1.1 C.1.2.1 dX18_store_66 (by decide) (fun c23 => ?_) (fun c23 => ?_)
      · replace hD := g_neg c23 hD
        refine lv_aload_n C.1.1 C.1.2.1 dX18_store_70 rfl (lv_at hl 1 rfl) ?_
        refine mr_getR C hw kc_18 16 (by decide) tf_902 ff_902_16 wd_2483 dX18_store_71 (by decide) rfl ?_
        refine lv_iload_n C.1.1 C.1.2.1 dX18_store_74 rfl (lv_at hl 0 rfl) ?_
        refine lv_iconst (v := 0) C.1.1 C.1.2.1 dX18_store_75 (by decide) ?_
        obtain ⟨q24, hD⟩ := g_ck hD
        obtain ⟨M25, eM25, hD⟩ := g_let hD
        refine mr_iast C hw (by decide) tf_916 q24 dX18_store_76 (fun H locs hw => ?_)
        replace hw : mw_W G ad NF TF FF M25 L21 H locs := by rw [eM25]; exact hw
        refine lv_aload_n C.1.1 C.1.2.1 dX18_store_77 rfl (lv_at hl 1 rfl) ?_
        refine mr_getI C hw kc_18 20 (by decide) tf_902 wd_2487 dX18_store_78 (by decide) rfl ?_
        refine lv_sipush (v := 500) C.1.1 C.1.2.1 dX18_store_81 (by decide) ?_
        refine lv_icmp_ge (tgt := 107) C.1.1 C.1.2.1 dX18_store_84 (by decide) (fun c26 => ?_) (fun c26 => ?_)
        · replace hD := g_pos c26 hD
          exact hb107 M25 L21 _ _ ls hD hw (lv_sub hl [1, 2] rfl)
        · replace hD := g_neg c26 hD
          refine lv_aload_n C.1.1 C.1.2.1 dX18_store_87 rfl (lv_at hl 1 rfl) ?_
          refine mr_getR C hw kc_18 21 (by decide) tf_902 ff_902_21 wd_2488 dX18_store_88 (by decide) rfl ?_
          refine lv_aload_n C.1.1 C.1.2.1 dX18_store_91 rfl (lv_at hl 1 rfl) ?_
          refine mr_getI C hw kc_18 20 (by decide) tf_902 wd_2487 dX18_store_92 (by decide) rfl ?_
          refine lv_iload_n C.1.1 C.1.2.1 dX18_store_95 rfl (lv_at hl 0 rfl) ?_
          obtain ⟨q27, hD⟩ := g_ck hD
          obtain ⟨M28, eM28, hD⟩ := g_let hD
          refine mr_iast C hw (by decide) tf_919 q27 dX18_store_96 (fun H locs hw => ?_)
          replace hw : mw_W G ad NF TF FF M28 L21 H locs := by rw [eM28]; exact hw
          refine lv_aload_n C.1.1 C.1.2.1 dX18_store_97 rfl (lv_at hl 1 rfl) ?_
          refine lv_dup C.1.1 C.1.2.1 dX18_store_98 rfl ?_
          refine mr_getI C hw kc_18 20 (by decide) tf_902 wd_2487 dX18_store_99 (by decide) rfl ?_
          refine lv_iconst (v := 1) C.1.1 C.1.2.1 dX18_store_102 (by decide) ?_
          refine lv_iadd C.1.1 C.1.2.1 dX18_store_103 ?_
          obtain ⟨M29, eM29, hD⟩ := g_let hD
          refine mr_putI C hw kc_18 20 (by decide) tf_902 wd_2487 dX18_store_104 (by decide) rfl rfl rfl rfl (fun H locs hw => ?_)
          replace hw : mw_W G ad NF TF FF M29 L21 H locs := by rw [eM29]; exact hw
          exact hb107 M29 L21 _ _ ls hD hw (lv_sub hl [1, 2] rfl)
      · replace hD := g_pos c23 hD
        exact mr_vret C hr hlocks hw (Option.some.inj hD) dX18_store_69
  · replace hD := g_neg c15 hD
    refine lv_aload_n C.1.1 C.1.2.1 dX18_store_9 rfl (lv_at hl 0 rfl) ?_
    refine mr_getR C hw kc_18 17 (by decide) tf_902 ff_902_17 wd_2484 dX18_store_10 (by decide) rfl ?_
    refine lv_iload_n C.1.1 C.1.2.1 dX18_store_13 rfl (lv_at hl 1 rfl) ?_
    refine lv_aload_n C.1.1 C.1.2.1 dX18_store_14 rfl (lv_at hl 0 rfl) ?_
    refine mr_getR C hw kc_18 17 (by decide) tf_902 ff_902_17 wd_2484 dX18_store_15 (by decide) rfl ?_
    refine lv_iload_n C.1.1 C.1.2.1 dX18_store_18 rfl (lv_at hl 1 rfl) ?_
    obtain ⟨q30, hD⟩ := g_ck hD
    refine mr_iald C hw (by decide) tf_917 q30 dX18_store_19 ?_
    refine lv_sipush (v := 255) C.1.1 C.1.2.1 dX18_store_20 (by decide) ?_
    refine lv_icmp_ge (tgt := 37) C.1.1 C.1.2.1 dX18_store_23 (by decide) (fun c31 => ?_) (fun c31 => ?_)
    · replace hD := g_pos c31 hD
      refine lv_sipush (v := 255) C.1.1 C.1.2.1 dX18_store_37 (by decide) ?_
      exact hb40 255 M L _ _ ls hD hw (lv_sub hl [0, 1] rfl)
    · replace hD := g_neg c31 hD
      refine lv_aload_n C.1.1 C.1.2.1 dX18_store_26 rfl (lv_at hl 0 rfl) ?_
      refine mr_getR C hw kc_18 17 (by decide) tf_902 ff_902_17 wd_2484 dX18_store_27 (by decide) rfl ?_
      refine lv_iload_n C.1.1 C.1.2.1 dX18_store_30 rfl (lv_at hl 1 rfl) ?_
      obtain ⟨q32, hD⟩ := g_ck hD
      refine mr_iald C hw (by decide) tf_917 q32 dX18_store_31 ?_
      refine lv_iconst (v := 1) C.1.1 C.1.2.1 dX18_store_32 (by decide) ?_
      refine lv_iadd C.1.1 C.1.2.1 dX18_store_33 ?_
      refine lv_goto (tgt := 40) C.1.1 C.1.2.1 dX18_store_34 (by decide) ?_
      exact hb40 ((M 917 a1.toNatClampNeg) + 1) M L _ _ ls hD hw (lv_sub hl [0, 1] rfl)

theorem dX18_hidden_0 : decode cX18_hidden 0 = .ok (.aload_n 0, 1) := by decide +kernel
theorem dX18_hidden_1 : decode cX18_hidden 1 = .ok (.getfield 19, 3) := by decide +kernel
theorem dX18_hidden_4 : decode cX18_hidden 4 = .ok (.iload_n 1, 1) := by decide +kernel
theorem dX18_hidden_5 : decode cX18_hidden 5 = .ok (.iaload, 1) := by decide +kernel
theorem dX18_hidden_6 : decode cX18_hidden 6 = .ok (.istore_n 2, 1) := by decide +kernel
theorem dX18_hidden_7 : decode cX18_hidden 7 = .ok (.iload_n 2, 1) := by decide +kernel
theorem dX18_hidden_8 : decode cX18_hidden 8 = .ok (.ifCond .le 24, 3) := by decide +kernel
theorem dX18_hidden_11 : decode cX18_hidden 11 = .ok (.aload_n 0, 1) := by decide +kernel
theorem dX18_hidden_12 : decode cX18_hidden 12 = .ok (.iload_n 2, 1) := by decide +kernel
theorem dX18_hidden_13 : decode cX18_hidden 13 = .ok (.iconst 0, 1) := by decide +kernel
theorem dX18_hidden_14 : decode cX18_hidden 14 = .ok (.invokevirtual 91, 3) := by decide +kernel
theorem dX18_hidden_17 : decode cX18_hidden 17 = .ok (.ifCond .eq 5, 3) := by decide +kernel
theorem dX18_hidden_20 : decode cX18_hidden 20 = .ok (.iconst 1, 1) := by decide +kernel
theorem dX18_hidden_21 : decode cX18_hidden 21 = .ok (.ireturn, 1) := by decide +kernel
theorem dX18_hidden_22 : decode cX18_hidden 22 = .ok (.aload_n 0, 1) := by decide +kernel
theorem dX18_hidden_23 : decode cX18_hidden 23 = .ok (.getfield 19, 3) := by decide +kernel
theorem dX18_hidden_26 : decode cX18_hidden 26 = .ok (.iload_n 2, 1) := by decide +kernel
theorem dX18_hidden_27 : decode cX18_hidden 27 = .ok (.iaload, 1) := by decide +kernel
theorem dX18_hidden_28 : decode cX18_hidden 28 = .ok (.istore_n 2, 1) := by decide +kernel
theorem dX18_hidden_29 : decode cX18_hidden 29 = .ok (.goto (-22), 3) := by decide +kernel
theorem dX18_hidden_32 : decode cX18_hidden 32 = .ok (.iconst 0, 1) := by decide +kernel
theorem dX18_hidden_33 : decode cX18_hidden 33 = .ok (.ireturn, 1) := by decide +kernel
theorem cwX18_hidden : mw_cwV yX18_hidden cX18_hidden 3 ((some .boolean)) 1 := ⟨⟨wd_18, wd_3899, by decide +kernel⟩, wd_3898, sl_284⟩
set_option maxHeartbeats 4000000 in
set_option maxRecDepth 100000 in
theorem tX18_hidden (l : Launch) (G : mwG) (ad : Nat → Nat) (fu : Nat) (a1 : Int32) (M : mwM) (L : mwL) {r0 : Int32} {M0 : mwM} {L0 : mwL} (hD : DX18_hidden fu a1 M L = some (r0, M0, L0)) : Met l yX18_hidden (Cond.code yX18_hidden cX18_hidden 3 ((some .boolean)) :: GT) ({ frames := 1, cells := 0, slots := 0, locals := 22 }) (mw_Pre G ad NF TF FF M L [.ref (ad 902), .int a1]) (mw_Qi G ad NF TF FF (mw_eqI r0 M0 L0)) 0 0 (mw_fr G) := by
  refine mw_enter (by decide) (Nat.le_of_ble_eq_true rfl) ?_
  intro p e s m below meth c ls C hr hlocks hnm hw hl
  have hl : lv_has ls 3 [(0, .ref (ad 902)), (1, .int a1)] := hl
  have hh7 : ∀ (f : Nat) (v2 : Int32) (M : mwM) (L : mwL) (H : Heap) (locs : List Loc) (ls : Array Slot), fX18_hidden_h7 fu a1 f (v2, M, L) = some (r0, M0, L0) → mw_W G ad NF TF FF M L H locs → lv_has ls 3 [(0, .ref (ad 902)), (2, .int v2)] → W p l e ({ frames := 1, cells := 0, slots := 0, locals := 22 }) s m [.ref (ad 902), .int a1].toArray below meth c H locs 0 0 (MQ below (mw_Qi G ad NF TF FF (mw_eqI r0 M0 L0)) [.ref (ad 902), .int a1].toArray s 0 0 (mw_fr G)) (F0 m 7 ls []) := by
    intro f
    induction f with
    | zero => intro v2 M L H locs ls hD; cases hD
    | succ f7 ih7 =>
      intro v2 M L H locs ls hD hw hl
      replace hD : fX18_hidden_i7 fu a1 (fX18_hidden_h7 fu a1 f7) v2 M L = some (r0, M0, L0) := hD
      unfold fX18_hidden_i7 at hD
      refine lv_iload_n C.1.1 C.1.2.1 dX18_hidden_7 rfl (lv_at hl 1 rfl) ?_
      refine lv_if_le (tgt := 32) C.1.1 C.1.2.1 dX18_hidden_8 (by decide) (fun c1 => ?_) (fun c1 => ?_)
      · replace hD := g_pos c1 hD
        refine lv_iconst (v := 0) C.1.1 C.1.2.1 dX18_hidden_32 (by decide) ?_
        exact mr_iret C hr hlocks hw (by decide +kernel) (Option.some.inj hD) dX18_hidden_33
      · replace hD := g_neg c1 hD
        refine lv_aload_n C.1.1 C.1.2.1 dX18_hidden_11 rfl (lv_at hl 0 rfl) ?_
        refine lv_iload_n C.1.1 C.1.2.1 dX18_hidden_12 rfl (lv_at hl 1 rfl) ?_
        refine lv_iconst (v := 0) C.1.1 C.1.2.1 dX18_hidden_13 (by decide) ?_
        obtain ⟨r4, M2, L3, h1, hD⟩ := g_b3 hD
        refine md_cvI (As := [.int v2, .int 0]) (rest := []) C hw (tX18_is l G ad fu v2 0 M L h1) kc_18 (by decide) tf_902 wd_3387 cwX18_is ⟨Nat.le_of_ble_eq_true rfl, Nat.le_of_ble_eq_true rfl⟩ rfl hl.1 (Nat.le_of_ble_eq_true rfl) dX18_hidden_14 rfl rfl ⟨Nat.zero_le _, Nat.zero_le _⟩ rfl (fun H locs hw => ?_)
        refine lv_if_eq (tgt := 22) C.1.1 C.1.2.1 dX18_hidden_17 (by decide) (fun c5 => ?_) (fun c5 => ?_)
        · replace hD := g_pos c5 hD
          refine lv_aload_n C.1.1 C.1.2.1 dX18_hidden_22 rfl (lv_at hl 0 rfl) ?_
          refine mr_getR C hw kc_18 6 (by decide) tf_902 ff_902_6 wd_2473 dX18_hidden_23 (by decide) rfl ?_
          refine lv_iload_n C.1.1 C.1.2.1 dX18_hidden_26 rfl (lv_at hl 1 rfl) ?_
          obtain ⟨q6, hD⟩ := g_ck hD
          refine mr_iald C hw (by decide) tf_906 q6 dX18_hidden_27 ?_
          obtain ⟨x7, ex7, hD⟩ := g_let hD
          refine W.eq (g2 := F0 m 28 ls (.int x7 :: [])) (by rw [ex7]) ?_
          refine lv_istore_n (lv' := [(2, .int x7), (0, .ref (ad 902))]) C.1.1 C.1.2.1 dX18_hidden_28 rfl hl (by decide) rfl (fun ls hl => ?_)
          refine lv_goto (tgt := 7) C.1.1 C.1.2.1 dX18_hidden_29 (by decide) ?_
          exact ih7 x7 M2 L3 _ _ ls hD hw (lv_sub hl [1, 0] rfl)
        · replace hD := g_neg c5 hD
          refine lv_iconst (v := 1) C.1.1 C.1.2.1 dX18_hidden_20 (by decide) ?_
          exact mr_iret C hr hlocks hw (by decide +kernel) (Option.some.inj hD) dX18_hidden_21
  unfold DX18_hidden at hD
  refine lv_aload_n C.1.1 C.1.2.1 dX18_hidden_0 rfl (lv_at hl 0 rfl) ?_
  refine mr_getR C hw kc_18 6 (by decide) tf_902 ff_902_6 wd_2473 dX18_hidden_1 (by decide) rfl ?_
  refine lv_iload_n C.1.1 C.1.2.1 dX18_hidden_4 rfl (lv_at hl 1 rfl) ?_
  obtain ⟨q8, hD⟩ := g_ck hD
  refine mr_iald C hw (by decide) tf_906 q8 dX18_hidden_5 ?_
  obtain ⟨x9, ex9, hD⟩ := g_let hD
  refine W.eq (g2 := F0 m 6 ls (.int x9 :: [])) (by rw [ex9]) ?_
  refine lv_istore_n (lv' := [(2, .int x9), (0, .ref (ad 902)), (1, .int a1)]) C.1.1 C.1.2.1 dX18_hidden_6 rfl hl (by decide) rfl (fun ls hl => ?_)
  exact hh7 fu x9 M L _ _ ls hD hw (lv_sub hl [1, 0] rfl)

theorem dX18_fails_0 : decode cX18_fails 0 = .ok (.aload_n 0, 1) := by decide +kernel
theorem dX18_fails_1 : decode cX18_fails 1 = .ok (.iload_n 1, 1) := by decide +kernel
theorem dX18_fails_2 : decode cX18_fails 2 = .ok (.iconst 4, 1) := by decide +kernel
theorem dX18_fails_3 : decode cX18_fails 3 = .ok (.iconst 0, 1) := by decide +kernel
theorem dX18_fails_4 : decode cX18_fails 4 = .ok (.invokevirtual 95, 3) := by decide +kernel
theorem dX18_fails_7 : decode cX18_fails 7 = .ok (.aload_n 0, 1) := by decide +kernel
theorem dX18_fails_8 : decode cX18_fails 8 = .ok (.iload_n 1, 1) := by decide +kernel
theorem dX18_fails_9 : decode cX18_fails 9 = .ok (.bipush 6, 2) := by decide +kernel
theorem dX18_fails_11 : decode cX18_fails 11 = .ok (.iconst 0, 1) := by decide +kernel
theorem dX18_fails_12 : decode cX18_fails 12 = .ok (.invokevirtual 95, 3) := by decide +kernel
theorem dX18_fails_15 : decode cX18_fails 15 = .ok (.aload_n 0, 1) := by decide +kernel
theorem dX18_fails_16 : decode cX18_fails 16 = .ok (.iload_n 1, 1) := by decide +kernel
theorem dX18_fails_17 : decode cX18_fails 17 = .ok (.iconst 1, 1) := by decide +kernel
theorem dX18_fails_18 : decode cX18_fails 18 = .ok (.invokevirtual 91, 3) := by decide +kernel
theorem dX18_fails_21 : decode cX18_fails 21 = .ok (.ifCond .ne 25, 3) := by decide +kernel
theorem dX18_fails_24 : decode cX18_fails 24 = .ok (.aload_n 0, 1) := by decide +kernel
theorem dX18_fails_25 : decode cX18_fails 25 = .ok (.getfield 29, 3) := by decide +kernel
theorem dX18_fails_28 : decode cX18_fails 28 = .ok (.iload_n 1, 1) := by decide +kernel
theorem dX18_fails_29 : decode cX18_fails 29 = .ok (.iaload, 1) := by decide +kernel
theorem dX18_fails_30 : decode cX18_fails 30 = .ok (.sipush 255, 3) := by decide +kernel
theorem dX18_fails_33 : decode cX18_fails 33 = .ok (.if_icmp .ge 13, 3) := by decide +kernel
theorem dX18_fails_36 : decode cX18_fails 36 = .ok (.aload_n 0, 1) := by decide +kernel
theorem dX18_fails_37 : decode cX18_fails 37 = .ok (.getfield 29, 3) := by decide +kernel
theorem dX18_fails_40 : decode cX18_fails 40 = .ok (.iload_n 1, 1) := by decide +kernel
theorem dX18_fails_41 : decode cX18_fails 41 = .ok (.dup2, 1) := by decide +kernel
theorem dX18_fails_42 : decode cX18_fails 42 = .ok (.iaload, 1) := by decide +kernel
theorem dX18_fails_43 : decode cX18_fails 43 = .ok (.iconst 1, 1) := by decide +kernel
theorem dX18_fails_44 : decode cX18_fails 44 = .ok (.iadd, 1) := by decide +kernel
theorem dX18_fails_45 : decode cX18_fails 45 = .ok (.iastore, 1) := by decide +kernel
theorem dX18_fails_46 : decode cX18_fails 46 = .ok (.aload_n 0, 1) := by decide +kernel
theorem dX18_fails_47 : decode cX18_fails 47 = .ok (.getfield 29, 3) := by decide +kernel
theorem dX18_fails_50 : decode cX18_fails 50 = .ok (.iload_n 1, 1) := by decide +kernel
theorem dX18_fails_51 : decode cX18_fails 51 = .ok (.iaload, 1) := by decide +kernel
theorem dX18_fails_52 : decode cX18_fails 52 = .ok (.iconst 1, 1) := by decide +kernel
theorem dX18_fails_53 : decode cX18_fails 53 = .ok (.if_icmp .le 29, 3) := by decide +kernel
theorem dX18_fails_56 : decode cX18_fails 56 = .ok (.aload_n 0, 1) := by decide +kernel
theorem dX18_fails_57 : decode cX18_fails 57 = .ok (.iload_n 1, 1) := by decide +kernel
theorem dX18_fails_58 : decode cX18_fails 58 = .ok (.iconst 3, 1) := by decide +kernel
theorem dX18_fails_59 : decode cX18_fails 59 = .ok (.iconst 1, 1) := by decide +kernel
theorem dX18_fails_60 : decode cX18_fails 60 = .ok (.invokevirtual 95, 3) := by decide +kernel
theorem dX18_fails_63 : decode cX18_fails 63 = .ok (.aload_n 0, 1) := by decide +kernel
theorem dX18_fails_64 : decode cX18_fails 64 = .ok (.getfield 7, 3) := by decide +kernel
theorem dX18_fails_67 : decode cX18_fails 67 = .ok (.iload_n 1, 1) := by decide +kernel
theorem dX18_fails_68 : decode cX18_fails 68 = .ok (.iaload, 1) := by decide +kernel
theorem dX18_fails_69 : decode cX18_fails 69 = .ok (.bipush 65, 2) := by decide +kernel
theorem dX18_fails_71 : decode cX18_fails 71 = .ok (.if_icmp .ge 11, 3) := by decide +kernel
theorem dX18_fails_74 : decode cX18_fails 74 = .ok (.aload_n 0, 1) := by decide +kernel
theorem dX18_fails_75 : decode cX18_fails 75 = .ok (.iload_n 1, 1) := by decide +kernel
theorem dX18_fails_76 : decode cX18_fails 76 = .ok (.bipush 7, 2) := by decide +kernel
theorem dX18_fails_78 : decode cX18_fails 78 = .ok (.iconst 1, 1) := by decide +kernel
theorem dX18_fails_79 : decode cX18_fails 79 = .ok (.invokevirtual 95, 3) := by decide +kernel
theorem dX18_fails_82 : decode cX18_fails 82 = .ok (.aload_n 0, 1) := by decide +kernel
theorem dX18_fails_83 : decode cX18_fails 83 = .ok (.iload_n 1, 1) := by decide +kernel
theorem dX18_fails_84 : decode cX18_fails 84 = .ok (.iconst 1, 1) := by decide +kernel
theorem dX18_fails_85 : decode cX18_fails 85 = .ok (.iconst 1, 1) := by decide +kernel
theorem dX18_fails_86 : decode cX18_fails 86 = .ok (.invokevirtual 95, 3) := by decide +kernel
theorem dX18_fails_89 : decode cX18_fails 89 = .ok (.aload_n 0, 1) := by decide +kernel
theorem dX18_fails_90 : decode cX18_fails 90 = .ok (.iload_n 1, 1) := by decide +kernel
theorem dX18_fails_91 : decode cX18_fails 91 = .ok (.iconst 2, 1) := by decide +kernel
theorem dX18_fails_92 : decode cX18_fails 92 = .ok (.iconst 1, 1) := by decide +kernel
theorem dX18_fails_93 : decode cX18_fails 93 = .ok (.invokevirtual 95, 3) := by decide +kernel
theorem dX18_fails_96 : decode cX18_fails 96 = .ok (.aload_n 0, 1) := by decide +kernel
theorem dX18_fails_97 : decode cX18_fails 97 = .ok (.iload_n 1, 1) := by decide +kernel
theorem dX18_fails_98 : decode cX18_fails 98 = .ok (.iconst 5, 1) := by decide +kernel
theorem dX18_fails_99 : decode cX18_fails 99 = .ok (.iconst 1, 1) := by decide +kernel
theorem dX18_fails_100 : decode cX18_fails 100 = .ok (.invokevirtual 95, 3) := by decide +kernel
theorem dX18_fails_103 : decode cX18_fails 103 = .ok (.aload_n 0, 1) := by decide +kernel
theorem dX18_fails_104 : decode cX18_fails 104 = .ok (.getfield 32, 3) := by decide +kernel
theorem dX18_fails_107 : decode cX18_fails 107 = .ok (.iload_n 1, 1) := by decide +kernel
theorem dX18_fails_108 : decode cX18_fails 108 = .ok (.iconst 0, 1) := by decide +kernel
theorem dX18_fails_109 : decode cX18_fails 109 = .ok (.iastore, 1) := by decide +kernel
theorem dX18_fails_110 : decode cX18_fails 110 = .ok (.aload_n 0, 1) := by decide +kernel
theorem dX18_fails_111 : decode cX18_fails 111 = .ok (.getfield 35, 3) := by decide +kernel
theorem dX18_fails_114 : decode cX18_fails 114 = .ok (.iload_n 1, 1) := by decide +kernel
theorem dX18_fails_115 : decode cX18_fails 115 = .ok (.iconst 0, 1) := by decide +kernel
theorem dX18_fails_116 : decode cX18_fails 116 = .ok (.iastore, 1) := by decide +kernel
theorem dX18_fails_117 : decode cX18_fails 117 = .ok (.aload_n 0, 1) := by decide +kernel
theorem dX18_fails_118 : decode cX18_fails 118 = .ok (.iload_n 1, 1) := by decide +kernel
theorem dX18_fails_119 : decode cX18_fails 119 = .ok (.iconst 0, 1) := by decide +kernel
theorem dX18_fails_120 : decode cX18_fails 120 = .ok (.invokevirtual 91, 3) := by decide +kernel
theorem dX18_fails_123 : decode cX18_fails 123 = .ok (.istore_n 2, 1) := by decide +kernel
theorem dX18_fails_124 : decode cX18_fails 124 = .ok (.aload_n 0, 1) := by decide +kernel
theorem dX18_fails_125 : decode cX18_fails 125 = .ok (.iload_n 1, 1) := by decide +kernel
theorem dX18_fails_126 : decode cX18_fails 126 = .ok (.iconst 0, 1) := by decide +kernel
theorem dX18_fails_127 : decode cX18_fails 127 = .ok (.iconst 1, 1) := by decide +kernel
theorem dX18_fails_128 : decode cX18_fails 128 = .ok (.invokevirtual 95, 3) := by decide +kernel
theorem dX18_fails_131 : decode cX18_fails 131 = .ok (.iload_n 2, 1) := by decide +kernel
theorem dX18_fails_132 : decode cX18_fails 132 = .ok (.ifCond .ne 16, 3) := by decide +kernel
theorem dX18_fails_135 : decode cX18_fails 135 = .ok (.aload_n 0, 1) := by decide +kernel
theorem dX18_fails_136 : decode cX18_fails 136 = .ok (.iload_n 1, 1) := by decide +kernel
theorem dX18_fails_137 : decode cX18_fails 137 = .ok (.invokevirtual 121, 3) := by decide +kernel
theorem dX18_fails_140 : decode cX18_fails 140 = .ok (.ifCond .ne 8, 3) := by decide +kernel
theorem dX18_fails_143 : decode cX18_fails 143 = .ok (.aload_n 0, 1) := by decide +kernel
theorem dX18_fails_144 : decode cX18_fails 144 = .ok (.iload_n 1, 1) := by decide +kernel
theorem dX18_fails_145 : decode cX18_fails 145 = .ok (.invokevirtual 125, 3) := by decide +kernel
theorem dX18_fails_148 : decode cX18_fails 148 = .ok (.return_, 1) := by decide +kernel
theorem cwX18_fails : mw_cwV yX18_fails cX18_fails 3 (none) 1 := ⟨⟨wd_18, wd_3895, by decide +kernel⟩, wd_3894, sl_283⟩
set_option maxHeartbeats 4000000 in
set_option maxRecDepth 100000 in
theorem tX18_fails (l : Launch) (G : mwG) (ad : Nat → Nat) (fu : Nat) (a1 : Int32) (M : mwM) (L : mwL) {M0 : mwM} {L0 : mwL} (hD : DX18_fails fu a1 M L = some (M0, L0)) : Met l yX18_fails (Cond.code yX18_fails cX18_fails 3 (none) :: GT) ({ frames := 4, cells := 0, slots := 0, locals := 90 }) (mw_Pre G ad NF TF FF M L [.ref (ad 902), .int a1]) (mw_Qv G ad NF TF FF (mw_eqV M0 L0)) 0 0 (mw_fr G) := by
  refine mw_enter (by decide) (Nat.le_of_ble_eq_true rfl) ?_
  intro p e s m below meth c ls C hr hlocks hnm hw hl
  have hl : lv_has ls 3 [(0, .ref (ad 902)), (1, .int a1)] := hl
  have hb148 : ∀ (M : mwM) (L : mwL) (H : Heap) (locs : List Loc) (ls : Array Slot), fX18_fails_b148 fu a1 M L = some (M0, L0) → mw_W G ad NF TF FF M L H locs → lv_has ls 3 [] → W p l e ({ frames := 4, cells := 0, slots := 0, locals := 90 }) s m [.ref (ad 902), .int a1].toArray below meth c H locs 0 0 (MQ below (mw_Qv G ad NF TF FF (mw_eqV M0 L0)) [.ref (ad 902), .int a1].toArray s 0 0 (mw_fr G)) (F0 m 148 ls []) := by
    intro M L H locs ls hD hw hl
    unfold fX18_fails_b148 at hD
    exact mr_vret C hr hlocks hw (Option.some.inj hD) dX18_fails_148
  have hb82 : ∀ (M : mwM) (L : mwL) (H : Heap) (locs : List Loc) (ls : Array Slot), fX18_fails_b82 fu a1 M L = some (M0, L0) → mw_W G ad NF TF FF M L H locs → lv_has ls 3 [(0, .ref (ad 902)), (1, .int a1)] → W p l e ({ frames := 4, cells := 0, slots := 0, locals := 90 }) s m [.ref (ad 902), .int a1].toArray below meth c H locs 0 0 (MQ below (mw_Qv G ad NF TF FF (mw_eqV M0 L0)) [.ref (ad 902), .int a1].toArray s 0 0 (mw_fr G)) (F0 m 82 ls []) := by
    intro M L H locs ls hD hw hl
    unfold fX18_fails_b82 at hD
    refine lv_aload_n C.1.1 C.1.2.1 dX18_fails_82 rfl (lv_at hl 0 rfl) ?_
    refine lv_iload_n C.1.1 C.1.2.1 dX18_fails_83 rfl (lv_at hl 1 rfl) ?_
    refine lv_iconst (v := 1) C.1.1 C.1.2.1 dX18_fails_84 (by decide) ?_
    refine lv_iconst (v := 1) C.1.1 C.1.2.1 dX18_fails_85 (by decide) ?_
    obtain ⟨M9, L10, h1, hD⟩ := g_b2 hD
    refine md_cvV (As := [.int a1, .int 1, .int 1]) (rest := []) C hw (tX18_set l G ad fu a1 1 1 M L h1) kc_18 (by decide) tf_902 wd_3379 cwX18_set ⟨Nat.le_of_ble_eq_true rfl, Nat.le_of_ble_eq_true rfl⟩ rfl hl.1 (Nat.le_of_ble_eq_true rfl) dX18_fails_86 rfl rfl ⟨Nat.zero_le _, Nat.zero_le _⟩ rfl (fun H locs hw => ?_)
    refine lv_aload_n C.1.1 C.1.2.1 dX18_fails_89 rfl (lv_at hl 0 rfl) ?_
    refine lv_iload_n C.1.1 C.1.2.1 dX18_fails_90 rfl (lv_at hl 1 rfl) ?_
    refine lv_iconst (v := 2) C.1.1 C.1.2.1 dX18_fails_91 (by decide) ?_
    refine lv_iconst (v := 1) C.1.1 C.1.2.1 dX18_fails_92 (by decide) ?_
    obtain ⟨M11, L12, h1, hD⟩ := g_b2 hD
    refine md_cvV (As := [.int a1, .int 2, .int 1]) (rest := []) C hw (tX18_set l G ad fu a1 2 1 M9 L10 h1) kc_18 (by decide) tf_902 wd_3379 cwX18_set ⟨Nat.le_of_ble_eq_true rfl, Nat.le_of_ble_eq_true rfl⟩ rfl hl.1 (Nat.le_of_ble_eq_true rfl) dX18_fails_93 rfl rfl ⟨Nat.zero_le _, Nat.zero_le _⟩ rfl (fun H locs hw => ?_)
    refine lv_aload_n C.1.1 C.1.2.1 dX18_fails_96 rfl (lv_at hl 0 rfl) ?_
    refine lv_iload_n C.1.1 C.1.2.1 dX18_fails_97 rfl (lv_at hl 1 rfl) ?_
    refine lv_iconst (v := 5) C.1.1 C.1.2.1 dX18_fails_98 (by decide) ?_
    refine lv_iconst (v := 1) C.1.1 C.1.2.1 dX18_fails_99 (by decide) ?_
    obtain ⟨M13, L14, h1, hD⟩ := g_b2 hD
    refine md_cvV (As := [.int a1, .int 5, .int 1]) (rest := []) C hw (tX18_set l G ad fu a1 5 1 M11 L12 h1) kc_18 (by decide) tf_902 wd_3379 cwX18_set ⟨Nat.le_of_ble_eq_true rfl, Nat.le_of_ble_eq_true rfl⟩ rfl hl.1 (Nat.le_of_ble_eq_true rfl) dX18_fails_100 rfl rfl ⟨Nat.zero_le _, Nat.zero_le _⟩ rfl (fun H locs hw => ?_)
    refine lv_aload_n C.1.1 C.1.2.1 dX18_fails_103 rfl (lv_at hl 0 rfl) ?_
    refine mr_getR C hw kc_18 10 (by decide) tf_902 ff_902_10 wd_2477 dX18_fails_104 (by decide) rfl ?_
    refine lv_iload_n C.1.1 C.1.2.1 dX18_fails_107 rfl (lv_at hl 1 rfl) ?_
    refine lv_iconst (v := 0) C.1.1 C.1.2.1 dX18_fails_108 (by decide) ?_
    obtain ⟨q15, hD⟩ := g_ck hD
    obtain ⟨M16, eM16, hD⟩ := g_let hD
    refine mr_iast C hw (by decide) tf_910 q15 dX18_fails_109 (fun H locs hw => ?_)
    replace hw : mw_W G ad NF TF FF M16 L14 H locs := by rw [eM16]; exact hw
    refine lv_aload_n C.1.1 C.1.2.1 dX18_fails_110 rfl (lv_at hl 0 rfl) ?_
    refine mr_getR C hw kc_18 11 (by decide) tf_902 ff_902_11 wd_2478 dX18_fails_111 (by decide) rfl ?_
    refine lv_iload_n C.1.1 C.1.2.1 dX18_fails_114 rfl (lv_at hl 1 rfl) ?_
    refine lv_iconst (v := 0) C.1.1 C.1.2.1 dX18_fails_115 (by decide) ?_
    obtain ⟨q17, hD⟩ := g_ck hD
    obtain ⟨M18, eM18, hD⟩ := g_let hD
    refine mr_iast C hw (by decide) tf_911 q17 dX18_fails_116 (fun H locs hw => ?_)
    replace hw : mw_W G ad NF TF FF M18 L14 H locs := by rw [eM18]; exact hw
    refine lv_aload_n C.1.1 C.1.2.1 dX18_fails_117 rfl (lv_at hl 0 rfl) ?_
    refine lv_iload_n C.1.1 C.1.2.1 dX18_fails_118 rfl (lv_at hl 1 rfl) ?_
    refine lv_iconst (v := 0) C.1.1 C.1.2.1 dX18_fails_119 (by decide) ?_
    obtain ⟨r21, M19, L20, h1, hD⟩ := g_b3 hD
    refine md_cvI (As := [.int a1, .int 0]) (rest := []) C hw (tX18_is l G ad fu a1 0 M18 L14 h1) kc_18 (by decide) tf_902 wd_3387 cwX18_is ⟨Nat.le_of_ble_eq_true rfl, Nat.le_of_ble_eq_true rfl⟩ rfl hl.1 (Nat.le_of_ble_eq_true rfl) dX18_fails_120 rfl rfl ⟨Nat.zero_le _, Nat.zero_le _⟩ rfl (fun H locs hw => ?_)
    refine lv_istore_n (lv' := [(2, .int r21), (0, .ref (ad 902)), (1, .int a1)]) C.1.1 C.1.2.1 dX18_fails_123 rfl hl (by decide) rfl (fun ls hl => ?_)
    refine lv_aload_n C.1.1 C.1.2.1 dX18_fails_124 rfl (lv_at hl 1 rfl) ?_
    refine lv_iload_n C.1.1 C.1.2.1 dX18_fails_125 rfl (lv_at hl 2 rfl) ?_
    refine lv_iconst (v := 0) C.1.1 C.1.2.1 dX18_fails_126 (by decide) ?_
    refine lv_iconst (v := 1) C.1.1 C.1.2.1 dX18_fails_127 (by decide) ?_
    obtain ⟨M22, L23, h1, hD⟩ := g_b2 hD
    refine md_cvV (As := [.int a1, .int 0, .int 1]) (rest := []) C hw (tX18_set l G ad fu a1 0 1 M19 L20 h1) kc_18 (by decide) tf_902 wd_3379 cwX18_set ⟨Nat.le_of_ble_eq_true rfl, Nat.le_of_ble_eq_true rfl⟩ rfl hl.1 (Nat.le_of_ble_eq_true rfl) dX18_fails_128 rfl rfl ⟨Nat.zero_le _, Nat.zero_le _⟩ rfl (fun H locs hw => ?_)
    refine lv_iload_n C.1.1 C.1.2.1 dX18_fails_131 rfl (lv_at hl 0 rfl) ?_
    refine lv_if_ne (tgt := 148) C.1.1 C.1.2.1 dX18_fails_132 (by decide) (fun c24 => ?_) (fun c24 => ?_)
    · replace hD := g_neg c24 hD
      exact hb148 M22 L23 _ _ ls hD hw (lv_sub hl [] rfl)
    · replace hD := g_pos c24 hD
      refine lv_aload_n C.1.1 C.1.2.1 dX18_fails_135 rfl (lv_at hl 1 rfl) ?_
      refine lv_iload_n C.1.1 C.1.2.1 dX18_fails_136 rfl (lv_at hl 2 rfl) ?_
      obtain ⟨r27, M25, L26, h1, hD⟩ := g_b3 hD
      refine md_cvI (As := [.int a1]) (rest := []) C hw (tX18_hidden l G ad fu a1 M22 L23 h1) kc_18 (by decide) tf_902 wd_3896 cwX18_hidden ⟨Nat.le_of_ble_eq_true rfl, Nat.le_of_ble_eq_true rfl⟩ rfl hl.1 (Nat.le_of_ble_eq_true rfl) dX18_fails_137 rfl rfl ⟨Nat.zero_le _, Nat.zero_le _⟩ rfl (fun H locs hw => ?_)
      refine lv_if_ne (tgt := 148) C.1.1 C.1.2.1 dX18_fails_140 (by decide) (fun c28 => ?_) (fun c28 => ?_)
      · replace hD := g_neg c28 hD
        exact hb148 M25 L26 _ _ ls hD hw (lv_sub hl [] rfl)
      · replace hD := g_pos c28 hD
        refine lv_aload_n C.1.1 C.1.2.1 dX18_fails_143 rfl (lv_at hl 1 rfl) ?_
        refine lv_iload_n C.1.1 C.1.2.1 dX18_fails_144 rfl (lv_at hl 2 rfl) ?_
        obtain ⟨M29, L30, h1, hD⟩ := g_b2 hD
        refine md_cvV (As := [.int a1]) (rest := []) C hw (tX18_store l G ad fu a1 M25 L26 h1) kc_18 (by decide) tf_902 wd_3900 cwX18_store ⟨Nat.le_of_ble_eq_true rfl, Nat.le_of_ble_eq_true rfl⟩ rfl hl.1 (Nat.le_of_ble_eq_true rfl) dX18_fails_145 rfl rfl ⟨Nat.zero_le _, Nat.zero_le _⟩ rfl (fun H locs hw => ?_)
        exact hb148 M29 L30 _ _ ls hD hw (lv_sub hl [] rfl)
  have hb46 : ∀ (M : mwM) (L : mwL) (H : Heap) (locs : List Loc) (ls : Array Slot), fX18_fails_b46 fu a1 M L = some (M0, L0) → mw_W G ad NF TF FF M L H locs → lv_has ls 3 [(0, .ref (ad 902)), (1, .int a1)] → W p l e ({ frames := 4, cells := 0, slots := 0, locals := 90 }) s m [.ref (ad 902), .int a1].toArray below meth c H locs 0 0 (MQ below (mw_Qv G ad NF TF FF (mw_eqV M0 L0)) [.ref (ad 902), .int a1].toArray s 0 0 (mw_fr G)) (F0 m 46 ls []) := by
    intro M L H locs ls hD hw hl
    unfold fX18_fails_b46 at hD
    refine lv_aload_n C.1.1 C.1.2.1 dX18_fails_46 rfl (lv_at hl 0 rfl) ?_
    refine mr_getR C hw kc_18 9 (by decide) tf_902 ff_902_9 wd_2476 dX18_fails_47 (by decide) rfl ?_
    refine lv_iload_n C.1.1 C.1.2.1 dX18_fails_50 rfl (lv_at hl 1 rfl) ?_
    obtain ⟨q1, hD⟩ := g_ck hD
    refine mr_iald C hw (by decide) tf_909 q1 dX18_fails_51 ?_
    refine lv_iconst (v := 1) C.1.1 C.1.2.1 dX18_fails_52 (by decide) ?_
    refine lv_icmp_le (tgt := 82) C.1.1 C.1.2.1 dX18_fails_53 (by decide) (fun c2 => ?_) (fun c2 => ?_)
    · replace hD := g_pos c2 hD
      exact hb82 M L _ _ ls hD hw (lv_sub hl [0, 1] rfl)
    · replace hD := g_neg c2 hD
      refine lv_aload_n C.1.1 C.1.2.1 dX18_fails_56 rfl (lv_at hl 0 rfl) ?_
      refine lv_iload_n C.1.1 C.1.2.1 dX18_fails_57 rfl (lv_at hl 1 rfl) ?_
      refine lv_iconst (v := 3) C.1.1 C.1.2.1 dX18_fails_58 (by decide) ?_
      refine lv_iconst (v := 1) C.1.1 C.1.2.1 dX18_fails_59 (by decide) ?_
      obtain ⟨M3, L4, h1, hD⟩ := g_b2 hD
      refine md_cvV (As := [.int a1, .int 3, .int 1]) (rest := []) C hw (tX18_set l G ad fu a1 3 1 M L h1) kc_18 (by decide) tf_902 wd_3379 cwX18_set ⟨Nat.le_of_ble_eq_true rfl, Nat.le_of_ble_eq_true rfl⟩ rfl hl.1 (Nat.le_of_ble_eq_true rfl) dX18_fails_60 rfl rfl ⟨Nat.zero_le _, Nat.zero_le _⟩ rfl (fun H locs hw => ?_)
      refine lv_aload_n C.1.1 C.1.2.1 dX18_fails_63 rfl (lv_at hl 0 rfl) ?_
      refine mr_getR C hw kc_18 3 (by decide) tf_902 ff_902_3 wd_2470 dX18_fails_64 (by decide) rfl ?_
      refine lv_iload_n C.1.1 C.1.2.1 dX18_fails_67 rfl (lv_at hl 1 rfl) ?_
      obtain ⟨q5, hD⟩ := g_ck hD
      refine mr_iald C hw (by decide) tf_903 q5 dX18_fails_68 ?_
      refine lv_bipush (v := 65) C.1.1 C.1.2.1 dX18_fails_69 (by decide) ?_
      refine lv_icmp_ge (tgt := 82) C.1.1 C.1.2.1 dX18_fails_71 (by decide) (fun c6 => ?_) (fun c6 => ?_)
      · replace hD := g_pos c6 hD
        exact hb82 M3 L4 _ _ ls hD hw (lv_sub hl [0, 1] rfl)
      · replace hD := g_neg c6 hD
        refine lv_aload_n C.1.1 C.1.2.1 dX18_fails_74 rfl (lv_at hl 0 rfl) ?_
        refine lv_iload_n C.1.1 C.1.2.1 dX18_fails_75 rfl (lv_at hl 1 rfl) ?_
        refine lv_bipush (v := 7) C.1.1 C.1.2.1 dX18_fails_76 (by decide) ?_
        refine lv_iconst (v := 1) C.1.1 C.1.2.1 dX18_fails_78 (by decide) ?_
        obtain ⟨M7, L8, h1, hD⟩ := g_b2 hD
        refine md_cvV (As := [.int a1, .int 7, .int 1]) (rest := []) C hw (tX18_set l G ad fu a1 7 1 M3 L4 h1) kc_18 (by decide) tf_902 wd_3379 cwX18_set ⟨Nat.le_of_ble_eq_true rfl, Nat.le_of_ble_eq_true rfl⟩ rfl hl.1 (Nat.le_of_ble_eq_true rfl) dX18_fails_79 rfl rfl ⟨Nat.zero_le _, Nat.zero_le _⟩ rfl (fun H locs hw => ?_)
        exact hb82 M7 L8 _ _ ls hD hw (lv_sub hl [0, 1] rfl)
  unfold DX18_fails at hD
  refine lv_aload_n C.1.1 C.1.2.1 dX18_fails_0 rfl (lv_at hl 0 rfl) ?_
  refine lv_iload_n C.1.1 C.1.2.1 dX18_fails_1 rfl (lv_at hl 1 rfl) ?_
  refine lv_iconst (v := 4) C.1.1 C.1.2.1 dX18_fails_2 (by decide) ?_
  refine lv_iconst (v := 0) C.1.1 C.1.2.1 dX18_fails_3 (by decide) ?_
  obtain ⟨M31, L32, h1, hD⟩ := g_b2 hD
  refine md_cvV (As := [.int a1, .int 4, .int 0]) (rest := []) C hw (tX18_set l G ad fu a1 4 0 M L h1) kc_18 (by decide) tf_902 wd_3379 cwX18_set ⟨Nat.le_of_ble_eq_true rfl, Nat.le_of_ble_eq_true rfl⟩ rfl hl.1 (Nat.le_of_ble_eq_true rfl) dX18_fails_4 rfl rfl ⟨Nat.zero_le _, Nat.zero_le _⟩ rfl (fun H locs hw => ?_)
  refine lv_aload_n C.1.1 C.1.2.1 dX18_fails_7 rfl (lv_at hl 0 rfl) ?_
  refine lv_iload_n C.1.1 C.1.2.1 dX18_fails_8 rfl (lv_at hl 1 rfl) ?_
  refine lv_bipush (v := 6) C.1.1 C.1.2.1 dX18_fails_9 (by decide) ?_
  refine lv_iconst (v := 0) C.1.1 C.1.2.1 dX18_fails_11 (by decide) ?_
  obtain ⟨M33, L34, h1, hD⟩ := g_b2 hD
  refine md_cvV (As := [.int a1, .int 6, .int 0]) (rest := []) C hw (tX18_set l G ad fu a1 6 0 M31 L32 h1) kc_18 (by decide) tf_902 wd_3379 cwX18_set ⟨Nat.le_of_ble_eq_true rfl, Nat.le_of_ble_eq_true rfl⟩ rfl hl.1 (Nat.le_of_ble_eq_true rfl) dX18_fails_12 rfl rfl ⟨Nat.zero_le _, Nat.zero_le _⟩ rfl (fun H locs hw => ?_)
  refine lv_aload_n C.1.1 C.1.2.1 dX18_fails_15 rfl (lv_at hl 0 rfl) ?_
  refine lv_iload_n C.1.1 C.1.2.1 dX18_fails_16 rfl (lv_at hl 1 rfl) ?_
  refine lv_iconst (v := 1) C.1.1 C.1.2.1 dX18_fails_17 (by decide) ?_
  obtain ⟨r37, M35, L36, h1, hD⟩ := g_b3 hD
  refine md_cvI (As := [.int a1, .int 1]) (rest := []) C hw (tX18_is l G ad fu a1 1 M33 L34 h1) kc_18 (by decide) tf_902 wd_3387 cwX18_is ⟨Nat.le_of_ble_eq_true rfl, Nat.le_of_ble_eq_true rfl⟩ rfl hl.1 (Nat.le_of_ble_eq_true rfl) dX18_fails_18 rfl rfl ⟨Nat.zero_le _, Nat.zero_le _⟩ rfl (fun H locs hw => ?_)
  refine lv_if_ne (tgt := 46) C.1.1 C.1.2.1 dX18_fails_21 (by decide) (fun c38 => ?_) (fun c38 => ?_)
  · replace hD := g_neg c38 hD
    exact hb46 M35 L36 _ _ ls hD hw (lv_sub hl [0, 1] rfl)
  · replace hD := g_pos c38 hD
    refine lv_aload_n C.1.1 C.1.2.1 dX18_fails_24 rfl (lv_at hl 0 rfl) ?_
    refine mr_getR C hw kc_18 9 (by decide) tf_902 ff_902_9 wd_2476 dX18_fails_25 (by decide) rfl ?_
    refine lv_iload_n C.1.1 C.1.2.1 dX18_fails_28 rfl (lv_at hl 1 rfl) ?_
    obtain ⟨q39, hD⟩ := g_ck hD
    refine mr_iald C hw (by decide) tf_909 q39 dX18_fails_29 ?_
    refine lv_sipush (v := 255) C.1.1 C.1.2.1 dX18_fails_30 (by decide) ?_
    refine lv_icmp_ge (tgt := 46) C.1.1 C.1.2.1 dX18_fails_33 (by decide) (fun c40 => ?_) (fun c40 => ?_)
    · replace hD := g_pos c40 hD
      exact hb46 M35 L36 _ _ ls hD hw (lv_sub hl [0, 1] rfl)
    · replace hD := g_neg c40 hD
      refine lv_aload_n C.1.1 C.1.2.1 dX18_fails_36 rfl (lv_at hl 0 rfl) ?_
      refine mr_getR C hw kc_18 9 (by decide) tf_902 ff_902_9 wd_2476 dX18_fails_37 (by decide) rfl ?_
      refine lv_iload_n C.1.1 C.1.2.1 dX18_fails_40 rfl (lv_at hl 1 rfl) ?_
      refine lv_dup2_11 C.1.1 C.1.2.1 dX18_fails_41 rfl rfl ?_
      obtain ⟨q41, hD⟩ := g_ck hD
      refine mr_iald C hw (by decide) tf_909 q41 dX18_fails_42 ?_
      refine lv_iconst (v := 1) C.1.1 C.1.2.1 dX18_fails_43 (by decide) ?_
      refine lv_iadd C.1.1 C.1.2.1 dX18_fails_44 ?_
      obtain ⟨q42, hD⟩ := g_ck hD
      obtain ⟨M43, eM43, hD⟩ := g_let hD
      refine mr_iast C hw (by decide) tf_909 q42 dX18_fails_45 (fun H locs hw => ?_)
      replace hw : mw_W G ad NF TF FF M43 L36 H locs := by rw [eM43]; exact hw
      exact hb46 M43 L36 _ _ ls hD hw (lv_sub hl [0, 1] rfl)
