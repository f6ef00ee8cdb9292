theorem dX9_clear_0 : decode cX9_clear 0 = .ok (.aload_n 0, 1) := by decide +kernel
theorem dX9_clear_1 : decode cX9_clear 1 = .ok (.iconst 0, 1) := by decide +kernel
theorem dX9_clear_2 : decode cX9_clear 2 = .ok (.putfield 29, 3) := by decide +kernel
theorem dX9_clear_5 : decode cX9_clear 5 = .ok (.aload_n 0, 1) := by decide +kernel
theorem dX9_clear_6 : decode cX9_clear 6 = .ok (.iconst 0, 1) := by decide +kernel
theorem dX9_clear_7 : decode cX9_clear 7 = .ok (.putfield 33, 3) := by decide +kernel
theorem dX9_clear_10 : decode cX9_clear 10 = .ok (.aload_n 0, 1) := by decide +kernel
theorem dX9_clear_11 : decode cX9_clear 11 = .ok (.iconst 0, 1) := by decide +kernel
theorem dX9_clear_12 : decode cX9_clear 12 = .ok (.putfield 36, 3) := by decide +kernel
theorem dX9_clear_15 : decode cX9_clear 15 = .ok (.aload_n 0, 1) := by decide +kernel
theorem dX9_clear_16 : decode cX9_clear 16 = .ok (.iconst 0, 1) := by decide +kernel
theorem dX9_clear_17 : decode cX9_clear 17 = .ok (.putfield 39, 3) := by decide +kernel
theorem dX9_clear_20 : decode cX9_clear 20 = .ok (.aload_n 0, 1) := by decide +kernel
theorem dX9_clear_21 : decode cX9_clear 21 = .ok (.iconst 0, 1) := by decide +kernel
theorem dX9_clear_22 : decode cX9_clear 22 = .ok (.putfield 42, 3) := by decide +kernel
theorem dX9_clear_25 : decode cX9_clear 25 = .ok (.aload_n 0, 1) := by decide +kernel
theorem dX9_clear_26 : decode cX9_clear 26 = .ok (.iconst 0, 1) := by decide +kernel
theorem dX9_clear_27 : decode cX9_clear 27 = .ok (.putfield 45, 3) := by decide +kernel
theorem dX9_clear_30 : decode cX9_clear 30 = .ok (.iconst 0, 1) := by decide +kernel
theorem dX9_clear_31 : decode cX9_clear 31 = .ok (.istore_n 1, 1) := by decide +kernel
theorem dX9_clear_32 : decode cX9_clear 32 = .ok (.iload_n 1, 1) := by decide +kernel
theorem dX9_clear_33 : decode cX9_clear 33 = .ok (.iconst 4, 1) := by decide +kernel
theorem dX9_clear_34 : decode cX9_clear 34 = .ok (.if_icmp .ge 18, 3) := by decide +kernel
theorem dX9_clear_37 : decode cX9_clear 37 = .ok (.aload_n 0, 1) := by decide +kernel
theorem dX9_clear_38 : decode cX9_clear 38 = .ok (.getfield 19, 3) := by decide +kernel
theorem dX9_clear_41 : decode cX9_clear 41 = .ok (.iconst 0, 1) := by decide +kernel
theorem dX9_clear_42 : decode cX9_clear 42 = .ok (.aaload, 1) := by decide +kernel
theorem dX9_clear_43 : decode cX9_clear 43 = .ok (.iload_n 1, 1) := by decide +kernel
theorem dX9_clear_44 : decode cX9_clear 44 = .ok (.iconst 0, 1) := by decide +kernel
theorem dX9_clear_45 : decode cX9_clear 45 = .ok (.iastore, 1) := by decide +kernel
theorem dX9_clear_46 : decode cX9_clear 46 = .ok (.iinc 1 1, 3) := by decide +kernel
theorem dX9_clear_49 : decode cX9_clear 49 = .ok (.goto (-17), 3) := by decide +kernel
theorem dX9_clear_52 : decode cX9_clear 52 = .ok (.return_, 1) := by decide +kernel
theorem cwX9_clear : mw_cwV yX9_clear cX9_clear 2 (none) 0 := ⟨⟨wd_10, wd_817, by decide +kernel⟩, wd_815, wd_816⟩
set_option maxHeartbeats 4000000 in
set_option maxRecDepth 100000 in
theorem tX9_clear (l : Launch) (G : mwG) (ad : Nat → Nat) (fu : Nat) (M : mwM) (L : mwL) {M0 : mwM} {L0 : mwL} (hD : DX9_clear fu M L = some (M0, L0)) : Met l yX9_clear (Cond.code yX9_clear cX9_clear 2 (none) :: GT) ({ frames := 0, cells := 0, slots := 0, locals := 0 }) (mw_Pre G ad NF TF FF M L [.ref (ad 154)]) (mw_Qv G ad NF TF FF (mw_eqV M0 L0)) 0 0 (mw_fr G) := by
  refine mw_enter (by decide) (Nat.le_of_ble_eq_true rfl) ?_
  intro p e s m below meth c ls C hr hlocks hnm hw hl
  have hl : lv_has ls 2 [(0, .ref (ad 154))] := hl
  have hh32 : ∀ (f : Nat) (v1 : Int32) (M : mwM) (L : mwL) (H : Heap) (locs : List Loc) (ls : Array Slot), fX9_clear_h32 fu f (v1, M, L) = some (M0, L0) → mw_W G ad NF TF FF M L H locs → lv_has ls 2 [(0, .ref (ad 154)), (1, .int v1)] → W p l e ({ frames := 0, cells := 0, slots := 0, locals := 0 }) s m [.ref (ad 154)].toArray below meth c H locs 0 0 (MQ below (mw_Qv G ad NF TF FF (mw_eqV M0 L0)) [.ref (ad 154)].toArray s 0 0 (mw_fr G)) (F0 m 32 ls []) := by
    intro f
    induction f with
    | zero => intro v1 M L H locs ls hD; cases hD
    | succ f32 ih32 =>
      intro v1 M L H locs ls hD hw hl
      replace hD : fX9_clear_i32 fu (fX9_clear_h32 fu f32) v1 M L = some (M0, L0) := hD
      unfold fX9_clear_i32 at hD
      refine lv_iload_n C.1.1 C.1.2.1 dX9_clear_32 rfl (lv_at hl 1 rfl) ?_
      refine lv_iconst (v := 4) C.1.1 C.1.2.1 dX9_clear_33 (by decide) ?_
      refine lv_icmp_ge (tgt := 52) C.1.1 C.1.2.1 dX9_clear_34 (by decide) (fun c1 => ?_) (fun c1 => ?_)
      · replace hD := g_pos c1 hD
        exact mr_vret C hr hlocks hw (Option.some.inj hD) dX9_clear_52
      · replace hD := g_neg c1 hD
        refine lv_aload_n C.1.1 C.1.2.1 dX9_clear_37 rfl (lv_at hl 0 rfl) ?_
        refine mr_getR C hw kc_9 2 (by decide) tf_154 ff_154_2 wd_364 dX9_clear_38 (by decide) rfl ?_
        refine lv_iconst (v := 0) C.1.1 C.1.2.1 dX9_clear_41 (by decide) ?_
        refine mr_aald C hw (by decide) tf_263 (by decide) (by decide) rfl rfl (show vp_in 0 5 from by unfold vp_in; decide) ff_263_0 dX9_clear_42 ?_
        refine lv_iload_n C.1.1 C.1.2.1 dX9_clear_43 rfl (lv_at hl 1 rfl) ?_
        refine lv_iconst (v := 0) C.1.1 C.1.2.1 dX9_clear_44 (by decide) ?_
        obtain ⟨q3, hD⟩ := g_ck hD
        obtain ⟨M4, eM4, hD⟩ := g_let hD
        refine mr_iast C hw (by decide) tf_264 q3 dX9_clear_45 (fun H locs hw => ?_)
        replace hw : mw_W G ad NF TF FF M4 L H locs := by rw [eM4]; exact hw
        obtain ⟨x5, ex5, hD⟩ := g_let hD
        refine lv_iinc (v := x5) (lv' := [(1, .int x5), (0, .ref (ad 154))]) C.1.1 C.1.2.1 dX9_clear_46 hl (k := 1) rfl (by rw [ex5]; rfl) (by decide) rfl (fun ls hl => ?_)
        refine lv_goto (tgt := 32) C.1.1 C.1.2.1 dX9_clear_49 (by decide) ?_
        exact ih32 x5 M4 L _ _ ls hD hw (lv_sub hl [1, 0] rfl)
  unfold DX9_clear at hD
  refine lv_aload_n C.1.1 C.1.2.1 dX9_clear_0 rfl (lv_at hl 0 rfl) ?_
  refine lv_iconst (v := 0) C.1.1 C.1.2.1 dX9_clear_1 (by decide) ?_
  obtain ⟨M6, eM6, hD⟩ := g_let hD
  refine mr_putI C hw kc_9 5 (by decide) tf_154 wd_368 dX9_clear_2 (by decide) rfl rfl rfl rfl (fun H locs hw => ?_)
  replace hw : mw_W G ad NF TF FF M6 L H locs := by rw [eM6]; exact hw
  refine lv_aload_n C.1.1 C.1.2.1 dX9_clear_5 rfl (lv_at hl 0 rfl) ?_
  refine lv_iconst (v := 0) C.1.1 C.1.2.1 dX9_clear_6 (by decide) ?_
  obtain ⟨M7, eM7, hD⟩ := g_let hD
  refine mr_putI C hw kc_9 6 (by decide) tf_154 wd_370 dX9_clear_7 (by decide) rfl rfl rfl rfl (fun H locs hw => ?_)
  replace hw : mw_W G ad NF TF FF M7 L H locs := by rw [eM7]; exact hw
  refine lv_aload_n C.1.1 C.1.2.1 dX9_clear_10 rfl (lv_at hl 0 rfl) ?_
  refine lv_iconst (v := 0) C.1.1 C.1.2.1 dX9_clear_11 (by decide) ?_
  obtain ⟨M8, eM8, hD⟩ := g_let hD
  refine mr_putI C hw kc_9 7 (by decide) tf_154 wd_372 dX9_clear_12 (by decide) rfl rfl rfl rfl (fun H locs hw => ?_)
  replace hw : mw_W G ad NF TF FF M8 L H locs := by rw [eM8]; exact hw
  refine lv_aload_n C.1.1 C.1.2.1 dX9_clear_15 rfl (lv_at hl 0 rfl) ?_
  refine lv_iconst (v := 0) C.1.1 C.1.2.1 dX9_clear_16 (by decide) ?_
  obtain ⟨M9, eM9, hD⟩ := g_let hD
  refine mr_putI C hw kc_9 8 (by decide) tf_154 wd_374 dX9_clear_17 (by decide) rfl rfl rfl rfl (fun H locs hw => ?_)
  replace hw : mw_W G ad NF TF FF M9 L H locs := by rw [eM9]; exact hw
  refine lv_aload_n C.1.1 C.1.2.1 dX9_clear_20 rfl (lv_at hl 0 rfl) ?_
  refine lv_iconst (v := 0) C.1.1 C.1.2.1 dX9_clear_21 (by decide) ?_
  obtain ⟨M10, eM10, hD⟩ := g_let hD
  refine mr_putI C hw kc_9 9 (by decide) tf_154 wd_375 dX9_clear_22 (by decide) rfl rfl rfl rfl (fun H locs hw => ?_)
  replace hw : mw_W G ad NF TF FF M10 L H locs := by rw [eM10]; exact hw
  refine lv_aload_n C.1.1 C.1.2.1 dX9_clear_25 rfl (lv_at hl 0 rfl) ?_
  refine lv_iconst (v := 0) C.1.1 C.1.2.1 dX9_clear_26 (by decide) ?_
  obtain ⟨M11, eM11, hD⟩ := g_let hD
  refine mr_putI C hw kc_9 10 (by decide) tf_154 wd_376 dX9_clear_27 (by decide) rfl rfl (by decide +kernel) (by decide +kernel) (fun H locs hw => ?_)
  replace hw : mw_W G ad NF TF FF M11 L H locs := by rw [eM11]; exact hw
  refine lv_iconst (v := 0) C.1.1 C.1.2.1 dX9_clear_30 (by decide) ?_
  refine lv_istore_n (lv' := [(1, .int 0), (0, .ref (ad 154))]) C.1.1 C.1.2.1 dX9_clear_31 rfl hl (by decide) rfl (fun ls hl => ?_)
  exact hh32 fu 0 M11 L _ _ ls hD hw (lv_sub hl [1, 0] rfl)

theorem dX9_make_0 : decode cX9_make 0 = .ok (.aload_n 0, 1) := by decide +kernel
theorem dX9_make_1 : decode cX9_make 1 = .ok (.getfield 29, 3) := by decide +kernel
theorem dX9_make_4 : decode cX9_make 4 = .ok (.bipush 100, 2) := by decide +kernel
theorem dX9_make_6 : decode cX9_make 6 = .ok (.if_icmp .ge 16, 3) := by decide +kernel
theorem dX9_make_9 : decode cX9_make 9 = .ok (.iload 4, 2) := by decide +kernel
theorem dX9_make_11 : decode cX9_make 11 = .ok (.iconst 1, 1) := by decide +kernel
theorem dX9_make_12 : decode cX9_make 12 = .ok (.if_icmp .lt 10, 3) := by decide +kernel
theorem dX9_make_15 : decode cX9_make 15 = .ok (.iload 4, 2) := by decide +kernel
theorem dX9_make_17 : decode cX9_make 17 = .ok (.bipush 100, 2) := by decide +kernel
theorem dX9_make_19 : decode cX9_make 19 = .ok (.if_icmp .le 4, 3) := by decide +kernel
theorem dX9_make_22 : decode cX9_make 22 = .ok (.return_, 1) := by decide +kernel
theorem dX9_make_23 : decode cX9_make 23 = .ok (.aload_n 0, 1) := by decide +kernel
theorem dX9_make_24 : decode cX9_make 24 = .ok (.dup, 1) := by decide +kernel
theorem dX9_make_25 : decode cX9_make 25 = .ok (.getfield 29, 3) := by decide +kernel
theorem dX9_make_28 : decode cX9_make 28 = .ok (.iconst 1, 1) := by decide +kernel
theorem dX9_make_29 : decode cX9_make 29 = .ok (.iadd, 1) := by decide +kernel
theorem dX9_make_30 : decode cX9_make 30 = .ok (.putfield 29, 3) := by decide +kernel
theorem dX9_make_33 : decode cX9_make 33 = .ok (.aload_n 0, 1) := by decide +kernel
theorem dX9_make_34 : decode cX9_make 34 = .ok (.getfield 13, 3) := by decide +kernel
theorem dX9_make_37 : decode cX9_make 37 = .ok (.iconst 0, 1) := by decide +kernel
theorem dX9_make_38 : decode cX9_make 38 = .ok (.aaload, 1) := by decide +kernel
theorem dX9_make_39 : decode cX9_make 39 = .ok (.aload_n 0, 1) := by decide +kernel
theorem dX9_make_40 : decode cX9_make 40 = .ok (.getfield 29, 3) := by decide +kernel
theorem dX9_make_43 : decode cX9_make 43 = .ok (.iload_n 1, 1) := by decide +kernel
theorem dX9_make_44 : decode cX9_make 44 = .ok (.iastore, 1) := by decide +kernel
theorem dX9_make_45 : decode cX9_make 45 = .ok (.aload_n 0, 1) := by decide +kernel
theorem dX9_make_46 : decode cX9_make 46 = .ok (.getfield 13, 3) := by decide +kernel
theorem dX9_make_49 : decode cX9_make 49 = .ok (.iconst 1, 1) := by decide +kernel
theorem dX9_make_50 : decode cX9_make 50 = .ok (.aaload, 1) := by decide +kernel
theorem dX9_make_51 : decode cX9_make 51 = .ok (.aload_n 0, 1) := by decide +kernel
theorem dX9_make_52 : decode cX9_make 52 = .ok (.getfield 29, 3) := by decide +kernel
theorem dX9_make_55 : decode cX9_make 55 = .ok (.iload_n 2, 1) := by decide +kernel
theorem dX9_make_56 : decode cX9_make 56 = .ok (.ifCond .eq 7, 3) := by decide +kernel
theorem dX9_make_59 : decode cX9_make 59 = .ok (.iconst 1, 1) := by decide +kernel
theorem dX9_make_60 : decode cX9_make 60 = .ok (.goto 4, 3) := by decide +kernel
theorem dX9_make_63 : decode cX9_make 63 = .ok (.iconst 0, 1) := by decide +kernel
theorem dX9_make_64 : decode cX9_make 64 = .ok (.iastore, 1) := by decide +kernel
theorem dX9_make_65 : decode cX9_make 65 = .ok (.aload_n 0, 1) := by decide +kernel
theorem dX9_make_66 : decode cX9_make 66 = .ok (.getfield 13, 3) := by decide +kernel
theorem dX9_make_69 : decode cX9_make 69 = .ok (.iconst 2, 1) := by decide +kernel
theorem dX9_make_70 : decode cX9_make 70 = .ok (.aaload, 1) := by decide +kernel
theorem dX9_make_71 : decode cX9_make 71 = .ok (.aload_n 0, 1) := by decide +kernel
theorem dX9_make_72 : decode cX9_make 72 = .ok (.getfield 29, 3) := by decide +kernel
theorem dX9_make_75 : decode cX9_make 75 = .ok (.iload 4, 2) := by decide +kernel
theorem dX9_make_77 : decode cX9_make 77 = .ok (.iastore, 1) := by decide +kernel
theorem dX9_make_78 : decode cX9_make 78 = .ok (.aload_n 0, 1) := by decide +kernel
theorem dX9_make_79 : decode cX9_make 79 = .ok (.getfield 13, 3) := by decide +kernel
theorem dX9_make_82 : decode cX9_make 82 = .ok (.iconst 3, 1) := by decide +kernel
theorem dX9_make_83 : decode cX9_make 83 = .ok (.aaload, 1) := by decide +kernel
theorem dX9_make_84 : decode cX9_make 84 = .ok (.aload_n 0, 1) := by decide +kernel
theorem dX9_make_85 : decode cX9_make 85 = .ok (.getfield 29, 3) := by decide +kernel
theorem dX9_make_88 : decode cX9_make 88 = .ok (.iconst 0, 1) := by decide +kernel
theorem dX9_make_89 : decode cX9_make 89 = .ok (.iastore, 1) := by decide +kernel
theorem dX9_make_90 : decode cX9_make 90 = .ok (.iconst 0, 1) := by decide +kernel
theorem dX9_make_91 : decode cX9_make 91 = .ok (.istore 5, 2) := by decide +kernel
theorem dX9_make_93 : decode cX9_make 93 = .ok (.iload 5, 2) := by decide +kernel
theorem dX9_make_95 : decode cX9_make 95 = .ok (.iload 4, 2) := by decide +kernel
theorem dX9_make_97 : decode cX9_make 97 = .ok (.if_icmp .ge 25, 3) := by decide +kernel
theorem dX9_make_100 : decode cX9_make 100 = .ok (.aload_n 0, 1) := by decide +kernel
theorem dX9_make_101 : decode cX9_make 101 = .ok (.getfield 16, 3) := by decide +kernel
theorem dX9_make_104 : decode cX9_make 104 = .ok (.aload_n 0, 1) := by decide +kernel
theorem dX9_make_105 : decode cX9_make 105 = .ok (.getfield 29, 3) := by decide +kernel
theorem dX9_make_108 : decode cX9_make 108 = .ok (.aaload, 1) := by decide +kernel
theorem dX9_make_109 : decode cX9_make 109 = .ok (.iload 5, 2) := by decide +kernel
theorem dX9_make_111 : decode cX9_make 111 = .ok (.aload_n 3, 1) := by decide +kernel
theorem dX9_make_112 : decode cX9_make 112 = .ok (.iload 5, 2) := by decide +kernel
theorem dX9_make_114 : decode cX9_make 114 = .ok (.iaload, 1) := by decide +kernel
theorem dX9_make_115 : decode cX9_make 115 = .ok (.iastore, 1) := by decide +kernel
theorem dX9_make_116 : decode cX9_make 116 = .ok (.iinc 5 1, 3) := by decide +kernel
theorem dX9_make_119 : decode cX9_make 119 = .ok (.goto (-26), 3) := by decide +kernel
theorem dX9_make_122 : decode cX9_make 122 = .ok (.return_, 1) := by decide +kernel
theorem cwX9_make : mw_cwV yX9_make cX9_make 6 (none) 4 := ⟨⟨wd_10, wd_1603, by decide +kernel⟩, wd_1601, wd_1602⟩
set_option maxHeartbeats 4000000 in
set_option maxRecDepth 100000 in
theorem tX9_make (l : Launch) (G : mwG) (ad : Nat → Nat) (fu : Nat) (a1 : Int32) (a2 : Int32) (a3 : Nat) (n3 : Nat) (a4 : Int32) (M : mwM) (L : mwL) {M0 : mwM} {L0 : mwL} (hD : DX9_make fu a1 a2 a3 n3 a4 M L = some (M0, L0)) (hk3 : a3 < NF) (hT3 : TF a3 = (0, n3)) : Met l yX9_make (Cond.code yX9_make cX9_make 6 (none) :: GT) ({ frames := 0, cells := 0, slots := 0, locals := 0 }) (mw_Pre G ad NF TF FF M L [.ref (ad 154), .int a1, .int a2, .ref (ad a3), .int a4]) (mw_Qv G ad NF TF FF (mw_eqV M0 L0)) 0 0 (mw_fr G) := by
  refine mw_enter (by decide) (Nat.le_of_ble_eq_true rfl) ?_
  intro p e s m below meth c ls C hr hlocks hnm hw hl
  have hl : lv_has ls 6 [(0, .ref (ad 154)), (1, .int a1), (2, .int a2), (3, .ref (ad a3)), (4, .int a4)] := hl
  have hb22 : ∀ (M : mwM) (L : mwL) (H : Heap) (locs : List Loc) (ls : Array Slot), fX9_make_b22 fu a1 a2 a3 n3 a4 M L = some (M0, L0) → mw_W G ad NF TF FF M L H locs → lv_has ls 6 [] → W p l e ({ frames := 0, cells := 0, slots := 0, locals := 0 }) s m [.ref (ad 154), .int a1, .int a2, .ref (ad a3), .int a4].toArray below meth c H locs 0 0 (MQ below (mw_Qv G ad NF TF FF (mw_eqV M0 L0)) [.ref (ad 154), .int a1, .int a2, .ref (ad a3), .int a4].toArray s 0 0 (mw_fr G)) (F0 m 22 ls []) := by
    intro M L H locs ls hD hw hl
    unfold fX9_make_b22 at hD
    exact mr_vret C hr hlocks hw (Option.some.inj hD) dX9_make_22
  have hh93 : ∀ (f : Nat) (v5 : Int32) (M : mwM) (L : mwL) (H : Heap) (locs : List Loc) (ls : Array Slot), fX9_make_h93 fu a1 a2 a3 n3 a4 f (v5, M, L) = some (M0, L0) → mw_W G ad NF TF FF M L H locs → lv_has ls 6 [(0, .ref (ad 154)), (3, .ref (ad a3)), (4, .int a4), (5, .int v5)] → W p l e ({ frames := 0, cells := 0, slots := 0, locals := 0 }) s m [.ref (ad 154), .int a1, .int a2, .ref (ad a3), .int a4].toArray below meth c H locs 0 0 (MQ below (mw_Qv G ad NF TF FF (mw_eqV M0 L0)) [.ref (ad 154), .int a1, .int a2, .ref (ad a3), .int a4].toArray s 0 0 (mw_fr G)) (F0 m 93 ls []) := by
    intro f
    induction f with
    | zero => intro v5 M L H locs ls hD; cases hD
    | succ f93 ih93 =>
      intro v5 M L H locs ls hD hw hl
      replace hD : fX9_make_i93 fu a1 a2 a3 n3 a4 (fX9_make_h93 fu a1 a2 a3 n3 a4 f93) v5 M L = some (M0, L0) := hD
      unfold fX9_make_i93 at hD
      refine lv_iload C.1.1 C.1.2.1 dX9_make_93 (lv_at hl 3 rfl) ?_
      refine lv_iload C.1.1 C.1.2.1 dX9_make_95 (lv_at hl 2 rfl) ?_
      refine lv_icmp_ge (tgt := 122) C.1.1 C.1.2.1 dX9_make_97 (by decide) (fun c9 => ?_) (fun c9 => ?_)
      · replace hD := g_pos c9 hD
        exact mr_vret C hr hlocks hw (Option.some.inj hD) dX9_make_122
      · replace hD := g_neg c9 hD
        refine lv_aload_n C.1.1 C.1.2.1 dX9_make_100 rfl (lv_at hl 0 rfl) ?_
        refine mr_getR C hw kc_9 1 (by decide) tf_154 ff_154_1 wd_361 dX9_make_101 (by decide) rfl ?_
        refine lv_aload_n C.1.1 C.1.2.1 dX9_make_104 rfl (lv_at hl 0 rfl) ?_
        refine mr_getI C hw kc_9 5 (by decide) tf_154 wd_368 dX9_make_105 (by decide) rfl ?_
        obtain ⟨q10, hD⟩ := g_ck hD
        refine mr_aald C hw (by decide) tf_161 (by decide) (by decide) rfl rfl q10 (fr_161 _ (g_lt q10)).1 dX9_make_108 ?_
        refine lv_iload C.1.1 C.1.2.1 dX9_make_109 (lv_at hl 3 rfl) ?_
        refine lv_aload_n C.1.1 C.1.2.1 dX9_make_111 rfl (lv_at hl 1 rfl) ?_
        refine lv_iload C.1.1 C.1.2.1 dX9_make_112 (lv_at hl 3 rfl) ?_
        obtain ⟨q11, hD⟩ := g_ck hD
        refine mr_iald C hw hk3 hT3 q11 dX9_make_114 ?_
        obtain ⟨q12, hD⟩ := g_ck hD
        obtain ⟨M13, eM13, hD⟩ := g_let hD
        refine mr_iast C hw (fr_161 _ (g_lt q10)).2.2 (fr_161 _ (g_lt q10)).2.1 q12 dX9_make_115 (fun H locs hw => ?_)
        replace hw : mw_W G ad NF TF FF M13 L H locs := by rw [eM13]; exact hw
        obtain ⟨x14, ex14, hD⟩ := g_let hD
        refine lv_iinc (v := x14) (lv' := [(5, .int x14), (0, .ref (ad 154)), (3, .ref (ad a3)), (4, .int a4)]) C.1.1 C.1.2.1 dX9_make_116 hl (k := 3) rfl (by rw [ex14]; rfl) (by decide) rfl (fun ls hl => ?_)
        refine lv_goto (tgt := 93) C.1.1 C.1.2.1 dX9_make_119 (by decide) ?_
        exact ih93 x14 M13 L _ _ ls hD hw (lv_sub hl [1, 2, 3, 0] rfl)
  have hb64 : ∀ (s1 : Int32) (s2 : Int32) (M : mwM) (L : mwL) (H : Heap) (locs : List Loc) (ls : Array Slot), fX9_make_b64 fu a1 a2 a3 n3 a4 s1 s2 M L = some (M0, L0) → mw_W G ad NF TF FF M L H locs → lv_has ls 6 [(0, .ref (ad 154)), (3, .ref (ad a3)), (4, .int a4)] → W p l e ({ frames := 0, cells := 0, slots := 0, locals := 0 }) s m [.ref (ad 154), .int a1, .int a2, .ref (ad a3), .int a4].toArray below meth c H locs 0 0 (MQ below (mw_Qv G ad NF TF FF (mw_eqV M0 L0)) [.ref (ad 154), .int a1, .int a2, .ref (ad a3), .int a4].toArray s 0 0 (mw_fr G)) (F0 m 64 ls [.int s2, .int s1, .ref (ad 157)]) := by
    intro s1 s2 M L H locs ls hD hw hl
    unfold fX9_make_b64 at hD
    obtain ⟨q1, hD⟩ := g_ck hD
    obtain ⟨M2, eM2, hD⟩ := g_let hD
    refine mr_iast C hw (by decide) tf_157 q1 dX9_make_64 (fun H locs hw => ?_)
    replace hw : mw_W G ad NF TF FF M2 L H locs := by rw [eM2]; exact hw
    refine lv_aload_n C.1.1 C.1.2.1 dX9_make_65 rfl (lv_at hl 0 rfl) ?_
    refine mr_getR C hw kc_9 0 (by decide) tf_154 ff_154_0 wd_358 dX9_make_66 (by decide) rfl ?_
    refine lv_iconst (v := 2) C.1.1 C.1.2.1 dX9_make_69 (by decide) ?_
    refine mr_aald C hw (by decide) tf_155 (by decide) (by decide) rfl rfl (show vp_in 2 5 from by unfold vp_in; decide) ff_155_2 dX9_make_70 ?_
    refine lv_aload_n C.1.1 C.1.2.1 dX9_make_71 rfl (lv_at hl 0 rfl) ?_
    refine mr_getI C hw kc_9 5 (by decide) tf_154 wd_368 dX9_make_72 (by decide) rfl ?_
    refine lv_iload C.1.1 C.1.2.1 dX9_make_75 (lv_at hl 2 rfl) ?_
    obtain ⟨q4, hD⟩ := g_ck hD
    obtain ⟨M5, eM5, hD⟩ := g_let hD
    refine mr_iast C hw (by decide) tf_158 q4 dX9_make_77 (fun H locs hw => ?_)
    replace hw : mw_W G ad NF TF FF M5 L H locs := by rw [eM5]; exact hw
    refine lv_aload_n C.1.1 C.1.2.1 dX9_make_78 rfl (lv_at hl 0 rfl) ?_
    refine mr_getR C hw kc_9 0 (by decide) tf_154 ff_154_0 wd_358 dX9_make_79 (by decide) rfl ?_
    refine lv_iconst (v := 3) C.1.1 C.1.2.1 dX9_make_82 (by decide) ?_
    refine mr_aald C hw (by decide) tf_155 (by decide) (by decide) rfl rfl (show vp_in 3 5 from by unfold vp_in; decide) ff_155_3 dX9_make_83 ?_
    refine lv_aload_n C.1.1 C.1.2.1 dX9_make_84 rfl (lv_at hl 0 rfl) ?_
    refine mr_getI C hw kc_9 5 (by decide) tf_154 wd_368 dX9_make_85 (by decide) rfl ?_
    refine lv_iconst (v := 0) C.1.1 C.1.2.1 dX9_make_88 (by decide) ?_
    obtain ⟨q7, hD⟩ := g_ck hD
    obtain ⟨M8, eM8, hD⟩ := g_let hD
    refine mr_iast C hw (by decide) tf_159 q7 dX9_make_89 (fun H locs hw => ?_)
    replace hw : mw_W G ad NF TF FF M8 L H locs := by rw [eM8]; exact hw
    refine lv_iconst (v := 0) C.1.1 C.1.2.1 dX9_make_90 (by decide) ?_
    refine lv_istore (lv' := [(5, .int 0), (0, .ref (ad 154)), (3, .ref (ad a3)), (4, .int a4)]) C.1.1 C.1.2.1 dX9_make_91 hl (by decide) rfl (fun ls hl => ?_)
    exact hh93 fu 0 M8 L _ _ ls hD hw (lv_sub hl [1, 2, 3, 0] rfl)
  unfold DX9_make at hD
  refine lv_aload_n C.1.1 C.1.2.1 dX9_make_0 rfl (lv_at hl 0 rfl) ?_
  refine mr_getI C hw kc_9 5 (by decide) tf_154 wd_368 dX9_make_1 (by decide) rfl ?_
  refine lv_bipush (v := 100) C.1.1 C.1.2.1 dX9_make_4 (by decide) ?_
  refine lv_icmp_ge (tgt := 22) C.1.1 C.1.2.1 dX9_make_6 (by decide) (fun c15 => ?_) (fun c15 => ?_)
  · replace hD := g_pos c15 hD
    exact hb22 M L _ _ ls hD hw (lv_sub hl [] rfl)
  · replace hD := g_neg c15 hD
    refine lv_iload C.1.1 C.1.2.1 dX9_make_9 (lv_at hl 4 rfl) ?_
    refine lv_iconst (v := 1) C.1.1 C.1.2.1 dX9_make_11 (by decide) ?_
    refine lv_icmp_lt (tgt := 22) C.1.1 C.1.2.1 dX9_make_12 (by decide) (fun c16 => ?_) (fun c16 => ?_)
    · replace hD := g_pos c16 hD
      exact hb22 M L _ _ ls hD hw (lv_sub hl [] rfl)
    · replace hD := g_neg c16 hD
      refine lv_iload C.1.1 C.1.2.1 dX9_make_15 (lv_at hl 4 rfl) ?_
      refine lv_bipush (v := 100) C.1.1 C.1.2.1 dX9_make_17 (by decide) ?_
      refine lv_icmp_le (tgt := 23) C.1.1 C.1.2.1 dX9_make_19 (by decide) (fun c17 => ?_) (fun c17 => ?_)
      · replace hD := g_pos c17 hD
        refine lv_aload_n C.1.1 C.1.2.1 dX9_make_23 rfl (lv_at hl 0 rfl) ?_
        refine lv_dup C.1.1 C.1.2.1 dX9_make_24 rfl ?_
        refine mr_getI C hw kc_9 5 (by decide) tf_154 wd_368 dX9_make_25 (by decide) rfl ?_
        refine lv_iconst (v := 1) C.1.1 C.1.2.1 dX9_make_28 (by decide) ?_
        refine lv_iadd C.1.1 C.1.2.1 dX9_make_29 ?_
        obtain ⟨M18, eM18, hD⟩ := g_let hD
        refine mr_putI C hw kc_9 5 (by decide) tf_154 wd_368 dX9_make_30 (by decide) rfl rfl rfl rfl (fun H locs hw => ?_)
        replace hw : mw_W G ad NF TF FF M18 L H locs := by rw [eM18]; exact hw
        refine lv_aload_n C.1.1 C.1.2.1 dX9_make_33 rfl (lv_at hl 0 rfl) ?_
        refine mr_getR C hw kc_9 0 (by decide) tf_154 ff_154_0 wd_358 dX9_make_34 (by decide) rfl ?_
        refine lv_iconst (v := 0) C.1.1 C.1.2.1 dX9_make_37 (by decide) ?_
        refine mr_aald C hw (by decide) tf_155 (by decide) (by decide) rfl rfl (show vp_in 0 5 from by unfold vp_in; decide) ff_155_0 dX9_make_38 ?_
        refine lv_aload_n C.1.1 C.1.2.1 dX9_make_39 rfl (lv_at hl 0 rfl) ?_
        refine mr_getI C hw kc_9 5 (by decide) tf_154 wd_368 dX9_make_40 (by decide) rfl ?_
        refine lv_iload_n C.1.1 C.1.2.1 dX9_make_43 rfl (lv_at hl 1 rfl) ?_
        obtain ⟨q20, hD⟩ := g_ck hD
        obtain ⟨M21, eM21, hD⟩ := g_let hD
        refine mr_iast C hw (by decide) tf_156 q20 dX9_make_44 (fun H locs hw => ?_)
        replace hw : mw_W G ad NF TF FF M21 L H locs := by rw [eM21]; exact hw
        refine lv_aload_n C.1.1 C.1.2.1 dX9_make_45 rfl (lv_at hl 0 rfl) ?_
        refine mr_getR C hw kc_9 0 (by decide) tf_154 ff_154_0 wd_358 dX9_make_46 (by decide) rfl ?_
        refine lv_iconst (v := 1) C.1.1 C.1.2.1 dX9_make_49 (by decide) ?_
        refine mr_aald C hw (by decide) tf_155 (by decide) (by decide) rfl rfl (show vp_in 1 5 from by unfold vp_in; decide) ff_155_1 dX9_make_50 ?_
        refine lv_aload_n C.1.1 C.1.2.1 dX9_make_51 rfl (lv_at hl 0 rfl) ?_
        refine mr_getI C hw kc_9 5 (by decide) tf_154 wd_368 dX9_make_52 (by decide) rfl ?_
        refine lv_iload_n C.1.1 C.1.2.1 dX9_make_55 rfl (lv_at hl 2 rfl) ?_
        refine lv_if_eq (tgt := 63) C.1.1 C.1.2.1 dX9_make_56 (by decide) (fun c23 => ?_) (fun c23 => ?_)
        · replace hD := g_pos c23 hD
          refine lv_iconst (v := 0) C.1.1 C.1.2.1 dX9_make_63 (by decide) ?_
          exact hb64 (M21 154 5) 0 M21 L _ _ ls hD hw (lv_sub hl [0, 3, 4] rfl)
        · replace hD := g_neg c23 hD
          refine lv_iconst (v := 1) C.1.1 C.1.2.1 dX9_make_59 (by decide) ?_
          refine lv_goto (tgt := 64) C.1.1 C.1.2.1 dX9_make_60 (by decide) ?_
          exact hb64 (M21 154 5) 1 M21 L _ _ ls hD hw (lv_sub hl [0, 3, 4] rfl)
      · replace hD := g_neg c17 hD
        exact hb22 M L _ _ ls hD hw (lv_sub hl [] rfl)

theorem dX9_isQuestion_0 : decode cX9_isQuestion 0 = .ok (.aload_n 0, 1) := by decide +kernel
theorem dX9_isQuestion_1 : decode cX9_isQuestion 1 = .ok (.getfield 13, 3) := by decide +kernel
theorem dX9_isQuestion_4 : decode cX9_isQuestion 4 = .ok (.iconst 1, 1) := by decide +kernel
theorem dX9_isQuestion_5 : decode cX9_isQuestion 5 = .ok (.aaload, 1) := by decide +kernel
theorem dX9_isQuestion_6 : decode cX9_isQuestion 6 = .ok (.iload_n 1, 1) := by decide +kernel
theorem dX9_isQuestion_7 : decode cX9_isQuestion 7 = .ok (.iaload, 1) := by decide +kernel
theorem dX9_isQuestion_8 : decode cX9_isQuestion 8 = .ok (.iconst 1, 1) := by decide +kernel
theorem dX9_isQuestion_9 : decode cX9_isQuestion 9 = .ok (.if_icmp .ne 7, 3) := by decide +kernel
theorem dX9_isQuestion_12 : decode cX9_isQuestion 12 = .ok (.iconst 1, 1) := by decide +kernel
theorem dX9_isQuestion_13 : decode cX9_isQuestion 13 = .ok (.goto 4, 3) := by decide +kernel
theorem dX9_isQuestion_16 : decode cX9_isQuestion 16 = .ok (.iconst 0, 1) := by decide +kernel
theorem dX9_isQuestion_17 : decode cX9_isQuestion 17 = .ok (.ireturn, 1) := by decide +kernel
theorem cwX9_isQuestion : mw_cwV yX9_isQuestion cX9_isQuestion 2 ((some .boolean)) 1 := ⟨⟨wd_10, wd_1527, by decide +kernel⟩, wd_1525, wd_1526⟩
set_option maxHeartbeats 4000000 in
set_option maxRecDepth 100000 in
theorem tX9_isQuestion (l : Launch) (G : mwG) (ad : Nat → Nat) (fu : Nat) (a1 : Int32) (M : mwM) (L : mwL) {r0 : Int32} {M0 : mwM} {L0 : mwL} (hD : DX9_isQuestion fu a1 M L = some (r0, M0, L0)) : Met l yX9_isQuestion (Cond.code yX9_isQuestion cX9_isQuestion 2 ((some .boolean)) :: GT) ({ frames := 0, cells := 0, slots := 0, locals := 0 }) (mw_Pre G ad NF TF FF M L [.ref (ad 154), .int a1]) (mw_Qi G ad NF TF FF (mw_eqI r0 M0 L0)) 0 0 (mw_fr G) := by
  refine mw_enter (by decide) (Nat.le_of_ble_eq_true rfl) ?_
  intro p e s m below meth c ls C hr hlocks hnm hw hl
  have hl : lv_has ls 2 [(0, .ref (ad 154)), (1, .int a1)] := hl
  have hb17 : ∀ (s0 : Int32) (M : mwM) (L : mwL) (H : Heap) (locs : List Loc) (ls : Array Slot), fX9_isQuestion_b17 fu a1 s0 M L = some (r0, M0, L0) → mw_W G ad NF TF FF M L H locs → lv_has ls 2 [] → W p l e ({ frames := 0, cells := 0, slots := 0, locals := 0 }) s m [.ref (ad 154), .int a1].toArray below meth c H locs 0 0 (MQ below (mw_Qi G ad NF TF FF (mw_eqI r0 M0 L0)) [.ref (ad 154), .int a1].toArray s 0 0 (mw_fr G)) (F0 m 17 ls [.int s0]) := by
    intro s0 M L H locs ls hD hw hl
    unfold fX9_isQuestion_b17 at hD
    obtain ⟨z1, hD⟩ := g_zz hD
    exact mr_iret C hr hlocks hw (nz_zz z1) (Option.some.inj hD) dX9_isQuestion_17
  unfold DX9_isQuestion at hD
  refine lv_aload_n C.1.1 C.1.2.1 dX9_isQuestion_0 rfl (lv_at hl 0 rfl) ?_
  refine mr_getR C hw kc_9 0 (by decide) tf_154 ff_154_0 wd_358 dX9_isQuestion_1 (by decide) rfl ?_
  refine lv_iconst (v := 1) C.1.1 C.1.2.1 dX9_isQuestion_4 (by decide) ?_
  refine mr_aald C hw (by decide) tf_155 (by decide) (by decide) rfl rfl (show vp_in 1 5 from by unfold vp_in; decide) ff_155_1 dX9_isQuestion_5 ?_
  refine lv_iload_n C.1.1 C.1.2.1 dX9_isQuestion_6 rfl (lv_at hl 1 rfl) ?_
  obtain ⟨q3, hD⟩ := g_ck hD
  refine mr_iald C hw (by decide) tf_157 q3 dX9_isQuestion_7 ?_
  refine lv_iconst (v := 1) C.1.1 C.1.2.1 dX9_isQuestion_8 (by decide) ?_
  refine lv_icmp_ne (tgt := 16) C.1.1 C.1.2.1 dX9_isQuestion_9 (by decide) (fun c4 => ?_) (fun c4 => ?_)
  · replace hD := g_neg c4 hD
    refine lv_iconst (v := 0) C.1.1 C.1.2.1 dX9_isQuestion_16 (by decide) ?_
    exact hb17 0 M L _ _ ls hD hw (lv_sub hl [] rfl)
  · replace hD := g_pos c4 hD
    refine lv_iconst (v := 1) C.1.1 C.1.2.1 dX9_isQuestion_12 (by decide) ?_
    refine lv_goto (tgt := 17) C.1.1 C.1.2.1 dX9_isQuestion_13 (by decide) ?_
    exact hb17 1 M L _ _ ls hD hw (lv_sub hl [] rfl)

theorem dX9_controllerOf_0 : decode cX9_controllerOf 0 = .ok (.aload_n 0, 1) := by decide +kernel
theorem dX9_controllerOf_1 : decode cX9_controllerOf 1 = .ok (.getfield 13, 3) := by decide +kernel
theorem dX9_controllerOf_4 : decode cX9_controllerOf 4 = .ok (.iconst 0, 1) := by decide +kernel
theorem dX9_controllerOf_5 : decode cX9_controllerOf 5 = .ok (.aaload, 1) := by decide +kernel
theorem dX9_controllerOf_6 : decode cX9_controllerOf 6 = .ok (.aload_n 0, 1) := by decide +kernel
theorem dX9_controllerOf_7 : decode cX9_controllerOf 7 = .ok (.getfield 22, 3) := by decide +kernel
theorem dX9_controllerOf_10 : decode cX9_controllerOf 10 = .ok (.iconst 1, 1) := by decide +kernel
theorem dX9_controllerOf_11 : decode cX9_controllerOf 11 = .ok (.aaload, 1) := by decide +kernel
theorem dX9_controllerOf_12 : decode cX9_controllerOf 12 = .ok (.iload_n 1, 1) := by decide +kernel
theorem dX9_controllerOf_13 : decode cX9_controllerOf 13 = .ok (.iaload, 1) := by decide +kernel
theorem dX9_controllerOf_14 : decode cX9_controllerOf 14 = .ok (.iaload, 1) := by decide +kernel
theorem dX9_controllerOf_15 : decode cX9_controllerOf 15 = .ok (.ireturn, 1) := by decide +kernel
theorem cwX9_controllerOf : mw_cwV yX9_controllerOf cX9_controllerOf 2 ((some .int)) 1 := ⟨⟨wd_10, wd_1519, by decide +kernel⟩, wd_1517, wd_1518⟩
set_option maxHeartbeats 4000000 in
set_option maxRecDepth 100000 in
theorem tX9_controllerOf (l : Launch) (G : mwG) (ad : Nat → Nat) (fu : Nat) (a1 : Int32) (M : mwM) (L : mwL) {r0 : Int32} {M0 : mwM} {L0 : mwL} (hD : DX9_controllerOf fu a1 M L = some (r0, M0, L0)) : Met l yX9_controllerOf (Cond.code yX9_controllerOf cX9_controllerOf 2 ((some .int)) :: GT) ({ frames := 0, cells := 0, slots := 0, locals := 0 }) (mw_Pre G ad NF TF FF M L [.ref (ad 154), .int a1]) (mw_Qi G ad NF TF FF (mw_eqI r0 M0 L0)) 0 0 (mw_fr G) := by
  refine mw_enter (by decide) (Nat.le_of_ble_eq_true rfl) ?_
  intro p e s m below meth c ls C hr hlocks hnm hw hl
  have hl : lv_has ls 2 [(0, .ref (ad 154)), (1, .int a1)] := hl
  unfold DX9_controllerOf at hD
  refine lv_aload_n C.1.1 C.1.2.1 dX9_controllerOf_0 rfl (lv_at hl 0 rfl) ?_
  refine mr_getR C hw kc_9 0 (by decide) tf_154 ff_154_0 wd_358 dX9_controllerOf_1 (by decide) rfl ?_
  refine lv_iconst (v := 0) C.1.1 C.1.2.1 dX9_controllerOf_4 (by decide) ?_
  refine mr_aald C hw (by decide) tf_155 (by decide) (by decide) rfl rfl (show vp_in 0 5 from by unfold vp_in; decide) ff_155_0 dX9_controllerOf_5 ?_
  refine lv_aload_n C.1.1 C.1.2.1 dX9_controllerOf_6 rfl (lv_at hl 0 rfl) ?_
  refine mr_getR C hw kc_9 3 (by decide) tf_154 ff_154_3 wd_365 dX9_controllerOf_7 (by decide) rfl ?_
  refine lv_iconst (v := 1) C.1.1 C.1.2.1 dX9_controllerOf_10 (by decide) ?_
  refine mr_aald C hw (by decide) tf_269 (by decide) (by decide) rfl rfl (show vp_in 1 4 from by unfold vp_in; decide) ff_269_1 dX9_controllerOf_11 ?_
  refine lv_iload_n C.1.1 C.1.2.1 dX9_controllerOf_12 rfl (lv_at hl 1 rfl) ?_
  obtain ⟨q3, hD⟩ := g_ck hD
  refine mr_iald C hw (by decide) tf_271 q3 dX9_controllerOf_13 ?_
  obtain ⟨q4, hD⟩ := g_ck hD
  refine mr_iald C hw (by decide) tf_156 q4 dX9_controllerOf_14 ?_
  exact mr_iret C hr hlocks hw rfl (Option.some.inj hD) dX9_controllerOf_15

theorem dX9_isToTester_0 : decode cX9_isToTester 0 = .ok (.aload_n 0, 1) := by decide +kernel
theorem dX9_isToTester_1 : decode cX9_isToTester 1 = .ok (.aload_n 0, 1) := by decide +kernel
theorem dX9_isToTester_2 : decode cX9_isToTester 2 = .ok (.getfield 22, 3) := by decide +kernel
theorem dX9_isToTester_5 : decode cX9_isToTester 5 = .ok (.iconst 1, 1) := by decide +kernel
theorem dX9_isToTester_6 : decode cX9_isToTester 6 = .ok (.aaload, 1) := by decide +kernel
theorem dX9_isToTester_7 : decode cX9_isToTester 7 = .ok (.iload_n 1, 1) := by decide +kernel
theorem dX9_isToTester_8 : decode cX9_isToTester 8 = .ok (.iaload, 1) := by decide +kernel
theorem dX9_isToTester_9 : decode cX9_isToTester 9 = .ok (.invokevirtual 49, 3) := by decide +kernel
theorem dX9_isToTester_12 : decode cX9_isToTester 12 = .ok (.aload_n 0, 1) := by decide +kernel
theorem dX9_isToTester_13 : decode cX9_isToTester 13 = .ok (.getfield 22, 3) := by decide +kernel
theorem dX9_isToTester_16 : decode cX9_isToTester 16 = .ok (.iconst 0, 1) := by decide +kernel
theorem dX9_isToTester_17 : decode cX9_isToTester 17 = .ok (.aaload, 1) := by decide +kernel
theorem dX9_isToTester_18 : decode cX9_isToTester 18 = .ok (.iload_n 1, 1) := by decide +kernel
theorem dX9_isToTester_19 : decode cX9_isToTester 19 = .ok (.iaload, 1) := by decide +kernel
theorem dX9_isToTester_20 : decode cX9_isToTester 20 = .ok (.iconst 3, 1) := by decide +kernel
theorem dX9_isToTester_21 : decode cX9_isToTester 21 = .ok (.if_icmp .ne 7, 3) := by decide +kernel
theorem dX9_isToTester_24 : decode cX9_isToTester 24 = .ok (.iconst 1, 1) := by decide +kernel
theorem dX9_isToTester_25 : decode cX9_isToTester 25 = .ok (.goto 4, 3) := by decide +kernel
theorem dX9_isToTester_28 : decode cX9_isToTester 28 = .ok (.iconst 0, 1) := by decide +kernel
theorem dX9_isToTester_29 : decode cX9_isToTester 29 = .ok (.if_icmp .ne 7, 3) := by decide +kernel
theorem dX9_isToTester_32 : decode cX9_isToTester 32 = .ok (.iconst 1, 1) := by decide +kernel
theorem dX9_isToTester_33 : decode cX9_isToTester 33 = .ok (.goto 4, 3) := by decide +kernel
theorem dX9_isToTester_36 : decode cX9_isToTester 36 = .ok (.iconst 0, 1) := by decide +kernel
theorem dX9_isToTester_37 : decode cX9_isToTester 37 = .ok (.ireturn, 1) := by decide +kernel
theorem cwX9_isToTester : mw_cwV yX9_isToTester cX9_isToTester 2 ((some .boolean)) 1 := ⟨⟨wd_10, wd_1523, by decide +kernel⟩, wd_1521, wd_1522⟩
set_option maxHeartbeats 4000000 in
set_option maxRecDepth 100000 in
theorem tX9_isToTester (l : Launch) (G : mwG) (ad : Nat → Nat) (fu : Nat) (a1 : Int32) (M : mwM) (L : mwL) {r0 : Int32} {M0 : mwM} {L0 : mwL} (hD : DX9_isToTester fu a1 M L = some (r0, M0, L0)) : Met l yX9_isToTester (Cond.code yX9_isToTester cX9_isToTester 2 ((some .boolean)) :: GT) ({ frames := 1, cells := 0, slots := 0, locals := 21 }) (mw_Pre G ad NF TF FF M L [.ref (ad 154), .int a1]) (mw_Qi G ad NF TF FF (mw_eqI r0 M0 L0)) 0 0 (mw_fr G) := by
  refine mw_enter (by decide) (Nat.le_of_ble_eq_true rfl) ?_
  intro p e s m below meth c ls C hr hlocks hnm hw hl
  have hl : lv_has ls 2 [(0, .ref (ad 154)), (1, .int a1)] := hl
  have hb37 : ∀ (s0 : Int32) (M : mwM) (L : mwL) (H : Heap) (locs : List Loc) (ls : Array Slot), fX9_isToTester_b37 fu a1 s0 M L = some (r0, M0, L0) → mw_W G ad NF TF FF M L H locs → lv_has ls 2 [] → W p l e ({ frames := 1, cells := 0, slots := 0, locals := 21 }) s m [.ref (ad 154), .int a1].toArray below meth c H locs 0 0 (MQ below (mw_Qi G ad NF TF FF (mw_eqI r0 M0 L0)) [.ref (ad 154), .int a1].toArray s 0 0 (mw_fr G)) (F0 m 37 ls [.int s0]) := by
    intro s0 M L H locs ls hD hw hl
    unfold fX9_isToTester_b37 at hD
    obtain ⟨z2, hD⟩ := g_zz hD
    exact mr_iret C hr hlocks hw (nz_zz z2) (Option.some.inj hD) dX9_isToTester_37
  have hb29 : ∀ (s0 : Int32) (s1 : Int32) (M : mwM) (L : mwL) (H : Heap) (locs : List Loc) (ls : Array Slot), fX9_isToTester_b29 fu a1 s0 s1 M L = some (r0, M0, L0) → mw_W G ad NF TF FF M L H locs → lv_has ls 2 [] → W p l e ({ frames := 1, cells := 0, slots := 0, locals := 21 }) s m [.ref (ad 154), .int a1].toArray below meth c H locs 0 0 (MQ below (mw_Qi G ad NF TF FF (mw_eqI r0 M0 L0)) [.ref (ad 154), .int a1].toArray s 0 0 (mw_fr G)) (F0 m 29 ls [.int s1, .int s0]) := by
    intro s0 s1 M L H locs ls hD hw hl
    unfold fX9_isToTester_b29 at hD
    refine lv_icmp_ne (tgt := 36) C.1.1 C.1.2.1 dX9_isToTester_29 (by decide) (fun c1 => ?_) (fun c1 => ?_)
    · replace hD := g_neg c1 hD
      refine lv_iconst (v := 0) C.1.1 C.1.2.1 dX9_isToTester_36 (by decide) ?_
      exact hb37 0 M L _ _ ls hD hw (lv_sub hl [] rfl)
    · replace hD := g_pos c1 hD
      refine lv_iconst (v := 1) C.1.1 C.1.2.1 dX9_isToTester_32 (by decide) ?_
      refine lv_goto (tgt := 37) C.1.1 C.1.2.1 dX9_isToTester_33 (by decide) ?_
      exact hb37 1 M L _ _ ls hD hw (lv_sub hl [] rfl)
  unfold DX9_isToTester at hD
  refine lv_aload_n C.1.1 C.1.2.1 dX9_isToTester_0 rfl (lv_at hl 0 rfl) ?_
  refine lv_aload_n C.1.1 C.1.2.1 dX9_isToTester_1 rfl (lv_at hl 0 rfl) ?_
  refine mr_getR C hw kc_9 3 (by decide) tf_154 ff_154_3 wd_365 dX9_isToTester_2 (by decide) rfl ?_
  refine lv_iconst (v := 1) C.1.1 C.1.2.1 dX9_isToTester_5 (by decide) ?_
  refine mr_aald C hw (by decide) tf_269 (by decide) (by decide) rfl rfl (show vp_in 1 4 from by unfold vp_in; decide) ff_269_1 dX9_isToTester_6 ?_
  refine lv_iload_n C.1.1 C.1.2.1 dX9_isToTester_7 rfl (lv_at hl 1 rfl) ?_
  obtain ⟨q4, hD⟩ := g_ck hD
  refine mr_iald C hw (by decide) tf_271 q4 dX9_isToTester_8 ?_
  obtain ⟨r7, M5, L6, h1, hD⟩ := g_b3 hD
  refine md_cvI (As := [.int (M 271 a1.toNatClampNeg)]) (rest := []) C hw (tX9_isQuestion l G ad fu (M 271 a1.toNatClampNeg) M L h1) kc_9 (by decide) tf_154 wd_1524 cwX9_isQuestion ⟨Nat.le_of_ble_eq_true rfl, Nat.le_of_ble_eq_true rfl⟩ rfl hl.1 (Nat.le_of_ble_eq_true rfl) dX9_isToTester_9 rfl rfl ⟨Nat.zero_le _, Nat.zero_le _⟩ rfl (fun H locs hw => ?_)
  refine lv_aload_n C.1.1 C.1.2.1 dX9_isToTester_12 rfl (lv_at hl 0 rfl) ?_
  refine mr_getR C hw kc_9 3 (by decide) tf_154 ff_154_3 wd_365 dX9_isToTester_13 (by decide) rfl ?_
  refine lv_iconst (v := 0) C.1.1 C.1.2.1 dX9_isToTester_16 (by decide) ?_
  refine mr_aald C hw (by decide) tf_269 (by decide) (by decide) rfl rfl (show vp_in 0 4 from by unfold vp_in; decide) ff_269_0 dX9_isToTester_17 ?_
  refine lv_iload_n C.1.1 C.1.2.1 dX9_isToTester_18 rfl (lv_at hl 1 rfl) ?_
  obtain ⟨q9, hD⟩ := g_ck hD
  refine mr_iald C hw (by decide) tf_270 q9 dX9_isToTester_19 ?_
  refine lv_iconst (v := 3) C.1.1 C.1.2.1 dX9_isToTester_20 (by decide) ?_
  refine lv_icmp_ne (tgt := 28) C.1.1 C.1.2.1 dX9_isToTester_21 (by decide) (fun c10 => ?_) (fun c10 => ?_)
  · replace hD := g_neg c10 hD
    refine lv_iconst (v := 0) C.1.1 C.1.2.1 dX9_isToTester_28 (by decide) ?_
    exact hb29 r7 0 M5 L6 _ _ ls hD hw (lv_sub hl [] rfl)
  · replace hD := g_pos c10 hD
    refine lv_iconst (v := 1) C.1.1 C.1.2.1 dX9_isToTester_24 (by decide) ?_
    refine lv_goto (tgt := 29) C.1.1 C.1.2.1 dX9_isToTester_25 (by decide) ?_
    exact hb29 r7 1 M5 L6 _ _ ls hD hw (lv_sub hl [] rfl)

theorem dX9_lose_0 : decode cX9_lose 0 = .ok (.aload_n 0, 1) := by decide +kernel
theorem dX9_lose_1 : decode cX9_lose 1 = .ok (.getfield 22, 3) := by decide +kernel
theorem dX9_lose_4 : decode cX9_lose 4 = .ok (.iconst 3, 1) := by decide +kernel
theorem dX9_lose_5 : decode cX9_lose 5 = .ok (.aaload, 1) := by decide +kernel
theorem dX9_lose_6 : decode cX9_lose 6 = .ok (.iload_n 1, 1) := by decide +kernel
theorem dX9_lose_7 : decode cX9_lose 7 = .ok (.iconst 1, 1) := by decide +kernel
theorem dX9_lose_8 : decode cX9_lose 8 = .ok (.iastore, 1) := by decide +kernel
theorem dX9_lose_9 : decode cX9_lose 9 = .ok (.return_, 1) := by decide +kernel
theorem cwX9_lose : mw_cwV yX9_lose cX9_lose 2 (none) 1 := ⟨⟨wd_10, wd_1784, by decide +kernel⟩, wd_1782, wd_1783⟩
set_option maxHeartbeats 4000000 in
set_option maxRecDepth 100000 in
theorem tX9_lose (l : Launch) (G : mwG) (ad : Nat → Nat) (fu : Nat) (a1 : Int32) (M : mwM) (L : mwL) {M0 : mwM} {L0 : mwL} (hD : DX9_lose fu a1 M L = some (M0, L0)) : Met l yX9_lose (Cond.code yX9_lose cX9_lose 2 (none) :: GT) ({ frames := 0, cells := 0, slots := 0, locals := 0 }) (mw_Pre G ad NF TF FF M L [.ref (ad 154), .int a1]) (mw_Qv G ad NF TF FF (mw_eqV M0 L0)) 0 0 (mw_fr G) := by
  refine mw_enter (by decide) (Nat.le_of_ble_eq_true rfl) ?_
  intro p e s m below meth c ls C hr hlocks hnm hw hl
  have hl : lv_has ls 2 [(0, .ref (ad 154)), (1, .int a1)] := hl
  unfold DX9_lose at hD
  refine lv_aload_n C.1.1 C.1.2.1 dX9_lose_0 rfl (lv_at hl 0 rfl) ?_
  refine mr_getR C hw kc_9 3 (by decide) tf_154 ff_154_3 wd_365 dX9_lose_1 (by decide) rfl ?_
  refine lv_iconst (v := 3) C.1.1 C.1.2.1 dX9_lose_4 (by decide) ?_
  refine mr_aald C hw (by decide) tf_269 (by decide) (by decide) rfl rfl (show vp_in 3 4 from by unfold vp_in; decide) ff_269_3 dX9_lose_5 ?_
  refine lv_iload_n C.1.1 C.1.2.1 dX9_lose_6 rfl (lv_at hl 1 rfl) ?_
  refine lv_iconst (v := 1) C.1.1 C.1.2.1 dX9_lose_7 (by decide) ?_
  obtain ⟨q2, hD⟩ := g_ck hD
  obtain ⟨M3, eM3, hD⟩ := g_let hD
  refine mr_iast C hw (by decide) tf_273 q2 dX9_lose_8 (fun H locs hw => ?_)
  replace hw : mw_W G ad NF TF FF M3 L H locs := by rw [eM3]; exact hw
  exact mr_vret C hr hlocks hw (Option.some.inj hD) dX9_lose_9

theorem dX9_receiveNext_0 : decode cX9_receiveNext 0 = .ok (.iload_n 1, 1) := by decide +kernel
theorem dX9_receiveNext_1 : decode cX9_receiveNext 1 = .ok (.iconst 4, 1) := by decide +kernel
theorem dX9_receiveNext_2 : decode cX9_receiveNext 2 = .ok (.irem, 1) := by decide +kernel
theorem dX9_receiveNext_3 : decode cX9_receiveNext 3 = .ok (.istore_n 3, 1) := by decide +kernel
theorem dX9_receiveNext_4 : decode cX9_receiveNext 4 = .ok (.aload_n 0, 1) := by decide +kernel
theorem dX9_receiveNext_5 : decode cX9_receiveNext 5 = .ok (.getfield 19, 3) := by decide +kernel
theorem dX9_receiveNext_8 : decode cX9_receiveNext 8 = .ok (.iconst 0, 1) := by decide +kernel
theorem dX9_receiveNext_9 : decode cX9_receiveNext 9 = .ok (.aaload, 1) := by decide +kernel
theorem dX9_receiveNext_10 : decode cX9_receiveNext 10 = .ok (.iload_n 3, 1) := by decide +kernel
theorem dX9_receiveNext_11 : decode cX9_receiveNext 11 = .ok (.iaload, 1) := by decide +kernel
theorem dX9_receiveNext_12 : decode cX9_receiveNext 12 = .ok (.iconst 1, 1) := by decide +kernel
theorem dX9_receiveNext_13 : decode cX9_receiveNext 13 = .ok (.if_icmp .ne 15, 3) := by decide +kernel
theorem dX9_receiveNext_16 : decode cX9_receiveNext 16 = .ok (.aload_n 0, 1) := by decide +kernel
theorem dX9_receiveNext_17 : decode cX9_receiveNext 17 = .ok (.getfield 19, 3) := by decide +kernel
theorem dX9_receiveNext_20 : decode cX9_receiveNext 20 = .ok (.iconst 1, 1) := by decide +kernel
theorem dX9_receiveNext_21 : decode cX9_receiveNext 21 = .ok (.aaload, 1) := by decide +kernel
theorem dX9_receiveNext_22 : decode cX9_receiveNext 22 = .ok (.iload_n 3, 1) := by decide +kernel
theorem dX9_receiveNext_23 : decode cX9_receiveNext 23 = .ok (.iaload, 1) := by decide +kernel
theorem dX9_receiveNext_24 : decode cX9_receiveNext 24 = .ok (.iload_n 1, 1) := by decide +kernel
theorem dX9_receiveNext_25 : decode cX9_receiveNext 25 = .ok (.if_icmp .eq 5, 3) := by decide +kernel
theorem dX9_receiveNext_28 : decode cX9_receiveNext 28 = .ok (.iconst 0, 1) := by decide +kernel
theorem dX9_receiveNext_29 : decode cX9_receiveNext 29 = .ok (.ireturn, 1) := by decide +kernel
theorem dX9_receiveNext_30 : decode cX9_receiveNext 30 = .ok (.aload_n 0, 1) := by decide +kernel
theorem dX9_receiveNext_31 : decode cX9_receiveNext 31 = .ok (.getfield 19, 3) := by decide +kernel
theorem dX9_receiveNext_34 : decode cX9_receiveNext 34 = .ok (.iconst 3, 1) := by decide +kernel
theorem dX9_receiveNext_35 : decode cX9_receiveNext 35 = .ok (.aaload, 1) := by decide +kernel
theorem dX9_receiveNext_36 : decode cX9_receiveNext 36 = .ok (.iload_n 3, 1) := by decide +kernel
theorem dX9_receiveNext_37 : decode cX9_receiveNext 37 = .ok (.iaload, 1) := by decide +kernel
theorem dX9_receiveNext_38 : decode cX9_receiveNext 38 = .ok (.iload_n 2, 1) := by decide +kernel
theorem dX9_receiveNext_39 : decode cX9_receiveNext 39 = .ok (.if_icmp .eq 19, 3) := by decide +kernel
theorem dX9_receiveNext_42 : decode cX9_receiveNext 42 = .ok (.aload_n 0, 1) := by decide +kernel
theorem dX9_receiveNext_43 : decode cX9_receiveNext 43 = .ok (.getfield 19, 3) := by decide +kernel
theorem dX9_receiveNext_46 : decode cX9_receiveNext 46 = .ok (.iconst 0, 1) := by decide +kernel
theorem dX9_receiveNext_47 : decode cX9_receiveNext 47 = .ok (.aaload, 1) := by decide +kernel
theorem dX9_receiveNext_48 : decode cX9_receiveNext 48 = .ok (.iload_n 3, 1) := by decide +kernel
theorem dX9_receiveNext_49 : decode cX9_receiveNext 49 = .ok (.iconst 4, 1) := by decide +kernel
theorem dX9_receiveNext_50 : decode cX9_receiveNext 50 = .ok (.iastore, 1) := by decide +kernel
theorem dX9_receiveNext_51 : decode cX9_receiveNext 51 = .ok (.aload_n 0, 1) := by decide +kernel
theorem dX9_receiveNext_52 : decode cX9_receiveNext 52 = .ok (.iconst 1, 1) := by decide +kernel
theorem dX9_receiveNext_53 : decode cX9_receiveNext 53 = .ok (.putfield 45, 3) := by decide +kernel
theorem dX9_receiveNext_56 : decode cX9_receiveNext 56 = .ok (.iconst 0, 1) := by decide +kernel
theorem dX9_receiveNext_57 : decode cX9_receiveNext 57 = .ok (.ireturn, 1) := by decide +kernel
theorem dX9_receiveNext_58 : decode cX9_receiveNext 58 = .ok (.aload_n 0, 1) := by decide +kernel
theorem dX9_receiveNext_59 : decode cX9_receiveNext 59 = .ok (.getfield 19, 3) := by decide +kernel
theorem dX9_receiveNext_62 : decode cX9_receiveNext 62 = .ok (.iconst 2, 1) := by decide +kernel
theorem dX9_receiveNext_63 : decode cX9_receiveNext 63 = .ok (.aaload, 1) := by decide +kernel
theorem dX9_receiveNext_64 : decode cX9_receiveNext 64 = .ok (.iload_n 3, 1) := by decide +kernel
theorem dX9_receiveNext_65 : decode cX9_receiveNext 65 = .ok (.dup2, 1) := by decide +kernel
theorem dX9_receiveNext_66 : decode cX9_receiveNext 66 = .ok (.iaload, 1) := by decide +kernel
theorem dX9_receiveNext_67 : decode cX9_receiveNext 67 = .ok (.bipush 7, 2) := by decide +kernel
theorem dX9_receiveNext_69 : decode cX9_receiveNext 69 = .ok (.iadd, 1) := by decide +kernel
theorem dX9_receiveNext_70 : decode cX9_receiveNext 70 = .ok (.iastore, 1) := by decide +kernel
theorem dX9_receiveNext_71 : decode cX9_receiveNext 71 = .ok (.aload_n 0, 1) := by decide +kernel
theorem dX9_receiveNext_72 : decode cX9_receiveNext 72 = .ok (.getfield 19, 3) := by decide +kernel
theorem dX9_receiveNext_75 : decode cX9_receiveNext 75 = .ok (.iconst 3, 1) := by decide +kernel
theorem dX9_receiveNext_76 : decode cX9_receiveNext 76 = .ok (.aaload, 1) := by decide +kernel
theorem dX9_receiveNext_77 : decode cX9_receiveNext 77 = .ok (.iload_n 3, 1) := by decide +kernel
theorem dX9_receiveNext_78 : decode cX9_receiveNext 78 = .ok (.iload_n 2, 1) := by decide +kernel
theorem dX9_receiveNext_79 : decode cX9_receiveNext 79 = .ok (.iconst 1, 1) := by decide +kernel
theorem dX9_receiveNext_80 : decode cX9_receiveNext 80 = .ok (.iadd, 1) := by decide +kernel
theorem dX9_receiveNext_81 : decode cX9_receiveNext 81 = .ok (.bipush 16, 2) := by decide +kernel
theorem dX9_receiveNext_83 : decode cX9_receiveNext 83 = .ok (.irem, 1) := by decide +kernel
theorem dX9_receiveNext_84 : decode cX9_receiveNext 84 = .ok (.iastore, 1) := by decide +kernel
theorem dX9_receiveNext_85 : decode cX9_receiveNext 85 = .ok (.aload_n 0, 1) := by decide +kernel
theorem dX9_receiveNext_86 : decode cX9_receiveNext 86 = .ok (.getfield 19, 3) := by decide +kernel
theorem dX9_receiveNext_89 : decode cX9_receiveNext 89 = .ok (.iconst 4, 1) := by decide +kernel
theorem dX9_receiveNext_90 : decode cX9_receiveNext 90 = .ok (.aaload, 1) := by decide +kernel
theorem dX9_receiveNext_91 : decode cX9_receiveNext 91 = .ok (.iload_n 3, 1) := by decide +kernel
theorem dX9_receiveNext_92 : decode cX9_receiveNext 92 = .ok (.aload_n 0, 1) := by decide +kernel
theorem dX9_receiveNext_93 : decode cX9_receiveNext 93 = .ok (.getfield 42, 3) := by decide +kernel
theorem dX9_receiveNext_96 : decode cX9_receiveNext 96 = .ok (.iastore, 1) := by decide +kernel
theorem dX9_receiveNext_97 : decode cX9_receiveNext 97 = .ok (.aload_n 0, 1) := by decide +kernel
theorem dX9_receiveNext_98 : decode cX9_receiveNext 98 = .ok (.getfield 19, 3) := by decide +kernel
theorem dX9_receiveNext_101 : decode cX9_receiveNext 101 = .ok (.iconst 2, 1) := by decide +kernel
theorem dX9_receiveNext_102 : decode cX9_receiveNext 102 = .ok (.aaload, 1) := by decide +kernel
theorem dX9_receiveNext_103 : decode cX9_receiveNext 103 = .ok (.iload_n 3, 1) := by decide +kernel
theorem dX9_receiveNext_104 : decode cX9_receiveNext 104 = .ok (.iaload, 1) := by decide +kernel
theorem dX9_receiveNext_105 : decode cX9_receiveNext 105 = .ok (.aload_n 0, 1) := by decide +kernel
theorem dX9_receiveNext_106 : decode cX9_receiveNext 106 = .ok (.getfield 13, 3) := by decide +kernel
theorem dX9_receiveNext_109 : decode cX9_receiveNext 109 = .ok (.iconst 2, 1) := by decide +kernel
theorem dX9_receiveNext_110 : decode cX9_receiveNext 110 = .ok (.aaload, 1) := by decide +kernel
theorem dX9_receiveNext_111 : decode cX9_receiveNext 111 = .ok (.iload_n 1, 1) := by decide +kernel
theorem dX9_receiveNext_112 : decode cX9_receiveNext 112 = .ok (.iaload, 1) := by decide +kernel
theorem dX9_receiveNext_113 : decode cX9_receiveNext 113 = .ok (.if_icmp .ge 5, 3) := by decide +kernel
theorem dX9_receiveNext_116 : decode cX9_receiveNext 116 = .ok (.iconst 0, 1) := by decide +kernel
theorem dX9_receiveNext_117 : decode cX9_receiveNext 117 = .ok (.ireturn, 1) := by decide +kernel
theorem dX9_receiveNext_118 : decode cX9_receiveNext 118 = .ok (.aload_n 0, 1) := by decide +kernel
theorem dX9_receiveNext_119 : decode cX9_receiveNext 119 = .ok (.getfield 19, 3) := by decide +kernel
theorem dX9_receiveNext_122 : decode cX9_receiveNext 122 = .ok (.iconst 0, 1) := by decide +kernel
theorem dX9_receiveNext_123 : decode cX9_receiveNext 123 = .ok (.aaload, 1) := by decide +kernel
theorem dX9_receiveNext_124 : decode cX9_receiveNext 124 = .ok (.iload_n 3, 1) := by decide +kernel
theorem dX9_receiveNext_125 : decode cX9_receiveNext 125 = .ok (.iconst 3, 1) := by decide +kernel
theorem dX9_receiveNext_126 : decode cX9_receiveNext 126 = .ok (.iastore, 1) := by decide +kernel
theorem dX9_receiveNext_127 : decode cX9_receiveNext 127 = .ok (.iload_n 1, 1) := by decide +kernel
theorem dX9_receiveNext_128 : decode cX9_receiveNext 128 = .ok (.ireturn, 1) := by decide +kernel
theorem cwX9_receiveNext : mw_cwV yX9_receiveNext cX9_receiveNext 4 ((some .int)) 2 := ⟨⟨wd_10, wd_1535, by decide +kernel⟩, wd_1534, sl_104⟩
set_option maxHeartbeats 4000000 in
set_option maxRecDepth 100000 in
theorem tX9_receiveNext (l : Launch) (G : mwG) (ad : Nat → Nat) (fu : Nat) (a1 : Int32) (a2 : Int32) (M : mwM) (L : mwL) {r0 : Int32} {M0 : mwM} {L0 : mwL} (hD : DX9_receiveNext fu a1 a2 M L = some (r0, M0, L0)) : Met l yX9_receiveNext (Cond.code yX9_receiveNext cX9_receiveNext 4 ((some .int)) :: GT) ({ frames := 0, cells := 0, slots := 0, locals := 0 }) (mw_Pre G ad NF TF FF M L [.ref (ad 154), .int a1, .int a2]) (mw_Qi G ad NF TF FF (mw_eqI r0 M0 L0)) 0 0 (mw_fr G) := by
  refine mw_enter (by decide) (Nat.le_of_ble_eq_true rfl) ?_
  intro p e s m below meth c ls C hr hlocks hnm hw hl
  have hl : lv_has ls 4 [(0, .ref (ad 154)), (1, .int a1), (2, .int a2)] := hl
  have hb28 : ∀ (M : mwM) (L : mwL) (H : Heap) (locs : List Loc) (ls : Array Slot), fX9_receiveNext_b28 fu a1 a2 M L = some (r0, M0, L0) → mw_W G ad NF TF FF M L H locs → lv_has ls 4 [] → W p l e ({ frames := 0, cells := 0, slots := 0, locals := 0 }) s m [.ref (ad 154), .int a1, .int a2].toArray below meth c H locs 0 0 (MQ below (mw_Qi G ad NF TF FF (mw_eqI r0 M0 L0)) [.ref (ad 154), .int a1, .int a2].toArray s 0 0 (mw_fr G)) (F0 m 28 ls []) := by
    intro M L H locs ls hD hw hl
    unfold fX9_receiveNext_b28 at hD
    refine lv_iconst (v := 0) C.1.1 C.1.2.1 dX9_receiveNext_28 (by decide) ?_
    exact mr_iret C hr hlocks hw rfl (Option.some.inj hD) dX9_receiveNext_29
  unfold DX9_receiveNext at hD
  refine lv_iload_n C.1.1 C.1.2.1 dX9_receiveNext_0 rfl (lv_at hl 1 rfl) ?_
  refine lv_iconst (v := 4) C.1.1 C.1.2.1 dX9_receiveNext_1 (by decide) ?_
  refine lv_irem C.1.1 C.1.2.1 dX9_receiveNext_2 (by decide) ?_
  obtain ⟨x2, ex2, hD⟩ := g_let hD
  refine W.eq (g2 := F0 m 3 ls (.int x2 :: [])) (by rw [ex2]) ?_
  refine lv_istore_n (lv' := [(3, .int x2), (0, .ref (ad 154)), (1, .int a1), (2, .int a2)]) C.1.1 C.1.2.1 dX9_receiveNext_3 rfl hl (by decide) rfl (fun ls hl => ?_)
  refine lv_aload_n C.1.1 C.1.2.1 dX9_receiveNext_4 rfl (lv_at hl 1 rfl) ?_
  refine mr_getR C hw kc_9 2 (by decide) tf_154 ff_154_2 wd_364 dX9_receiveNext_5 (by decide) rfl ?_
  refine lv_iconst (v := 0) C.1.1 C.1.2.1 dX9_receiveNext_8 (by decide) ?_
  refine mr_aald C hw (by decide) tf_263 (by decide) (by decide) rfl rfl (show vp_in 0 5 from by unfold vp_in; decide) ff_263_0 dX9_receiveNext_9 ?_
  refine lv_iload_n C.1.1 C.1.2.1 dX9_receiveNext_10 rfl (lv_at hl 0 rfl) ?_
  obtain ⟨q4, hD⟩ := g_ck hD
  refine mr_iald C hw (by decide) tf_264 q4 dX9_receiveNext_11 ?_
  refine lv_iconst (v := 1) C.1.1 C.1.2.1 dX9_receiveNext_12 (by decide) ?_
  refine lv_icmp_ne (tgt := 28) C.1.1 C.1.2.1 dX9_receiveNext_13 (by decide) (fun c5 => ?_) (fun c5 => ?_)
  · replace hD := g_neg c5 hD
    exact hb28 M L _ _ ls hD hw (lv_sub hl [] rfl)
  · replace hD := g_pos c5 hD
    refine lv_aload_n C.1.1 C.1.2.1 dX9_receiveNext_16 rfl (lv_at hl 1 rfl) ?_
    refine mr_getR C hw kc_9 2 (by decide) tf_154 ff_154_2 wd_364 dX9_receiveNext_17 (by decide) rfl ?_
    refine lv_iconst (v := 1) C.1.1 C.1.2.1 dX9_receiveNext_20 (by decide) ?_
    refine mr_aald C hw (by decide) tf_263 (by decide) (by decide) rfl rfl (show vp_in 1 5 from by unfold vp_in; decide) ff_263_1 dX9_receiveNext_21 ?_
    refine lv_iload_n C.1.1 C.1.2.1 dX9_receiveNext_22 rfl (lv_at hl 0 rfl) ?_
    obtain ⟨q7, hD⟩ := g_ck hD
    refine mr_iald C hw (by decide) tf_265 q7 dX9_receiveNext_23 ?_
    refine lv_iload_n C.1.1 C.1.2.1 dX9_receiveNext_24 rfl (lv_at hl 2 rfl) ?_
    refine lv_icmp_eq (tgt := 30) C.1.1 C.1.2.1 dX9_receiveNext_25 (by decide) (fun c8 => ?_) (fun c8 => ?_)
    · replace hD := g_pos c8 hD
      refine lv_aload_n C.1.1 C.1.2.1 dX9_receiveNext_30 rfl (lv_at hl 1 rfl) ?_
      refine mr_getR C hw kc_9 2 (by decide) tf_154 ff_154_2 wd_364 dX9_receiveNext_31 (by decide) rfl ?_
      refine lv_iconst (v := 3) C.1.1 C.1.2.1 dX9_receiveNext_34 (by decide) ?_
      refine mr_aald C hw (by decide) tf_263 (by decide) (by decide) rfl rfl (show vp_in 3 5 from by unfold vp_in; decide) ff_263_3 dX9_receiveNext_35 ?_
      refine lv_iload_n C.1.1 C.1.2.1 dX9_receiveNext_36 rfl (lv_at hl 0 rfl) ?_
      obtain ⟨q10, hD⟩ := g_ck hD
      refine mr_iald C hw (by decide) tf_267 q10 dX9_receiveNext_37 ?_
      refine lv_iload_n C.1.1 C.1.2.1 dX9_receiveNext_38 rfl (lv_at hl 3 rfl) ?_
      refine lv_icmp_eq (tgt := 58) C.1.1 C.1.2.1 dX9_receiveNext_39 (by decide) (fun c11 => ?_) (fun c11 => ?_)
      · replace hD := g_pos c11 hD
        refine lv_aload_n C.1.1 C.1.2.1 dX9_receiveNext_58 rfl (lv_at hl 1 rfl) ?_
        refine mr_getR C hw kc_9 2 (by decide) tf_154 ff_154_2 wd_364 dX9_receiveNext_59 (by decide) rfl ?_
        refine lv_iconst (v := 2) C.1.1 C.1.2.1 dX9_receiveNext_62 (by decide) ?_
        refine mr_aald C hw (by decide) tf_263 (by decide) (by decide) rfl rfl (show vp_in 2 5 from by unfold vp_in; decide) ff_263_2 dX9_receiveNext_63 ?_
        refine lv_iload_n C.1.1 C.1.2.1 dX9_receiveNext_64 rfl (lv_at hl 0 rfl) ?_
        refine lv_dup2_11 C.1.1 C.1.2.1 dX9_receiveNext_65 rfl rfl ?_
        obtain ⟨q13, hD⟩ := g_ck hD
        refine mr_iald C hw (by decide) tf_266 q13 dX9_receiveNext_66 ?_
        refine lv_bipush (v := 7) C.1.1 C.1.2.1 dX9_receiveNext_67 (by decide) ?_
        refine lv_iadd C.1.1 C.1.2.1 dX9_receiveNext_69 ?_
        obtain ⟨q14, hD⟩ := g_ck hD
        obtain ⟨M15, eM15, hD⟩ := g_let hD
        refine mr_iast C hw (by decide) tf_266 q14 dX9_receiveNext_70 (fun H locs hw => ?_)
        replace hw : mw_W G ad NF TF FF M15 L H locs := by rw [eM15]; exact hw
        refine lv_aload_n C.1.1 C.1.2.1 dX9_receiveNext_71 rfl (lv_at hl 1 rfl) ?_
        refine mr_getR C hw kc_9 2 (by decide) tf_154 ff_154_2 wd_364 dX9_receiveNext_72 (by decide) rfl ?_
        refine lv_iconst (v := 3) C.1.1 C.1.2.1 dX9_receiveNext_75 (by decide) ?_
        refine mr_aald C hw (by decide) tf_263 (by decide) (by decide) rfl rfl (show vp_in 3 5 from by unfold vp_in; decide) ff_263_3 dX9_receiveNext_76 ?_
        refine lv_iload_n C.1.1 C.1.2.1 dX9_receiveNext_77 rfl (lv_at hl 0 rfl) ?_
        refine lv_iload_n C.1.1 C.1.2.1 dX9_receiveNext_78 rfl (lv_at hl 3 rfl) ?_
        refine lv_iconst (v := 1) C.1.1 C.1.2.1 dX9_receiveNext_79 (by decide) ?_
        refine lv_iadd C.1.1 C.1.2.1 dX9_receiveNext_80 ?_
        refine lv_bipush (v := 16) C.1.1 C.1.2.1 dX9_receiveNext_81 (by decide) ?_
        refine lv_irem C.1.1 C.1.2.1 dX9_receiveNext_83 (by decide) ?_
        obtain ⟨q18, hD⟩ := g_ck hD
        obtain ⟨M19, eM19, hD⟩ := g_let hD
        refine mr_iast C hw (by decide) tf_267 q18 dX9_receiveNext_84 (fun H locs hw => ?_)
        replace hw : mw_W G ad NF TF FF M19 L H locs := by rw [eM19]; exact hw
        refine lv_aload_n C.1.1 C.1.2.1 dX9_receiveNext_85 rfl (lv_at hl 1 rfl) ?_
        refine mr_getR C hw kc_9 2 (by decide) tf_154 ff_154_2 wd_364 dX9_receiveNext_86 (by decide) rfl ?_
        refine lv_iconst (v := 4) C.1.1 C.1.2.1 dX9_receiveNext_89 (by decide) ?_
        refine mr_aald C hw (by decide) tf_263 (by decide) (by decide) rfl rfl (show vp_in 4 5 from by unfold vp_in; decide) ff_263_4 dX9_receiveNext_90 ?_
        refine lv_iload_n C.1.1 C.1.2.1 dX9_receiveNext_91 rfl (lv_at hl 0 rfl) ?_
        refine lv_aload_n C.1.1 C.1.2.1 dX9_receiveNext_92 rfl (lv_at hl 1 rfl) ?_
        refine mr_getI C hw kc_9 9 (by decide) tf_154 wd_375 dX9_receiveNext_93 (by decide) rfl ?_
        obtain ⟨q21, hD⟩ := g_ck hD
        obtain ⟨M22, eM22, hD⟩ := g_let hD
        refine mr_iast C hw (by decide) tf_268 q21 dX9_receiveNext_96 (fun H locs hw => ?_)
        replace hw : mw_W G ad NF TF FF M22 L H locs := by rw [eM22]; exact hw
        refine lv_aload_n C.1.1 C.1.2.1 dX9_receiveNext_97 rfl (lv_at hl 1 rfl) ?_
        refine mr_getR C hw kc_9 2 (by decide) tf_154 ff_154_2 wd_364 dX9_receiveNext_98 (by decide) rfl ?_
        refine lv_iconst (v := 2) C.1.1 C.1.2.1 dX9_receiveNext_101 (by decide) ?_
        refine mr_aald C hw (by decide) tf_263 (by decide) (by decide) rfl rfl (show vp_in 2 5 from by unfold vp_in; decide) ff_263_2 dX9_receiveNext_102 ?_
        refine lv_iload_n C.1.1 C.1.2.1 dX9_receiveNext_103 rfl (lv_at hl 0 rfl) ?_
        obtain ⟨q24, hD⟩ := g_ck hD
        refine mr_iald C hw (by decide) tf_266 q24 dX9_receiveNext_104 ?_
        refine lv_aload_n C.1.1 C.1.2.1 dX9_receiveNext_105 rfl (lv_at hl 1 rfl) ?_
        refine mr_getR C hw kc_9 0 (by decide) tf_154 ff_154_0 wd_358 dX9_receiveNext_106 (by decide) rfl ?_
        refine lv_iconst (v := 2) C.1.1 C.1.2.1 dX9_receiveNext_109 (by decide) ?_
        refine mr_aald C hw (by decide) tf_155 (by decide) (by decide) rfl rfl (show vp_in 2 5 from by unfold vp_in; decide) ff_155_2 dX9_receiveNext_110 ?_
        refine lv_iload_n C.1.1 C.1.2.1 dX9_receiveNext_111 rfl (lv_at hl 2 rfl) ?_
        obtain ⟨q26, hD⟩ := g_ck hD
        refine mr_iald C hw (by decide) tf_158 q26 dX9_receiveNext_112 ?_
        refine lv_icmp_ge (tgt := 118) C.1.1 C.1.2.1 dX9_receiveNext_113 (by decide) (fun c27 => ?_) (fun c27 => ?_)
        · replace hD := g_pos c27 hD
          refine lv_aload_n C.1.1 C.1.2.1 dX9_receiveNext_118 rfl (lv_at hl 1 rfl) ?_
          refine mr_getR C hw kc_9 2 (by decide) tf_154 ff_154_2 wd_364 dX9_receiveNext_119 (by decide) rfl ?_
          refine lv_iconst (v := 0) C.1.1 C.1.2.1 dX9_receiveNext_122 (by decide) ?_
          refine mr_aald C hw (by decide) tf_263 (by decide) (by decide) rfl rfl (show vp_in 0 5 from by unfold vp_in; decide) ff_263_0 dX9_receiveNext_123 ?_
          refine lv_iload_n C.1.1 C.1.2.1 dX9_receiveNext_124 rfl (lv_at hl 0 rfl) ?_
          refine lv_iconst (v := 3) C.1.1 C.1.2.1 dX9_receiveNext_125 (by decide) ?_
          obtain ⟨q29, hD⟩ := g_ck hD
          obtain ⟨M30, eM30, hD⟩ := g_let hD
          refine mr_iast C hw (by decide) tf_264 q29 dX9_receiveNext_126 (fun H locs hw => ?_)
          replace hw : mw_W G ad NF TF FF M30 L H locs := by rw [eM30]; exact hw
          refine lv_iload_n C.1.1 C.1.2.1 dX9_receiveNext_127 rfl (lv_at hl 2 rfl) ?_
          exact mr_iret C hr hlocks hw rfl (Option.some.inj hD) dX9_receiveNext_128
        · replace hD := g_neg c27 hD
          refine lv_iconst (v := 0) C.1.1 C.1.2.1 dX9_receiveNext_116 (by decide) ?_
          exact mr_iret C hr hlocks hw rfl (Option.some.inj hD) dX9_receiveNext_117
      · replace hD := g_neg c11 hD
        refine lv_aload_n C.1.1 C.1.2.1 dX9_receiveNext_42 rfl (lv_at hl 1 rfl) ?_
        refine mr_getR C hw kc_9 2 (by decide) tf_154 ff_154_2 wd_364 dX9_receiveNext_43 (by decide) rfl ?_
        refine lv_iconst (v := 0) C.1.1 C.1.2.1 dX9_receiveNext_46 (by decide) ?_
        refine mr_aald C hw (by decide) tf_263 (by decide) (by decide) rfl rfl (show vp_in 0 5 from by unfold vp_in; decide) ff_263_0 dX9_receiveNext_47 ?_
        refine lv_iload_n C.1.1 C.1.2.1 dX9_receiveNext_48 rfl (lv_at hl 0 rfl) ?_
        refine lv_iconst (v := 4) C.1.1 C.1.2.1 dX9_receiveNext_49 (by decide) ?_
        obtain ⟨q32, hD⟩ := g_ck hD
        obtain ⟨M33, eM33, hD⟩ := g_let hD
        refine mr_iast C hw (by decide) tf_264 q32 dX9_receiveNext_50 (fun H locs hw => ?_)
        replace hw : mw_W G ad NF TF FF M33 L H locs := by rw [eM33]; exact hw
        refine lv_aload_n C.1.1 C.1.2.1 dX9_receiveNext_51 rfl (lv_at hl 1 rfl) ?_
        refine lv_iconst (v := 1) C.1.1 C.1.2.1 dX9_receiveNext_52 (by decide) ?_
        obtain ⟨M34, eM34, hD⟩ := g_let hD
        refine mr_putI C hw kc_9 10 (by decide) tf_154 wd_376 dX9_receiveNext_53 (by decide) rfl rfl (by decide +kernel) (by decide +kernel) (fun H locs hw => ?_)
        replace hw : mw_W G ad NF TF FF M34 L H locs := by rw [eM34]; exact hw
        refine lv_iconst (v := 0) C.1.1 C.1.2.1 dX9_receiveNext_56 (by decide) ?_
        exact mr_iret C hr hlocks hw rfl (Option.some.inj hD) dX9_receiveNext_57
    · replace hD := g_neg c8 hD
      exact hb28 M L _ _ ls hD hw (lv_sub hl [] rfl)

theorem dX9_makeFrame_0 : decode cX9_makeFrame 0 = .ok (.aload_n 0, 1) := by decide +kernel
theorem dX9_makeFrame_1 : decode cX9_makeFrame 1 = .ok (.getfield 33, 3) := by decide +kernel
theorem dX9_makeFrame_4 : decode cX9_makeFrame 4 = .ok (.sipush 1600, 3) := by decide +kernel
theorem dX9_makeFrame_7 : decode cX9_makeFrame 7 = .ok (.if_icmp .lt 4, 3) := by decide +kernel
theorem dX9_makeFrame_10 : decode cX9_makeFrame 10 = .ok (.return_, 1) := by decide +kernel
theorem dX9_makeFrame_11 : decode cX9_makeFrame 11 = .ok (.aload_n 0, 1) := by decide +kernel
theorem dX9_makeFrame_12 : decode cX9_makeFrame 12 = .ok (.getfield 22, 3) := by decide +kernel
theorem dX9_makeFrame_15 : decode cX9_makeFrame 15 = .ok (.iconst 0, 1) := by decide +kernel
theorem dX9_makeFrame_16 : decode cX9_makeFrame 16 = .ok (.aaload, 1) := by decide +kernel
theorem dX9_makeFrame_17 : decode cX9_makeFrame 17 = .ok (.aload_n 0, 1) := by decide +kernel
theorem dX9_makeFrame_18 : decode cX9_makeFrame 18 = .ok (.getfield 33, 3) := by decide +kernel
theorem dX9_makeFrame_21 : decode cX9_makeFrame 21 = .ok (.iload_n 1, 1) := by decide +kernel
theorem dX9_makeFrame_22 : decode cX9_makeFrame 22 = .ok (.iastore, 1) := by decide +kernel
theorem dX9_makeFrame_23 : decode cX9_makeFrame 23 = .ok (.aload_n 0, 1) := by decide +kernel
theorem dX9_makeFrame_24 : decode cX9_makeFrame 24 = .ok (.getfield 22, 3) := by decide +kernel
theorem dX9_makeFrame_27 : decode cX9_makeFrame 27 = .ok (.iconst 1, 1) := by decide +kernel
theorem dX9_makeFrame_28 : decode cX9_makeFrame 28 = .ok (.aaload, 1) := by decide +kernel
theorem dX9_makeFrame_29 : decode cX9_makeFrame 29 = .ok (.aload_n 0, 1) := by decide +kernel
theorem dX9_makeFrame_30 : decode cX9_makeFrame 30 = .ok (.getfield 33, 3) := by decide +kernel
theorem dX9_makeFrame_33 : decode cX9_makeFrame 33 = .ok (.iload_n 2, 1) := by decide +kernel
theorem dX9_makeFrame_34 : decode cX9_makeFrame 34 = .ok (.iastore, 1) := by decide +kernel
theorem dX9_makeFrame_35 : decode cX9_makeFrame 35 = .ok (.aload_n 0, 1) := by decide +kernel
theorem dX9_makeFrame_36 : decode cX9_makeFrame 36 = .ok (.getfield 22, 3) := by decide +kernel
theorem dX9_makeFrame_39 : decode cX9_makeFrame 39 = .ok (.iconst 2, 1) := by decide +kernel
theorem dX9_makeFrame_40 : decode cX9_makeFrame 40 = .ok (.aaload, 1) := by decide +kernel
theorem dX9_makeFrame_41 : decode cX9_makeFrame 41 = .ok (.aload_n 0, 1) := by decide +kernel
theorem dX9_makeFrame_42 : decode cX9_makeFrame 42 = .ok (.getfield 33, 3) := by decide +kernel
theorem dX9_makeFrame_45 : decode cX9_makeFrame 45 = .ok (.iload_n 3, 1) := by decide +kernel
theorem dX9_makeFrame_46 : decode cX9_makeFrame 46 = .ok (.iastore, 1) := by decide +kernel
theorem dX9_makeFrame_47 : decode cX9_makeFrame 47 = .ok (.aload_n 0, 1) := by decide +kernel
theorem dX9_makeFrame_48 : decode cX9_makeFrame 48 = .ok (.getfield 22, 3) := by decide +kernel
theorem dX9_makeFrame_51 : decode cX9_makeFrame 51 = .ok (.iconst 3, 1) := by decide +kernel
theorem dX9_makeFrame_52 : decode cX9_makeFrame 52 = .ok (.aaload, 1) := by decide +kernel
theorem dX9_makeFrame_53 : decode cX9_makeFrame 53 = .ok (.aload_n 0, 1) := by decide +kernel
theorem dX9_makeFrame_54 : decode cX9_makeFrame 54 = .ok (.getfield 33, 3) := by decide +kernel
theorem dX9_makeFrame_57 : decode cX9_makeFrame 57 = .ok (.iconst 0, 1) := by decide +kernel
theorem dX9_makeFrame_58 : decode cX9_makeFrame 58 = .ok (.iastore, 1) := by decide +kernel
theorem dX9_makeFrame_59 : decode cX9_makeFrame 59 = .ok (.aload_n 0, 1) := by decide +kernel
theorem dX9_makeFrame_60 : decode cX9_makeFrame 60 = .ok (.dup, 1) := by decide +kernel
theorem dX9_makeFrame_61 : decode cX9_makeFrame 61 = .ok (.getfield 33, 3) := by decide +kernel
theorem dX9_makeFrame_64 : decode cX9_makeFrame 64 = .ok (.iconst 1, 1) := by decide +kernel
theorem dX9_makeFrame_65 : decode cX9_makeFrame 65 = .ok (.iadd, 1) := by decide +kernel
theorem dX9_makeFrame_66 : decode cX9_makeFrame 66 = .ok (.putfield 33, 3) := by decide +kernel
theorem dX9_makeFrame_69 : decode cX9_makeFrame 69 = .ok (.return_, 1) := by decide +kernel
theorem cwX9_makeFrame : mw_cwV yX9_makeFrame cX9_makeFrame 4 (none) 3 := ⟨⟨wd_10, wd_1539, by decide +kernel⟩, wd_1538, sl_105⟩
set_option maxHeartbeats 4000000 in
set_option maxRecDepth 100000 in
theorem tX9_makeFrame (l : Launch) (G : mwG) (ad : Nat → Nat) (fu : Nat) (a1 : Int32) (a2 : Int32) (a3 : Int32) (M : mwM) (L : mwL) {M0 : mwM} {L0 : mwL} (hD : DX9_makeFrame fu a1 a2 a3 M L = some (M0, L0)) : Met l yX9_makeFrame (Cond.code yX9_makeFrame cX9_makeFrame 4 (none) :: GT) ({ frames := 0, cells := 0, slots := 0, locals := 0 }) (mw_Pre G ad NF TF FF M L [.ref (ad 154), .int a1, .int a2, .int a3]) (mw_Qv G ad NF TF FF (mw_eqV M0 L0)) 0 0 (mw_fr G) := by
  refine mw_enter (by decide) (Nat.le_of_ble_eq_true rfl) ?_
  intro p e s m below meth c ls C hr hlocks hnm hw hl
  have hl : lv_has ls 4 [(0, .ref (ad 154)), (1, .int a1), (2, .int a2), (3, .int a3)] := hl
  unfold DX9_makeFrame at hD
  refine lv_aload_n C.1.1 C.1.2.1 dX9_makeFrame_0 rfl (lv_at hl 0 rfl) ?_
  refine mr_getI C hw kc_9 6 (by decide) tf_154 wd_370 dX9_makeFrame_1 (by decide) rfl ?_
  refine lv_sipush (v := 1600) C.1.1 C.1.2.1 dX9_makeFrame_4 (by decide) ?_
  refine lv_icmp_lt (tgt := 11) C.1.1 C.1.2.1 dX9_makeFrame_7 (by decide) (fun c1 => ?_) (fun c1 => ?_)
  · replace hD := g_pos c1 hD
    refine lv_aload_n C.1.1 C.1.2.1 dX9_makeFrame_11 rfl (lv_at hl 0 rfl) ?_
    refine mr_getR C hw kc_9 3 (by decide) tf_154 ff_154_3 wd_365 dX9_makeFrame_12 (by decide) rfl ?_
    refine lv_iconst (v := 0) C.1.1 C.1.2.1 dX9_makeFrame_15 (by decide) ?_
    refine mr_aald C hw (by decide) tf_269 (by decide) (by decide) rfl rfl (show vp_in 0 4 from by unfold vp_in; decide) ff_269_0 dX9_makeFrame_16 ?_
    refine lv_aload_n C.1.1 C.1.2.1 dX9_makeFrame_17 rfl (lv_at hl 0 rfl) ?_
    refine mr_getI C hw kc_9 6 (by decide) tf_154 wd_370 dX9_makeFrame_18 (by decide) rfl ?_
    refine lv_iload_n C.1.1 C.1.2.1 dX9_makeFrame_21 rfl (lv_at hl 1 rfl) ?_
    obtain ⟨q3, hD⟩ := g_ck hD
    obtain ⟨M4, eM4, hD⟩ := g_let hD
    refine mr_iast C hw (by decide) tf_270 q3 dX9_makeFrame_22 (fun H locs hw => ?_)
    replace hw : mw_W G ad NF TF FF M4 L H locs := by rw [eM4]; exact hw
    refine lv_aload_n C.1.1 C.1.2.1 dX9_makeFrame_23 rfl (lv_at hl 0 rfl) ?_
    refine mr_getR C hw kc_9 3 (by decide) tf_154 ff_154_3 wd_365 dX9_makeFrame_24 (by decide) rfl ?_
    refine lv_iconst (v := 1) C.1.1 C.1.2.1 dX9_makeFrame_27 (by decide) ?_
    refine mr_aald C hw (by decide) tf_269 (by decide) (by decide) rfl rfl (show vp_in 1 4 from by unfold vp_in; decide) ff_269_1 dX9_makeFrame_28 ?_
    refine lv_aload_n C.1.1 C.1.2.1 dX9_makeFrame_29 rfl (lv_at hl 0 rfl) ?_
    refine mr_getI C hw kc_9 6 (by decide) tf_154 wd_370 dX9_makeFrame_30 (by decide) rfl ?_
    refine lv_iload_n C.1.1 C.1.2.1 dX9_makeFrame_33 rfl (lv_at hl 2 rfl) ?_
    obtain ⟨q6, hD⟩ := g_ck hD
    obtain ⟨M7, eM7, hD⟩ := g_let hD
    refine mr_iast C hw (by decide) tf_271 q6 dX9_makeFrame_34 (fun H locs hw => ?_)
    replace hw : mw_W G ad NF TF FF M7 L H locs := by rw [eM7]; exact hw
    refine lv_aload_n C.1.1 C.1.2.1 dX9_makeFrame_35 rfl (lv_at hl 0 rfl) ?_
    refine mr_getR C hw kc_9 3 (by decide) tf_154 ff_154_3 wd_365 dX9_makeFrame_36 (by decide) rfl ?_
    refine lv_iconst (v := 2) C.1.1 C.1.2.1 dX9_makeFrame_39 (by decide) ?_
    refine mr_aald C hw (by decide) tf_269 (by decide) (by decide) rfl rfl (show vp_in 2 4 from by unfold vp_in; decide) ff_269_2 dX9_makeFrame_40 ?_
    refine lv_aload_n C.1.1 C.1.2.1 dX9_makeFrame_41 rfl (lv_at hl 0 rfl) ?_
    refine mr_getI C hw kc_9 6 (by decide) tf_154 wd_370 dX9_makeFrame_42 (by decide) rfl ?_
    refine lv_iload_n C.1.1 C.1.2.1 dX9_makeFrame_45 rfl (lv_at hl 3 rfl) ?_
    obtain ⟨q9, hD⟩ := g_ck hD
    obtain ⟨M10, eM10, hD⟩ := g_let hD
    refine mr_iast C hw (by decide) tf_272 q9 dX9_makeFrame_46 (fun H locs hw => ?_)
    replace hw : mw_W G ad NF TF FF M10 L H locs := by rw [eM10]; exact hw
    refine lv_aload_n C.1.1 C.1.2.1 dX9_makeFrame_47 rfl (lv_at hl 0 rfl) ?_
    refine mr_getR C hw kc_9 3 (by decide) tf_154 ff_154_3 wd_365 dX9_makeFrame_48 (by decide) rfl ?_
    refine lv_iconst (v := 3) C.1.1 C.1.2.1 dX9_makeFrame_51 (by decide) ?_
    refine mr_aald C hw (by decide) tf_269 (by decide) (by decide) rfl rfl (show vp_in 3 4 from by unfold vp_in; decide) ff_269_3 dX9_makeFrame_52 ?_
    refine lv_aload_n C.1.1 C.1.2.1 dX9_makeFrame_53 rfl (lv_at hl 0 rfl) ?_
    refine mr_getI C hw kc_9 6 (by decide) tf_154 wd_370 dX9_makeFrame_54 (by decide) rfl ?_
    refine lv_iconst (v := 0) C.1.1 C.1.2.1 dX9_makeFrame_57 (by decide) ?_
    obtain ⟨q12, hD⟩ := g_ck hD
    obtain ⟨M13, eM13, hD⟩ := g_let hD
    refine mr_iast C hw (by decide) tf_273 q12 dX9_makeFrame_58 (fun H locs hw => ?_)
    replace hw : mw_W G ad NF TF FF M13 L H locs := by rw [eM13]; exact hw
    refine lv_aload_n C.1.1 C.1.2.1 dX9_makeFrame_59 rfl (lv_at hl 0 rfl) ?_
    refine lv_dup C.1.1 C.1.2.1 dX9_makeFrame_60 rfl ?_
    refine mr_getI C hw kc_9 6 (by decide) tf_154 wd_370 dX9_makeFrame_61 (by decide) rfl ?_
    refine lv_iconst (v := 1) C.1.1 C.1.2.1 dX9_makeFrame_64 (by decide) ?_
    refine lv_iadd C.1.1 C.1.2.1 dX9_makeFrame_65 ?_
    obtain ⟨M14, eM14, hD⟩ := g_let hD
    refine mr_putI C hw kc_9 6 (by decide) tf_154 wd_370 dX9_makeFrame_66 (by decide) rfl rfl rfl rfl (fun H locs hw => ?_)
    replace hw : mw_W G ad NF TF FF M14 L H locs := by rw [eM14]; exact hw
    exact mr_vret C hr hlocks hw (Option.some.inj hD) dX9_makeFrame_69
  · replace hD := g_neg c1 hD
    exact mr_vret C hr hlocks hw (Option.some.inj hD) dX9_makeFrame_10

theorem dX9_receive_0 : decode cX9_receive 0 = .ok (.aload_n 0, 1) := by decide +kernel
theorem dX9_receive_1 : decode cX9_receive 1 = .ok (.getfield 22, 3) := by decide +kernel
theorem dX9_receive_4 : decode cX9_receive 4 = .ok (.iconst 1, 1) := by decide +kernel
theorem dX9_receive_5 : decode cX9_receive 5 = .ok (.aaload, 1) := by decide +kernel
theorem dX9_receive_6 : decode cX9_receive 6 = .ok (.iload_n 1, 1) := by decide +kernel
theorem dX9_receive_7 : decode cX9_receive 7 = .ok (.iaload, 1) := by decide +kernel
theorem dX9_receive_8 : decode cX9_receive 8 = .ok (.istore_n 2, 1) := by decide +kernel
theorem dX9_receive_9 : decode cX9_receive 9 = .ok (.aload_n 0, 1) := by decide +kernel
theorem dX9_receive_10 : decode cX9_receive 10 = .ok (.getfield 22, 3) := by decide +kernel
theorem dX9_receive_13 : decode cX9_receive 13 = .ok (.iconst 0, 1) := by decide +kernel
theorem dX9_receive_14 : decode cX9_receive 14 = .ok (.aaload, 1) := by decide +kernel
theorem dX9_receive_15 : decode cX9_receive 15 = .ok (.iload_n 1, 1) := by decide +kernel
theorem dX9_receive_16 : decode cX9_receive 16 = .ok (.iaload, 1) := by decide +kernel
theorem dX9_receive_17 : decode cX9_receive 17 = .ok (.iconst 3, 1) := by decide +kernel
theorem dX9_receive_18 : decode cX9_receive 18 = .ok (.if_icmp .ne 26, 3) := by decide +kernel
theorem dX9_receive_21 : decode cX9_receive 21 = .ok (.aload_n 0, 1) := by decide +kernel
theorem dX9_receive_22 : decode cX9_receive 22 = .ok (.getfield 13, 3) := by decide +kernel
theorem dX9_receive_25 : decode cX9_receive 25 = .ok (.iconst 3, 1) := by decide +kernel
theorem dX9_receive_26 : decode cX9_receive 26 = .ok (.aaload, 1) := by decide +kernel
theorem dX9_receive_27 : decode cX9_receive 27 = .ok (.iload_n 2, 1) := by decide +kernel
theorem dX9_receive_28 : decode cX9_receive 28 = .ok (.iaload, 1) := by decide +kernel
theorem dX9_receive_29 : decode cX9_receive 29 = .ok (.iconst 1, 1) := by decide +kernel
theorem dX9_receive_30 : decode cX9_receive 30 = .ok (.if_icmp .ne 12, 3) := by decide +kernel
theorem dX9_receive_33 : decode cX9_receive 33 = .ok (.aload_n 0, 1) := by decide +kernel
theorem dX9_receive_34 : decode cX9_receive 34 = .ok (.getfield 13, 3) := by decide +kernel
theorem dX9_receive_37 : decode cX9_receive 37 = .ok (.iconst 3, 1) := by decide +kernel
theorem dX9_receive_38 : decode cX9_receive 38 = .ok (.aaload, 1) := by decide +kernel
theorem dX9_receive_39 : decode cX9_receive 39 = .ok (.iload_n 2, 1) := by decide +kernel
theorem dX9_receive_40 : decode cX9_receive 40 = .ok (.iconst 2, 1) := by decide +kernel
theorem dX9_receive_41 : decode cX9_receive 41 = .ok (.iastore, 1) := by decide +kernel
theorem dX9_receive_42 : decode cX9_receive 42 = .ok (.iconst 0, 1) := by decide +kernel
theorem dX9_receive_43 : decode cX9_receive 43 = .ok (.ireturn, 1) := by decide +kernel
theorem dX9_receive_44 : decode cX9_receive 44 = .ok (.aload_n 0, 1) := by decide +kernel
theorem dX9_receive_45 : decode cX9_receive 45 = .ok (.getfield 22, 3) := by decide +kernel
theorem dX9_receive_48 : decode cX9_receive 48 = .ok (.iconst 0, 1) := by decide +kernel
theorem dX9_receive_49 : decode cX9_receive 49 = .ok (.aaload, 1) := by decide +kernel
theorem dX9_receive_50 : decode cX9_receive 50 = .ok (.iload_n 1, 1) := by decide +kernel
theorem dX9_receive_51 : decode cX9_receive 51 = .ok (.iaload, 1) := by decide +kernel
theorem dX9_receive_52 : decode cX9_receive 52 = .ok (.iconst 2, 1) := by decide +kernel
theorem dX9_receive_53 : decode cX9_receive 53 = .ok (.if_icmp .ne 17, 3) := by decide +kernel
theorem dX9_receive_56 : decode cX9_receive 56 = .ok (.aload_n 0, 1) := by decide +kernel
theorem dX9_receive_57 : decode cX9_receive 57 = .ok (.iload_n 2, 1) := by decide +kernel
theorem dX9_receive_58 : decode cX9_receive 58 = .ok (.aload_n 0, 1) := by decide +kernel
theorem dX9_receive_59 : decode cX9_receive 59 = .ok (.getfield 22, 3) := by decide +kernel
theorem dX9_receive_62 : decode cX9_receive 62 = .ok (.iconst 2, 1) := by decide +kernel
theorem dX9_receive_63 : decode cX9_receive 63 = .ok (.aaload, 1) := by decide +kernel
theorem dX9_receive_64 : decode cX9_receive 64 = .ok (.iload_n 1, 1) := by decide +kernel
theorem dX9_receive_65 : decode cX9_receive 65 = .ok (.iaload, 1) := by decide +kernel
theorem dX9_receive_66 : decode cX9_receive 66 = .ok (.invokevirtual 63, 3) := by decide +kernel
theorem dX9_receive_69 : decode cX9_receive 69 = .ok (.ireturn, 1) := by decide +kernel
theorem dX9_receive_70 : decode cX9_receive 70 = .ok (.iload_n 2, 1) := by decide +kernel
theorem dX9_receive_71 : decode cX9_receive 71 = .ok (.iconst 4, 1) := by decide +kernel
theorem dX9_receive_72 : decode cX9_receive 72 = .ok (.irem, 1) := by decide +kernel
theorem dX9_receive_73 : decode cX9_receive 73 = .ok (.istore_n 3, 1) := by decide +kernel
theorem dX9_receive_74 : decode cX9_receive 74 = .ok (.aload_n 0, 1) := by decide +kernel
theorem dX9_receive_75 : decode cX9_receive 75 = .ok (.getfield 19, 3) := by decide +kernel
theorem dX9_receive_78 : decode cX9_receive 78 = .ok (.iconst 0, 1) := by decide +kernel
theorem dX9_receive_79 : decode cX9_receive 79 = .ok (.aaload, 1) := by decide +kernel
theorem dX9_receive_80 : decode cX9_receive 80 = .ok (.iload_n 3, 1) := by decide +kernel
theorem dX9_receive_81 : decode cX9_receive 81 = .ok (.iaload, 1) := by decide +kernel
theorem dX9_receive_82 : decode cX9_receive 82 = .ok (.iconst 1, 1) := by decide +kernel
theorem dX9_receive_83 : decode cX9_receive 83 = .ok (.if_icmp .ne 8, 3) := by decide +kernel
theorem dX9_receive_86 : decode cX9_receive 86 = .ok (.aload_n 0, 1) := by decide +kernel
theorem dX9_receive_87 : decode cX9_receive 87 = .ok (.iconst 1, 1) := by decide +kernel
theorem dX9_receive_88 : decode cX9_receive 88 = .ok (.putfield 45, 3) := by decide +kernel
theorem dX9_receive_91 : decode cX9_receive 91 = .ok (.aload_n 0, 1) := by decide +kernel
theorem dX9_receive_92 : decode cX9_receive 92 = .ok (.getfield 22, 3) := by decide +kernel
theorem dX9_receive_95 : decode cX9_receive 95 = .ok (.iconst 0, 1) := by decide +kernel
theorem dX9_receive_96 : decode cX9_receive 96 = .ok (.aaload, 1) := by decide +kernel
theorem dX9_receive_97 : decode cX9_receive 97 = .ok (.iload_n 1, 1) := by decide +kernel
theorem dX9_receive_98 : decode cX9_receive 98 = .ok (.iaload, 1) := by decide +kernel
theorem dX9_receive_99 : decode cX9_receive 99 = .ok (.ifCond .ne 14, 3) := by decide +kernel
theorem dX9_receive_102 : decode cX9_receive 102 = .ok (.aload_n 0, 1) := by decide +kernel
theorem dX9_receive_103 : decode cX9_receive 103 = .ok (.getfield 19, 3) := by decide +kernel
theorem dX9_receive_106 : decode cX9_receive 106 = .ok (.iconst 0, 1) := by decide +kernel
theorem dX9_receive_107 : decode cX9_receive 107 = .ok (.aaload, 1) := by decide +kernel
theorem dX9_receive_108 : decode cX9_receive 108 = .ok (.iload_n 3, 1) := by decide +kernel
theorem dX9_receive_109 : decode cX9_receive 109 = .ok (.iconst 3, 1) := by decide +kernel
theorem dX9_receive_110 : decode cX9_receive 110 = .ok (.iastore, 1) := by decide +kernel
theorem dX9_receive_111 : decode cX9_receive 111 = .ok (.iload_n 2, 1) := by decide +kernel
theorem dX9_receive_112 : decode cX9_receive 112 = .ok (.ireturn, 1) := by decide +kernel
theorem dX9_receive_113 : decode cX9_receive 113 = .ok (.aload_n 0, 1) := by decide +kernel
theorem dX9_receive_114 : decode cX9_receive 114 = .ok (.getfield 19, 3) := by decide +kernel
theorem dX9_receive_117 : decode cX9_receive 117 = .ok (.iconst 0, 1) := by decide +kernel
theorem dX9_receive_118 : decode cX9_receive 118 = .ok (.aaload, 1) := by decide +kernel
theorem dX9_receive_119 : decode cX9_receive 119 = .ok (.iload_n 3, 1) := by decide +kernel
theorem dX9_receive_120 : decode cX9_receive 120 = .ok (.iconst 1, 1) := by decide +kernel
theorem dX9_receive_121 : decode cX9_receive 121 = .ok (.iastore, 1) := by decide +kernel
theorem dX9_receive_122 : decode cX9_receive 122 = .ok (.aload_n 0, 1) := by decide +kernel
theorem dX9_receive_123 : decode cX9_receive 123 = .ok (.getfield 19, 3) := by decide +kernel
theorem dX9_receive_126 : decode cX9_receive 126 = .ok (.iconst 1, 1) := by decide +kernel
theorem dX9_receive_127 : decode cX9_receive 127 = .ok (.aaload, 1) := by decide +kernel
theorem dX9_receive_128 : decode cX9_receive 128 = .ok (.iload_n 3, 1) := by decide +kernel
theorem dX9_receive_129 : decode cX9_receive 129 = .ok (.iload_n 2, 1) := by decide +kernel
theorem dX9_receive_130 : decode cX9_receive 130 = .ok (.iastore, 1) := by decide +kernel
theorem dX9_receive_131 : decode cX9_receive 131 = .ok (.aload_n 0, 1) := by decide +kernel
theorem dX9_receive_132 : decode cX9_receive 132 = .ok (.getfield 19, 3) := by decide +kernel
theorem dX9_receive_135 : decode cX9_receive 135 = .ok (.iconst 2, 1) := by decide +kernel
theorem dX9_receive_136 : decode cX9_receive 136 = .ok (.aaload, 1) := by decide +kernel
theorem dX9_receive_137 : decode cX9_receive 137 = .ok (.iload_n 3, 1) := by decide +kernel
theorem dX9_receive_138 : decode cX9_receive 138 = .ok (.bipush 6, 2) := by decide +kernel
theorem dX9_receive_140 : decode cX9_receive 140 = .ok (.iastore, 1) := by decide +kernel
theorem dX9_receive_141 : decode cX9_receive 141 = .ok (.aload_n 0, 1) := by decide +kernel
theorem dX9_receive_142 : decode cX9_receive 142 = .ok (.getfield 19, 3) := by decide +kernel
theorem dX9_receive_145 : decode cX9_receive 145 = .ok (.iconst 3, 1) := by decide +kernel
theorem dX9_receive_146 : decode cX9_receive 146 = .ok (.aaload, 1) := by decide +kernel
theorem dX9_receive_147 : decode cX9_receive 147 = .ok (.iload_n 3, 1) := by decide +kernel
theorem dX9_receive_148 : decode cX9_receive 148 = .ok (.iconst 1, 1) := by decide +kernel
theorem dX9_receive_149 : decode cX9_receive 149 = .ok (.iastore, 1) := by decide +kernel
theorem dX9_receive_150 : decode cX9_receive 150 = .ok (.aload_n 0, 1) := by decide +kernel
theorem dX9_receive_151 : decode cX9_receive 151 = .ok (.getfield 19, 3) := by decide +kernel
theorem dX9_receive_154 : decode cX9_receive 154 = .ok (.iconst 4, 1) := by decide +kernel
theorem dX9_receive_155 : decode cX9_receive 155 = .ok (.aaload, 1) := by decide +kernel
theorem dX9_receive_156 : decode cX9_receive 156 = .ok (.iload_n 3, 1) := by decide +kernel
theorem dX9_receive_157 : decode cX9_receive 157 = .ok (.aload_n 0, 1) := by decide +kernel
theorem dX9_receive_158 : decode cX9_receive 158 = .ok (.getfield 42, 3) := by decide +kernel
theorem dX9_receive_161 : decode cX9_receive 161 = .ok (.iastore, 1) := by decide +kernel
theorem dX9_receive_162 : decode cX9_receive 162 = .ok (.aload_n 0, 1) := by decide +kernel
theorem dX9_receive_163 : decode cX9_receive 163 = .ok (.iconst 3, 1) := by decide +kernel
theorem dX9_receive_164 : decode cX9_receive 164 = .ok (.iload_n 2, 1) := by decide +kernel
theorem dX9_receive_165 : decode cX9_receive 165 = .ok (.iconst 0, 1) := by decide +kernel
theorem dX9_receive_166 : decode cX9_receive 166 = .ok (.invokevirtual 67, 3) := by decide +kernel
theorem dX9_receive_169 : decode cX9_receive 169 = .ok (.iconst 0, 1) := by decide +kernel
theorem dX9_receive_170 : decode cX9_receive 170 = .ok (.ireturn, 1) := by decide +kernel
theorem cwX9_receive : mw_cwV yX9_receive cX9_receive 4 ((some .int)) 1 := ⟨⟨wd_10, wd_1531, by decide +kernel⟩, wd_1530, sl_103⟩
set_option maxHeartbeats 4000000 in
set_option maxRecDepth 100000 in
theorem tX9_receive (l : Launch) (G : mwG) (ad : Nat → Nat) (fu : Nat) (a1 : Int32) (M : mwM) (L : mwL) {r0 : Int32} {M0 : mwM} {L0 : mwL} (hD : DX9_receive fu a1 M L = some (r0, M0, L0)) : Met l yX9_receive (Cond.code yX9_receive cX9_receive 4 ((some .int)) :: GT) ({ frames := 1, cells := 0, slots := 0, locals := 23 }) (mw_Pre G ad NF TF FF M L [.ref (ad 154), .int a1]) (mw_Qi G ad NF TF FF (mw_eqI r0 M0 L0)) 0 0 (mw_fr G) := by
  refine mw_enter (by decide) (Nat.le_of_ble_eq_true rfl) ?_
  intro p e s m below meth c ls C hr hlocks hnm hw hl
  have hl : lv_has ls 4 [(0, .ref (ad 154)), (1, .int a1)] := hl
  have hb42 : ∀ (M : mwM) (L : mwL) (H : Heap) (locs : List Loc) (ls : Array Slot), fX9_receive_b42 fu a1 M L = some (r0, M0, L0) → mw_W G ad NF TF FF M L H locs → lv_has ls 4 [] → W p l e ({ frames := 1, cells := 0, slots := 0, locals := 23 }) s m [.ref (ad 154), .int a1].toArray below meth c H locs 0 0 (MQ below (mw_Qi G ad NF TF FF (mw_eqI r0 M0 L0)) [.ref (ad 154), .int a1].toArray s 0 0 (mw_fr G)) (F0 m 42 ls []) := by
    intro M L H locs ls hD hw hl
    unfold fX9_receive_b42 at hD
    refine lv_iconst (v := 0) C.1.1 C.1.2.1 dX9_receive_42 (by decide) ?_
    exact mr_iret C hr hlocks hw rfl (Option.some.inj hD) dX9_receive_43
  have hb91 : ∀ (v2 : Int32) (v3 : Int32) (M : mwM) (L : mwL) (H : Heap) (locs : List Loc) (ls : Array Slot), fX9_receive_b91 fu a1 v2 v3 M L = some (r0, M0, L0) → mw_W G ad NF TF FF M L H locs → lv_has ls 4 [(0, .ref (ad 154)), (1, .int a1), (2, .int v2), (3, .int v3)] → W p l e ({ frames := 1, cells := 0, slots := 0, locals := 23 }) s m [.ref (ad 154), .int a1].toArray below meth c H locs 0 0 (MQ below (mw_Qi G ad NF TF FF (mw_eqI r0 M0 L0)) [.ref (ad 154), .int a1].toArray s 0 0 (mw_fr G)) (F0 m 91 ls []) := by
    intro v2 v3 M L H locs ls hD hw hl
    unfold fX9_receive_b91 at hD
    refine lv_aload_n C.1.1 C.1.2.1 dX9_receive_91 rfl (lv_at hl 0 rfl) ?_
    refine mr_getR C hw kc_9 3 (by decide) tf_154 ff_154_3 wd_365 dX9_receive_92 (by decide) rfl ?_
    refine lv_iconst (v := 0) C.1.1 C.1.2.1 dX9_receive_95 (by decide) ?_
    refine mr_aald C hw (by decide) tf_269 (by decide) (by decide) rfl rfl (show vp_in 0 4 from by unfold vp_in; decide) ff_269_0 dX9_receive_96 ?_
    refine lv_iload_n C.1.1 C.1.2.1 dX9_receive_97 rfl (lv_at hl 1 rfl) ?_
    obtain ⟨q2, hD⟩ := g_ck hD
    refine mr_iald C hw (by decide) tf_270 q2 dX9_receive_98 ?_
    refine lv_if_ne (tgt := 113) C.1.1 C.1.2.1 dX9_receive_99 (by decide) (fun c3 => ?_) (fun c3 => ?_)
    · replace hD := g_neg c3 hD
      refine lv_aload_n C.1.1 C.1.2.1 dX9_receive_113 rfl (lv_at hl 0 rfl) ?_
      refine mr_getR C hw kc_9 2 (by decide) tf_154 ff_154_2 wd_364 dX9_receive_114 (by decide) rfl ?_
      refine lv_iconst (v := 0) C.1.1 C.1.2.1 dX9_receive_117 (by decide) ?_
      refine mr_aald C hw (by decide) tf_263 (by decide) (by decide) rfl rfl (show vp_in 0 5 from by unfold vp_in; decide) ff_263_0 dX9_receive_118 ?_
      refine lv_iload_n C.1.1 C.1.2.1 dX9_receive_119 rfl (lv_at hl 3 rfl) ?_
      refine lv_iconst (v := 1) C.1.1 C.1.2.1 dX9_receive_120 (by decide) ?_
      obtain ⟨q5, hD⟩ := g_ck hD
      obtain ⟨M6, eM6, hD⟩ := g_let hD
      refine mr_iast C hw (by decide) tf_264 q5 dX9_receive_121 (fun H locs hw => ?_)
      replace hw : mw_W G ad NF TF FF M6 L H locs := by rw [eM6]; exact hw
      refine lv_aload_n C.1.1 C.1.2.1 dX9_receive_122 rfl (lv_at hl 0 rfl) ?_
      refine mr_getR C hw kc_9 2 (by decide) tf_154 ff_154_2 wd_364 dX9_receive_123 (by decide) rfl ?_
      refine lv_iconst (v := 1) C.1.1 C.1.2.1 dX9_receive_126 (by decide) ?_
      refine mr_aald C hw (by decide) tf_263 (by decide) (by decide) rfl rfl (show vp_in 1 5 from by unfold vp_in; decide) ff_263_1 dX9_receive_127 ?_
      refine lv_iload_n C.1.1 C.1.2.1 dX9_receive_128 rfl (lv_at hl 3 rfl) ?_
      refine lv_iload_n C.1.1 C.1.2.1 dX9_receive_129 rfl (lv_at hl 2 rfl) ?_
      obtain ⟨q8, hD⟩ := g_ck hD
      obtain ⟨M9, eM9, hD⟩ := g_let hD
      refine mr_iast C hw (by decide) tf_265 q8 dX9_receive_130 (fun H locs hw => ?_)
      replace hw : mw_W G ad NF TF FF M9 L H locs := by rw [eM9]; exact hw
      refine lv_aload_n C.1.1 C.1.2.1 dX9_receive_131 rfl (lv_at hl 0 rfl) ?_
      refine mr_getR C hw kc_9 2 (by decide) tf_154 ff_154_2 wd_364 dX9_receive_132 (by decide) rfl ?_
      refine lv_iconst (v := 2) C.1.1 C.1.2.1 dX9_receive_135 (by decide) ?_
      refine mr_aald C hw (by decide) tf_263 (by decide) (by decide) rfl rfl (show vp_in 2 5 from by unfold vp_in; decide) ff_263_2 dX9_receive_136 ?_
      refine lv_iload_n C.1.1 C.1.2.1 dX9_receive_137 rfl (lv_at hl 3 rfl) ?_
      refine lv_bipush (v := 6) C.1.1 C.1.2.1 dX9_receive_138 (by decide) ?_
      obtain ⟨q11, hD⟩ := g_ck hD
      obtain ⟨M12, eM12, hD⟩ := g_let hD
      refine mr_iast C hw (by decide) tf_266 q11 dX9_receive_140 (fun H locs hw => ?_)
      replace hw : mw_W G ad NF TF FF M12 L H locs := by rw [eM12]; exact hw
      refine lv_aload_n C.1.1 C.1.2.1 dX9_receive_141 rfl (lv_at hl 0 rfl) ?_
      refine mr_getR C hw kc_9 2 (by decide) tf_154 ff_154_2 wd_364 dX9_receive_142 (by decide) rfl ?_
      refine lv_iconst (v := 3) C.1.1 C.1.2.1 dX9_receive_145 (by decide) ?_
      refine mr_aald C hw (by decide) tf_263 (by decide) (by decide) rfl rfl (show vp_in 3 5 from by unfold vp_in; decide) ff_263_3 dX9_receive_146 ?_
      refine lv_iload_n C.1.1 C.1.2.1 dX9_receive_147 rfl (lv_at hl 3 rfl) ?_
      refine lv_iconst (v := 1) C.1.1 C.1.2.1 dX9_receive_148 (by decide) ?_
      obtain ⟨q14, hD⟩ := g_ck hD
      obtain ⟨M15, eM15, hD⟩ := g_let hD
      refine mr_iast C hw (by decide) tf_267 q14 dX9_receive_149 (fun H locs hw => ?_)
      replace hw : mw_W G ad NF TF FF M15 L H locs := by rw [eM15]; exact hw
      refine lv_aload_n C.1.1 C.1.2.1 dX9_receive_150 rfl (lv_at hl 0 rfl) ?_
      refine mr_getR C hw kc_9 2 (by decide) tf_154 ff_154_2 wd_364 dX9_receive_151 (by decide) rfl ?_
      refine lv_iconst (v := 4) C.1.1 C.1.2.1 dX9_receive_154 (by decide) ?_
      refine mr_aald C hw (by decide) tf_263 (by decide) (by decide) rfl rfl (show vp_in 4 5 from by unfold vp_in; decide) ff_263_4 dX9_receive_155 ?_
      refine lv_iload_n C.1.1 C.1.2.1 dX9_receive_156 rfl (lv_at hl 3 rfl) ?_
      refine lv_aload_n C.1.1 C.1.2.1 dX9_receive_157 rfl (lv_at hl 0 rfl) ?_
      refine mr_getI C hw kc_9 9 (by decide) tf_154 wd_375 dX9_receive_158 (by decide) rfl ?_
      obtain ⟨q17, hD⟩ := g_ck hD
      obtain ⟨M18, eM18, hD⟩ := g_let hD
      refine mr_iast C hw (by decide) tf_268 q17 dX9_receive_161 (fun H locs hw => ?_)
      replace hw : mw_W G ad NF TF FF M18 L H locs := by rw [eM18]; exact hw
      refine lv_aload_n C.1.1 C.1.2.1 dX9_receive_162 rfl (lv_at hl 0 rfl) ?_
      refine lv_iconst (v := 3) C.1.1 C.1.2.1 dX9_receive_163 (by decide) ?_
      refine lv_iload_n C.1.1 C.1.2.1 dX9_receive_164 rfl (lv_at hl 2 rfl) ?_
      refine lv_iconst (v := 0) C.1.1 C.1.2.1 dX9_receive_165 (by decide) ?_
      obtain ⟨M19, L20, h1, hD⟩ := g_b2 hD
      refine md_cvV (As := [.int 3, .int v2, .int 0]) (rest := []) C hw (tX9_makeFrame l G ad fu 3 v2 0 M18 L h1) kc_9 (by decide) tf_154 wd_1536 cwX9_makeFrame ⟨Nat.le_of_ble_eq_true rfl, Nat.le_of_ble_eq_true rfl⟩ rfl hl.1 (Nat.le_of_ble_eq_true rfl) dX9_receive_166 rfl rfl ⟨Nat.zero_le _, Nat.zero_le _⟩ rfl (fun H locs hw => ?_)
      refine lv_iconst (v := 0) C.1.1 C.1.2.1 dX9_receive_169 (by decide) ?_
      exact mr_iret C hr hlocks hw rfl (Option.some.inj hD) dX9_receive_170
    · replace hD := g_pos c3 hD
      refine lv_aload_n C.1.1 C.1.2.1 dX9_receive_102 rfl (lv_at hl 0 rfl) ?_
      refine mr_getR C hw kc_9 2 (by decide) tf_154 ff_154_2 wd_364 dX9_receive_103 (by decide) rfl ?_
      refine lv_iconst (v := 0) C.1.1 C.1.2.1 dX9_receive_106 (by decide) ?_
      refine mr_aald C hw (by decide) tf_263 (by decide) (by decide) rfl rfl (show vp_in 0 5 from by unfold vp_in; decide) ff_263_0 dX9_receive_107 ?_
      refine lv_iload_n C.1.1 C.1.2.1 dX9_receive_108 rfl (lv_at hl 3 rfl) ?_
      refine lv_iconst (v := 3) C.1.1 C.1.2.1 dX9_receive_109 (by decide) ?_
      obtain ⟨q22, hD⟩ := g_ck hD
      obtain ⟨M23, eM23, hD⟩ := g_let hD
      refine mr_iast C hw (by decide) tf_264 q22 dX9_receive_110 (fun H locs hw => ?_)
      replace hw : mw_W G ad NF TF FF M23 L H locs := by rw [eM23]; exact hw
      refine lv_iload_n C.1.1 C.1.2.1 dX9_receive_111 rfl (lv_at hl 2 rfl) ?_
      exact mr_iret C hr hlocks hw rfl (Option.some.inj hD) dX9_receive_112
  unfold DX9_receive at hD
  refine lv_aload_n C.1.1 C.1.2.1 dX9_receive_0 rfl (lv_at hl 0 rfl) ?_
  refine mr_getR C hw kc_9 3 (by decide) tf_154 ff_154_3 wd_365 dX9_receive_1 (by decide) rfl ?_
  refine lv_iconst (v := 1) C.1.1 C.1.2.1 dX9_receive_4 (by decide) ?_
  refine mr_aald C hw (by decide) tf_269 (by decide) (by decide) rfl rfl (show vp_in 1 4 from by unfold vp_in; decide) ff_269_1 dX9_receive_5 ?_
  refine lv_iload_n C.1.1 C.1.2.1 dX9_receive_6 rfl (lv_at hl 1 rfl) ?_
  obtain ⟨q25, hD⟩ := g_ck hD
  refine mr_iald C hw (by decide) tf_271 q25 dX9_receive_7 ?_
  obtain ⟨x26, ex26, hD⟩ := g_let hD
  refine W.eq (g2 := F0 m 8 ls (.int x26 :: [])) (by rw [ex26]) ?_
  refine lv_istore_n (lv' := [(2, .int x26), (0, .ref (ad 154)), (1, .int a1)]) C.1.1 C.1.2.1 dX9_receive_8 rfl hl (by decide) rfl (fun ls hl => ?_)
  refine lv_aload_n C.1.1 C.1.2.1 dX9_receive_9 rfl (lv_at hl 1 rfl) ?_
  refine mr_getR C hw kc_9 3 (by decide) tf_154 ff_154_3 wd_365 dX9_receive_10 (by decide) rfl ?_
  refine lv_iconst (v := 0) C.1.1 C.1.2.1 dX9_receive_13 (by decide) ?_
  refine mr_aald C hw (by decide) tf_269 (by decide) (by decide) rfl rfl (show vp_in 0 4 from by unfold vp_in; decide) ff_269_0 dX9_receive_14 ?_
  refine lv_iload_n C.1.1 C.1.2.1 dX9_receive_15 rfl (lv_at hl 2 rfl) ?_
  obtain ⟨q28, hD⟩ := g_ck hD
  refine mr_iald C hw (by decide) tf_270 q28 dX9_receive_16 ?_
  refine lv_iconst (v := 3) C.1.1 C.1.2.1 dX9_receive_17 (by decide) ?_
  refine lv_icmp_ne (tgt := 44) C.1.1 C.1.2.1 dX9_receive_18 (by decide) (fun c29 => ?_) (fun c29 => ?_)
  · replace hD := g_neg c29 hD
    refine lv_aload_n C.1.1 C.1.2.1 dX9_receive_44 rfl (lv_at hl 1 rfl) ?_
    refine mr_getR C hw kc_9 3 (by decide) tf_154 ff_154_3 wd_365 dX9_receive_45 (by decide) rfl ?_
    refine lv_iconst (v := 0) C.1.1 C.1.2.1 dX9_receive_48 (by decide) ?_
    refine mr_aald C hw (by decide) tf_269 (by decide) (by decide) rfl rfl (show vp_in 0 4 from by unfold vp_in; decide) ff_269_0 dX9_receive_49 ?_
    refine lv_iload_n C.1.1 C.1.2.1 dX9_receive_50 rfl (lv_at hl 2 rfl) ?_
    obtain ⟨q31, hD⟩ := g_ck hD
    refine mr_iald C hw (by decide) tf_270 q31 dX9_receive_51 ?_
    refine lv_iconst (v := 2) C.1.1 C.1.2.1 dX9_receive_52 (by decide) ?_
    refine lv_icmp_ne (tgt := 70) C.1.1 C.1.2.1 dX9_receive_53 (by decide) (fun c32 => ?_) (fun c32 => ?_)
    · replace hD := g_neg c32 hD
      refine lv_iload_n C.1.1 C.1.2.1 dX9_receive_70 rfl (lv_at hl 0 rfl) ?_
      refine lv_iconst (v := 4) C.1.1 C.1.2.1 dX9_receive_71 (by decide) ?_
      refine lv_irem C.1.1 C.1.2.1 dX9_receive_72 (by decide) ?_
      obtain ⟨x34, ex34, hD⟩ := g_let hD
      refine W.eq (g2 := F0 m 73 ls (.int x34 :: [])) (by rw [ex34]) ?_
      refine lv_istore_n (lv' := [(3, .int x34), (2, .int x26), (0, .ref (ad 154)), (1, .int a1)]) C.1.1 C.1.2.1 dX9_receive_73 rfl hl (by decide) rfl (fun ls hl => ?_)
      refine lv_aload_n C.1.1 C.1.2.1 dX9_receive_74 rfl (lv_at hl 2 rfl) ?_
      refine mr_getR C hw kc_9 2 (by decide) tf_154 ff_154_2 wd_364 dX9_receive_75 (by decide) rfl ?_
      refine lv_iconst (v := 0) C.1.1 C.1.2.1 dX9_receive_78 (by decide) ?_
      refine mr_aald C hw (by decide) tf_263 (by decide) (by decide) rfl rfl (show vp_in 0 5 from by unfold vp_in; decide) ff_263_0 dX9_receive_79 ?_
      refine lv_iload_n C.1.1 C.1.2.1 dX9_receive_80 rfl (lv_at hl 0 rfl) ?_
      obtain ⟨q36, hD⟩ := g_ck hD
      refine mr_iald C hw (by decide) tf_264 q36 dX9_receive_81 ?_
      refine lv_iconst (v := 1) C.1.1 C.1.2.1 dX9_receive_82 (by decide) ?_
      refine lv_icmp_ne (tgt := 91) C.1.1 C.1.2.1 dX9_receive_83 (by decide) (fun c37 => ?_) (fun c37 => ?_)
      · replace hD := g_neg c37 hD
        exact hb91 x26 x34 M L _ _ ls hD hw (lv_sub hl [2, 3, 1, 0] rfl)
      · replace hD := g_pos c37 hD
        refine lv_aload_n C.1.1 C.1.2.1 dX9_receive_86 rfl (lv_at hl 2 rfl) ?_
        refine lv_iconst (v := 1) C.1.1 C.1.2.1 dX9_receive_87 (by decide) ?_
        obtain ⟨M38, eM38, hD⟩ := g_let hD
        refine mr_putI C hw kc_9 10 (by decide) tf_154 wd_376 dX9_receive_88 (by decide) rfl rfl (by decide +kernel) (by decide +kernel) (fun H locs hw => ?_)
        replace hw : mw_W G ad NF TF FF M38 L H locs := by rw [eM38]; exact hw
        exact hb91 x26 x34 M38 L _ _ ls hD hw (lv_sub hl [2, 3, 1, 0] rfl)
    · replace hD := g_pos c32 hD
      refine lv_aload_n C.1.1 C.1.2.1 dX9_receive_56 rfl (lv_at hl 1 rfl) ?_
      refine lv_iload_n C.1.1 C.1.2.1 dX9_receive_57 rfl (lv_at hl 0 rfl) ?_
      refine lv_aload_n C.1.1 C.1.2.1 dX9_receive_58 rfl (lv_at hl 1 rfl) ?_
      refine mr_getR C hw kc_9 3 (by decide) tf_154 ff_154_3 wd_365 dX9_receive_59 (by decide) rfl ?_
      refine lv_iconst (v := 2) C.1.1 C.1.2.1 dX9_receive_62 (by decide) ?_
      refine mr_aald C hw (by decide) tf_269 (by decide) (by decide) rfl rfl (show vp_in 2 4 from by unfold vp_in; decide) ff_269_2 dX9_receive_63 ?_
      refine lv_iload_n C.1.1 C.1.2.1 dX9_receive_64 rfl (lv_at hl 2 rfl) ?_
      obtain ⟨q40, hD⟩ := g_ck hD
      refine mr_iald C hw (by decide) tf_272 q40 dX9_receive_65 ?_
      obtain ⟨r43, M41, L42, h1, hD⟩ := g_b3 hD
      refine md_cvI (As := [.int x26, .int (M 272 a1.toNatClampNeg)]) (rest := []) C hw (tX9_receiveNext l G ad fu x26 (M 272 a1.toNatClampNeg) M L h1) kc_9 (by decide) tf_154 wd_1532 cwX9_receiveNext ⟨Nat.le_of_ble_eq_true rfl, Nat.le_of_ble_eq_true rfl⟩ rfl hl.1 (Nat.le_of_ble_eq_true rfl) dX9_receive_66 rfl rfl ⟨Nat.zero_le _, Nat.zero_le _⟩ rfl (fun H locs hw => ?_)
      exact mr_iret C hr hlocks hw rfl (Option.some.inj hD) dX9_receive_69
  · replace hD := g_pos c29 hD
    refine lv_aload_n C.1.1 C.1.2.1 dX9_receive_21 rfl (lv_at hl 1 rfl) ?_
    refine mr_getR C hw kc_9 0 (by decide) tf_154 ff_154_0 wd_358 dX9_receive_22 (by decide) rfl ?_
    refine lv_iconst (v := 3) C.1.1 C.1.2.1 dX9_receive_25 (by decide) ?_
    refine mr_aald C hw (by decide) tf_155 (by decide) (by decide) rfl rfl (show vp_in 3 5 from by unfold vp_in; decide) ff_155_3 dX9_receive_26 ?_
    refine lv_iload_n C.1.1 C.1.2.1 dX9_receive_27 rfl (lv_at hl 0 rfl) ?_
    obtain ⟨q45, hD⟩ := g_ck hD
    refine mr_iald C hw (by decide) tf_159 q45 dX9_receive_28 ?_
    refine lv_iconst (v := 1) C.1.1 C.1.2.1 dX9_receive_29 (by decide) ?_
    refine lv_icmp_ne (tgt := 42) C.1.1 C.1.2.1 dX9_receive_30 (by decide) (fun c46 => ?_) (fun c46 => ?_)
    · replace hD := g_neg c46 hD
      exact hb42 M L _ _ ls hD hw (lv_sub hl [] rfl)
    · replace hD := g_pos c46 hD
      refine lv_aload_n C.1.1 C.1.2.1 dX9_receive_33 rfl (lv_at hl 1 rfl) ?_
      refine mr_getR C hw kc_9 0 (by decide) tf_154 ff_154_0 wd_358 dX9_receive_34 (by decide) rfl ?_
      refine lv_iconst (v := 3) C.1.1 C.1.2.1 dX9_receive_37 (by decide) ?_
      refine mr_aald C hw (by decide) tf_155 (by decide) (by decide) rfl rfl (show vp_in 3 5 from by unfold vp_in; decide) ff_155_3 dX9_receive_38 ?_
      refine lv_iload_n C.1.1 C.1.2.1 dX9_receive_39 rfl (lv_at hl 0 rfl) ?_
      refine lv_iconst (v := 2) C.1.1 C.1.2.1 dX9_receive_40 (by decide) ?_
      obtain ⟨q48, hD⟩ := g_ck hD
      obtain ⟨M49, eM49, hD⟩ := g_let hD
      refine mr_iast C hw (by decide) tf_159 q48 dX9_receive_41 (fun H locs hw => ?_)
      replace hw : mw_W G ad NF TF FF M49 L H locs := by rw [eM49]; exact hw
      exact hb42 M49 L _ _ ls hD hw (lv_sub hl [] rfl)

theorem dX9_reach_0 : decode cX9_reach 0 = .ok (.iconst 0, 1) := by decide +kernel
theorem dX9_reach_1 : decode cX9_reach 1 = .ok (.istore_n 3, 1) := by decide +kernel
theorem dX9_reach_2 : decode cX9_reach 2 = .ok (.iload_n 3, 1) := by decide +kernel
theorem dX9_reach_3 : decode cX9_reach 3 = .ok (.aload_n 0, 1) := by decide +kernel
theorem dX9_reach_4 : decode cX9_reach 4 = .ok (.getfield 36, 3) := by decide +kernel
theorem dX9_reach_7 : decode cX9_reach 7 = .ok (.if_icmp .ge 53, 3) := by decide +kernel
theorem dX9_reach_10 : decode cX9_reach 10 = .ok (.aload_n 0, 1) := by decide +kernel
theorem dX9_reach_11 : decode cX9_reach 11 = .ok (.getfield 22, 3) := by decide +kernel
theorem dX9_reach_14 : decode cX9_reach 14 = .ok (.iconst 3, 1) := by decide +kernel
theorem dX9_reach_15 : decode cX9_reach 15 = .ok (.aaload, 1) := by decide +kernel
theorem dX9_reach_16 : decode cX9_reach 16 = .ok (.iload_n 3, 1) := by decide +kernel
theorem dX9_reach_17 : decode cX9_reach 17 = .ok (.iaload, 1) := by decide +kernel
theorem dX9_reach_18 : decode cX9_reach 18 = .ok (.ifCond .ne 36, 3) := by decide +kernel
theorem dX9_reach_21 : decode cX9_reach 21 = .ok (.aload_n 0, 1) := by decide +kernel
theorem dX9_reach_22 : decode cX9_reach 22 = .ok (.iload_n 3, 1) := by decide +kernel
theorem dX9_reach_23 : decode cX9_reach 23 = .ok (.invokevirtual 53, 3) := by decide +kernel
theorem dX9_reach_26 : decode cX9_reach 26 = .ok (.iload_n 1, 1) := by decide +kernel
theorem dX9_reach_27 : decode cX9_reach 27 = .ok (.if_icmp .ne 27, 3) := by decide +kernel
theorem dX9_reach_30 : decode cX9_reach 30 = .ok (.aload_n 0, 1) := by decide +kernel
theorem dX9_reach_31 : decode cX9_reach 31 = .ok (.iload_n 3, 1) := by decide +kernel
theorem dX9_reach_32 : decode cX9_reach 32 = .ok (.invokevirtual 57, 3) := by decide +kernel
theorem dX9_reach_35 : decode cX9_reach 35 = .ok (.iload_n 2, 1) := by decide +kernel
theorem dX9_reach_36 : decode cX9_reach 36 = .ok (.if_icmp .ne 18, 3) := by decide +kernel
theorem dX9_reach_39 : decode cX9_reach 39 = .ok (.aload_n 0, 1) := by decide +kernel
theorem dX9_reach_40 : decode cX9_reach 40 = .ok (.getfield 22, 3) := by decide +kernel
theorem dX9_reach_43 : decode cX9_reach 43 = .ok (.iconst 3, 1) := by decide +kernel
theorem dX9_reach_44 : decode cX9_reach 44 = .ok (.aaload, 1) := by decide +kernel
theorem dX9_reach_45 : decode cX9_reach 45 = .ok (.iload_n 3, 1) := by decide +kernel
theorem dX9_reach_46 : decode cX9_reach 46 = .ok (.iconst 1, 1) := by decide +kernel
theorem dX9_reach_47 : decode cX9_reach 47 = .ok (.iastore, 1) := by decide +kernel
theorem dX9_reach_48 : decode cX9_reach 48 = .ok (.aload_n 0, 1) := by decide +kernel
theorem dX9_reach_49 : decode cX9_reach 49 = .ok (.iload_n 3, 1) := by decide +kernel
theorem dX9_reach_50 : decode cX9_reach 50 = .ok (.invokevirtual 60, 3) := by decide +kernel
theorem dX9_reach_53 : decode cX9_reach 53 = .ok (.ireturn, 1) := by decide +kernel
theorem dX9_reach_54 : decode cX9_reach 54 = .ok (.iinc 3 1, 3) := by decide +kernel
theorem dX9_reach_57 : decode cX9_reach 57 = .ok (.goto (-55), 3) := by decide +kernel
theorem dX9_reach_60 : decode cX9_reach 60 = .ok (.iconst 0, 1) := by decide +kernel
theorem dX9_reach_61 : decode cX9_reach 61 = .ok (.ireturn, 1) := by decide +kernel
theorem cwX9_reach : mw_cwV yX9_reach cX9_reach 4 ((some .int)) 2 := ⟨⟨wd_10, wd_1515, by decide +kernel⟩, wd_1513, wd_1514⟩
set_option maxHeartbeats 4000000 in
set_option maxRecDepth 100000 in
theorem tX9_reach (l : Launch) (G : mwG) (ad : Nat → Nat) (fu : Nat) (a1 : Int32) (a2 : Int32) (M : mwM) (L : mwL) {r0 : Int32} {M0 : mwM} {L0 : mwL} (hD : DX9_reach fu a1 a2 M L = some (r0, M0, L0)) : Met l yX9_reach (Cond.code yX9_reach cX9_reach 4 ((some .int)) :: GT) ({ frames := 2, cells := 0, slots := 0, locals := 46 }) (mw_Pre G ad NF TF FF M L [.ref (ad 154), .int a1, .int a2]) (mw_Qi G ad NF TF FF (mw_eqI r0 M0 L0)) 0 0 (mw_fr G) := by
  refine mw_enter (by decide) (Nat.le_of_ble_eq_true rfl) ?_
  intro p e s m below meth c ls C hr hlocks hnm hw hl
  have hl : lv_has ls 4 [(0, .ref (ad 154)), (1, .int a1), (2, .int a2)] := hl
  have hh2 : ∀ (f : Nat) (v3 : Int32) (M : mwM) (L : mwL) (H : Heap) (locs : List Loc) (ls : Array Slot), fX9_reach_h2 fu a1 a2 f (v3, M, L) = some (r0, M0, L0) → mw_W G ad NF TF FF M L H locs → lv_has ls 4 [(0, .ref (ad 154)), (1, .int a1), (2, .int a2), (3, .int v3)] → W p l e ({ frames := 2, cells := 0, slots := 0, locals := 46 }) s m [.ref (ad 154), .int a1, .int a2].toArray below meth c H locs 0 0 (MQ below (mw_Qi G ad NF TF FF (mw_eqI r0 M0 L0)) [.ref (ad 154), .int a1, .int a2].toArray s 0 0 (mw_fr G)) (F0 m 2 ls []) := by
    intro f
    induction f with
    | zero => intro v3 M L H locs ls hD; cases hD
    | succ f2 ih2 =>
      intro v3 M L H locs ls hD hw hl
      replace hD : fX9_reach_i2 fu a1 a2 (fX9_reach_h2 fu a1 a2 f2) v3 M L = some (r0, M0, L0) := hD
      have hb54 : ∀ (v3 : Int32) (M : mwM) (L : mwL) (H : Heap) (locs : List Loc) (ls : Array Slot), fX9_reach_b54 fu a1 a2 (fX9_reach_h2 fu a1 a2 f2) v3 M L = some (r0, M0, L0) → mw_W G ad NF TF FF M L H locs → lv_has ls 4 [(0, .ref (ad 154)), (1, .int a1), (2, .int a2), (3, .int v3)] → W p l e ({ frames := 2, cells := 0, slots := 0, locals := 46 }) s m [.ref (ad 154), .int a1, .int a2].toArray below meth c H locs 0 0 (MQ below (mw_Qi G ad NF TF FF (mw_eqI r0 M0 L0)) [.ref (ad 154), .int a1, .int a2].toArray s 0 0 (mw_fr G)) (F0 m 54 ls []) := by
        intro v3 M L H locs ls hD hw hl
        unfold fX9_reach_b54 at hD
        obtain ⟨x19, ex19, hD⟩ := g_let hD
        refine lv_iinc (v := x19) (lv' := [(3, .int x19), (0, .ref (ad 154)), (1, .int a1), (2, .int a2)]) C.1.1 C.1.2.1 dX9_reach_54 hl (k := 3) rfl (by rw [ex19]; rfl) (by decide) rfl (fun ls hl => ?_)
        refine lv_goto (tgt := 2) C.1.1 C.1.2.1 dX9_reach_57 (by decide) ?_
        exact ih2 x19 M L _ _ ls hD hw (lv_sub hl [1, 2, 3, 0] rfl)
      unfold fX9_reach_i2 at hD
      refine lv_iload_n C.1.1 C.1.2.1 dX9_reach_2 rfl (lv_at hl 3 rfl) ?_
      refine lv_aload_n C.1.1 C.1.2.1 dX9_reach_3 rfl (lv_at hl 0 rfl) ?_
      refine mr_getI C hw kc_9 7 (by decide) tf_154 wd_372 dX9_reach_4 (by decide) rfl ?_
      refine lv_icmp_ge (tgt := 60) C.1.1 C.1.2.1 dX9_reach_7 (by decide) (fun c1 => ?_) (fun c1 => ?_)
      · replace hD := g_pos c1 hD
        refine lv_iconst (v := 0) C.1.1 C.1.2.1 dX9_reach_60 (by decide) ?_
        exact mr_iret C hr hlocks hw rfl (Option.some.inj hD) dX9_reach_61
      · replace hD := g_neg c1 hD
        refine lv_aload_n C.1.1 C.1.2.1 dX9_reach_10 rfl (lv_at hl 0 rfl) ?_
        refine mr_getR C hw kc_9 3 (by decide) tf_154 ff_154_3 wd_365 dX9_reach_11 (by decide) rfl ?_
        refine lv_iconst (v := 3) C.1.1 C.1.2.1 dX9_reach_14 (by decide) ?_
        refine mr_aald C hw (by decide) tf_269 (by decide) (by decide) rfl rfl (show vp_in 3 4 from by unfold vp_in; decide) ff_269_3 dX9_reach_15 ?_
        refine lv_iload_n C.1.1 C.1.2.1 dX9_reach_16 rfl (lv_at hl 3 rfl) ?_
        obtain ⟨q3, hD⟩ := g_ck hD
        refine mr_iald C hw (by decide) tf_273 q3 dX9_reach_17 ?_
        refine lv_if_ne (tgt := 54) C.1.1 C.1.2.1 dX9_reach_18 (by decide) (fun c4 => ?_) (fun c4 => ?_)
        · replace hD := g_neg c4 hD
          exact hb54 v3 M L _ _ ls hD hw (lv_sub hl [0, 1, 2, 3] rfl)
        · replace hD := g_pos c4 hD
          refine lv_aload_n C.1.1 C.1.2.1 dX9_reach_21 rfl (lv_at hl 0 rfl) ?_
          refine lv_iload_n C.1.1 C.1.2.1 dX9_reach_22 rfl (lv_at hl 3 rfl) ?_
          obtain ⟨r7, M5, L6, h1, hD⟩ := g_b3 hD
          refine md_cvI (As := [.int v3]) (rest := []) C hw (tX9_controllerOf l G ad fu v3 M L h1) kc_9 (by decide) tf_154 wd_1516 cwX9_controllerOf ⟨Nat.le_of_ble_eq_true rfl, Nat.le_of_ble_eq_true rfl⟩ rfl hl.1 (Nat.le_of_ble_eq_true rfl) dX9_reach_23 rfl rfl ⟨Nat.zero_le _, Nat.zero_le _⟩ rfl (fun H locs hw => ?_)
          refine lv_iload_n C.1.1 C.1.2.1 dX9_reach_26 rfl (lv_at hl 1 rfl) ?_
          refine lv_icmp_ne (tgt := 54) C.1.1 C.1.2.1 dX9_reach_27 (by decide) (fun c8 => ?_) (fun c8 => ?_)
          · replace hD := g_neg c8 hD
            exact hb54 v3 M5 L6 _ _ ls hD hw (lv_sub hl [0, 1, 2, 3] rfl)
          · replace hD := g_pos c8 hD
            refine lv_aload_n C.1.1 C.1.2.1 dX9_reach_30 rfl (lv_at hl 0 rfl) ?_
            refine lv_iload_n C.1.1 C.1.2.1 dX9_reach_31 rfl (lv_at hl 3 rfl) ?_
            obtain ⟨r11, M9, L10, h1, hD⟩ := g_b3 hD
            refine md_cvI (As := [.int v3]) (rest := []) C hw (tX9_isToTester l G ad fu v3 M5 L6 h1) kc_9 (by decide) tf_154 wd_1520 cwX9_isToTester ⟨Nat.le_of_ble_eq_true rfl, Nat.le_of_ble_eq_true rfl⟩ rfl hl.1 (Nat.le_of_ble_eq_true rfl) dX9_reach_32 rfl rfl ⟨Nat.zero_le _, Nat.zero_le _⟩ rfl (fun H locs hw => ?_)
            refine lv_iload_n C.1.1 C.1.2.1 dX9_reach_35 rfl (lv_at hl 2 rfl) ?_
            refine lv_icmp_ne (tgt := 54) C.1.1 C.1.2.1 dX9_reach_36 (by decide) (fun c12 => ?_) (fun c12 => ?_)
            · replace hD := g_neg c12 hD
              exact hb54 v3 M9 L10 _ _ ls hD hw (lv_sub hl [0, 1, 2, 3] rfl)
            · replace hD := g_pos c12 hD
              refine lv_aload_n C.1.1 C.1.2.1 dX9_reach_39 rfl (lv_at hl 0 rfl) ?_
              refine mr_getR C hw kc_9 3 (by decide) tf_154 ff_154_3 wd_365 dX9_reach_40 (by decide) rfl ?_
              refine lv_iconst (v := 3) C.1.1 C.1.2.1 dX9_reach_43 (by decide) ?_
              refine mr_aald C hw (by decide) tf_269 (by decide) (by decide) rfl rfl (show vp_in 3 4 from by unfold vp_in; decide) ff_269_3 dX9_reach_44 ?_
              refine lv_iload_n C.1.1 C.1.2.1 dX9_reach_45 rfl (lv_at hl 3 rfl) ?_
              refine lv_iconst (v := 1) C.1.1 C.1.2.1 dX9_reach_46 (by decide) ?_
              obtain ⟨q14, hD⟩ := g_ck hD
              obtain ⟨M15, eM15, hD⟩ := g_let hD
              refine mr_iast C hw (by decide) tf_273 q14 dX9_reach_47 (fun H locs hw => ?_)
              replace hw : mw_W G ad NF TF FF M15 L10 H locs := by rw [eM15]; exact hw
              refine lv_aload_n C.1.1 C.1.2.1 dX9_reach_48 rfl (lv_at hl 0 rfl) ?_
              refine lv_iload_n C.1.1 C.1.2.1 dX9_reach_49 rfl (lv_at hl 3 rfl) ?_
              obtain ⟨r18, M16, L17, h1, hD⟩ := g_b3 hD
              refine md_cvI (As := [.int v3]) (rest := []) C hw (tX9_receive l G ad fu v3 M15 L10 h1) kc_9 (by decide) tf_154 wd_1528 cwX9_receive ⟨Nat.le_of_ble_eq_true rfl, Nat.le_of_ble_eq_true rfl⟩ rfl hl.1 (Nat.le_of_ble_eq_true rfl) dX9_reach_50 rfl rfl ⟨Nat.zero_le _, Nat.zero_le _⟩ rfl (fun H locs hw => ?_)
              exact mr_iret C hr hlocks hw rfl (Option.some.inj hD) dX9_reach_53
  unfold DX9_reach at hD
  refine lv_iconst (v := 0) C.1.1 C.1.2.1 dX9_reach_0 (by decide) ?_
  refine lv_istore_n (lv' := [(3, .int 0), (0, .ref (ad 154)), (1, .int a1), (2, .int a2)]) C.1.1 C.1.2.1 dX9_reach_1 rfl hl (by decide) rfl (fun ls hl => ?_)
  exact hh2 fu 0 M L _ _ ls hD hw (lv_sub hl [1, 2, 3, 0] rfl)

theorem dX9_begin_0 : decode cX9_begin 0 = .ok (.aload_n 0, 1) := by decide +kernel
theorem dX9_begin_1 : decode cX9_begin 1 = .ok (.getfield 13, 3) := by decide +kernel
theorem dX9_begin_4 : decode cX9_begin 4 = .ok (.iconst 2, 1) := by decide +kernel
theorem dX9_begin_5 : decode cX9_begin 5 = .ok (.aaload, 1) := by decide +kernel
theorem dX9_begin_6 : decode cX9_begin 6 = .ok (.iload_n 1, 1) := by decide +kernel
theorem dX9_begin_7 : decode cX9_begin 7 = .ok (.iaload, 1) := by decide +kernel
theorem dX9_begin_8 : decode cX9_begin 8 = .ok (.bipush 7, 2) := by decide +kernel
theorem dX9_begin_10 : decode cX9_begin 10 = .ok (.if_icmp .gt 7, 3) := by decide +kernel
theorem dX9_begin_13 : decode cX9_begin 13 = .ok (.iconst 1, 1) := by decide +kernel
theorem dX9_begin_14 : decode cX9_begin 14 = .ok (.goto 4, 3) := by decide +kernel
theorem dX9_begin_17 : decode cX9_begin 17 = .ok (.iconst 0, 1) := by decide +kernel
theorem dX9_begin_18 : decode cX9_begin 18 = .ok (.istore_n 2, 1) := by decide +kernel
theorem dX9_begin_19 : decode cX9_begin 19 = .ok (.aload_n 0, 1) := by decide +kernel
theorem dX9_begin_20 : decode cX9_begin 20 = .ok (.iload_n 2, 1) := by decide +kernel
theorem dX9_begin_21 : decode cX9_begin 21 = .ok (.ifCond .eq 7, 3) := by decide +kernel
theorem dX9_begin_24 : decode cX9_begin 24 = .ok (.iconst 0, 1) := by decide +kernel
theorem dX9_begin_25 : decode cX9_begin 25 = .ok (.goto 4, 3) := by decide +kernel
theorem dX9_begin_28 : decode cX9_begin 28 = .ok (.iconst 1, 1) := by decide +kernel
theorem dX9_begin_29 : decode cX9_begin 29 = .ok (.iload_n 1, 1) := by decide +kernel
theorem dX9_begin_30 : decode cX9_begin 30 = .ok (.iconst 0, 1) := by decide +kernel
theorem dX9_begin_31 : decode cX9_begin 31 = .ok (.invokevirtual 67, 3) := by decide +kernel
theorem dX9_begin_34 : decode cX9_begin 34 = .ok (.aload_n 0, 1) := by decide +kernel
theorem dX9_begin_35 : decode cX9_begin 35 = .ok (.getfield 13, 3) := by decide +kernel
theorem dX9_begin_38 : decode cX9_begin 38 = .ok (.iconst 3, 1) := by decide +kernel
theorem dX9_begin_39 : decode cX9_begin 39 = .ok (.aaload, 1) := by decide +kernel
theorem dX9_begin_40 : decode cX9_begin 40 = .ok (.iload_n 1, 1) := by decide +kernel
theorem dX9_begin_41 : decode cX9_begin 41 = .ok (.iload_n 2, 1) := by decide +kernel
theorem dX9_begin_42 : decode cX9_begin 42 = .ok (.ifCond .eq 7, 3) := by decide +kernel
theorem dX9_begin_45 : decode cX9_begin 45 = .ok (.iconst 3, 1) := by decide +kernel
theorem dX9_begin_46 : decode cX9_begin 46 = .ok (.goto 4, 3) := by decide +kernel
theorem dX9_begin_49 : decode cX9_begin 49 = .ok (.iconst 1, 1) := by decide +kernel
theorem dX9_begin_50 : decode cX9_begin 50 = .ok (.iastore, 1) := by decide +kernel
theorem dX9_begin_51 : decode cX9_begin 51 = .ok (.aload_n 0, 1) := by decide +kernel
theorem dX9_begin_52 : decode cX9_begin 52 = .ok (.getfield 13, 3) := by decide +kernel
theorem dX9_begin_55 : decode cX9_begin 55 = .ok (.iconst 4, 1) := by decide +kernel
theorem dX9_begin_56 : decode cX9_begin 56 = .ok (.aaload, 1) := by decide +kernel
theorem dX9_begin_57 : decode cX9_begin 57 = .ok (.iload_n 1, 1) := by decide +kernel
theorem dX9_begin_58 : decode cX9_begin 58 = .ok (.aload_n 0, 1) := by decide +kernel
theorem dX9_begin_59 : decode cX9_begin 59 = .ok (.getfield 42, 3) := by decide +kernel
theorem dX9_begin_62 : decode cX9_begin 62 = .ok (.iastore, 1) := by decide +kernel
theorem dX9_begin_63 : decode cX9_begin 63 = .ok (.return_, 1) := by decide +kernel
theorem cwX9_begin : mw_cwV yX9_begin cX9_begin 3 (none) 1 := ⟨⟨wd_10, wd_1766, by decide +kernel⟩, wd_1765, sl_142⟩
set_option maxHeartbeats 4000000 in
set_option maxRecDepth 100000 in
theorem tX9_begin (l : Launch) (G : mwG) (ad : Nat → Nat) (fu : Nat) (a1 : Int32) (M : mwM) (L : mwL) {M0 : mwM} {L0 : mwL} (hD : DX9_begin fu a1 M L = some (M0, L0)) : Met l yX9_begin (Cond.code yX9_begin cX9_begin 3 (none) :: GT) ({ frames := 1, cells := 0, slots := 0, locals := 23 }) (mw_Pre G ad NF TF FF M L [.ref (ad 154), .int a1]) (mw_Qv G ad NF TF FF (mw_eqV M0 L0)) 0 0 (mw_fr G) := by
  refine mw_enter (by decide) (Nat.le_of_ble_eq_true rfl) ?_
  intro p e s m below meth c ls C hr hlocks hnm hw hl
  have hl : lv_has ls 3 [(0, .ref (ad 154)), (1, .int a1)] := hl
  have hb50 : ∀ (s2 : Int32) (M : mwM) (L : mwL) (H : Heap) (locs : List Loc) (ls : Array Slot), fX9_begin_b50 fu a1 s2 M L = some (M0, L0) → mw_W G ad NF TF FF M L H locs → lv_has ls 3 [(0, .ref (ad 154)), (1, .int a1)] → W p l e ({ frames := 1, cells := 0, slots := 0, locals := 23 }) s m [.ref (ad 154), .int a1].toArray below meth c H locs 0 0 (MQ below (mw_Qv G ad NF TF FF (mw_eqV M0 L0)) [.ref (ad 154), .int a1].toArray s 0 0 (mw_fr G)) (F0 m 50 ls [.int s2, .int a1, .ref (ad 159)]) := by
    intro s2 M L H locs ls hD hw hl
    unfold fX9_begin_b50 at hD
    obtain ⟨q6, hD⟩ := g_ck hD
    obtain ⟨M7, eM7, hD⟩ := g_let hD
    refine mr_iast C hw (by decide) tf_159 q6 dX9_begin_50 (fun H locs hw => ?_)
    replace hw : mw_W G ad NF TF FF M7 L H locs := by rw [eM7]; exact hw
    refine lv_aload_n C.1.1 C.1.2.1 dX9_begin_51 rfl (lv_at hl 0 rfl) ?_
    refine mr_getR C hw kc_9 0 (by decide) tf_154 ff_154_0 wd_358 dX9_begin_52 (by decide) rfl ?_
    refine lv_iconst (v := 4) C.1.1 C.1.2.1 dX9_begin_55 (by decide) ?_
    refine mr_aald C hw (by decide) tf_155 (by decide) (by decide) rfl rfl (show vp_in 4 5 from by unfold vp_in; decide) ff_155_4 dX9_begin_56 ?_
    refine lv_iload_n C.1.1 C.1.2.1 dX9_begin_57 rfl (lv_at hl 1 rfl) ?_
    refine lv_aload_n C.1.1 C.1.2.1 dX9_begin_58 rfl (lv_at hl 0 rfl) ?_
    refine mr_getI C hw kc_9 9 (by decide) tf_154 wd_375 dX9_begin_59 (by decide) rfl ?_
    obtain ⟨q9, hD⟩ := g_ck hD
    obtain ⟨M10, eM10, hD⟩ := g_let hD
    refine mr_iast C hw (by decide) tf_160 q9 dX9_begin_62 (fun H locs hw => ?_)
    replace hw : mw_W G ad NF TF FF M10 L H locs := by rw [eM10]; exact hw
    exact mr_vret C hr hlocks hw (Option.some.inj hD) dX9_begin_63
  have hb29 : ∀ (v2 : Int32) (s1 : Int32) (M : mwM) (L : mwL) (H : Heap) (locs : List Loc) (ls : Array Slot), fX9_begin_b29 fu a1 v2 s1 M L = some (M0, L0) → mw_W G ad NF TF FF M L H locs → lv_has ls 3 [(0, .ref (ad 154)), (1, .int a1), (2, .int v2)] → W p l e ({ frames := 1, cells := 0, slots := 0, locals := 23 }) s m [.ref (ad 154), .int a1].toArray below meth c H locs 0 0 (MQ below (mw_Qv G ad NF TF FF (mw_eqV M0 L0)) [.ref (ad 154), .int a1].toArray s 0 0 (mw_fr G)) (F0 m 29 ls [.int s1, .ref (ad 154)]) := by
    intro v2 s1 M L H locs ls hD hw hl
    unfold fX9_begin_b29 at hD
    refine lv_iload_n C.1.1 C.1.2.1 dX9_begin_29 rfl (lv_at hl 1 rfl) ?_
    refine lv_iconst (v := 0) C.1.1 C.1.2.1 dX9_begin_30 (by decide) ?_
    obtain ⟨M2, L3, h1, hD⟩ := g_b2 hD
    refine md_cvV (As := [.int s1, .int a1, .int 0]) (rest := []) C hw (tX9_makeFrame l G ad fu s1 a1 0 M L h1) kc_9 (by decide) tf_154 wd_1536 cwX9_makeFrame ⟨Nat.le_of_ble_eq_true rfl, Nat.le_of_ble_eq_true rfl⟩ rfl hl.1 (Nat.le_of_ble_eq_true rfl) dX9_begin_31 rfl rfl ⟨Nat.zero_le _, Nat.zero_le _⟩ rfl (fun H locs hw => ?_)
    refine lv_aload_n C.1.1 C.1.2.1 dX9_begin_34 rfl (lv_at hl 0 rfl) ?_
    refine mr_getR C hw kc_9 0 (by decide) tf_154 ff_154_0 wd_358 dX9_begin_35 (by decide) rfl ?_
    refine lv_iconst (v := 3) C.1.1 C.1.2.1 dX9_begin_38 (by decide) ?_
    refine mr_aald C hw (by decide) tf_155 (by decide) (by decide) rfl rfl (show vp_in 3 5 from by unfold vp_in; decide) ff_155_3 dX9_begin_39 ?_
    refine lv_iload_n C.1.1 C.1.2.1 dX9_begin_40 rfl (lv_at hl 1 rfl) ?_
    refine lv_iload_n C.1.1 C.1.2.1 dX9_begin_41 rfl (lv_at hl 2 rfl) ?_
    refine lv_if_eq (tgt := 49) C.1.1 C.1.2.1 dX9_begin_42 (by decide) (fun c5 => ?_) (fun c5 => ?_)
    · replace hD := g_pos c5 hD
      refine lv_iconst (v := 1) C.1.1 C.1.2.1 dX9_begin_49 (by decide) ?_
      exact hb50 1 M2 L3 _ _ ls hD hw (lv_sub hl [0, 1] rfl)
    · replace hD := g_neg c5 hD
      refine lv_iconst (v := 3) C.1.1 C.1.2.1 dX9_begin_45 (by decide) ?_
      refine lv_goto (tgt := 50) C.1.1 C.1.2.1 dX9_begin_46 (by decide) ?_
      exact hb50 3 M2 L3 _ _ ls hD hw (lv_sub hl [0, 1] rfl)
  have hb18 : ∀ (s0 : Int32) (M : mwM) (L : mwL) (H : Heap) (locs : List Loc) (ls : Array Slot), fX9_begin_b18 fu a1 s0 M L = some (M0, L0) → mw_W G ad NF TF FF M L H locs → lv_has ls 3 [(0, .ref (ad 154)), (1, .int a1)] → W p l e ({ frames := 1, cells := 0, slots := 0, locals := 23 }) s m [.ref (ad 154), .int a1].toArray below meth c H locs 0 0 (MQ below (mw_Qv G ad NF TF FF (mw_eqV M0 L0)) [.ref (ad 154), .int a1].toArray s 0 0 (mw_fr G)) (F0 m 18 ls [.int s0]) := by
    intro s0 M L H locs ls hD hw hl
    unfold fX9_begin_b18 at hD
    refine lv_istore_n (lv' := [(2, .int s0), (0, .ref (ad 154)), (1, .int a1)]) C.1.1 C.1.2.1 dX9_begin_18 rfl hl (by decide) rfl (fun ls hl => ?_)
    refine lv_aload_n C.1.1 C.1.2.1 dX9_begin_19 rfl (lv_at hl 1 rfl) ?_
    refine lv_iload_n C.1.1 C.1.2.1 dX9_begin_20 rfl (lv_at hl 0 rfl) ?_
    refine lv_if_eq (tgt := 28) C.1.1 C.1.2.1 dX9_begin_21 (by decide) (fun c1 => ?_) (fun c1 => ?_)
    · replace hD := g_pos c1 hD
      refine lv_iconst (v := 1) C.1.1 C.1.2.1 dX9_begin_28 (by decide) ?_
      exact hb29 s0 1 M L _ _ ls hD hw (lv_sub hl [1, 2, 0] rfl)
    · replace hD := g_neg c1 hD
      refine lv_iconst (v := 0) C.1.1 C.1.2.1 dX9_begin_24 (by decide) ?_
      refine lv_goto (tgt := 29) C.1.1 C.1.2.1 dX9_begin_25 (by decide) ?_
      exact hb29 s0 0 M L _ _ ls hD hw (lv_sub hl [1, 2, 0] rfl)
  unfold DX9_begin at hD
  refine lv_aload_n C.1.1 C.1.2.1 dX9_begin_0 rfl (lv_at hl 0 rfl) ?_
  refine mr_getR C hw kc_9 0 (by decide) tf_154 ff_154_0 wd_358 dX9_begin_1 (by decide) rfl ?_
  refine lv_iconst (v := 2) C.1.1 C.1.2.1 dX9_begin_4 (by decide) ?_
  refine mr_aald C hw (by decide) tf_155 (by decide) (by decide) rfl rfl (show vp_in 2 5 from by unfold vp_in; decide) ff_155_2 dX9_begin_5 ?_
  refine lv_iload_n C.1.1 C.1.2.1 dX9_begin_6 rfl (lv_at hl 1 rfl) ?_
  obtain ⟨q12, hD⟩ := g_ck hD
  refine mr_iald C hw (by decide) tf_158 q12 dX9_begin_7 ?_
  refine lv_bipush (v := 7) C.1.1 C.1.2.1 dX9_begin_8 (by decide) ?_
  refine lv_icmp_gt (tgt := 17) C.1.1 C.1.2.1 dX9_begin_10 (by decide) (fun c13 => ?_) (fun c13 => ?_)
  · replace hD := g_pos c13 hD
    refine lv_iconst (v := 0) C.1.1 C.1.2.1 dX9_begin_17 (by decide) ?_
    exact hb18 0 M L _ _ ls hD hw (lv_sub hl [0, 1] rfl)
  · replace hD := g_neg c13 hD
    refine lv_iconst (v := 1) C.1.1 C.1.2.1 dX9_begin_13 (by decide) ?_
    refine lv_goto (tgt := 18) C.1.1 C.1.2.1 dX9_begin_14 (by decide) ?_
    exact hb18 1 M L _ _ ls hD hw (lv_sub hl [0, 1] rfl)

theorem dX9_goOn_0 : decode cX9_goOn 0 = .ok (.aload_n 0, 1) := by decide +kernel
theorem dX9_goOn_1 : decode cX9_goOn 1 = .ok (.getfield 13, 3) := by decide +kernel
theorem dX9_goOn_4 : decode cX9_goOn 4 = .ok (.iconst 3, 1) := by decide +kernel
theorem dX9_goOn_5 : decode cX9_goOn 5 = .ok (.aaload, 1) := by decide +kernel
theorem dX9_goOn_6 : decode cX9_goOn 6 = .ok (.iload_n 1, 1) := by decide +kernel
theorem dX9_goOn_7 : decode cX9_goOn 7 = .ok (.iaload, 1) := by decide +kernel
theorem dX9_goOn_8 : decode cX9_goOn 8 = .ok (.iconst 2, 1) := by decide +kernel
theorem dX9_goOn_9 : decode cX9_goOn 9 = .ok (.if_icmp .ne 54, 3) := by decide +kernel
theorem dX9_goOn_12 : decode cX9_goOn 12 = .ok (.aload_n 0, 1) := by decide +kernel
theorem dX9_goOn_13 : decode cX9_goOn 13 = .ok (.getfield 13, 3) := by decide +kernel
theorem dX9_goOn_16 : decode cX9_goOn 16 = .ok (.iconst 2, 1) := by decide +kernel
theorem dX9_goOn_17 : decode cX9_goOn 17 = .ok (.aaload, 1) := by decide +kernel
theorem dX9_goOn_18 : decode cX9_goOn 18 = .ok (.iload_n 1, 1) := by decide +kernel
theorem dX9_goOn_19 : decode cX9_goOn 19 = .ok (.iaload, 1) := by decide +kernel
theorem dX9_goOn_20 : decode cX9_goOn 20 = .ok (.bipush 6, 2) := by decide +kernel
theorem dX9_goOn_22 : decode cX9_goOn 22 = .ok (.isub, 1) := by decide +kernel
theorem dX9_goOn_23 : decode cX9_goOn 23 = .ok (.istore_n 3, 1) := by decide +kernel
theorem dX9_goOn_24 : decode cX9_goOn 24 = .ok (.iconst 1, 1) := by decide +kernel
theorem dX9_goOn_25 : decode cX9_goOn 25 = .ok (.istore 4, 2) := by decide +kernel
theorem dX9_goOn_27 : decode cX9_goOn 27 = .ok (.iload_n 3, 1) := by decide +kernel
theorem dX9_goOn_28 : decode cX9_goOn 28 = .ok (.ifCond .le 23, 3) := by decide +kernel
theorem dX9_goOn_31 : decode cX9_goOn 31 = .ok (.aload_n 0, 1) := by decide +kernel
theorem dX9_goOn_32 : decode cX9_goOn 32 = .ok (.iconst 2, 1) := by decide +kernel
theorem dX9_goOn_33 : decode cX9_goOn 33 = .ok (.iload_n 1, 1) := by decide +kernel
theorem dX9_goOn_34 : decode cX9_goOn 34 = .ok (.iload 4, 2) := by decide +kernel
theorem dX9_goOn_36 : decode cX9_goOn 36 = .ok (.bipush 16, 2) := by decide +kernel
theorem dX9_goOn_38 : decode cX9_goOn 38 = .ok (.irem, 1) := by decide +kernel
theorem dX9_goOn_39 : decode cX9_goOn 39 = .ok (.invokevirtual 67, 3) := by decide +kernel
theorem dX9_goOn_42 : decode cX9_goOn 42 = .ok (.iinc 3 (-7), 3) := by decide +kernel
theorem dX9_goOn_45 : decode cX9_goOn 45 = .ok (.iinc 4 1, 3) := by decide +kernel
theorem dX9_goOn_48 : decode cX9_goOn 48 = .ok (.goto (-21), 3) := by decide +kernel
theorem dX9_goOn_51 : decode cX9_goOn 51 = .ok (.aload_n 0, 1) := by decide +kernel
theorem dX9_goOn_52 : decode cX9_goOn 52 = .ok (.getfield 13, 3) := by decide +kernel
theorem dX9_goOn_55 : decode cX9_goOn 55 = .ok (.iconst 3, 1) := by decide +kernel
theorem dX9_goOn_56 : decode cX9_goOn 56 = .ok (.aaload, 1) := by decide +kernel
theorem dX9_goOn_57 : decode cX9_goOn 57 = .ok (.iload_n 1, 1) := by decide +kernel
theorem dX9_goOn_58 : decode cX9_goOn 58 = .ok (.iconst 3, 1) := by decide +kernel
theorem dX9_goOn_59 : decode cX9_goOn 59 = .ok (.iastore, 1) := by decide +kernel
theorem dX9_goOn_60 : decode cX9_goOn 60 = .ok (.goto 45, 3) := by decide +kernel
theorem dX9_goOn_63 : decode cX9_goOn 63 = .ok (.aload_n 0, 1) := by decide +kernel
theorem dX9_goOn_64 : decode cX9_goOn 64 = .ok (.getfield 13, 3) := by decide +kernel
theorem dX9_goOn_67 : decode cX9_goOn 67 = .ok (.iconst 3, 1) := by decide +kernel
theorem dX9_goOn_68 : decode cX9_goOn 68 = .ok (.aaload, 1) := by decide +kernel
theorem dX9_goOn_69 : decode cX9_goOn 69 = .ok (.iload_n 1, 1) := by decide +kernel
theorem dX9_goOn_70 : decode cX9_goOn 70 = .ok (.iaload, 1) := by decide +kernel
theorem dX9_goOn_71 : decode cX9_goOn 71 = .ok (.iconst 1, 1) := by decide +kernel
theorem dX9_goOn_72 : decode cX9_goOn 72 = .ok (.if_icmp .ne 33, 3) := by decide +kernel
theorem dX9_goOn_75 : decode cX9_goOn 75 = .ok (.iload_n 2, 1) := by decide +kernel
theorem dX9_goOn_76 : decode cX9_goOn 76 = .ok (.aload_n 0, 1) := by decide +kernel
theorem dX9_goOn_77 : decode cX9_goOn 77 = .ok (.getfield 13, 3) := by decide +kernel
theorem dX9_goOn_80 : decode cX9_goOn 80 = .ok (.iconst 4, 1) := by decide +kernel
theorem dX9_goOn_81 : decode cX9_goOn 81 = .ok (.aaload, 1) := by decide +kernel
theorem dX9_goOn_82 : decode cX9_goOn 82 = .ok (.iload_n 1, 1) := by decide +kernel
theorem dX9_goOn_83 : decode cX9_goOn 83 = .ok (.iaload, 1) := by decide +kernel
theorem dX9_goOn_84 : decode cX9_goOn 84 = .ok (.isub, 1) := by decide +kernel
theorem dX9_goOn_85 : decode cX9_goOn 85 = .ok (.sipush 1000, 3) := by decide +kernel
theorem dX9_goOn_88 : decode cX9_goOn 88 = .ok (.if_icmp .lt 17, 3) := by decide +kernel
theorem dX9_goOn_91 : decode cX9_goOn 91 = .ok (.aload_n 0, 1) := by decide +kernel
theorem dX9_goOn_92 : decode cX9_goOn 92 = .ok (.getfield 13, 3) := by decide +kernel
theorem dX9_goOn_95 : decode cX9_goOn 95 = .ok (.iconst 3, 1) := by decide +kernel
theorem dX9_goOn_96 : decode cX9_goOn 96 = .ok (.aaload, 1) := by decide +kernel
theorem dX9_goOn_97 : decode cX9_goOn 97 = .ok (.iload_n 1, 1) := by decide +kernel
theorem dX9_goOn_98 : decode cX9_goOn 98 = .ok (.iconst 4, 1) := by decide +kernel
theorem dX9_goOn_99 : decode cX9_goOn 99 = .ok (.iastore, 1) := by decide +kernel
theorem dX9_goOn_100 : decode cX9_goOn 100 = .ok (.aload_n 0, 1) := by decide +kernel
theorem dX9_goOn_101 : decode cX9_goOn 101 = .ok (.iconst 1, 1) := by decide +kernel
theorem dX9_goOn_102 : decode cX9_goOn 102 = .ok (.putfield 45, 3) := by decide +kernel
theorem dX9_goOn_105 : decode cX9_goOn 105 = .ok (.return_, 1) := by decide +kernel
theorem cwX9_goOn : mw_cwV yX9_goOn cX9_goOn 5 (none) 2 := ⟨⟨wd_10, wd_1770, by decide +kernel⟩, wd_1769, sl_143⟩
set_option maxHeartbeats 4000000 in
set_option maxRecDepth 100000 in
theorem tX9_goOn (l : Launch) (G : mwG) (ad : Nat → Nat) (fu : Nat) (a1 : Int32) (a2 : Int32) (M : mwM) (L : mwL) {M0 : mwM} {L0 : mwL} (hD : DX9_goOn fu a1 a2 M L = some (M0, L0)) : Met l yX9_goOn (Cond.code yX9_goOn cX9_goOn 5 (none) :: GT) ({ frames := 1, cells := 0, slots := 0, locals := 23 }) (mw_Pre G ad NF TF FF M L [.ref (ad 154), .int a1, .int a2]) (mw_Qv G ad NF TF FF (mw_eqV M0 L0)) 0 0 (mw_fr G) := by
  refine mw_enter (by decide) (Nat.le_of_ble_eq_true rfl) ?_
  intro p e s m below meth c ls C hr hlocks hnm hw hl
  have hl : lv_has ls 5 [(0, .ref (ad 154)), (1, .int a1), (2, .int a2)] := hl
  have hb105 : ∀ (M : mwM) (L : mwL) (H : Heap) (locs : List Loc) (ls : Array Slot), fX9_goOn_b105 fu a1 a2 M L = some (M0, L0) → mw_W G ad NF TF FF M L H locs → lv_has ls 5 [] → W p l e ({ frames := 1, cells := 0, slots := 0, locals := 23 }) s m [.ref (ad 154), .int a1, .int a2].toArray below meth c H locs 0 0 (MQ below (mw_Qv G ad NF TF FF (mw_eqV M0 L0)) [.ref (ad 154), .int a1, .int a2].toArray s 0 0 (mw_fr G)) (F0 m 105 ls []) := by
    intro M L H locs ls hD hw hl
    unfold fX9_goOn_b105 at hD
    exact mr_vret C hr hlocks hw (Option.some.inj hD) dX9_goOn_105
  have hh27 : ∀ (f : Nat) (v3 : Int32) (v4 : Int32) (M : mwM) (L : mwL) (H : Heap) (locs : List Loc) (ls : Array Slot), fX9_goOn_h27 fu a1 a2 f (v3, v4, M, L) = some (M0, L0) → mw_W G ad NF TF FF M L H locs → lv_has ls 5 [(0, .ref (ad 154)), (1, .int a1), (3, .int v3), (4, .int v4)] → W p l e ({ frames := 1, cells := 0, slots := 0, locals := 23 }) s m [.ref (ad 154), .int a1, .int a2].toArray below meth c H locs 0 0 (MQ below (mw_Qv G ad NF TF FF (mw_eqV M0 L0)) [.ref (ad 154), .int a1, .int a2].toArray s 0 0 (mw_fr G)) (F0 m 27 ls []) := by
    intro f
    induction f with
    | zero => intro v3 v4 M L H locs ls hD; cases hD
    | succ f27 ih27 =>
      intro v3 v4 M L H locs ls hD hw hl
      replace hD : fX9_goOn_i27 fu a1 a2 (fX9_goOn_h27 fu a1 a2 f27) v3 v4 M L = some (M0, L0) := hD
      unfold fX9_goOn_i27 at hD
      refine lv_iload_n C.1.1 C.1.2.1 dX9_goOn_27 rfl (lv_at hl 2 rfl) ?_
      refine lv_if_le (tgt := 51) C.1.1 C.1.2.1 dX9_goOn_28 (by decide) (fun c1 => ?_) (fun c1 => ?_)
      · replace hD := g_pos c1 hD
        refine lv_aload_n C.1.1 C.1.2.1 dX9_goOn_51 rfl (lv_at hl 0 rfl) ?_
        refine mr_getR C hw kc_9 0 (by decide) tf_154 ff_154_0 wd_358 dX9_goOn_52 (by decide) rfl ?_
        refine lv_iconst (v := 3) C.1.1 C.1.2.1 dX9_goOn_55 (by decide) ?_
        refine mr_aald C hw (by decide) tf_155 (by decide) (by decide) rfl rfl (show vp_in 3 5 from by unfold vp_in; decide) ff_155_3 dX9_goOn_56 ?_
        refine lv_iload_n C.1.1 C.1.2.1 dX9_goOn_57 rfl (lv_at hl 1 rfl) ?_
        refine lv_iconst (v := 3) C.1.1 C.1.2.1 dX9_goOn_58 (by decide) ?_
        obtain ⟨q3, hD⟩ := g_ck hD
        obtain ⟨M4, eM4, hD⟩ := g_let hD
        refine mr_iast C hw (by decide) tf_159 q3 dX9_goOn_59 (fun H locs hw => ?_)
        replace hw : mw_W G ad NF TF FF M4 L H locs := by rw [eM4]; exact hw
        refine lv_goto (tgt := 105) C.1.1 C.1.2.1 dX9_goOn_60 (by decide) ?_
        exact hb105 M4 L _ _ ls hD hw (lv_sub hl [] rfl)
      · replace hD := g_neg c1 hD
        refine lv_aload_n C.1.1 C.1.2.1 dX9_goOn_31 rfl (lv_at hl 0 rfl) ?_
        refine lv_iconst (v := 2) C.1.1 C.1.2.1 dX9_goOn_32 (by decide) ?_
        refine lv_iload_n C.1.1 C.1.2.1 dX9_goOn_33 rfl (lv_at hl 1 rfl) ?_
        refine lv_iload C.1.1 C.1.2.1 dX9_goOn_34 (lv_at hl 3 rfl) ?_
        refine lv_bipush (v := 16) C.1.1 C.1.2.1 dX9_goOn_36 (by decide) ?_
        refine lv_irem C.1.1 C.1.2.1 dX9_goOn_38 (by decide) ?_
        obtain ⟨M6, L7, h1, hD⟩ := g_b2 hD
        refine md_cvV (As := [.int 2, .int a1, .int (v4 - v4 / 16 * 16)]) (rest := []) C hw (tX9_makeFrame l G ad fu 2 a1 (v4 - v4 / 16 * 16) M L h1) kc_9 (by decide) tf_154 wd_1536 cwX9_makeFrame ⟨Nat.le_of_ble_eq_true rfl, Nat.le_of_ble_eq_true rfl⟩ rfl hl.1 (Nat.le_of_ble_eq_true rfl) dX9_goOn_39 rfl rfl ⟨Nat.zero_le _, Nat.zero_le _⟩ rfl (fun H locs hw => ?_)
        obtain ⟨x8, ex8, hD⟩ := g_let hD
        refine lv_iinc (v := x8) (lv' := [(3, .int x8), (0, .ref (ad 154)), (1, .int a1), (4, .int v4)]) C.1.1 C.1.2.1 dX9_goOn_42 hl (k := 2) rfl (by rw [ex8]; rfl) (by decide) rfl (fun ls hl => ?_)
        obtain ⟨x9, ex9, hD⟩ := g_let hD
        refine lv_iinc (v := x9) (lv' := [(4, .int x9), (3, .int x8), (0, .ref (ad 154)), (1, .int a1)]) C.1.1 C.1.2.1 dX9_goOn_45 hl (k := 3) rfl (by rw [ex9]; rfl) (by decide) rfl (fun ls hl => ?_)
        refine lv_goto (tgt := 27) C.1.1 C.1.2.1 dX9_goOn_48 (by decide) ?_
        exact ih27 x8 x9 M6 L7 _ _ ls hD hw (lv_sub hl [2, 3, 1, 0] rfl)
  unfold DX9_goOn at hD
  refine lv_aload_n C.1.1 C.1.2.1 dX9_goOn_0 rfl (lv_at hl 0 rfl) ?_
  refine mr_getR C hw kc_9 0 (by decide) tf_154 ff_154_0 wd_358 dX9_goOn_1 (by decide) rfl ?_
  refine lv_iconst (v := 3) C.1.1 C.1.2.1 dX9_goOn_4 (by decide) ?_
  refine mr_aald C hw (by decide) tf_155 (by decide) (by decide) rfl rfl (show vp_in 3 5 from by unfold vp_in; decide) ff_155_3 dX9_goOn_5 ?_
  refine lv_iload_n C.1.1 C.1.2.1 dX9_goOn_6 rfl (lv_at hl 1 rfl) ?_
  obtain ⟨q11, hD⟩ := g_ck hD
  refine mr_iald C hw (by decide) tf_159 q11 dX9_goOn_7 ?_
  refine lv_iconst (v := 2) C.1.1 C.1.2.1 dX9_goOn_8 (by decide) ?_
  refine lv_icmp_ne (tgt := 63) C.1.1 C.1.2.1 dX9_goOn_9 (by decide) (fun c12 => ?_) (fun c12 => ?_)
  · replace hD := g_neg c12 hD
    refine lv_aload_n C.1.1 C.1.2.1 dX9_goOn_63 rfl (lv_at hl 0 rfl) ?_
    refine mr_getR C hw kc_9 0 (by decide) tf_154 ff_154_0 wd_358 dX9_goOn_64 (by decide) rfl ?_
    refine lv_iconst (v := 3) C.1.1 C.1.2.1 dX9_goOn_67 (by decide) ?_
    refine mr_aald C hw (by decide) tf_155 (by decide) (by decide) rfl rfl (show vp_in 3 5 from by unfold vp_in; decide) ff_155_3 dX9_goOn_68 ?_
    refine lv_iload_n C.1.1 C.1.2.1 dX9_goOn_69 rfl (lv_at hl 1 rfl) ?_
    obtain ⟨q14, hD⟩ := g_ck hD
    refine mr_iald C hw (by decide) tf_159 q14 dX9_goOn_70 ?_
    refine lv_iconst (v := 1) C.1.1 C.1.2.1 dX9_goOn_71 (by decide) ?_
    refine lv_icmp_ne (tgt := 105) C.1.1 C.1.2.1 dX9_goOn_72 (by decide) (fun c15 => ?_) (fun c15 => ?_)
    · replace hD := g_neg c15 hD
      exact hb105 M L _ _ ls hD hw (lv_sub hl [] rfl)
    · replace hD := g_pos c15 hD
      refine lv_iload_n C.1.1 C.1.2.1 dX9_goOn_75 rfl (lv_at hl 2 rfl) ?_
      refine lv_aload_n C.1.1 C.1.2.1 dX9_goOn_76 rfl (lv_at hl 0 rfl) ?_
      refine mr_getR C hw kc_9 0 (by decide) tf_154 ff_154_0 wd_358 dX9_goOn_77 (by decide) rfl ?_
      refine lv_iconst (v := 4) C.1.1 C.1.2.1 dX9_goOn_80 (by decide) ?_
      refine mr_aald C hw (by decide) tf_155 (by decide) (by decide) rfl rfl (show vp_in 4 5 from by unfold vp_in; decide) ff_155_4 dX9_goOn_81 ?_
      refine lv_iload_n C.1.1 C.1.2.1 dX9_goOn_82 rfl (lv_at hl 1 rfl) ?_
      obtain ⟨q17, hD⟩ := g_ck hD
      refine mr_iald C hw (by decide) tf_160 q17 dX9_goOn_83 ?_
      refine lv_isub C.1.1 C.1.2.1 dX9_goOn_84 ?_
      refine lv_sipush (v := 1000) C.1.1 C.1.2.1 dX9_goOn_85 (by decide) ?_
      refine lv_icmp_lt (tgt := 105) C.1.1 C.1.2.1 dX9_goOn_88 (by decide) (fun c18 => ?_) (fun c18 => ?_)
      · replace hD := g_pos c18 hD
        exact hb105 M L _ _ ls hD hw (lv_sub hl [] rfl)
      · replace hD := g_neg c18 hD
        refine lv_aload_n C.1.1 C.1.2.1 dX9_goOn_91 rfl (lv_at hl 0 rfl) ?_
        refine mr_getR C hw kc_9 0 (by decide) tf_154 ff_154_0 wd_358 dX9_goOn_92 (by decide) rfl ?_
        refine lv_iconst (v := 3) C.1.1 C.1.2.1 dX9_goOn_95 (by decide) ?_
        refine mr_aald C hw (by decide) tf_155 (by decide) (by decide) rfl rfl (show vp_in 3 5 from by unfold vp_in; decide) ff_155_3 dX9_goOn_96 ?_
        refine lv_iload_n C.1.1 C.1.2.1 dX9_goOn_97 rfl (lv_at hl 1 rfl) ?_
        refine lv_iconst (v := 4) C.1.1 C.1.2.1 dX9_goOn_98 (by decide) ?_
        obtain ⟨q20, hD⟩ := g_ck hD
        obtain ⟨M21, eM21, hD⟩ := g_let hD
        refine mr_iast C hw (by decide) tf_159 q20 dX9_goOn_99 (fun H locs hw => ?_)
        replace hw : mw_W G ad NF TF FF M21 L H locs := by rw [eM21]; exact hw
        refine lv_aload_n C.1.1 C.1.2.1 dX9_goOn_100 rfl (lv_at hl 0 rfl) ?_
        refine lv_iconst (v := 1) C.1.1 C.1.2.1 dX9_goOn_101 (by decide) ?_
        obtain ⟨M22, eM22, hD⟩ := g_let hD
        refine mr_putI C hw kc_9 10 (by decide) tf_154 wd_376 dX9_goOn_102 (by decide) rfl rfl (by decide +kernel) (by decide +kernel) (fun H locs hw => ?_)
        replace hw : mw_W G ad NF TF FF M22 L H locs := by rw [eM22]; exact hw
        exact hb105 M22 L _ _ ls hD hw (lv_sub hl [] rfl)
  · replace hD := g_pos c12 hD
    refine lv_aload_n C.1.1 C.1.2.1 dX9_goOn_12 rfl (lv_at hl 0 rfl) ?_
    refine mr_getR C hw kc_9 0 (by decide) tf_154 ff_154_0 wd_358 dX9_goOn_13 (by decide) rfl ?_
    refine lv_iconst (v := 2) C.1.1 C.1.2.1 dX9_goOn_16 (by decide) ?_
    refine mr_aald C hw (by decide) tf_155 (by decide) (by decide) rfl rfl (show vp_in 2 5 from by unfold vp_in; decide) ff_155_2 dX9_goOn_17 ?_
    refine lv_iload_n C.1.1 C.1.2.1 dX9_goOn_18 rfl (lv_at hl 1 rfl) ?_
    obtain ⟨q24, hD⟩ := g_ck hD
    refine mr_iald C hw (by decide) tf_158 q24 dX9_goOn_19 ?_
    refine lv_bipush (v := 6) C.1.1 C.1.2.1 dX9_goOn_20 (by decide) ?_
    refine lv_isub C.1.1 C.1.2.1 dX9_goOn_22 ?_
    obtain ⟨x25, ex25, hD⟩ := g_let hD
    refine W.eq (g2 := F0 m 23 ls (.int x25 :: [])) (by rw [ex25]) ?_
    refine lv_istore_n (lv' := [(3, .int x25), (0, .ref (ad 154)), (1, .int a1), (2, .int a2)]) C.1.1 C.1.2.1 dX9_goOn_23 rfl hl (by decide) rfl (fun ls hl => ?_)
    refine lv_iconst (v := 1) C.1.1 C.1.2.1 dX9_goOn_24 (by decide) ?_
    refine lv_istore (lv' := [(4, .int 1), (3, .int x25), (0, .ref (ad 154)), (1, .int a1), (2, .int a2)]) C.1.1 C.1.2.1 dX9_goOn_25 hl (by decide) rfl (fun ls hl => ?_)
    exact hh27 fu x25 1 M L _ _ ls hD hw (lv_sub hl [2, 3, 1, 0] rfl)

theorem dX9_tick_0 : decode cX9_tick 0 = .ok (.aload_n 0, 1) := by decide +kernel
theorem dX9_tick_1 : decode cX9_tick 1 = .ok (.getfield 39, 3) := by decide +kernel
theorem dX9_tick_4 : decode cX9_tick 4 = .ok (.iconst 1, 1) := by decide +kernel
theorem dX9_tick_5 : decode cX9_tick 5 = .ok (.iadd, 1) := by decide +kernel
theorem dX9_tick_6 : decode cX9_tick 6 = .ok (.istore_n 2, 1) := by decide +kernel
theorem dX9_tick_7 : decode cX9_tick 7 = .ok (.iload_n 2, 1) := by decide +kernel
theorem dX9_tick_8 : decode cX9_tick 8 = .ok (.aload_n 0, 1) := by decide +kernel
theorem dX9_tick_9 : decode cX9_tick 9 = .ok (.getfield 29, 3) := by decide +kernel
theorem dX9_tick_12 : decode cX9_tick 12 = .ok (.if_icmp .gt 25, 3) := by decide +kernel
theorem dX9_tick_15 : decode cX9_tick 15 = .ok (.aload_n 0, 1) := by decide +kernel
theorem dX9_tick_16 : decode cX9_tick 16 = .ok (.getfield 13, 3) := by decide +kernel
theorem dX9_tick_19 : decode cX9_tick 19 = .ok (.iconst 3, 1) := by decide +kernel
theorem dX9_tick_20 : decode cX9_tick 20 = .ok (.aaload, 1) := by decide +kernel
theorem dX9_tick_21 : decode cX9_tick 21 = .ok (.iload_n 2, 1) := by decide +kernel
theorem dX9_tick_22 : decode cX9_tick 22 = .ok (.iaload, 1) := by decide +kernel
theorem dX9_tick_23 : decode cX9_tick 23 = .ok (.ifCond .ne 8, 3) := by decide +kernel
theorem dX9_tick_26 : decode cX9_tick 26 = .ok (.aload_n 0, 1) := by decide +kernel
theorem dX9_tick_27 : decode cX9_tick 27 = .ok (.iload_n 2, 1) := by decide +kernel
theorem dX9_tick_28 : decode cX9_tick 28 = .ok (.invokevirtual 71, 3) := by decide +kernel
theorem dX9_tick_31 : decode cX9_tick 31 = .ok (.iinc 2 1, 3) := by decide +kernel
theorem dX9_tick_34 : decode cX9_tick 34 = .ok (.goto (-27), 3) := by decide +kernel
theorem dX9_tick_37 : decode cX9_tick 37 = .ok (.aload_n 0, 1) := by decide +kernel
theorem dX9_tick_38 : decode cX9_tick 38 = .ok (.getfield 39, 3) := by decide +kernel
theorem dX9_tick_41 : decode cX9_tick 41 = .ok (.iconst 1, 1) := by decide +kernel
theorem dX9_tick_42 : decode cX9_tick 42 = .ok (.iadd, 1) := by decide +kernel
theorem dX9_tick_43 : decode cX9_tick 43 = .ok (.istore_n 2, 1) := by decide +kernel
theorem dX9_tick_44 : decode cX9_tick 44 = .ok (.iload_n 2, 1) := by decide +kernel
theorem dX9_tick_45 : decode cX9_tick 45 = .ok (.aload_n 0, 1) := by decide +kernel
theorem dX9_tick_46 : decode cX9_tick 46 = .ok (.getfield 29, 3) := by decide +kernel
theorem dX9_tick_49 : decode cX9_tick 49 = .ok (.if_icmp .gt 15, 3) := by decide +kernel
theorem dX9_tick_52 : decode cX9_tick 52 = .ok (.aload_n 0, 1) := by decide +kernel
theorem dX9_tick_53 : decode cX9_tick 53 = .ok (.iload_n 2, 1) := by decide +kernel
theorem dX9_tick_54 : decode cX9_tick 54 = .ok (.iload_n 1, 1) := by decide +kernel
theorem dX9_tick_55 : decode cX9_tick 55 = .ok (.invokevirtual 75, 3) := by decide +kernel
theorem dX9_tick_58 : decode cX9_tick 58 = .ok (.iinc 2 1, 3) := by decide +kernel
theorem dX9_tick_61 : decode cX9_tick 61 = .ok (.goto (-17), 3) := by decide +kernel
theorem dX9_tick_64 : decode cX9_tick 64 = .ok (.aload_n 0, 1) := by decide +kernel
theorem dX9_tick_65 : decode cX9_tick 65 = .ok (.getfield 39, 3) := by decide +kernel
theorem dX9_tick_68 : decode cX9_tick 68 = .ok (.aload_n 0, 1) := by decide +kernel
theorem dX9_tick_69 : decode cX9_tick 69 = .ok (.getfield 29, 3) := by decide +kernel
theorem dX9_tick_72 : decode cX9_tick 72 = .ok (.if_icmp .ge 33, 3) := by decide +kernel
theorem dX9_tick_75 : decode cX9_tick 75 = .ok (.aload_n 0, 1) := by decide +kernel
theorem dX9_tick_76 : decode cX9_tick 76 = .ok (.getfield 13, 3) := by decide +kernel
theorem dX9_tick_79 : decode cX9_tick 79 = .ok (.iconst 3, 1) := by decide +kernel
theorem dX9_tick_80 : decode cX9_tick 80 = .ok (.aaload, 1) := by decide +kernel
theorem dX9_tick_81 : decode cX9_tick 81 = .ok (.aload_n 0, 1) := by decide +kernel
theorem dX9_tick_82 : decode cX9_tick 82 = .ok (.getfield 39, 3) := by decide +kernel
theorem dX9_tick_85 : decode cX9_tick 85 = .ok (.iconst 1, 1) := by decide +kernel
theorem dX9_tick_86 : decode cX9_tick 86 = .ok (.iadd, 1) := by decide +kernel
theorem dX9_tick_87 : decode cX9_tick 87 = .ok (.iaload, 1) := by decide +kernel
theorem dX9_tick_88 : decode cX9_tick 88 = .ok (.iconst 3, 1) := by decide +kernel
theorem dX9_tick_89 : decode cX9_tick 89 = .ok (.if_icmp .lt 16, 3) := by decide +kernel
theorem dX9_tick_92 : decode cX9_tick 92 = .ok (.aload_n 0, 1) := by decide +kernel
theorem dX9_tick_93 : decode cX9_tick 93 = .ok (.dup, 1) := by decide +kernel
theorem dX9_tick_94 : decode cX9_tick 94 = .ok (.getfield 39, 3) := by decide +kernel
theorem dX9_tick_97 : decode cX9_tick 97 = .ok (.iconst 1, 1) := by decide +kernel
theorem dX9_tick_98 : decode cX9_tick 98 = .ok (.iadd, 1) := by decide +kernel
theorem dX9_tick_99 : decode cX9_tick 99 = .ok (.putfield 39, 3) := by decide +kernel
theorem dX9_tick_102 : decode cX9_tick 102 = .ok (.goto (-38), 3) := by decide +kernel
theorem dX9_tick_105 : decode cX9_tick 105 = .ok (.iconst 0, 1) := by decide +kernel
theorem dX9_tick_106 : decode cX9_tick 106 = .ok (.istore_n 2, 1) := by decide +kernel
theorem dX9_tick_107 : decode cX9_tick 107 = .ok (.iload_n 2, 1) := by decide +kernel
theorem dX9_tick_108 : decode cX9_tick 108 = .ok (.iconst 4, 1) := by decide +kernel
theorem dX9_tick_109 : decode cX9_tick 109 = .ok (.if_icmp .ge 51, 3) := by decide +kernel
theorem dX9_tick_112 : decode cX9_tick 112 = .ok (.aload_n 0, 1) := by decide +kernel
theorem dX9_tick_113 : decode cX9_tick 113 = .ok (.getfield 19, 3) := by decide +kernel
theorem dX9_tick_116 : decode cX9_tick 116 = .ok (.iconst 0, 1) := by decide +kernel
theorem dX9_tick_117 : decode cX9_tick 117 = .ok (.aaload, 1) := by decide +kernel
theorem dX9_tick_118 : decode cX9_tick 118 = .ok (.iload_n 2, 1) := by decide +kernel
theorem dX9_tick_119 : decode cX9_tick 119 = .ok (.iaload, 1) := by decide +kernel
theorem dX9_tick_120 : decode cX9_tick 120 = .ok (.iconst 1, 1) := by decide +kernel
theorem dX9_tick_121 : decode cX9_tick 121 = .ok (.if_icmp .ne 33, 3) := by decide +kernel
theorem dX9_tick_124 : decode cX9_tick 124 = .ok (.iload_n 1, 1) := by decide +kernel
theorem dX9_tick_125 : decode cX9_tick 125 = .ok (.aload_n 0, 1) := by decide +kernel
theorem dX9_tick_126 : decode cX9_tick 126 = .ok (.getfield 19, 3) := by decide +kernel
theorem dX9_tick_129 : decode cX9_tick 129 = .ok (.iconst 4, 1) := by decide +kernel
theorem dX9_tick_130 : decode cX9_tick 130 = .ok (.aaload, 1) := by decide +kernel
theorem dX9_tick_131 : decode cX9_tick 131 = .ok (.iload_n 2, 1) := by decide +kernel
theorem dX9_tick_132 : decode cX9_tick 132 = .ok (.iaload, 1) := by decide +kernel
theorem dX9_tick_133 : decode cX9_tick 133 = .ok (.isub, 1) := by decide +kernel
theorem dX9_tick_134 : decode cX9_tick 134 = .ok (.sipush 1000, 3) := by decide +kernel
theorem dX9_tick_137 : decode cX9_tick 137 = .ok (.if_icmp .lt 17, 3) := by decide +kernel
theorem dX9_tick_140 : decode cX9_tick 140 = .ok (.aload_n 0, 1) := by decide +kernel
theorem dX9_tick_141 : decode cX9_tick 141 = .ok (.getfield 19, 3) := by decide +kernel
theorem dX9_tick_144 : decode cX9_tick 144 = .ok (.iconst 0, 1) := by decide +kernel
theorem dX9_tick_145 : decode cX9_tick 145 = .ok (.aaload, 1) := by decide +kernel
theorem dX9_tick_146 : decode cX9_tick 146 = .ok (.iload_n 2, 1) := by decide +kernel
theorem dX9_tick_147 : decode cX9_tick 147 = .ok (.iconst 4, 1) := by decide +kernel
theorem dX9_tick_148 : decode cX9_tick 148 = .ok (.iastore, 1) := by decide +kernel
theorem dX9_tick_149 : decode cX9_tick 149 = .ok (.aload_n 0, 1) := by decide +kernel
theorem dX9_tick_150 : decode cX9_tick 150 = .ok (.iconst 1, 1) := by decide +kernel
theorem dX9_tick_151 : decode cX9_tick 151 = .ok (.putfield 45, 3) := by decide +kernel
theorem dX9_tick_154 : decode cX9_tick 154 = .ok (.iinc 2 1, 3) := by decide +kernel
theorem dX9_tick_157 : decode cX9_tick 157 = .ok (.goto (-50), 3) := by decide +kernel
theorem dX9_tick_160 : decode cX9_tick 160 = .ok (.aload_n 0, 1) := by decide +kernel
theorem dX9_tick_161 : decode cX9_tick 161 = .ok (.iload_n 1, 1) := by decide +kernel
theorem dX9_tick_162 : decode cX9_tick 162 = .ok (.putfield 42, 3) := by decide +kernel
theorem dX9_tick_165 : decode cX9_tick 165 = .ok (.return_, 1) := by decide +kernel
theorem cwX9_tick : mw_cwV yX9_tick cX9_tick 3 (none) 1 := ⟨⟨wd_10, wd_1762, by decide +kernel⟩, wd_1760, wd_1761⟩
set_option maxHeartbeats 4000000 in
set_option maxRecDepth 100000 in
theorem tX9_tick (l : Launch) (G : mwG) (ad : Nat → Nat) (fu : Nat) (a1 : Int32) (M : mwM) (L : mwL) {M0 : mwM} {L0 : mwL} (hD : DX9_tick fu a1 M L = some (M0, L0)) : Met l yX9_tick (Cond.code yX9_tick cX9_tick 3 (none) :: GT) ({ frames := 2, cells := 0, slots := 0, locals := 47 }) (mw_Pre G ad NF TF FF M L [.ref (ad 154), .int a1]) (mw_Qv G ad NF TF FF (mw_eqV M0 L0)) 0 0 (mw_fr G) := by
  refine mw_enter (by decide) (Nat.le_of_ble_eq_true rfl) ?_
  intro p e s m below meth c ls C hr hlocks hnm hw hl
  have hl : lv_has ls 3 [(0, .ref (ad 154)), (1, .int a1)] := hl
  have hh107 : ∀ (f : Nat) (v2 : Int32) (M : mwM) (L : mwL) (H : Heap) (locs : List Loc) (ls : Array Slot), fX9_tick_h107 fu a1 f (v2, M, L) = some (M0, L0) → mw_W G ad NF TF FF M L H locs → lv_has ls 3 [(0, .ref (ad 154)), (1, .int a1), (2, .int v2)] → W p l e ({ frames := 2, cells := 0, slots := 0, locals := 47 }) s m [.ref (ad 154), .int a1].toArray below meth c H locs 0 0 (MQ below (mw_Qv G ad NF TF FF (mw_eqV M0 L0)) [.ref (ad 154), .int a1].toArray s 0 0 (mw_fr G)) (F0 m 107 ls []) := by
    intro f
    induction f with
    | zero => intro v2 M L H locs ls hD; cases hD
    | succ f107 ih107 =>
      intro v2 M L H locs ls hD hw hl
      replace hD : fX9_tick_i107 fu a1 (fX9_tick_h107 fu a1 f107) v2 M L = some (M0, L0) := hD
      have hb154 : ∀ (v2 : Int32) (M : mwM) (L : mwL) (H : Heap) (locs : List Loc) (ls : Array Slot), fX9_tick_b154 fu a1 (fX9_tick_h107 fu a1 f107) v2 M L = some (M0, L0) → mw_W G ad NF TF FF M L H locs → lv_has ls 3 [(0, .ref (ad 154)), (1, .int a1), (2, .int v2)] → W p l e ({ frames := 2, cells := 0, slots := 0, locals := 47 }) s m [.ref (ad 154), .int a1].toArray below meth c H locs 0 0 (MQ below (mw_Qv G ad NF TF FF (mw_eqV M0 L0)) [.ref (ad 154), .int a1].toArray s 0 0 (mw_fr G)) (F0 m 154 ls []) := by
        intro v2 M L H locs ls hD hw hl
        unfold fX9_tick_b154 at hD
        obtain ⟨x30, ex30, hD⟩ := g_let hD
        refine lv_iinc (v := x30) (lv' := [(2, .int x30), (0, .ref (ad 154)), (1, .int a1)]) C.1.1 C.1.2.1 dX9_tick_154 hl (k := 2) rfl (by rw [ex30]; rfl) (by decide) rfl (fun ls hl => ?_)
        refine lv_goto (tgt := 107) C.1.1 C.1.2.1 dX9_tick_157 (by decide) ?_
        exact ih107 x30 M L _ _ ls hD hw (lv_sub hl [1, 2, 0] rfl)
      unfold fX9_tick_i107 at hD
      refine lv_iload_n C.1.1 C.1.2.1 dX9_tick_107 rfl (lv_at hl 2 rfl) ?_
      refine lv_iconst (v := 4) C.1.1 C.1.2.1 dX9_tick_108 (by decide) ?_
      refine lv_icmp_ge (tgt := 160) C.1.1 C.1.2.1 dX9_tick_109 (by decide) (fun c18 => ?_) (fun c18 => ?_)
      · replace hD := g_pos c18 hD
        refine lv_aload_n C.1.1 C.1.2.1 dX9_tick_160 rfl (lv_at hl 0 rfl) ?_
        refine lv_iload_n C.1.1 C.1.2.1 dX9_tick_161 rfl (lv_at hl 1 rfl) ?_
        obtain ⟨M19, eM19, hD⟩ := g_let hD
        refine mr_putI C hw kc_9 9 (by decide) tf_154 wd_375 dX9_tick_162 (by decide) rfl rfl rfl rfl (fun H locs hw => ?_)
        replace hw : mw_W G ad NF TF FF M19 L H locs := by rw [eM19]; exact hw
        exact mr_vret C hr hlocks hw (Option.some.inj hD) dX9_tick_165
      · replace hD := g_neg c18 hD
        refine lv_aload_n C.1.1 C.1.2.1 dX9_tick_112 rfl (lv_at hl 0 rfl) ?_
        refine mr_getR C hw kc_9 2 (by decide) tf_154 ff_154_2 wd_364 dX9_tick_113 (by decide) rfl ?_
        refine lv_iconst (v := 0) C.1.1 C.1.2.1 dX9_tick_116 (by decide) ?_
        refine mr_aald C hw (by decide) tf_263 (by decide) (by decide) rfl rfl (show vp_in 0 5 from by unfold vp_in; decide) ff_263_0 dX9_tick_117 ?_
        refine lv_iload_n C.1.1 C.1.2.1 dX9_tick_118 rfl (lv_at hl 2 rfl) ?_
        obtain ⟨q21, hD⟩ := g_ck hD
        refine mr_iald C hw (by decide) tf_264 q21 dX9_tick_119 ?_
        refine lv_iconst (v := 1) C.1.1 C.1.2.1 dX9_tick_120 (by decide) ?_
        refine lv_icmp_ne (tgt := 154) C.1.1 C.1.2.1 dX9_tick_121 (by decide) (fun c22 => ?_) (fun c22 => ?_)
        · replace hD := g_neg c22 hD
          exact hb154 v2 M L _ _ ls hD hw (lv_sub hl [0, 1, 2] rfl)
        · replace hD := g_pos c22 hD
          refine lv_iload_n C.1.1 C.1.2.1 dX9_tick_124 rfl (lv_at hl 1 rfl) ?_
          refine lv_aload_n C.1.1 C.1.2.1 dX9_tick_125 rfl (lv_at hl 0 rfl) ?_
          refine mr_getR C hw kc_9 2 (by decide) tf_154 ff_154_2 wd_364 dX9_tick_126 (by decide) rfl ?_
          refine lv_iconst (v := 4) C.1.1 C.1.2.1 dX9_tick_129 (by decide) ?_
          refine mr_aald C hw (by decide) tf_263 (by decide) (by decide) rfl rfl (show vp_in 4 5 from by unfold vp_in; decide) ff_263_4 dX9_tick_130 ?_
          refine lv_iload_n C.1.1 C.1.2.1 dX9_tick_131 rfl (lv_at hl 2 rfl) ?_
          obtain ⟨q24, hD⟩ := g_ck hD
          refine mr_iald C hw (by decide) tf_268 q24 dX9_tick_132 ?_
          refine lv_isub C.1.1 C.1.2.1 dX9_tick_133 ?_
          refine lv_sipush (v := 1000) C.1.1 C.1.2.1 dX9_tick_134 (by decide) ?_
          refine lv_icmp_lt (tgt := 154) C.1.1 C.1.2.1 dX9_tick_137 (by decide) (fun c25 => ?_) (fun c25 => ?_)
          · replace hD := g_pos c25 hD
            exact hb154 v2 M L _ _ ls hD hw (lv_sub hl [0, 1, 2] rfl)
          · replace hD := g_neg c25 hD
            refine lv_aload_n C.1.1 C.1.2.1 dX9_tick_140 rfl (lv_at hl 0 rfl) ?_
            refine mr_getR C hw kc_9 2 (by decide) tf_154 ff_154_2 wd_364 dX9_tick_141 (by decide) rfl ?_
            refine lv_iconst (v := 0) C.1.1 C.1.2.1 dX9_tick_144 (by decide) ?_
            refine mr_aald C hw (by decide) tf_263 (by decide) (by decide) rfl rfl (show vp_in 0 5 from by unfold vp_in; decide) ff_263_0 dX9_tick_145 ?_
            refine lv_iload_n C.1.1 C.1.2.1 dX9_tick_146 rfl (lv_at hl 2 rfl) ?_
            refine lv_iconst (v := 4) C.1.1 C.1.2.1 dX9_tick_147 (by decide) ?_
            obtain ⟨q27, hD⟩ := g_ck hD
            obtain ⟨M28, eM28, hD⟩ := g_let hD
            refine mr_iast C hw (by decide) tf_264 q27 dX9_tick_148 (fun H locs hw => ?_)
            replace hw : mw_W G ad NF TF FF M28 L H locs := by rw [eM28]; exact hw
            refine lv_aload_n C.1.1 C.1.2.1 dX9_tick_149 rfl (lv_at hl 0 rfl) ?_
            refine lv_iconst (v := 1) C.1.1 C.1.2.1 dX9_tick_150 (by decide) ?_
            obtain ⟨M29, eM29, hD⟩ := g_let hD
            refine mr_putI C hw kc_9 10 (by decide) tf_154 wd_376 dX9_tick_151 (by decide) rfl rfl (by decide +kernel) (by decide +kernel) (fun H locs hw => ?_)
            replace hw : mw_W G ad NF TF FF M29 L H locs := by rw [eM29]; exact hw
            exact hb154 v2 M29 L _ _ ls hD hw (lv_sub hl [0, 1, 2] rfl)
  have hb105 : ∀ (M : mwM) (L : mwL) (H : Heap) (locs : List Loc) (ls : Array Slot), fX9_tick_b105 fu a1 M L = some (M0, L0) → mw_W G ad NF TF FF M L H locs → lv_has ls 3 [(0, .ref (ad 154)), (1, .int a1)] → W p l e ({ frames := 2, cells := 0, slots := 0, locals := 47 }) s m [.ref (ad 154), .int a1].toArray below meth c H locs 0 0 (MQ below (mw_Qv G ad NF TF FF (mw_eqV M0 L0)) [.ref (ad 154), .int a1].toArray s 0 0 (mw_fr G)) (F0 m 105 ls []) := by
    intro M L H locs ls hD hw hl
    unfold fX9_tick_b105 at hD
    refine lv_iconst (v := 0) C.1.1 C.1.2.1 dX9_tick_105 (by decide) ?_
    refine lv_istore_n (lv' := [(2, .int 0), (0, .ref (ad 154)), (1, .int a1)]) C.1.1 C.1.2.1 dX9_tick_106 rfl hl (by decide) rfl (fun ls hl => ?_)
    exact hh107 fu 0 M L _ _ ls hD hw (lv_sub hl [1, 2, 0] rfl)
  have hh64 : ∀ (f : Nat) (M : mwM) (L : mwL) (H : Heap) (locs : List Loc) (ls : Array Slot), fX9_tick_h64 fu a1 f (M, L) = some (M0, L0) → mw_W G ad NF TF FF M L H locs → lv_has ls 3 [(0, .ref (ad 154)), (1, .int a1)] → W p l e ({ frames := 2, cells := 0, slots := 0, locals := 47 }) s m [.ref (ad 154), .int a1].toArray below meth c H locs 0 0 (MQ below (mw_Qv G ad NF TF FF (mw_eqV M0 L0)) [.ref (ad 154), .int a1].toArray s 0 0 (mw_fr G)) (F0 m 64 ls []) := by
    intro f
    induction f with
    | zero => intro M L H locs ls hD; cases hD
    | succ f64 ih64 =>
      intro M L H locs ls hD hw hl
      replace hD : fX9_tick_i64 fu a1 (fX9_tick_h64 fu a1 f64) M L = some (M0, L0) := hD
      unfold fX9_tick_i64 at hD
      refine lv_aload_n C.1.1 C.1.2.1 dX9_tick_64 rfl (lv_at hl 0 rfl) ?_
      refine mr_getI C hw kc_9 8 (by decide) tf_154 wd_374 dX9_tick_65 (by decide) rfl ?_
      refine lv_aload_n C.1.1 C.1.2.1 dX9_tick_68 rfl (lv_at hl 0 rfl) ?_
      refine mr_getI C hw kc_9 5 (by decide) tf_154 wd_368 dX9_tick_69 (by decide) rfl ?_
      refine lv_icmp_ge (tgt := 105) C.1.1 C.1.2.1 dX9_tick_72 (by decide) (fun c13 => ?_) (fun c13 => ?_)
      · replace hD := g_pos c13 hD
        exact hb105 M L _ _ ls hD hw (lv_sub hl [0, 1] rfl)
      · replace hD := g_neg c13 hD
        refine lv_aload_n C.1.1 C.1.2.1 dX9_tick_75 rfl (lv_at hl 0 rfl) ?_
        refine mr_getR C hw kc_9 0 (by decide) tf_154 ff_154_0 wd_358 dX9_tick_76 (by decide) rfl ?_
        refine lv_iconst (v := 3) C.1.1 C.1.2.1 dX9_tick_79 (by decide) ?_
        refine mr_aald C hw (by decide) tf_155 (by decide) (by decide) rfl rfl (show vp_in 3 5 from by unfold vp_in; decide) ff_155_3 dX9_tick_80 ?_
        refine lv_aload_n C.1.1 C.1.2.1 dX9_tick_81 rfl (lv_at hl 0 rfl) ?_
        refine mr_getI C hw kc_9 8 (by decide) tf_154 wd_374 dX9_tick_82 (by decide) rfl ?_
        refine lv_iconst (v := 1) C.1.1 C.1.2.1 dX9_tick_85 (by decide) ?_
        refine lv_iadd C.1.1 C.1.2.1 dX9_tick_86 ?_
        obtain ⟨q15, hD⟩ := g_ck hD
        refine mr_iald C hw (by decide) tf_159 q15 dX9_tick_87 ?_
        refine lv_iconst (v := 3) C.1.1 C.1.2.1 dX9_tick_88 (by decide) ?_
        refine lv_icmp_lt (tgt := 105) C.1.1 C.1.2.1 dX9_tick_89 (by decide) (fun c16 => ?_) (fun c16 => ?_)
        · replace hD := g_pos c16 hD
          exact hb105 M L _ _ ls hD hw (lv_sub hl [0, 1] rfl)
        · replace hD := g_neg c16 hD
          refine lv_aload_n C.1.1 C.1.2.1 dX9_tick_92 rfl (lv_at hl 0 rfl) ?_
          refine lv_dup C.1.1 C.1.2.1 dX9_tick_93 rfl ?_
          refine mr_getI C hw kc_9 8 (by decide) tf_154 wd_374 dX9_tick_94 (by decide) rfl ?_
          refine lv_iconst (v := 1) C.1.1 C.1.2.1 dX9_tick_97 (by decide) ?_
          refine lv_iadd C.1.1 C.1.2.1 dX9_tick_98 ?_
          obtain ⟨M17, eM17, hD⟩ := g_let hD
          refine mr_putI C hw kc_9 8 (by decide) tf_154 wd_374 dX9_tick_99 (by decide) rfl rfl rfl rfl (fun H locs hw => ?_)
          replace hw : mw_W G ad NF TF FF M17 L H locs := by rw [eM17]; exact hw
          refine lv_goto (tgt := 64) C.1.1 C.1.2.1 dX9_tick_102 (by decide) ?_
          exact ih64 M17 L _ _ ls hD hw (lv_sub hl [0, 1] rfl)
  have hh44 : ∀ (f : Nat) (v2 : Int32) (M : mwM) (L : mwL) (H : Heap) (locs : List Loc) (ls : Array Slot), fX9_tick_h44 fu a1 f (v2, M, L) = some (M0, L0) → mw_W G ad NF TF FF M L H locs → lv_has ls 3 [(0, .ref (ad 154)), (1, .int a1), (2, .int v2)] → W p l e ({ frames := 2, cells := 0, slots := 0, locals := 47 }) s m [.ref (ad 154), .int a1].toArray below meth c H locs 0 0 (MQ below (mw_Qv G ad NF TF FF (mw_eqV M0 L0)) [.ref (ad 154), .int a1].toArray s 0 0 (mw_fr G)) (F0 m 44 ls []) := by
    intro f
    induction f with
    | zero => intro v2 M L H locs ls hD; cases hD
    | succ f44 ih44 =>
      intro v2 M L H locs ls hD hw hl
      replace hD : fX9_tick_i44 fu a1 (fX9_tick_h44 fu a1 f44) v2 M L = some (M0, L0) := hD
      unfold fX9_tick_i44 at hD
      refine lv_iload_n C.1.1 C.1.2.1 dX9_tick_44 rfl (lv_at hl 2 rfl) ?_
      refine lv_aload_n C.1.1 C.1.2.1 dX9_tick_45 rfl (lv_at hl 0 rfl) ?_
      refine mr_getI C hw kc_9 5 (by decide) tf_154 wd_368 dX9_tick_46 (by decide) rfl ?_
      refine lv_icmp_gt (tgt := 64) C.1.1 C.1.2.1 dX9_tick_49 (by decide) (fun c9 => ?_) (fun c9 => ?_)
      · replace hD := g_pos c9 hD
        exact hh64 fu M L _ _ ls hD hw (lv_sub hl [0, 1] rfl)
      · replace hD := g_neg c9 hD
        refine lv_aload_n C.1.1 C.1.2.1 dX9_tick_52 rfl (lv_at hl 0 rfl) ?_
        refine lv_iload_n C.1.1 C.1.2.1 dX9_tick_53 rfl (lv_at hl 2 rfl) ?_
        refine lv_iload_n C.1.1 C.1.2.1 dX9_tick_54 rfl (lv_at hl 1 rfl) ?_
        obtain ⟨M10, L11, h1, hD⟩ := g_b2 hD
        refine md_cvV (As := [.int v2, .int a1]) (rest := []) C hw (tX9_goOn l G ad fu v2 a1 M L h1) kc_9 (by decide) tf_154 wd_1767 cwX9_goOn ⟨Nat.le_of_ble_eq_true rfl, Nat.le_of_ble_eq_true rfl⟩ rfl hl.1 (Nat.le_of_ble_eq_true rfl) dX9_tick_55 rfl rfl ⟨Nat.zero_le _, Nat.zero_le _⟩ rfl (fun H locs hw => ?_)
        obtain ⟨x12, ex12, hD⟩ := g_let hD
        refine lv_iinc (v := x12) (lv' := [(2, .int x12), (0, .ref (ad 154)), (1, .int a1)]) C.1.1 C.1.2.1 dX9_tick_58 hl (k := 2) rfl (by rw [ex12]; rfl) (by decide) rfl (fun ls hl => ?_)
        refine lv_goto (tgt := 44) C.1.1 C.1.2.1 dX9_tick_61 (by decide) ?_
        exact ih44 x12 M10 L11 _ _ ls hD hw (lv_sub hl [1, 2, 0] rfl)
  have hh7 : ∀ (f : Nat) (v2 : Int32) (M : mwM) (L : mwL) (H : Heap) (locs : List Loc) (ls : Array Slot), fX9_tick_h7 fu a1 f (v2, M, L) = some (M0, L0) → mw_W G ad NF TF FF M L H locs → lv_has ls 3 [(0, .ref (ad 154)), (1, .int a1), (2, .int v2)] → W p l e ({ frames := 2, cells := 0, slots := 0, locals := 47 }) s m [.ref (ad 154), .int a1].toArray below meth c H locs 0 0 (MQ below (mw_Qv G ad NF TF FF (mw_eqV M0 L0)) [.ref (ad 154), .int a1].toArray s 0 0 (mw_fr G)) (F0 m 7 ls []) := by
    intro f
    induction f with
    | zero => intro v2 M L H locs ls hD; cases hD
    | succ f7 ih7 =>
      intro v2 M L H locs ls hD hw hl
      replace hD : fX9_tick_i7 fu a1 (fX9_tick_h7 fu a1 f7) v2 M L = some (M0, L0) := hD
      have hb31 : ∀ (v2 : Int32) (M : mwM) (L : mwL) (H : Heap) (locs : List Loc) (ls : Array Slot), fX9_tick_b31 fu a1 (fX9_tick_h7 fu a1 f7) v2 M L = some (M0, L0) → mw_W G ad NF TF FF M L H locs → lv_has ls 3 [(0, .ref (ad 154)), (1, .int a1), (2, .int v2)] → W p l e ({ frames := 2, cells := 0, slots := 0, locals := 47 }) s m [.ref (ad 154), .int a1].toArray below meth c H locs 0 0 (MQ below (mw_Qv G ad NF TF FF (mw_eqV M0 L0)) [.ref (ad 154), .int a1].toArray s 0 0 (mw_fr G)) (F0 m 31 ls []) := by
        intro v2 M L H locs ls hD hw hl
        unfold fX9_tick_b31 at hD
        obtain ⟨x8, ex8, hD⟩ := g_let hD
        refine lv_iinc (v := x8) (lv' := [(2, .int x8), (0, .ref (ad 154)), (1, .int a1)]) C.1.1 C.1.2.1 dX9_tick_31 hl (k := 2) rfl (by rw [ex8]; rfl) (by decide) rfl (fun ls hl => ?_)
        refine lv_goto (tgt := 7) C.1.1 C.1.2.1 dX9_tick_34 (by decide) ?_
        exact ih7 x8 M L _ _ ls hD hw (lv_sub hl [1, 2, 0] rfl)
      unfold fX9_tick_i7 at hD
      refine lv_iload_n C.1.1 C.1.2.1 dX9_tick_7 rfl (lv_at hl 2 rfl) ?_
      refine lv_aload_n C.1.1 C.1.2.1 dX9_tick_8 rfl (lv_at hl 0 rfl) ?_
      refine mr_getI C hw kc_9 5 (by decide) tf_154 wd_368 dX9_tick_9 (by decide) rfl ?_
      refine lv_icmp_gt (tgt := 37) C.1.1 C.1.2.1 dX9_tick_12 (by decide) (fun c1 => ?_) (fun c1 => ?_)
      · replace hD := g_pos c1 hD
        refine lv_aload_n C.1.1 C.1.2.1 dX9_tick_37 rfl (lv_at hl 0 rfl) ?_
        refine mr_getI C hw kc_9 8 (by decide) tf_154 wd_374 dX9_tick_38 (by decide) rfl ?_
        refine lv_iconst (v := 1) C.1.1 C.1.2.1 dX9_tick_41 (by decide) ?_
        refine lv_iadd C.1.1 C.1.2.1 dX9_tick_42 ?_
        obtain ⟨x2, ex2, hD⟩ := g_let hD
        refine W.eq (g2 := F0 m 43 ls (.int x2 :: [])) (by rw [ex2]) ?_
        refine lv_istore_n (lv' := [(2, .int x2), (0, .ref (ad 154)), (1, .int a1)]) C.1.1 C.1.2.1 dX9_tick_43 rfl hl (by decide) rfl (fun ls hl => ?_)
        exact hh44 fu x2 M L _ _ ls hD hw (lv_sub hl [1, 2, 0] rfl)
      · replace hD := g_neg c1 hD
        refine lv_aload_n C.1.1 C.1.2.1 dX9_tick_15 rfl (lv_at hl 0 rfl) ?_
        refine mr_getR C hw kc_9 0 (by decide) tf_154 ff_154_0 wd_358 dX9_tick_16 (by decide) rfl ?_
        refine lv_iconst (v := 3) C.1.1 C.1.2.1 dX9_tick_19 (by decide) ?_
        refine mr_aald C hw (by decide) tf_155 (by decide) (by decide) rfl rfl (show vp_in 3 5 from by unfold vp_in; decide) ff_155_3 dX9_tick_20 ?_
        refine lv_iload_n C.1.1 C.1.2.1 dX9_tick_21 rfl (lv_at hl 2 rfl) ?_
        obtain ⟨q4, hD⟩ := g_ck hD
        refine mr_iald C hw (by decide) tf_159 q4 dX9_tick_22 ?_
        refine lv_if_ne (tgt := 31) C.1.1 C.1.2.1 dX9_tick_23 (by decide) (fun c5 => ?_) (fun c5 => ?_)
        · replace hD := g_neg c5 hD
          exact hb31 v2 M L _ _ ls hD hw (lv_sub hl [0, 1, 2] rfl)
        · replace hD := g_pos c5 hD
          refine lv_aload_n C.1.1 C.1.2.1 dX9_tick_26 rfl (lv_at hl 0 rfl) ?_
          refine lv_iload_n C.1.1 C.1.2.1 dX9_tick_27 rfl (lv_at hl 2 rfl) ?_
          obtain ⟨M6, L7, h1, hD⟩ := g_b2 hD
          refine md_cvV (As := [.int v2]) (rest := []) C hw (tX9_begin l G ad fu v2 M L h1) kc_9 (by decide) tf_154 wd_1763 cwX9_begin ⟨Nat.le_of_ble_eq_true rfl, Nat.le_of_ble_eq_true rfl⟩ rfl hl.1 (Nat.le_of_ble_eq_true rfl) dX9_tick_28 rfl rfl ⟨Nat.zero_le _, Nat.zero_le _⟩ rfl (fun H locs hw => ?_)
          exact hb31 v2 M6 L7 _ _ ls hD hw (lv_sub hl [0, 1, 2] rfl)
  unfold DX9_tick at hD
  refine lv_aload_n C.1.1 C.1.2.1 dX9_tick_0 rfl (lv_at hl 0 rfl) ?_
  refine mr_getI C hw kc_9 8 (by decide) tf_154 wd_374 dX9_tick_1 (by decide) rfl ?_
  refine lv_iconst (v := 1) C.1.1 C.1.2.1 dX9_tick_4 (by decide) ?_
  refine lv_iadd C.1.1 C.1.2.1 dX9_tick_5 ?_
  obtain ⟨x31, ex31, hD⟩ := g_let hD
  refine W.eq (g2 := F0 m 6 ls (.int x31 :: [])) (by rw [ex31]) ?_
  refine lv_istore_n (lv' := [(2, .int x31), (0, .ref (ad 154)), (1, .int a1)]) C.1.1 C.1.2.1 dX9_tick_6 rfl hl (by decide) rfl (fun ls hl => ?_)
  exact hh7 fu x31 M L _ _ ls hD hw (lv_sub hl [1, 2, 0] rfl)

theorem dX9_writeOctets_0 : decode cX9_writeOctets 0 = .ok (.aload_n 0, 1) := by decide +kernel
theorem dX9_writeOctets_1 : decode cX9_writeOctets 1 = .ok (.getfield 22, 3) := by decide +kernel
theorem dX9_writeOctets_4 : decode cX9_writeOctets 4 = .ok (.iconst 1, 1) := by decide +kernel
theorem dX9_writeOctets_5 : decode cX9_writeOctets 5 = .ok (.aaload, 1) := by decide +kernel
theorem dX9_writeOctets_6 : decode cX9_writeOctets 6 = .ok (.iload_n 1, 1) := by decide +kernel
theorem dX9_writeOctets_7 : decode cX9_writeOctets 7 = .ok (.iaload, 1) := by decide +kernel
theorem dX9_writeOctets_8 : decode cX9_writeOctets 8 = .ok (.istore_n 2, 1) := by decide +kernel
theorem dX9_writeOctets_9 : decode cX9_writeOctets 9 = .ok (.aload_n 0, 1) := by decide +kernel
theorem dX9_writeOctets_10 : decode cX9_writeOctets 10 = .ok (.getfield 22, 3) := by decide +kernel
theorem dX9_writeOctets_13 : decode cX9_writeOctets 13 = .ok (.iconst 0, 1) := by decide +kernel
theorem dX9_writeOctets_14 : decode cX9_writeOctets 14 = .ok (.aaload, 1) := by decide +kernel
theorem dX9_writeOctets_15 : decode cX9_writeOctets 15 = .ok (.iload_n 1, 1) := by decide +kernel
theorem dX9_writeOctets_16 : decode cX9_writeOctets 16 = .ok (.iaload, 1) := by decide +kernel
theorem dX9_writeOctets_17 : decode cX9_writeOctets 17 = .ok (.istore_n 3, 1) := by decide +kernel
theorem dX9_writeOctets_18 : decode cX9_writeOctets 18 = .ok (.iload_n 3, 1) := by decide +kernel
theorem dX9_writeOctets_19 : decode cX9_writeOctets 19 = .ok (.iconst 1, 1) := by decide +kernel
theorem dX9_writeOctets_20 : decode cX9_writeOctets 20 = .ok (.if_icmp .ne 14, 3) := by decide +kernel
theorem dX9_writeOctets_23 : decode cX9_writeOctets 23 = .ok (.aload_n 0, 1) := by decide +kernel
theorem dX9_writeOctets_24 : decode cX9_writeOctets 24 = .ok (.getfield 13, 3) := by decide +kernel
theorem dX9_writeOctets_27 : decode cX9_writeOctets 27 = .ok (.iconst 2, 1) := by decide +kernel
theorem dX9_writeOctets_28 : decode cX9_writeOctets 28 = .ok (.aaload, 1) := by decide +kernel
theorem dX9_writeOctets_29 : decode cX9_writeOctets 29 = .ok (.iload_n 2, 1) := by decide +kernel
theorem dX9_writeOctets_30 : decode cX9_writeOctets 30 = .ok (.iaload, 1) := by decide +kernel
theorem dX9_writeOctets_31 : decode cX9_writeOctets 31 = .ok (.goto 11, 3) := by decide +kernel
theorem dX9_writeOctets_34 : decode cX9_writeOctets 34 = .ok (.aload_n 0, 1) := by decide +kernel
theorem dX9_writeOctets_35 : decode cX9_writeOctets 35 = .ok (.getfield 22, 3) := by decide +kernel
theorem dX9_writeOctets_38 : decode cX9_writeOctets 38 = .ok (.iconst 2, 1) := by decide +kernel
theorem dX9_writeOctets_39 : decode cX9_writeOctets 39 = .ok (.aaload, 1) := by decide +kernel
theorem dX9_writeOctets_40 : decode cX9_writeOctets 40 = .ok (.iload_n 1, 1) := by decide +kernel
theorem dX9_writeOctets_41 : decode cX9_writeOctets 41 = .ok (.iaload, 1) := by decide +kernel
theorem dX9_writeOctets_42 : decode cX9_writeOctets 42 = .ok (.istore 4, 2) := by decide +kernel
theorem dX9_writeOctets_44 : decode cX9_writeOctets 44 = .ok (.iload_n 3, 1) := by decide +kernel
theorem dX9_writeOctets_45 : decode cX9_writeOctets 45 = .ok (.iconst 2, 1) := by decide +kernel
theorem dX9_writeOctets_46 : decode cX9_writeOctets 46 = .ok (.if_icmp .ne 22, 3) := by decide +kernel
theorem dX9_writeOctets_49 : decode cX9_writeOctets 49 = .ok (.bipush 6, 2) := by decide +kernel
theorem dX9_writeOctets_51 : decode cX9_writeOctets 51 = .ok (.bipush 7, 2) := by decide +kernel
theorem dX9_writeOctets_53 : decode cX9_writeOctets 53 = .ok (.aload_n 0, 1) := by decide +kernel
theorem dX9_writeOctets_54 : decode cX9_writeOctets 54 = .ok (.getfield 22, 3) := by decide +kernel
theorem dX9_writeOctets_57 : decode cX9_writeOctets 57 = .ok (.iconst 2, 1) := by decide +kernel
theorem dX9_writeOctets_58 : decode cX9_writeOctets 58 = .ok (.aaload, 1) := by decide +kernel
theorem dX9_writeOctets_59 : decode cX9_writeOctets 59 = .ok (.iload_n 1, 1) := by decide +kernel
theorem dX9_writeOctets_60 : decode cX9_writeOctets 60 = .ok (.iaload, 1) := by decide +kernel
theorem dX9_writeOctets_61 : decode cX9_writeOctets 61 = .ok (.iconst 1, 1) := by decide +kernel
theorem dX9_writeOctets_62 : decode cX9_writeOctets 62 = .ok (.isub, 1) := by decide +kernel
theorem dX9_writeOctets_63 : decode cX9_writeOctets 63 = .ok (.imul, 1) := by decide +kernel
theorem dX9_writeOctets_64 : decode cX9_writeOctets 64 = .ok (.iadd, 1) := by decide +kernel
theorem dX9_writeOctets_65 : decode cX9_writeOctets 65 = .ok (.goto 4, 3) := by decide +kernel
theorem dX9_writeOctets_68 : decode cX9_writeOctets 68 = .ok (.iconst 0, 1) := by decide +kernel
theorem dX9_writeOctets_69 : decode cX9_writeOctets 69 = .ok (.istore 5, 2) := by decide +kernel
theorem dX9_writeOctets_71 : decode cX9_writeOctets 71 = .ok (.iload_n 3, 1) := by decide +kernel
theorem dX9_writeOctets_72 : decode cX9_writeOctets 72 = .ok (.iconst 3, 1) := by decide +kernel
theorem dX9_writeOctets_73 : decode cX9_writeOctets 73 = .ok (.if_icmp .ne 7, 3) := by decide +kernel
theorem dX9_writeOctets_76 : decode cX9_writeOctets 76 = .ok (.iconst 0, 1) := by decide +kernel
theorem dX9_writeOctets_77 : decode cX9_writeOctets 77 = .ok (.goto 15, 3) := by decide +kernel
theorem dX9_writeOctets_80 : decode cX9_writeOctets 80 = .ok (.iload_n 3, 1) := by decide +kernel
theorem dX9_writeOctets_81 : decode cX9_writeOctets 81 = .ok (.iconst 1, 1) := by decide +kernel
theorem dX9_writeOctets_82 : decode cX9_writeOctets 82 = .ok (.if_icmp .ne 8, 3) := by decide +kernel
theorem dX9_writeOctets_85 : decode cX9_writeOctets 85 = .ok (.bipush 6, 2) := by decide +kernel
theorem dX9_writeOctets_87 : decode cX9_writeOctets 87 = .ok (.goto 5, 3) := by decide +kernel
theorem dX9_writeOctets_90 : decode cX9_writeOctets 90 = .ok (.bipush 7, 2) := by decide +kernel
theorem dX9_writeOctets_92 : decode cX9_writeOctets 92 = .ok (.istore 6, 2) := by decide +kernel
theorem dX9_writeOctets_94 : decode cX9_writeOctets 94 = .ok (.aload_n 0, 1) := by decide +kernel
theorem dX9_writeOctets_95 : decode cX9_writeOctets 95 = .ok (.getfield 25, 3) := by decide +kernel
theorem dX9_writeOctets_98 : decode cX9_writeOctets 98 = .ok (.iconst 0, 1) := by decide +kernel
theorem dX9_writeOctets_99 : decode cX9_writeOctets 99 = .ok (.bipush 16, 2) := by decide +kernel
theorem dX9_writeOctets_101 : decode cX9_writeOctets 101 = .ok (.iload_n 3, 1) := by decide +kernel
theorem dX9_writeOctets_102 : decode cX9_writeOctets 102 = .ok (.imul, 1) := by decide +kernel
theorem dX9_writeOctets_103 : decode cX9_writeOctets 103 = .ok (.iload 4, 2) := by decide +kernel
theorem dX9_writeOctets_105 : decode cX9_writeOctets 105 = .ok (.bipush 15, 2) := by decide +kernel
theorem dX9_writeOctets_107 : decode cX9_writeOctets 107 = .ok (.iand, 1) := by decide +kernel
theorem dX9_writeOctets_108 : decode cX9_writeOctets 108 = .ok (.iadd, 1) := by decide +kernel
theorem dX9_writeOctets_109 : decode cX9_writeOctets 109 = .ok (.iastore, 1) := by decide +kernel
theorem dX9_writeOctets_110 : decode cX9_writeOctets 110 = .ok (.iconst 0, 1) := by decide +kernel
theorem dX9_writeOctets_111 : decode cX9_writeOctets 111 = .ok (.istore 7, 2) := by decide +kernel
theorem dX9_writeOctets_113 : decode cX9_writeOctets 113 = .ok (.iload 7, 2) := by decide +kernel
theorem dX9_writeOctets_115 : decode cX9_writeOctets 115 = .ok (.bipush 7, 2) := by decide +kernel
theorem dX9_writeOctets_117 : decode cX9_writeOctets 117 = .ok (.if_icmp .ge 74, 3) := by decide +kernel
theorem dX9_writeOctets_120 : decode cX9_writeOctets 120 = .ok (.iload 7, 2) := by decide +kernel
theorem dX9_writeOctets_122 : decode cX9_writeOctets 122 = .ok (.iload 6, 2) := by decide +kernel
theorem dX9_writeOctets_124 : decode cX9_writeOctets 124 = .ok (.if_icmp .ge 28, 3) := by decide +kernel
theorem dX9_writeOctets_127 : decode cX9_writeOctets 127 = .ok (.iload 5, 2) := by decide +kernel
theorem dX9_writeOctets_129 : decode cX9_writeOctets 129 = .ok (.ifCond .lt 23, 3) := by decide +kernel
theorem dX9_writeOctets_132 : decode cX9_writeOctets 132 = .ok (.iload 5, 2) := by decide +kernel
theorem dX9_writeOctets_134 : decode cX9_writeOctets 134 = .ok (.iload 7, 2) := by decide +kernel
theorem dX9_writeOctets_136 : decode cX9_writeOctets 136 = .ok (.iadd, 1) := by decide +kernel
theorem dX9_writeOctets_137 : decode cX9_writeOctets 137 = .ok (.aload_n 0, 1) := by decide +kernel
theorem dX9_writeOctets_138 : decode cX9_writeOctets 138 = .ok (.getfield 13, 3) := by decide +kernel
theorem dX9_writeOctets_141 : decode cX9_writeOctets 141 = .ok (.iconst 2, 1) := by decide +kernel
theorem dX9_writeOctets_142 : decode cX9_writeOctets 142 = .ok (.aaload, 1) := by decide +kernel
theorem dX9_writeOctets_143 : decode cX9_writeOctets 143 = .ok (.iload_n 2, 1) := by decide +kernel
theorem dX9_writeOctets_144 : decode cX9_writeOctets 144 = .ok (.iaload, 1) := by decide +kernel
theorem dX9_writeOctets_145 : decode cX9_writeOctets 145 = .ok (.if_icmp .ge 7, 3) := by decide +kernel
theorem dX9_writeOctets_148 : decode cX9_writeOctets 148 = .ok (.iconst 1, 1) := by decide +kernel
theorem dX9_writeOctets_149 : decode cX9_writeOctets 149 = .ok (.goto 4, 3) := by decide +kernel
theorem dX9_writeOctets_152 : decode cX9_writeOctets 152 = .ok (.iconst 0, 1) := by decide +kernel
theorem dX9_writeOctets_153 : decode cX9_writeOctets 153 = .ok (.istore 8, 2) := by decide +kernel
theorem dX9_writeOctets_155 : decode cX9_writeOctets 155 = .ok (.aload_n 0, 1) := by decide +kernel
theorem dX9_writeOctets_156 : decode cX9_writeOctets 156 = .ok (.getfield 25, 3) := by decide +kernel
theorem dX9_writeOctets_159 : decode cX9_writeOctets 159 = .ok (.iconst 1, 1) := by decide +kernel
theorem dX9_writeOctets_160 : decode cX9_writeOctets 160 = .ok (.iload 7, 2) := by decide +kernel
theorem dX9_writeOctets_162 : decode cX9_writeOctets 162 = .ok (.iadd, 1) := by decide +kernel
theorem dX9_writeOctets_163 : decode cX9_writeOctets 163 = .ok (.iload 8, 2) := by decide +kernel
theorem dX9_writeOctets_165 : decode cX9_writeOctets 165 = .ok (.ifCond .eq 18, 3) := by decide +kernel
theorem dX9_writeOctets_168 : decode cX9_writeOctets 168 = .ok (.aload_n 0, 1) := by decide +kernel
theorem dX9_writeOctets_169 : decode cX9_writeOctets 169 = .ok (.getfield 16, 3) := by decide +kernel
theorem dX9_writeOctets_172 : decode cX9_writeOctets 172 = .ok (.iload_n 2, 1) := by decide +kernel
theorem dX9_writeOctets_173 : decode cX9_writeOctets 173 = .ok (.aaload, 1) := by decide +kernel
theorem dX9_writeOctets_174 : decode cX9_writeOctets 174 = .ok (.iload 5, 2) := by decide +kernel
theorem dX9_writeOctets_176 : decode cX9_writeOctets 176 = .ok (.iload 7, 2) := by decide +kernel
theorem dX9_writeOctets_178 : decode cX9_writeOctets 178 = .ok (.iadd, 1) := by decide +kernel
theorem dX9_writeOctets_179 : decode cX9_writeOctets 179 = .ok (.iaload, 1) := by decide +kernel
theorem dX9_writeOctets_180 : decode cX9_writeOctets 180 = .ok (.goto 4, 3) := by decide +kernel
theorem dX9_writeOctets_183 : decode cX9_writeOctets 183 = .ok (.iconst 0, 1) := by decide +kernel
theorem dX9_writeOctets_184 : decode cX9_writeOctets 184 = .ok (.iastore, 1) := by decide +kernel
theorem dX9_writeOctets_185 : decode cX9_writeOctets 185 = .ok (.iinc 7 1, 3) := by decide +kernel
theorem dX9_writeOctets_188 : decode cX9_writeOctets 188 = .ok (.goto (-75), 3) := by decide +kernel
theorem dX9_writeOctets_191 : decode cX9_writeOctets 191 = .ok (.return_, 1) := by decide +kernel
theorem cwX9_writeOctets : mw_cwV yX9_writeOctets cX9_writeOctets 9 (none) 1 := ⟨⟨wd_10, wd_1780, by decide +kernel⟩, wd_1778, wd_1779⟩
set_option maxHeartbeats 4000000 in
set_option maxRecDepth 100000 in
theorem tX9_writeOctets (l : Launch) (G : mwG) (ad : Nat → Nat) (fu : Nat) (a1 : Int32) (M : mwM) (L : mwL) {M0 : mwM} {L0 : mwL} (hD : DX9_writeOctets fu a1 M L = some (M0, L0)) : Met l yX9_writeOctets (Cond.code yX9_writeOctets cX9_writeOctets 9 (none) :: GT) ({ frames := 0, cells := 0, slots := 0, locals := 0 }) (mw_Pre G ad NF TF FF M L [.ref (ad 154), .int a1]) (mw_Qv G ad NF TF FF (mw_eqV M0 L0)) 0 0 (mw_fr G) := by
  refine mw_enter (by decide) (Nat.le_of_ble_eq_true rfl) ?_
  intro p e s m below meth c ls C hr hlocks hnm hw hl
  have hl : lv_has ls 9 [(0, .ref (ad 154)), (1, .int a1)] := hl
  have hh113 : ∀ (f : Nat) (v2 : Int32) (v5 : Int32) (v6 : Int32) (v7 : Int32) (M : mwM) (L : mwL) (H : Heap) (locs : List Loc) (ls : Array Slot), fX9_writeOctets_h113 fu a1 f (v2, v5, v6, v7, M, L) = some (M0, L0) → mw_W G ad NF TF FF M L H locs → lv_has ls 9 [(0, .ref (ad 154)), (2, .int v2), (5, .int v5), (6, .int v6), (7, .int v7)] → W p l e ({ frames := 0, cells := 0, slots := 0, locals := 0 }) s m [.ref (ad 154), .int a1].toArray below meth c H locs 0 0 (MQ below (mw_Qv G ad NF TF FF (mw_eqV M0 L0)) [.ref (ad 154), .int a1].toArray s 0 0 (mw_fr G)) (F0 m 113 ls []) := by
    intro f
    induction f with
    | zero => intro v2 v5 v6 v7 M L H locs ls hD; cases hD
    | succ f113 ih113 =>
      intro v2 v5 v6 v7 M L H locs ls hD hw hl
      replace hD : fX9_writeOctets_i113 fu a1 (fX9_writeOctets_h113 fu a1 f113) v2 v5 v6 v7 M L = some (M0, L0) := hD
      have hb184 : ∀ (v2 : Int32) (v5 : Int32) (v6 : Int32) (v7 : Int32) (s1 : Int32) (s2 : Int32) (M : mwM) (L : mwL) (H : Heap) (locs : List Loc) (ls : Array Slot), fX9_writeOctets_b184 fu a1 (fX9_writeOctets_h113 fu a1 f113) v2 v5 v6 v7 s1 s2 M L = some (M0, L0) → mw_W G ad NF TF FF M L H locs → lv_has ls 9 [(0, .ref (ad 154)), (2, .int v2), (5, .int v5), (6, .int v6), (7, .int v7)] → W p l e ({ frames := 0, cells := 0, slots := 0, locals := 0 }) s m [.ref (ad 154), .int a1].toArray below meth c H locs 0 0 (MQ below (mw_Qv G ad NF TF FF (mw_eqV M0 L0)) [.ref (ad 154), .int a1].toArray s 0 0 (mw_fr G)) (F0 m 184 ls [.int s2, .int s1, .ref (ad 274)]) := by
        intro v2 v5 v6 v7 s1 s2 M L H locs ls hD hw hl
        unfold fX9_writeOctets_b184 at hD
        obtain ⟨q17, hD⟩ := g_ck hD
        obtain ⟨M18, eM18, hD⟩ := g_let hD
        refine mr_iast C hw (by decide) tf_274 q17 dX9_writeOctets_184 (fun H locs hw => ?_)
        replace hw : mw_W G ad NF TF FF M18 L H locs := by rw [eM18]; exact hw
        obtain ⟨x19, ex19, hD⟩ := g_let hD
        refine lv_iinc (v := x19) (lv' := [(7, .int x19), (0, .ref (ad 154)), (2, .int v2), (5, .int v5), (6, .int v6)]) C.1.1 C.1.2.1 dX9_writeOctets_185 hl (k := 4) rfl (by rw [ex19]; rfl) (by decide) rfl (fun ls hl => ?_)
        refine lv_goto (tgt := 113) C.1.1 C.1.2.1 dX9_writeOctets_188 (by decide) ?_
        exact ih113 v2 v5 v6 x19 M18 L _ _ ls hD hw (lv_sub hl [1, 2, 3, 4, 0] rfl)
      have hb153 : ∀ (v2 : Int32) (v5 : Int32) (v6 : Int32) (v7 : Int32) (s0 : Int32) (M : mwM) (L : mwL) (H : Heap) (locs : List Loc) (ls : Array Slot), fX9_writeOctets_b153 fu a1 (fX9_writeOctets_h113 fu a1 f113) v2 v5 v6 v7 s0 M L = some (M0, L0) → mw_W G ad NF TF FF M L H locs → lv_has ls 9 [(0, .ref (ad 154)), (2, .int v2), (5, .int v5), (6, .int v6), (7, .int v7)] → W p l e ({ frames := 0, cells := 0, slots := 0, locals := 0 }) s m [.ref (ad 154), .int a1].toArray below meth c H locs 0 0 (MQ below (mw_Qv G ad NF TF FF (mw_eqV M0 L0)) [.ref (ad 154), .int a1].toArray s 0 0 (mw_fr G)) (F0 m 153 ls [.int s0]) := by
        intro v2 v5 v6 v7 s0 M L H locs ls hD hw hl
        unfold fX9_writeOctets_b153 at hD
        refine lv_istore (lv' := [(8, .int s0), (0, .ref (ad 154)), (2, .int v2), (5, .int v5), (6, .int v6), (7, .int v7)]) C.1.1 C.1.2.1 dX9_writeOctets_153 hl (by decide) rfl (fun ls hl => ?_)
        refine lv_aload_n C.1.1 C.1.2.1 dX9_writeOctets_155 rfl (lv_at hl 1 rfl) ?_
        refine mr_getR C hw kc_9 4 (by decide) tf_154 ff_154_4 wd_366 dX9_writeOctets_156 (by decide) rfl ?_
        refine lv_iconst (v := 1) C.1.1 C.1.2.1 dX9_writeOctets_159 (by decide) ?_
        refine lv_iload C.1.1 C.1.2.1 dX9_writeOctets_160 (lv_at hl 5 rfl) ?_
        refine lv_iadd C.1.1 C.1.2.1 dX9_writeOctets_162 ?_
        refine lv_iload C.1.1 C.1.2.1 dX9_writeOctets_163 (lv_at hl 0 rfl) ?_
        refine lv_if_eq (tgt := 183) C.1.1 C.1.2.1 dX9_writeOctets_165 (by decide) (fun c14 => ?_) (fun c14 => ?_)
        · replace hD := g_pos c14 hD
          refine lv_iconst (v := 0) C.1.1 C.1.2.1 dX9_writeOctets_183 (by decide) ?_
          exact hb184 v2 v5 v6 v7 (1 + v7) 0 M L _ _ ls hD hw (lv_sub hl [1, 2, 3, 4, 5] rfl)
        · replace hD := g_neg c14 hD
          refine lv_aload_n C.1.1 C.1.2.1 dX9_writeOctets_168 rfl (lv_at hl 1 rfl) ?_
          refine mr_getR C hw kc_9 1 (by decide) tf_154 ff_154_1 wd_361 dX9_writeOctets_169 (by decide) rfl ?_
          refine lv_iload_n C.1.1 C.1.2.1 dX9_writeOctets_172 rfl (lv_at hl 2 rfl) ?_
          obtain ⟨q15, hD⟩ := g_ck hD
          refine mr_aald C hw (by decide) tf_161 (by decide) (by decide) rfl rfl q15 (fr_161 _ (g_lt q15)).1 dX9_writeOctets_173 ?_
          refine lv_iload C.1.1 C.1.2.1 dX9_writeOctets_174 (lv_at hl 3 rfl) ?_
          refine lv_iload C.1.1 C.1.2.1 dX9_writeOctets_176 (lv_at hl 5 rfl) ?_
          refine lv_iadd C.1.1 C.1.2.1 dX9_writeOctets_178 ?_
          obtain ⟨q16, hD⟩ := g_ck hD
          refine mr_iald C hw (fr_161 _ (g_lt q15)).2.2 (fr_161 _ (g_lt q15)).2.1 q16 dX9_writeOctets_179 ?_
          refine lv_goto (tgt := 184) C.1.1 C.1.2.1 dX9_writeOctets_180 (by decide) ?_
          exact hb184 v2 v5 v6 v7 (1 + v7) (M (162 + v2.toNatClampNeg) (v5 + v7).toNatClampNeg) M L _ _ ls hD hw (lv_sub hl [1, 2, 3, 4, 5] rfl)
      have hb152 : ∀ (v2 : Int32) (v5 : Int32) (v6 : Int32) (v7 : Int32) (M : mwM) (L : mwL) (H : Heap) (locs : List Loc) (ls : Array Slot), fX9_writeOctets_b152 fu a1 (fX9_writeOctets_h113 fu a1 f113) v2 v5 v6 v7 M L = some (M0, L0) → mw_W G ad NF TF FF M L H locs → lv_has ls 9 [(0, .ref (ad 154)), (2, .int v2), (5, .int v5), (6, .int v6), (7, .int v7)] → W p l e ({ frames := 0, cells := 0, slots := 0, locals := 0 }) s m [.ref (ad 154), .int a1].toArray below meth c H locs 0 0 (MQ below (mw_Qv G ad NF TF FF (mw_eqV M0 L0)) [.ref (ad 154), .int a1].toArray s 0 0 (mw_fr G)) (F0 m 152 ls []) := by
        intro v2 v5 v6 v7 M L H locs ls hD hw hl
        unfold fX9_writeOctets_b152 at hD
        refine lv_iconst (v := 0) C.1.1 C.1.2.1 dX9_writeOctets_152 (by decide) ?_
        exact hb153 v2 v5 v6 v7 0 M L _ _ ls hD hw (lv_sub hl [0, 1, 2, 3, 4] rfl)
      unfold fX9_writeOctets_i113 at hD
      refine lv_iload C.1.1 C.1.2.1 dX9_writeOctets_113 (lv_at hl 4 rfl) ?_
      refine lv_bipush (v := 7) C.1.1 C.1.2.1 dX9_writeOctets_115 (by decide) ?_
      refine lv_icmp_ge (tgt := 191) C.1.1 C.1.2.1 dX9_writeOctets_117 (by decide) (fun c8 => ?_) (fun c8 => ?_)
      · replace hD := g_pos c8 hD
        exact mr_vret C hr hlocks hw (Option.some.inj hD) dX9_writeOctets_191
      · replace hD := g_neg c8 hD
        refine lv_iload C.1.1 C.1.2.1 dX9_writeOctets_120 (lv_at hl 4 rfl) ?_
        refine lv_iload C.1.1 C.1.2.1 dX9_writeOctets_122 (lv_at hl 3 rfl) ?_
        refine lv_icmp_ge (tgt := 152) C.1.1 C.1.2.1 dX9_writeOctets_124 (by decide) (fun c9 => ?_) (fun c9 => ?_)
        · replace hD := g_pos c9 hD
          exact hb152 v2 v5 v6 v7 M L _ _ ls hD hw (lv_sub hl [0, 1, 2, 3, 4] rfl)
        · replace hD := g_neg c9 hD
          refine lv_iload C.1.1 C.1.2.1 dX9_writeOctets_127 (lv_at hl 2 rfl) ?_
          refine lv_if_lt (tgt := 152) C.1.1 C.1.2.1 dX9_writeOctets_129 (by decide) (fun c10 => ?_) (fun c10 => ?_)
          · replace hD := g_pos c10 hD
            exact hb152 v2 v5 v6 v7 M L _ _ ls hD hw (lv_sub hl [0, 1, 2, 3, 4] rfl)
          · replace hD := g_neg c10 hD
            refine lv_iload C.1.1 C.1.2.1 dX9_writeOctets_132 (lv_at hl 2 rfl) ?_
            refine lv_iload C.1.1 C.1.2.1 dX9_writeOctets_134 (lv_at hl 4 rfl) ?_
            refine lv_iadd C.1.1 C.1.2.1 dX9_writeOctets_136 ?_
            refine lv_aload_n C.1.1 C.1.2.1 dX9_writeOctets_137 rfl (lv_at hl 0 rfl) ?_
            refine mr_getR C hw kc_9 0 (by decide) tf_154 ff_154_0 wd_358 dX9_writeOctets_138 (by decide) rfl ?_
            refine lv_iconst (v := 2) C.1.1 C.1.2.1 dX9_writeOctets_141 (by decide) ?_
            refine mr_aald C hw (by decide) tf_155 (by decide) (by decide) rfl rfl (show vp_in 2 5 from by unfold vp_in; decide) ff_155_2 dX9_writeOctets_142 ?_
            refine lv_iload_n C.1.1 C.1.2.1 dX9_writeOctets_143 rfl (lv_at hl 1 rfl) ?_
            obtain ⟨q12, hD⟩ := g_ck hD
            refine mr_iald C hw (by decide) tf_158 q12 dX9_writeOctets_144 ?_
            refine lv_icmp_ge (tgt := 152) C.1.1 C.1.2.1 dX9_writeOctets_145 (by decide) (fun c13 => ?_) (fun c13 => ?_)
            · replace hD := g_pos c13 hD
              exact hb152 v2 v5 v6 v7 M L _ _ ls hD hw (lv_sub hl [0, 1, 2, 3, 4] rfl)
            · replace hD := g_neg c13 hD
              refine lv_iconst (v := 1) C.1.1 C.1.2.1 dX9_writeOctets_148 (by decide) ?_
              refine lv_goto (tgt := 153) C.1.1 C.1.2.1 dX9_writeOctets_149 (by decide) ?_
              exact hb153 v2 v5 v6 v7 1 M L _ _ ls hD hw (lv_sub hl [0, 1, 2, 3, 4] rfl)
  have hb92 : ∀ (v2 : Int32) (v3 : Int32) (v4 : Int32) (v5 : Int32) (s0 : Int32) (M : mwM) (L : mwL) (H : Heap) (locs : List Loc) (ls : Array Slot), fX9_writeOctets_b92 fu a1 v2 v3 v4 v5 s0 M L = some (M0, L0) → mw_W G ad NF TF FF M L H locs → lv_has ls 9 [(0, .ref (ad 154)), (2, .int v2), (3, .int v3), (4, .int v4), (5, .int v5)] → W p l e ({ frames := 0, cells := 0, slots := 0, locals := 0 }) s m [.ref (ad 154), .int a1].toArray below meth c H locs 0 0 (MQ below (mw_Qv G ad NF TF FF (mw_eqV M0 L0)) [.ref (ad 154), .int a1].toArray s 0 0 (mw_fr G)) (F0 m 92 ls [.int s0]) := by
    intro v2 v3 v4 v5 s0 M L H locs ls hD hw hl
    unfold fX9_writeOctets_b92 at hD
    refine lv_istore (lv' := [(6, .int s0), (0, .ref (ad 154)), (2, .int v2), (3, .int v3), (4, .int v4), (5, .int v5)]) C.1.1 C.1.2.1 dX9_writeOctets_92 hl (by decide) rfl (fun ls hl => ?_)
    refine lv_aload_n C.1.1 C.1.2.1 dX9_writeOctets_94 rfl (lv_at hl 1 rfl) ?_
    refine mr_getR C hw kc_9 4 (by decide) tf_154 ff_154_4 wd_366 dX9_writeOctets_95 (by decide) rfl ?_
    refine lv_iconst (v := 0) C.1.1 C.1.2.1 dX9_writeOctets_98 (by decide) ?_
    refine lv_bipush (v := 16) C.1.1 C.1.2.1 dX9_writeOctets_99 (by decide) ?_
    refine lv_iload_n C.1.1 C.1.2.1 dX9_writeOctets_101 rfl (lv_at hl 3 rfl) ?_
    refine lv_imul C.1.1 C.1.2.1 dX9_writeOctets_102 ?_
    refine lv_iload C.1.1 C.1.2.1 dX9_writeOctets_103 (lv_at hl 4 rfl) ?_
    refine lv_bipush (v := 15) C.1.1 C.1.2.1 dX9_writeOctets_105 (by decide) ?_
    refine lv_iand C.1.1 C.1.2.1 dX9_writeOctets_107 ?_
    refine lv_iadd C.1.1 C.1.2.1 dX9_writeOctets_108 ?_
    obtain ⟨M7, eM7, hD⟩ := g_let hD
    refine mr_iast C hw (by decide) tf_274 (show vp_in 0 8 from by unfold vp_in; decide) dX9_writeOctets_109 (fun H locs hw => ?_)
    replace hw : mw_W G ad NF TF FF M7 L H locs := by rw [eM7]; exact hw
    refine lv_iconst (v := 0) C.1.1 C.1.2.1 dX9_writeOctets_110 (by decide) ?_
    refine lv_istore (lv' := [(7, .int 0), (6, .int s0), (0, .ref (ad 154)), (2, .int v2), (3, .int v3), (4, .int v4), (5, .int v5)]) C.1.1 C.1.2.1 dX9_writeOctets_111 hl (by decide) rfl (fun ls hl => ?_)
    exact hh113 fu v2 v5 s0 0 M7 L _ _ ls hD hw (lv_sub hl [2, 3, 6, 1, 0] rfl)
  have hb69 : ∀ (v2 : Int32) (v3 : Int32) (v4 : Int32) (s0 : Int32) (M : mwM) (L : mwL) (H : Heap) (locs : List Loc) (ls : Array Slot), fX9_writeOctets_b69 fu a1 v2 v3 v4 s0 M L = some (M0, L0) → mw_W G ad NF TF FF M L H locs → lv_has ls 9 [(0, .ref (ad 154)), (2, .int v2), (3, .int v3), (4, .int v4)] → W p l e ({ frames := 0, cells := 0, slots := 0, locals := 0 }) s m [.ref (ad 154), .int a1].toArray below meth c H locs 0 0 (MQ below (mw_Qv G ad NF TF FF (mw_eqV M0 L0)) [.ref (ad 154), .int a1].toArray s 0 0 (mw_fr G)) (F0 m 69 ls [.int s0]) := by
    intro v2 v3 v4 s0 M L H locs ls hD hw hl
    unfold fX9_writeOctets_b69 at hD
    refine lv_istore (lv' := [(5, .int s0), (0, .ref (ad 154)), (2, .int v2), (3, .int v3), (4, .int v4)]) C.1.1 C.1.2.1 dX9_writeOctets_69 hl (by decide) rfl (fun ls hl => ?_)
    refine lv_iload_n C.1.1 C.1.2.1 dX9_writeOctets_71 rfl (lv_at hl 3 rfl) ?_
    refine lv_iconst (v := 3) C.1.1 C.1.2.1 dX9_writeOctets_72 (by decide) ?_
    refine lv_icmp_ne (tgt := 80) C.1.1 C.1.2.1 dX9_writeOctets_73 (by decide) (fun c4 => ?_) (fun c4 => ?_)
    · replace hD := g_neg c4 hD
      refine lv_iload_n C.1.1 C.1.2.1 dX9_writeOctets_80 rfl (lv_at hl 3 rfl) ?_
      refine lv_iconst (v := 1) C.1.1 C.1.2.1 dX9_writeOctets_81 (by decide) ?_
      refine lv_icmp_ne (tgt := 90) C.1.1 C.1.2.1 dX9_writeOctets_82 (by decide) (fun c5 => ?_) (fun c5 => ?_)
      · replace hD := g_neg c5 hD
        refine lv_bipush (v := 7) C.1.1 C.1.2.1 dX9_writeOctets_90 (by decide) ?_
        exact hb92 v2 v3 v4 s0 7 M L _ _ ls hD hw (lv_sub hl [1, 2, 3, 4, 0] rfl)
      · replace hD := g_pos c5 hD
        refine lv_bipush (v := 6) C.1.1 C.1.2.1 dX9_writeOctets_85 (by decide) ?_
        refine lv_goto (tgt := 92) C.1.1 C.1.2.1 dX9_writeOctets_87 (by decide) ?_
        exact hb92 v2 v3 v4 s0 6 M L _ _ ls hD hw (lv_sub hl [1, 2, 3, 4, 0] rfl)
    · replace hD := g_pos c4 hD
      refine lv_iconst (v := 0) C.1.1 C.1.2.1 dX9_writeOctets_76 (by decide) ?_
      refine lv_goto (tgt := 92) C.1.1 C.1.2.1 dX9_writeOctets_77 (by decide) ?_
      exact hb92 v2 v3 v4 s0 0 M L _ _ ls hD hw (lv_sub hl [1, 2, 3, 4, 0] rfl)
  have hb42 : ∀ (v2 : Int32) (v3 : Int32) (s0 : Int32) (M : mwM) (L : mwL) (H : Heap) (locs : List Loc) (ls : Array Slot), fX9_writeOctets_b42 fu a1 v2 v3 s0 M L = some (M0, L0) → mw_W G ad NF TF FF M L H locs → lv_has ls 9 [(0, .ref (ad 154)), (1, .int a1), (2, .int v2), (3, .int v3)] → W p l e ({ frames := 0, cells := 0, slots := 0, locals := 0 }) s m [.ref (ad 154), .int a1].toArray below meth c H locs 0 0 (MQ below (mw_Qv G ad NF TF FF (mw_eqV M0 L0)) [.ref (ad 154), .int a1].toArray s 0 0 (mw_fr G)) (F0 m 42 ls [.int s0]) := by
    intro v2 v3 s0 M L H locs ls hD hw hl
    unfold fX9_writeOctets_b42 at hD
    refine lv_istore (lv' := [(4, .int s0), (0, .ref (ad 154)), (1, .int a1), (2, .int v2), (3, .int v3)]) C.1.1 C.1.2.1 dX9_writeOctets_42 hl (by decide) rfl (fun ls hl => ?_)
    refine lv_iload_n C.1.1 C.1.2.1 dX9_writeOctets_44 rfl (lv_at hl 4 rfl) ?_
    refine lv_iconst (v := 2) C.1.1 C.1.2.1 dX9_writeOctets_45 (by decide) ?_
    refine lv_icmp_ne (tgt := 68) C.1.1 C.1.2.1 dX9_writeOctets_46 (by decide) (fun c1 => ?_) (fun c1 => ?_)
    · replace hD := g_neg c1 hD
      refine lv_iconst (v := 0) C.1.1 C.1.2.1 dX9_writeOctets_68 (by decide) ?_
      exact hb69 v2 v3 s0 0 M L _ _ ls hD hw (lv_sub hl [1, 3, 4, 0] rfl)
    · replace hD := g_pos c1 hD
      refine lv_bipush (v := 6) C.1.1 C.1.2.1 dX9_writeOctets_49 (by decide) ?_
      refine lv_bipush (v := 7) C.1.1 C.1.2.1 dX9_writeOctets_51 (by decide) ?_
      refine lv_aload_n C.1.1 C.1.2.1 dX9_writeOctets_53 rfl (lv_at hl 1 rfl) ?_
      refine mr_getR C hw kc_9 3 (by decide) tf_154 ff_154_3 wd_365 dX9_writeOctets_54 (by decide) rfl ?_
      refine lv_iconst (v := 2) C.1.1 C.1.2.1 dX9_writeOctets_57 (by decide) ?_
      refine mr_aald C hw (by decide) tf_269 (by decide) (by decide) rfl rfl (show vp_in 2 4 from by unfold vp_in; decide) ff_269_2 dX9_writeOctets_58 ?_
      refine lv_iload_n C.1.1 C.1.2.1 dX9_writeOctets_59 rfl (lv_at hl 2 rfl) ?_
      obtain ⟨q3, hD⟩ := g_ck hD
      refine mr_iald C hw (by decide) tf_272 q3 dX9_writeOctets_60 ?_
      refine lv_iconst (v := 1) C.1.1 C.1.2.1 dX9_writeOctets_61 (by decide) ?_
      refine lv_isub C.1.1 C.1.2.1 dX9_writeOctets_62 ?_
      refine lv_imul C.1.1 C.1.2.1 dX9_writeOctets_63 ?_
      refine lv_iadd C.1.1 C.1.2.1 dX9_writeOctets_64 ?_
      refine lv_goto (tgt := 69) C.1.1 C.1.2.1 dX9_writeOctets_65 (by decide) ?_
      exact hb69 v2 v3 s0 (6 + (7 * ((M 272 a1.toNatClampNeg) - 1))) M L _ _ ls hD hw (lv_sub hl [1, 3, 4, 0] rfl)
  unfold DX9_writeOctets at hD
  refine lv_aload_n C.1.1 C.1.2.1 dX9_writeOctets_0 rfl (lv_at hl 0 rfl) ?_
  refine mr_getR C hw kc_9 3 (by decide) tf_154 ff_154_3 wd_365 dX9_writeOctets_1 (by decide) rfl ?_
  refine lv_iconst (v := 1) C.1.1 C.1.2.1 dX9_writeOctets_4 (by decide) ?_
  refine mr_aald C hw (by decide) tf_269 (by decide) (by decide) rfl rfl (show vp_in 1 4 from by unfold vp_in; decide) ff_269_1 dX9_writeOctets_5 ?_
  refine lv_iload_n C.1.1 C.1.2.1 dX9_writeOctets_6 rfl (lv_at hl 1 rfl) ?_
  obtain ⟨q21, hD⟩ := g_ck hD
  refine mr_iald C hw (by decide) tf_271 q21 dX9_writeOctets_7 ?_
  obtain ⟨x22, ex22, hD⟩ := g_let hD
  refine W.eq (g2 := F0 m 8 ls (.int x22 :: [])) (by rw [ex22]) ?_
  refine lv_istore_n (lv' := [(2, .int x22), (0, .ref (ad 154)), (1, .int a1)]) C.1.1 C.1.2.1 dX9_writeOctets_8 rfl hl (by decide) rfl (fun ls hl => ?_)
  refine lv_aload_n C.1.1 C.1.2.1 dX9_writeOctets_9 rfl (lv_at hl 1 rfl) ?_
  refine mr_getR C hw kc_9 3 (by decide) tf_154 ff_154_3 wd_365 dX9_writeOctets_10 (by decide) rfl ?_
  refine lv_iconst (v := 0) C.1.1 C.1.2.1 dX9_writeOctets_13 (by decide) ?_
  refine mr_aald C hw (by decide) tf_269 (by decide) (by decide) rfl rfl (show vp_in 0 4 from by unfold vp_in; decide) ff_269_0 dX9_writeOctets_14 ?_
  refine lv_iload_n C.1.1 C.1.2.1 dX9_writeOctets_15 rfl (lv_at hl 2 rfl) ?_
  obtain ⟨q24, hD⟩ := g_ck hD
  refine mr_iald C hw (by decide) tf_270 q24 dX9_writeOctets_16 ?_
  obtain ⟨x25, ex25, hD⟩ := g_let hD
  refine W.eq (g2 := F0 m 17 ls (.int x25 :: [])) (by rw [ex25]) ?_
  refine lv_istore_n (lv' := [(3, .int x25), (2, .int x22), (0, .ref (ad 154)), (1, .int a1)]) C.1.1 C.1.2.1 dX9_writeOctets_17 rfl hl (by decide) rfl (fun ls hl => ?_)
  refine lv_iload_n C.1.1 C.1.2.1 dX9_writeOctets_18 rfl (lv_at hl 0 rfl) ?_
  refine lv_iconst (v := 1) C.1.1 C.1.2.1 dX9_writeOctets_19 (by decide) ?_
  refine lv_icmp_ne (tgt := 34) C.1.1 C.1.2.1 dX9_writeOctets_20 (by decide) (fun c26 => ?_) (fun c26 => ?_)
  · replace hD := g_neg c26 hD
    refine lv_aload_n C.1.1 C.1.2.1 dX9_writeOctets_34 rfl (lv_at hl 2 rfl) ?_
    refine mr_getR C hw kc_9 3 (by decide) tf_154 ff_154_3 wd_365 dX9_writeOctets_35 (by decide) rfl ?_
    refine lv_iconst (v := 2) C.1.1 C.1.2.1 dX9_writeOctets_38 (by decide) ?_
    refine mr_aald C hw (by decide) tf_269 (by decide) (by decide) rfl rfl (show vp_in 2 4 from by unfold vp_in; decide) ff_269_2 dX9_writeOctets_39 ?_
    refine lv_iload_n C.1.1 C.1.2.1 dX9_writeOctets_40 rfl (lv_at hl 3 rfl) ?_
    obtain ⟨q28, hD⟩ := g_ck hD
    refine mr_iald C hw (by decide) tf_272 q28 dX9_writeOctets_41 ?_
    exact hb42 x22 x25 (M 272 a1.toNatClampNeg) M L _ _ ls hD hw (lv_sub hl [2, 3, 1, 0] rfl)
  · replace hD := g_pos c26 hD
    refine lv_aload_n C.1.1 C.1.2.1 dX9_writeOctets_23 rfl (lv_at hl 2 rfl) ?_
    refine mr_getR C hw kc_9 0 (by decide) tf_154 ff_154_0 wd_358 dX9_writeOctets_24 (by decide) rfl ?_
    refine lv_iconst (v := 2) C.1.1 C.1.2.1 dX9_writeOctets_27 (by decide) ?_
    refine mr_aald C hw (by decide) tf_155 (by decide) (by decide) rfl rfl (show vp_in 2 5 from by unfold vp_in; decide) ff_155_2 dX9_writeOctets_28 ?_
    refine lv_iload_n C.1.1 C.1.2.1 dX9_writeOctets_29 rfl (lv_at hl 1 rfl) ?_
    obtain ⟨q30, hD⟩ := g_ck hD
    refine mr_iald C hw (by decide) tf_158 q30 dX9_writeOctets_30 ?_
    refine lv_goto (tgt := 42) C.1.1 C.1.2.1 dX9_writeOctets_31 (by decide) ?_
    exact hb42 x22 x25 (M 158 x22.toNatClampNeg) M L _ _ ls hD hw (lv_sub hl [2, 3, 1, 0] rfl)
