theorem dX19_run_0 : decode cX19_run 0 = .ok (.aload_n 0, 1) := by decide +kernel
theorem dX19_run_1 : decode cX19_run 1 = .ok (.iload_n 1, 1) := by decide +kernel
theorem dX19_run_2 : decode cX19_run 2 = .ok (.ifCond .ge 7, 3) := by decide +kernel
theorem dX19_run_5 : decode cX19_run 5 = .ok (.iconst 1, 1) := by decide +kernel
theorem dX19_run_6 : decode cX19_run 6 = .ok (.goto 27, 3) := by decide +kernel
theorem dX19_run_9 : decode cX19_run 9 = .ok (.aload_n 0, 1) := by decide +kernel
theorem dX19_run_10 : decode cX19_run 10 = .ok (.getfield 630, 3) := by decide +kernel
theorem dX19_run_13 : decode cX19_run 13 = .ok (.ifCond .eq 15, 3) := by decide +kernel
theorem dX19_run_16 : decode cX19_run 16 = .ok (.iload_n 1, 1) := by decide +kernel
theorem dX19_run_17 : decode cX19_run 17 = .ok (.sipush 20000, 3) := by decide +kernel
theorem dX19_run_20 : decode cX19_run 20 = .ok (.aload_n 0, 1) := by decide +kernel
theorem dX19_run_21 : decode cX19_run 21 = .ok (.getfield 600, 3) := by decide +kernel
theorem dX19_run_24 : decode cX19_run 24 = .ok (.isub, 1) := by decide +kernel
theorem dX19_run_25 : decode cX19_run 25 = .ok (.if_icmp .le 7, 3) := by decide +kernel
theorem dX19_run_28 : decode cX19_run 28 = .ok (.iconst 2, 1) := by decide +kernel
theorem dX19_run_29 : decode cX19_run 29 = .ok (.goto 4, 3) := by decide +kernel
theorem dX19_run_32 : decode cX19_run 32 = .ok (.iconst 0, 1) := by decide +kernel
theorem dX19_run_33 : decode cX19_run 33 = .ok (.putfield 289, 3) := by decide +kernel
theorem dX19_run_36 : decode cX19_run 36 = .ok (.aload_n 0, 1) := by decide +kernel
theorem dX19_run_37 : decode cX19_run 37 = .ok (.getfield 289, 3) := by decide +kernel
theorem dX19_run_40 : decode cX19_run 40 = .ok (.ifCond .le 5, 3) := by decide +kernel
theorem dX19_run_43 : decode cX19_run 43 = .ok (.iconst 0, 1) := by decide +kernel
theorem dX19_run_44 : decode cX19_run 44 = .ok (.ireturn, 1) := by decide +kernel
theorem dX19_run_45 : decode cX19_run 45 = .ok (.aload_n 0, 1) := by decide +kernel
theorem dX19_run_46 : decode cX19_run 46 = .ok (.getfield 184, 3) := by decide +kernel
theorem dX19_run_49 : decode cX19_run 49 = .ok (.iconst (-1), 1) := by decide +kernel
theorem dX19_run_50 : decode cX19_run 50 = .ok (.iconst 0, 1) := by decide +kernel
theorem dX19_run_51 : decode cX19_run 51 = .ok (.invokevirtual 807, 3) := by decide +kernel
theorem dX19_run_54 : decode cX19_run 54 = .ok (.istore_n 2, 1) := by decide +kernel
theorem dX19_run_55 : decode cX19_run 55 = .ok (.iconst 0, 1) := by decide +kernel
theorem dX19_run_56 : decode cX19_run 56 = .ok (.istore_n 3, 1) := by decide +kernel
theorem dX19_run_57 : decode cX19_run 57 = .ok (.iload_n 3, 1) := by decide +kernel
theorem dX19_run_58 : decode cX19_run 58 = .ok (.iload_n 1, 1) := by decide +kernel
theorem dX19_run_59 : decode cX19_run 59 = .ok (.if_icmp .ge 13, 3) := by decide +kernel
theorem dX19_run_62 : decode cX19_run 62 = .ok (.aload_n 0, 1) := by decide +kernel
theorem dX19_run_63 : decode cX19_run 63 = .ok (.invokevirtual 809, 3) := by decide +kernel
theorem dX19_run_66 : decode cX19_run 66 = .ok (.iinc 3 1, 3) := by decide +kernel
theorem dX19_run_69 : decode cX19_run 69 = .ok (.goto (-12), 3) := by decide +kernel
theorem dX19_run_72 : decode cX19_run 72 = .ok (.aload_n 0, 1) := by decide +kernel
theorem dX19_run_73 : decode cX19_run 73 = .ok (.getfield 184, 3) := by decide +kernel
theorem dX19_run_76 : decode cX19_run 76 = .ok (.iconst (-1), 1) := by decide +kernel
theorem dX19_run_77 : decode cX19_run 77 = .ok (.iconst 0, 1) := by decide +kernel
theorem dX19_run_78 : decode cX19_run 78 = .ok (.invokevirtual 807, 3) := by decide +kernel
theorem dX19_run_81 : decode cX19_run 81 = .ok (.iload_n 2, 1) := by decide +kernel
theorem dX19_run_82 : decode cX19_run 82 = .ok (.isub, 1) := by decide +kernel
theorem dX19_run_83 : decode cX19_run 83 = .ok (.ireturn, 1) := by decide +kernel
theorem cwX19_run : mw_cwV yX19_run cX19_run 4 ((some .int)) 1 := ⟨⟨wd_13, wd_3537, by decide +kernel⟩, wd_3535, wd_3536⟩
set_option maxHeartbeats 4000000 in
set_option maxRecDepth 100000 in
theorem tX19_run (l : Launch) (G : mwG) (ad : Nat → Nat) (fu : Nat) (a1 : Int32) (M : mwM) (L : mwL) {r0 : Int32} {M0 : mwM} {L0 : mwL} (hD : DX19_run fu a1 M L = some (r0, M0, L0)) : Met l yX19_run (Cond.code yX19_run cX19_run 4 ((some .int)) :: GT) ({ frames := 10, cells := 0, slots := 0, locals := 254 }) (mw_Pre G ad NF TF FF M L [.ref (ad 732), .int a1]) (mw_Qi G ad NF TF FF (mw_eqI r0 M0 L0)) 0 0 (mw_fr G) := by
  refine mw_enter (by decide) (Nat.le_of_ble_eq_true rfl) ?_
  intro p e s m below meth c ls C hr hlocks hnm hw hl
  have hl : lv_has ls 4 [(0, .ref (ad 732)), (1, .int a1)] := hl
  have hh57 : ∀ (f : Nat) (v2 : Int32) (v3 : Int32) (M : mwM) (L : mwL) (H : Heap) (locs : List Loc) (ls : Array Slot), fX19_run_h57 fu a1 f (v2, v3, M, L) = some (r0, M0, L0) → mw_W G ad NF TF FF M L H locs → lv_has ls 4 [(0, .ref (ad 732)), (1, .int a1), (2, .int v2), (3, .int v3)] → W p l e ({ frames := 10, cells := 0, slots := 0, locals := 254 }) s m [.ref (ad 732), .int a1].toArray below meth c H locs 0 0 (MQ below (mw_Qi G ad NF TF FF (mw_eqI r0 M0 L0)) [.ref (ad 732), .int a1].toArray s 0 0 (mw_fr G)) (F0 m 57 ls []) := by
    intro f
    induction f with
    | zero => intro v2 v3 M L H locs ls hD; cases hD
    | succ f57 ih57 =>
      intro v2 v3 M L H locs ls hD hw hl
      replace hD : fX19_run_i57 fu a1 (fX19_run_h57 fu a1 f57) v2 v3 M L = some (r0, M0, L0) := hD
      unfold fX19_run_i57 at hD
      refine lv_iload_n C.1.1 C.1.2.1 dX19_run_57 rfl (lv_at hl 3 rfl) ?_
      refine lv_iload_n C.1.1 C.1.2.1 dX19_run_58 rfl (lv_at hl 1 rfl) ?_
      refine lv_icmp_ge (tgt := 72) C.1.1 C.1.2.1 dX19_run_59 (by decide) (fun c6 => ?_) (fun c6 => ?_)
      · replace hD := g_pos c6 hD
        refine lv_aload_n C.1.1 C.1.2.1 dX19_run_72 rfl (lv_at hl 0 rfl) ?_
        refine mr_getR C hw kc_19 77 (by decide) tf_732 ff_732_77 wd_2858 dX19_run_73 (by decide) rfl ?_
        refine lv_iconst (v := (-1)) C.1.1 C.1.2.1 dX19_run_76 (by decide) ?_
        refine lv_iconst (v := 0) C.1.1 C.1.2.1 dX19_run_77 (by decide) ?_
        obtain ⟨r9, M7, L8, h1, hD⟩ := g_b3 hD
        refine md_cvI (As := [.int ((-1)), .int 0]) (rest := []) C hw (tX12_done l G ad fu ((-1)) 0 M L h1) kc_12 (by decide) tf_821 wd_3538 cwX12_done ⟨Nat.le_of_ble_eq_true rfl, Nat.le_of_ble_eq_true rfl⟩ rfl hl.1 (Nat.le_of_ble_eq_true rfl) dX19_run_78 rfl rfl ⟨Nat.zero_le _, Nat.zero_le _⟩ rfl (fun H locs hw => ?_)
        refine lv_iload_n C.1.1 C.1.2.1 dX19_run_81 rfl (lv_at hl 2 rfl) ?_
        refine lv_isub C.1.1 C.1.2.1 dX19_run_82 ?_
        exact mr_iret C hr hlocks hw rfl (Option.some.inj hD) dX19_run_83
      · replace hD := g_neg c6 hD
        refine lv_aload_n C.1.1 C.1.2.1 dX19_run_62 rfl (lv_at hl 0 rfl) ?_
        obtain ⟨M10, L11, h1, hD⟩ := g_b2 hD
        refine md_cvV (As := []) (rest := []) C hw (tX19_microsecond l G ad fu M L h1) kc_19 (by decide) tf_732 wd_3542 cwX19_microsecond ⟨Nat.le_of_ble_eq_true rfl, Nat.le_of_ble_eq_true rfl⟩ rfl hl.1 (Nat.le_of_ble_eq_true rfl) dX19_run_63 rfl rfl ⟨Nat.zero_le _, Nat.zero_le _⟩ rfl (fun H locs hw => ?_)
        obtain ⟨x12, ex12, hD⟩ := g_let hD
        refine lv_iinc (v := x12) (lv' := [(3, .int x12), (0, .ref (ad 732)), (1, .int a1), (2, .int v2)]) C.1.1 C.1.2.1 dX19_run_66 hl (k := 3) rfl (by rw [ex12]; rfl) (by decide) rfl (fun ls hl => ?_)
        refine lv_goto (tgt := 57) C.1.1 C.1.2.1 dX19_run_69 (by decide) ?_
        exact ih57 v2 x12 M10 L11 _ _ ls hD hw (lv_sub hl [1, 2, 3, 0] rfl)
  have hb33 : ∀ (s1 : Int32) (M : mwM) (L : mwL) (H : Heap) (locs : List Loc) (ls : Array Slot), fX19_run_b33 fu a1 s1 M L = some (r0, M0, L0) → mw_W G ad NF TF FF M L H locs → lv_has ls 4 [(0, .ref (ad 732)), (1, .int a1)] → W p l e ({ frames := 10, cells := 0, slots := 0, locals := 254 }) s m [.ref (ad 732), .int a1].toArray below meth c H locs 0 0 (MQ below (mw_Qi G ad NF TF FF (mw_eqI r0 M0 L0)) [.ref (ad 732), .int a1].toArray s 0 0 (mw_fr G)) (F0 m 33 ls [.int s1, .ref (ad 732)]) := by
    intro s1 M L H locs ls hD hw hl
    unfold fX19_run_b33 at hD
    obtain ⟨M1, eM1, hD⟩ := g_let hD
    refine mr_putI C hw kc_19 0 (by decide) tf_732 wd_2781 dX19_run_33 (by decide) rfl rfl rfl rfl (fun H locs hw => ?_)
    replace hw : mw_W G ad NF TF FF M1 L H locs := by rw [eM1]; exact hw
    refine lv_aload_n C.1.1 C.1.2.1 dX19_run_36 rfl (lv_at hl 0 rfl) ?_
    refine mr_getI C hw kc_19 0 (by decide) tf_732 wd_2781 dX19_run_37 (by decide) rfl ?_
    refine lv_if_le (tgt := 45) C.1.1 C.1.2.1 dX19_run_40 (by decide) (fun c2 => ?_) (fun c2 => ?_)
    · replace hD := g_pos c2 hD
      refine lv_aload_n C.1.1 C.1.2.1 dX19_run_45 rfl (lv_at hl 0 rfl) ?_
      refine mr_getR C hw kc_19 77 (by decide) tf_732 ff_732_77 wd_2858 dX19_run_46 (by decide) rfl ?_
      refine lv_iconst (v := (-1)) C.1.1 C.1.2.1 dX19_run_49 (by decide) ?_
      refine lv_iconst (v := 0) C.1.1 C.1.2.1 dX19_run_50 (by decide) ?_
      obtain ⟨r5, M3, L4, h1, hD⟩ := g_b3 hD
      refine md_cvI (As := [.int ((-1)), .int 0]) (rest := []) C hw (tX12_done l G ad fu ((-1)) 0 M1 L h1) kc_12 (by decide) tf_821 wd_3538 cwX12_done ⟨Nat.le_of_ble_eq_true rfl, Nat.le_of_ble_eq_true rfl⟩ rfl hl.1 (Nat.le_of_ble_eq_true rfl) dX19_run_51 rfl rfl ⟨Nat.zero_le _, Nat.zero_le _⟩ rfl (fun H locs hw => ?_)
      refine lv_istore_n (lv' := [(2, .int r5), (0, .ref (ad 732)), (1, .int a1)]) C.1.1 C.1.2.1 dX19_run_54 rfl hl (by decide) rfl (fun ls hl => ?_)
      refine lv_iconst (v := 0) C.1.1 C.1.2.1 dX19_run_55 (by decide) ?_
      refine lv_istore_n (lv' := [(3, .int 0), (2, .int r5), (0, .ref (ad 732)), (1, .int a1)]) C.1.1 C.1.2.1 dX19_run_56 rfl hl (by decide) rfl (fun ls hl => ?_)
      exact hh57 fu r5 0 M3 L4 _ _ ls hD hw (lv_sub hl [2, 3, 1, 0] rfl)
    · replace hD := g_neg c2 hD
      refine lv_iconst (v := 0) C.1.1 C.1.2.1 dX19_run_43 (by decide) ?_
      exact mr_iret C hr hlocks hw rfl (Option.some.inj hD) dX19_run_44
  have hb28 : ∀ (M : mwM) (L : mwL) (H : Heap) (locs : List Loc) (ls : Array Slot), fX19_run_b28 fu a1 M L = some (r0, M0, L0) → mw_W G ad NF TF FF M L H locs → lv_has ls 4 [(0, .ref (ad 732)), (1, .int a1)] → W p l e ({ frames := 10, cells := 0, slots := 0, locals := 254 }) s m [.ref (ad 732), .int a1].toArray below meth c H locs 0 0 (MQ below (mw_Qi G ad NF TF FF (mw_eqI r0 M0 L0)) [.ref (ad 732), .int a1].toArray s 0 0 (mw_fr G)) (F0 m 28 ls [.ref (ad 732)]) := by
    intro M L H locs ls hD hw hl
    unfold fX19_run_b28 at hD
    refine lv_iconst (v := 2) C.1.1 C.1.2.1 dX19_run_28 (by decide) ?_
    refine lv_goto (tgt := 33) C.1.1 C.1.2.1 dX19_run_29 (by decide) ?_
    exact hb33 2 M L _ _ ls hD hw (lv_sub hl [0, 1] rfl)
  unfold DX19_run at hD
  refine lv_aload_n C.1.1 C.1.2.1 dX19_run_0 rfl (lv_at hl 0 rfl) ?_
  refine lv_iload_n C.1.1 C.1.2.1 dX19_run_1 rfl (lv_at hl 1 rfl) ?_
  refine lv_if_ge (tgt := 9) C.1.1 C.1.2.1 dX19_run_2 (by decide) (fun c13 => ?_) (fun c13 => ?_)
  · replace hD := g_pos c13 hD
    refine lv_aload_n C.1.1 C.1.2.1 dX19_run_9 rfl (lv_at hl 0 rfl) ?_
    refine mr_getI C hw kc_19 4 (by decide) tf_732 wd_2785 dX19_run_10 (by decide) rfl ?_
    refine lv_if_eq (tgt := 28) C.1.1 C.1.2.1 dX19_run_13 (by decide) (fun c14 => ?_) (fun c14 => ?_)
    · replace hD := g_pos c14 hD
      exact hb28 M L _ _ ls hD hw (lv_sub hl [0, 1] rfl)
    · replace hD := g_neg c14 hD
      refine lv_iload_n C.1.1 C.1.2.1 dX19_run_16 rfl (lv_at hl 1 rfl) ?_
      refine lv_sipush (v := 20000) C.1.1 C.1.2.1 dX19_run_17 (by decide) ?_
      refine lv_aload_n C.1.1 C.1.2.1 dX19_run_20 rfl (lv_at hl 0 rfl) ?_
      refine mr_getI C hw kc_19 83 (by decide) tf_732 wd_2864 dX19_run_21 (by decide) rfl ?_
      refine lv_isub C.1.1 C.1.2.1 dX19_run_24 ?_
      refine lv_icmp_le (tgt := 32) C.1.1 C.1.2.1 dX19_run_25 (by decide) (fun c15 => ?_) (fun c15 => ?_)
      · replace hD := g_pos c15 hD
        refine lv_iconst (v := 0) C.1.1 C.1.2.1 dX19_run_32 (by decide) ?_
        exact hb33 0 M L _ _ ls hD hw (lv_sub hl [0, 1] rfl)
      · replace hD := g_neg c15 hD
        exact hb28 M L _ _ ls hD hw (lv_sub hl [0, 1] rfl)
  · replace hD := g_neg c13 hD
    refine lv_iconst (v := 1) C.1.1 C.1.2.1 dX19_run_5 (by decide) ?_
    refine lv_goto (tgt := 33) C.1.1 C.1.2.1 dX19_run_6 (by decide) ?_
    exact hb33 1 M L _ _ ls hD hw (lv_sub hl [0, 1] rfl)

theorem dX19_place_0 : decode cX19_place 0 = .ok (.aload_n 0, 1) := by decide +kernel
theorem dX19_place_1 : decode cX19_place 1 = .ok (.iconst 0, 1) := by decide +kernel
theorem dX19_place_2 : decode cX19_place 2 = .ok (.putfield 289, 3) := by decide +kernel
theorem dX19_place_5 : decode cX19_place 5 = .ok (.aload_n 0, 1) := by decide +kernel
theorem dX19_place_6 : decode cX19_place 6 = .ok (.getfield 634, 3) := by decide +kernel
theorem dX19_place_9 : decode cX19_place 9 = .ok (.ireturn, 1) := by decide +kernel
theorem cwX19_place : mw_cwV yX19_place cX19_place 1 ((some .int)) 0 := ⟨⟨wd_13, wd_4189, by decide +kernel⟩, wd_4187, wd_4188⟩
set_option maxHeartbeats 4000000 in
set_option maxRecDepth 100000 in
theorem tX19_place (l : Launch) (G : mwG) (ad : Nat → Nat) (fu : Nat) (M : mwM) (L : mwL) {r0 : Int32} {M0 : mwM} {L0 : mwL} (hD : DX19_place fu M L = some (r0, M0, L0)) : Met l yX19_place (Cond.code yX19_place cX19_place 1 ((some .int)) :: GT) ({ frames := 0, cells := 0, slots := 0, locals := 0 }) (mw_Pre G ad NF TF FF M L [.ref (ad 732)]) (mw_Qi G ad NF TF FF (mw_eqI r0 M0 L0)) 0 0 (mw_fr G) := by
  refine mw_enter (by decide) (Nat.le_of_ble_eq_true rfl) ?_
  intro p e s m below meth c ls C hr hlocks hnm hw hl
  have hl : lv_has ls 1 [(0, .ref (ad 732))] := hl
  unfold DX19_place at hD
  refine lv_aload_n C.1.1 C.1.2.1 dX19_place_0 rfl (lv_at hl 0 rfl) ?_
  refine lv_iconst (v := 0) C.1.1 C.1.2.1 dX19_place_1 (by decide) ?_
  obtain ⟨M1, eM1, hD⟩ := g_let hD
  refine mr_putI C hw kc_19 0 (by decide) tf_732 wd_2781 dX19_place_2 (by decide) rfl rfl rfl rfl (fun H locs hw => ?_)
  replace hw : mw_W G ad NF TF FF M1 L H locs := by rw [eM1]; exact hw
  refine lv_aload_n C.1.1 C.1.2.1 dX19_place_5 rfl (lv_at hl 0 rfl) ?_
  refine mr_getI C hw kc_19 5 (by decide) tf_732 wd_2786 dX19_place_6 (by decide) rfl ?_
  exact mr_iret C hr hlocks hw rfl (Option.some.inj hD) dX19_place_9

theorem dX19_count_0 : decode cX19_count 0 = .ok (.aload_n 0, 1) := by decide +kernel
theorem dX19_count_1 : decode cX19_count 1 = .ok (.iload_n 1, 1) := by decide +kernel
theorem dX19_count_2 : decode cX19_count 2 = .ok (.ifCond .lt 9, 3) := by decide +kernel
theorem dX19_count_5 : decode cX19_count 5 = .ok (.iload_n 1, 1) := by decide +kernel
theorem dX19_count_6 : decode cX19_count 6 = .ok (.bipush 6, 2) := by decide +kernel
theorem dX19_count_8 : decode cX19_count 8 = .ok (.if_icmp .le 7, 3) := by decide +kernel
theorem dX19_count_11 : decode cX19_count 11 = .ok (.iconst 1, 1) := by decide +kernel
theorem dX19_count_12 : decode cX19_count 12 = .ok (.goto 15, 3) := by decide +kernel
theorem dX19_count_15 : decode cX19_count 15 = .ok (.aload_n 0, 1) := by decide +kernel
theorem dX19_count_16 : decode cX19_count 16 = .ok (.getfield 630, 3) := by decide +kernel
theorem dX19_count_19 : decode cX19_count 19 = .ok (.ifCond .ne 7, 3) := by decide +kernel
theorem dX19_count_22 : decode cX19_count 22 = .ok (.iconst 2, 1) := by decide +kernel
theorem dX19_count_23 : decode cX19_count 23 = .ok (.goto 4, 3) := by decide +kernel
theorem dX19_count_26 : decode cX19_count 26 = .ok (.iconst 0, 1) := by decide +kernel
theorem dX19_count_27 : decode cX19_count 27 = .ok (.putfield 289, 3) := by decide +kernel
theorem dX19_count_30 : decode cX19_count 30 = .ok (.aload_n 0, 1) := by decide +kernel
theorem dX19_count_31 : decode cX19_count 31 = .ok (.getfield 289, 3) := by decide +kernel
theorem dX19_count_34 : decode cX19_count 34 = .ok (.ifCond .le 5, 3) := by decide +kernel
theorem dX19_count_37 : decode cX19_count 37 = .ok (.iconst 0, 1) := by decide +kernel
theorem dX19_count_38 : decode cX19_count 38 = .ok (.ireturn, 1) := by decide +kernel
theorem dX19_count_39 : decode cX19_count 39 = .ok (.iload_n 1, 1) := by decide +kernel
theorem dX19_count_40 : decode cX19_count 40 = .ok (.iconst 2, 1) := by decide +kernel
theorem dX19_count_41 : decode cX19_count 41 = .ok (.if_icmp .ge 19, 3) := by decide +kernel
theorem dX19_count_44 : decode cX19_count 44 = .ok (.iload_n 1, 1) := by decide +kernel
theorem dX19_count_45 : decode cX19_count 45 = .ok (.ifCond .ne 10, 3) := by decide +kernel
theorem dX19_count_48 : decode cX19_count 48 = .ok (.aload_n 0, 1) := by decide +kernel
theorem dX19_count_49 : decode cX19_count 49 = .ok (.getfield 435, 3) := by decide +kernel
theorem dX19_count_52 : decode cX19_count 52 = .ok (.goto 7, 3) := by decide +kernel
theorem dX19_count_55 : decode cX19_count 55 = .ok (.aload_n 0, 1) := by decide +kernel
theorem dX19_count_56 : decode cX19_count 56 = .ok (.getfield 448, 3) := by decide +kernel
theorem dX19_count_59 : decode cX19_count 59 = .ok (.ireturn, 1) := by decide +kernel
theorem dX19_count_60 : decode cX19_count 60 = .ok (.iload_n 1, 1) := by decide +kernel
theorem dX19_count_61 : decode cX19_count 61 = .ok (.iconst 4, 1) := by decide +kernel
theorem dX19_count_62 : decode cX19_count 62 = .ok (.if_icmp .ge 20, 3) := by decide +kernel
theorem dX19_count_65 : decode cX19_count 65 = .ok (.iload_n 1, 1) := by decide +kernel
theorem dX19_count_66 : decode cX19_count 66 = .ok (.iconst 2, 1) := by decide +kernel
theorem dX19_count_67 : decode cX19_count 67 = .ok (.if_icmp .ne 10, 3) := by decide +kernel
theorem dX19_count_70 : decode cX19_count 70 = .ok (.aload_n 0, 1) := by decide +kernel
theorem dX19_count_71 : decode cX19_count 71 = .ok (.getfield 456, 3) := by decide +kernel
theorem dX19_count_74 : decode cX19_count 74 = .ok (.goto 7, 3) := by decide +kernel
theorem dX19_count_77 : decode cX19_count 77 = .ok (.aload_n 0, 1) := by decide +kernel
theorem dX19_count_78 : decode cX19_count 78 = .ok (.getfield 541, 3) := by decide +kernel
theorem dX19_count_81 : decode cX19_count 81 = .ok (.ireturn, 1) := by decide +kernel
theorem dX19_count_82 : decode cX19_count 82 = .ok (.iload_n 1, 1) := by decide +kernel
theorem dX19_count_83 : decode cX19_count 83 = .ok (.iconst 4, 1) := by decide +kernel
theorem dX19_count_84 : decode cX19_count 84 = .ok (.if_icmp .ne 10, 3) := by decide +kernel
theorem dX19_count_87 : decode cX19_count 87 = .ok (.aload_n 0, 1) := by decide +kernel
theorem dX19_count_88 : decode cX19_count 88 = .ok (.getfield 568, 3) := by decide +kernel
theorem dX19_count_91 : decode cX19_count 91 = .ok (.goto 19, 3) := by decide +kernel
theorem dX19_count_94 : decode cX19_count 94 = .ok (.iload_n 1, 1) := by decide +kernel
theorem dX19_count_95 : decode cX19_count 95 = .ok (.iconst 5, 1) := by decide +kernel
theorem dX19_count_96 : decode cX19_count 96 = .ok (.if_icmp .ne 10, 3) := by decide +kernel
theorem dX19_count_99 : decode cX19_count 99 = .ok (.aload_n 0, 1) := by decide +kernel
theorem dX19_count_100 : decode cX19_count 100 = .ok (.getfield 555, 3) := by decide +kernel
theorem dX19_count_103 : decode cX19_count 103 = .ok (.goto 7, 3) := by decide +kernel
theorem dX19_count_106 : decode cX19_count 106 = .ok (.aload_n 0, 1) := by decide +kernel
theorem dX19_count_107 : decode cX19_count 107 = .ok (.getfield 558, 3) := by decide +kernel
theorem dX19_count_110 : decode cX19_count 110 = .ok (.ireturn, 1) := by decide +kernel
theorem cwX19_count : mw_cwV yX19_count cX19_count 2 ((some .int)) 1 := ⟨⟨wd_13, wd_4193, by decide +kernel⟩, wd_4191, wd_4192⟩
set_option maxHeartbeats 4000000 in
set_option maxRecDepth 100000 in
theorem tX19_count (l : Launch) (G : mwG) (ad : Nat → Nat) (fu : Nat) (a1 : Int32) (M : mwM) (L : mwL) {r0 : Int32} {M0 : mwM} {L0 : mwL} (hD : DX19_count fu a1 M L = some (r0, M0, L0)) : Met l yX19_count (Cond.code yX19_count cX19_count 2 ((some .int)) :: GT) ({ frames := 0, cells := 0, slots := 0, locals := 0 }) (mw_Pre G ad NF TF FF M L [.ref (ad 732), .int a1]) (mw_Qi G ad NF TF FF (mw_eqI r0 M0 L0)) 0 0 (mw_fr G) := by
  refine mw_enter (by decide) (Nat.le_of_ble_eq_true rfl) ?_
  intro p e s m below meth c ls C hr hlocks hnm hw hl
  have hl : lv_has ls 2 [(0, .ref (ad 732)), (1, .int a1)] := hl
  have hb110 : ∀ (s0 : Int32) (M : mwM) (L : mwL) (H : Heap) (locs : List Loc) (ls : Array Slot), fX19_count_b110 fu a1 s0 M L = some (r0, M0, L0) → mw_W G ad NF TF FF M L H locs → lv_has ls 2 [] → W p l e ({ frames := 0, cells := 0, slots := 0, locals := 0 }) s m [.ref (ad 732), .int a1].toArray below meth c H locs 0 0 (MQ below (mw_Qi G ad NF TF FF (mw_eqI r0 M0 L0)) [.ref (ad 732), .int a1].toArray s 0 0 (mw_fr G)) (F0 m 110 ls [.int s0]) := by
    intro s0 M L H locs ls hD hw hl
    unfold fX19_count_b110 at hD
    exact mr_iret C hr hlocks hw rfl (Option.some.inj hD) dX19_count_110
  have hb81 : ∀ (s0 : Int32) (M : mwM) (L : mwL) (H : Heap) (locs : List Loc) (ls : Array Slot), fX19_count_b81 fu a1 s0 M L = some (r0, M0, L0) → mw_W G ad NF TF FF M L H locs → lv_has ls 2 [] → W p l e ({ frames := 0, cells := 0, slots := 0, locals := 0 }) s m [.ref (ad 732), .int a1].toArray below meth c H locs 0 0 (MQ below (mw_Qi G ad NF TF FF (mw_eqI r0 M0 L0)) [.ref (ad 732), .int a1].toArray s 0 0 (mw_fr G)) (F0 m 81 ls [.int s0]) := by
    intro s0 M L H locs ls hD hw hl
    unfold fX19_count_b81 at hD
    exact mr_iret C hr hlocks hw rfl (Option.some.inj hD) dX19_count_81
  have hb59 : ∀ (s0 : Int32) (M : mwM) (L : mwL) (H : Heap) (locs : List Loc) (ls : Array Slot), fX19_count_b59 fu a1 s0 M L = some (r0, M0, L0) → mw_W G ad NF TF FF M L H locs → lv_has ls 2 [] → W p l e ({ frames := 0, cells := 0, slots := 0, locals := 0 }) s m [.ref (ad 732), .int a1].toArray below meth c H locs 0 0 (MQ below (mw_Qi G ad NF TF FF (mw_eqI r0 M0 L0)) [.ref (ad 732), .int a1].toArray s 0 0 (mw_fr G)) (F0 m 59 ls [.int s0]) := by
    intro s0 M L H locs ls hD hw hl
    unfold fX19_count_b59 at hD
    exact mr_iret C hr hlocks hw rfl (Option.some.inj hD) dX19_count_59
  have hb27 : ∀ (s1 : Int32) (M : mwM) (L : mwL) (H : Heap) (locs : List Loc) (ls : Array Slot), fX19_count_b27 fu a1 s1 M L = some (r0, M0, L0) → mw_W G ad NF TF FF M L H locs → lv_has ls 2 [(0, .ref (ad 732)), (1, .int a1)] → W p l e ({ frames := 0, cells := 0, slots := 0, locals := 0 }) s m [.ref (ad 732), .int a1].toArray below meth c H locs 0 0 (MQ below (mw_Qi G ad NF TF FF (mw_eqI r0 M0 L0)) [.ref (ad 732), .int a1].toArray s 0 0 (mw_fr G)) (F0 m 27 ls [.int s1, .ref (ad 732)]) := by
    intro s1 M L H locs ls hD hw hl
    unfold fX19_count_b27 at hD
    obtain ⟨M1, eM1, hD⟩ := g_let hD
    refine mr_putI C hw kc_19 0 (by decide) tf_732 wd_2781 dX19_count_27 (by decide) rfl rfl rfl rfl (fun H locs hw => ?_)
    replace hw : mw_W G ad NF TF FF M1 L H locs := by rw [eM1]; exact hw
    refine lv_aload_n C.1.1 C.1.2.1 dX19_count_30 rfl (lv_at hl 0 rfl) ?_
    refine mr_getI C hw kc_19 0 (by decide) tf_732 wd_2781 dX19_count_31 (by decide) rfl ?_
    refine lv_if_le (tgt := 39) C.1.1 C.1.2.1 dX19_count_34 (by decide) (fun c2 => ?_) (fun c2 => ?_)
    · replace hD := g_pos c2 hD
      refine lv_iload_n C.1.1 C.1.2.1 dX19_count_39 rfl (lv_at hl 1 rfl) ?_
      refine lv_iconst (v := 2) C.1.1 C.1.2.1 dX19_count_40 (by decide) ?_
      refine lv_icmp_ge (tgt := 60) C.1.1 C.1.2.1 dX19_count_41 (by decide) (fun c3 => ?_) (fun c3 => ?_)
      · replace hD := g_pos c3 hD
        refine lv_iload_n C.1.1 C.1.2.1 dX19_count_60 rfl (lv_at hl 1 rfl) ?_
        refine lv_iconst (v := 4) C.1.1 C.1.2.1 dX19_count_61 (by decide) ?_
        refine lv_icmp_ge (tgt := 82) C.1.1 C.1.2.1 dX19_count_62 (by decide) (fun c4 => ?_) (fun c4 => ?_)
        · replace hD := g_pos c4 hD
          refine lv_iload_n C.1.1 C.1.2.1 dX19_count_82 rfl (lv_at hl 1 rfl) ?_
          refine lv_iconst (v := 4) C.1.1 C.1.2.1 dX19_count_83 (by decide) ?_
          refine lv_icmp_ne (tgt := 94) C.1.1 C.1.2.1 dX19_count_84 (by decide) (fun c5 => ?_) (fun c5 => ?_)
          · replace hD := g_neg c5 hD
            refine lv_iload_n C.1.1 C.1.2.1 dX19_count_94 rfl (lv_at hl 1 rfl) ?_
            refine lv_iconst (v := 5) C.1.1 C.1.2.1 dX19_count_95 (by decide) ?_
            refine lv_icmp_ne (tgt := 106) C.1.1 C.1.2.1 dX19_count_96 (by decide) (fun c6 => ?_) (fun c6 => ?_)
            · replace hD := g_neg c6 hD
              refine lv_aload_n C.1.1 C.1.2.1 dX19_count_106 rfl (lv_at hl 0 rfl) ?_
              refine mr_getI C hw kc_19 62 (by decide) tf_732 wd_2843 dX19_count_107 (by decide) rfl ?_
              exact hb110 (M1 732 62) M1 L _ _ ls hD hw (lv_sub hl [] rfl)
            · replace hD := g_pos c6 hD
              refine lv_aload_n C.1.1 C.1.2.1 dX19_count_99 rfl (lv_at hl 0 rfl) ?_
              refine mr_getI C hw kc_19 55 (by decide) tf_732 wd_2836 dX19_count_100 (by decide) rfl ?_
              refine lv_goto (tgt := 110) C.1.1 C.1.2.1 dX19_count_103 (by decide) ?_
              exact hb110 (M1 732 55) M1 L _ _ ls hD hw (lv_sub hl [] rfl)
          · replace hD := g_pos c5 hD
            refine lv_aload_n C.1.1 C.1.2.1 dX19_count_87 rfl (lv_at hl 0 rfl) ?_
            refine mr_getI C hw kc_19 67 (by decide) tf_732 wd_2848 dX19_count_88 (by decide) rfl ?_
            refine lv_goto (tgt := 110) C.1.1 C.1.2.1 dX19_count_91 (by decide) ?_
            exact hb110 (M1 732 67) M1 L _ _ ls hD hw (lv_sub hl [] rfl)
        · replace hD := g_neg c4 hD
          refine lv_iload_n C.1.1 C.1.2.1 dX19_count_65 rfl (lv_at hl 1 rfl) ?_
          refine lv_iconst (v := 2) C.1.1 C.1.2.1 dX19_count_66 (by decide) ?_
          refine lv_icmp_ne (tgt := 77) C.1.1 C.1.2.1 dX19_count_67 (by decide) (fun c7 => ?_) (fun c7 => ?_)
          · replace hD := g_neg c7 hD
            refine lv_aload_n C.1.1 C.1.2.1 dX19_count_77 rfl (lv_at hl 0 rfl) ?_
            refine mr_getI C hw kc_19 45 (by decide) tf_732 wd_2826 dX19_count_78 (by decide) rfl ?_
            exact hb81 (M1 732 45) M1 L _ _ ls hD hw (lv_sub hl [] rfl)
          · replace hD := g_pos c7 hD
            refine lv_aload_n C.1.1 C.1.2.1 dX19_count_70 rfl (lv_at hl 0 rfl) ?_
            refine mr_getI C hw kc_19 33 (by decide) tf_732 wd_2814 dX19_count_71 (by decide) rfl ?_
            refine lv_goto (tgt := 81) C.1.1 C.1.2.1 dX19_count_74 (by decide) ?_
            exact hb81 (M1 732 33) M1 L _ _ ls hD hw (lv_sub hl [] rfl)
      · replace hD := g_neg c3 hD
        refine lv_iload_n C.1.1 C.1.2.1 dX19_count_44 rfl (lv_at hl 1 rfl) ?_
        refine lv_if_ne (tgt := 55) C.1.1 C.1.2.1 dX19_count_45 (by decide) (fun c8 => ?_) (fun c8 => ?_)
        · replace hD := g_neg c8 hD
          refine lv_aload_n C.1.1 C.1.2.1 dX19_count_55 rfl (lv_at hl 0 rfl) ?_
          refine mr_getI C hw kc_19 24 (by decide) tf_732 wd_2805 dX19_count_56 (by decide) rfl ?_
          exact hb59 (M1 732 24) M1 L _ _ ls hD hw (lv_sub hl [] rfl)
        · replace hD := g_pos c8 hD
          refine lv_aload_n C.1.1 C.1.2.1 dX19_count_48 rfl (lv_at hl 0 rfl) ?_
          refine mr_getI C hw kc_19 19 (by decide) tf_732 wd_2800 dX19_count_49 (by decide) rfl ?_
          refine lv_goto (tgt := 59) C.1.1 C.1.2.1 dX19_count_52 (by decide) ?_
          exact hb59 (M1 732 19) M1 L _ _ ls hD hw (lv_sub hl [] rfl)
    · replace hD := g_neg c2 hD
      refine lv_iconst (v := 0) C.1.1 C.1.2.1 dX19_count_37 (by decide) ?_
      exact mr_iret C hr hlocks hw rfl (Option.some.inj hD) dX19_count_38
  have hb11 : ∀ (M : mwM) (L : mwL) (H : Heap) (locs : List Loc) (ls : Array Slot), fX19_count_b11 fu a1 M L = some (r0, M0, L0) → mw_W G ad NF TF FF M L H locs → lv_has ls 2 [(0, .ref (ad 732)), (1, .int a1)] → W p l e ({ frames := 0, cells := 0, slots := 0, locals := 0 }) s m [.ref (ad 732), .int a1].toArray below meth c H locs 0 0 (MQ below (mw_Qi G ad NF TF FF (mw_eqI r0 M0 L0)) [.ref (ad 732), .int a1].toArray s 0 0 (mw_fr G)) (F0 m 11 ls [.ref (ad 732)]) := by
    intro M L H locs ls hD hw hl
    unfold fX19_count_b11 at hD
    refine lv_iconst (v := 1) C.1.1 C.1.2.1 dX19_count_11 (by decide) ?_
    refine lv_goto (tgt := 27) C.1.1 C.1.2.1 dX19_count_12 (by decide) ?_
    exact hb27 1 M L _ _ ls hD hw (lv_sub hl [0, 1] rfl)
  unfold DX19_count at hD
  refine lv_aload_n C.1.1 C.1.2.1 dX19_count_0 rfl (lv_at hl 0 rfl) ?_
  refine lv_iload_n C.1.1 C.1.2.1 dX19_count_1 rfl (lv_at hl 1 rfl) ?_
  refine lv_if_lt (tgt := 11) C.1.1 C.1.2.1 dX19_count_2 (by decide) (fun c9 => ?_) (fun c9 => ?_)
  · replace hD := g_pos c9 hD
    exact hb11 M L _ _ ls hD hw (lv_sub hl [0, 1] rfl)
  · replace hD := g_neg c9 hD
    refine lv_iload_n C.1.1 C.1.2.1 dX19_count_5 rfl (lv_at hl 1 rfl) ?_
    refine lv_bipush (v := 6) C.1.1 C.1.2.1 dX19_count_6 (by decide) ?_
    refine lv_icmp_le (tgt := 15) C.1.1 C.1.2.1 dX19_count_8 (by decide) (fun c10 => ?_) (fun c10 => ?_)
    · replace hD := g_pos c10 hD
      refine lv_aload_n C.1.1 C.1.2.1 dX19_count_15 rfl (lv_at hl 0 rfl) ?_
      refine mr_getI C hw kc_19 4 (by decide) tf_732 wd_2785 dX19_count_16 (by decide) rfl ?_
      refine lv_if_ne (tgt := 26) C.1.1 C.1.2.1 dX19_count_19 (by decide) (fun c11 => ?_) (fun c11 => ?_)
      · replace hD := g_neg c11 hD
        refine lv_iconst (v := 0) C.1.1 C.1.2.1 dX19_count_26 (by decide) ?_
        exact hb27 0 M L _ _ ls hD hw (lv_sub hl [0, 1] rfl)
      · replace hD := g_pos c11 hD
        refine lv_iconst (v := 2) C.1.1 C.1.2.1 dX19_count_22 (by decide) ?_
        refine lv_goto (tgt := 27) C.1.1 C.1.2.1 dX19_count_23 (by decide) ?_
        exact hb27 2 M L _ _ ls hD hw (lv_sub hl [0, 1] rfl)
    · replace hD := g_neg c10 hD
      exact hb11 M L _ _ ls hD hw (lv_sub hl [0, 1] rfl)

theorem dX19_frame_0 : decode cX19_frame 0 = .ok (.aload_n 0, 1) := by decide +kernel
theorem dX19_frame_1 : decode cX19_frame 1 = .ok (.aload_n 0, 1) := by decide +kernel
theorem dX19_frame_2 : decode cX19_frame 2 = .ok (.getfield 630, 3) := by decide +kernel
theorem dX19_frame_5 : decode cX19_frame 5 = .ok (.ifCond .eq 15, 3) := by decide +kernel
theorem dX19_frame_8 : decode cX19_frame 8 = .ok (.iload_n 1, 1) := by decide +kernel
theorem dX19_frame_9 : decode cX19_frame 9 = .ok (.ifCond .lt 11, 3) := by decide +kernel
theorem dX19_frame_12 : decode cX19_frame 12 = .ok (.iload_n 1, 1) := by decide +kernel
theorem dX19_frame_13 : decode cX19_frame 13 = .ok (.aload_n 0, 1) := by decide +kernel
theorem dX19_frame_14 : decode cX19_frame 14 = .ok (.getfield 568, 3) := by decide +kernel
theorem dX19_frame_17 : decode cX19_frame 17 = .ok (.if_icmp .lt 7, 3) := by decide +kernel
theorem dX19_frame_20 : decode cX19_frame 20 = .ok (.iconst 1, 1) := by decide +kernel
theorem dX19_frame_21 : decode cX19_frame 21 = .ok (.goto 17, 3) := by decide +kernel
theorem dX19_frame_24 : decode cX19_frame 24 = .ok (.iload_n 2, 1) := by decide +kernel
theorem dX19_frame_25 : decode cX19_frame 25 = .ok (.ifCond .lt 8, 3) := by decide +kernel
theorem dX19_frame_28 : decode cX19_frame 28 = .ok (.iload_n 2, 1) := by decide +kernel
theorem dX19_frame_29 : decode cX19_frame 29 = .ok (.iconst 4, 1) := by decide +kernel
theorem dX19_frame_30 : decode cX19_frame 30 = .ok (.if_icmp .le 7, 3) := by decide +kernel
theorem dX19_frame_33 : decode cX19_frame 33 = .ok (.iconst 2, 1) := by decide +kernel
theorem dX19_frame_34 : decode cX19_frame 34 = .ok (.goto 4, 3) := by decide +kernel
theorem dX19_frame_37 : decode cX19_frame 37 = .ok (.iconst 0, 1) := by decide +kernel
theorem dX19_frame_38 : decode cX19_frame 38 = .ok (.putfield 289, 3) := by decide +kernel
theorem dX19_frame_41 : decode cX19_frame 41 = .ok (.aload_n 0, 1) := by decide +kernel
theorem dX19_frame_42 : decode cX19_frame 42 = .ok (.getfield 289, 3) := by decide +kernel
theorem dX19_frame_45 : decode cX19_frame 45 = .ok (.ifCond .le 5, 3) := by decide +kernel
theorem dX19_frame_48 : decode cX19_frame 48 = .ok (.iconst 0, 1) := by decide +kernel
theorem dX19_frame_49 : decode cX19_frame 49 = .ok (.ireturn, 1) := by decide +kernel
theorem dX19_frame_50 : decode cX19_frame 50 = .ok (.iload_n 2, 1) := by decide +kernel
theorem dX19_frame_51 : decode cX19_frame 51 = .ok (.ifCond .ne 16, 3) := by decide +kernel
theorem dX19_frame_54 : decode cX19_frame 54 = .ok (.bipush 64, 2) := by decide +kernel
theorem dX19_frame_56 : decode cX19_frame 56 = .ok (.bipush 8, 2) := by decide +kernel
theorem dX19_frame_58 : decode cX19_frame 58 = .ok (.aload_n 0, 1) := by decide +kernel
theorem dX19_frame_59 : decode cX19_frame 59 = .ok (.getfield 165, 3) := by decide +kernel
theorem dX19_frame_62 : decode cX19_frame 62 = .ok (.iload_n 1, 1) := by decide +kernel
theorem dX19_frame_63 : decode cX19_frame 63 = .ok (.iaload, 1) := by decide +kernel
theorem dX19_frame_64 : decode cX19_frame 64 = .ok (.imul, 1) := by decide +kernel
theorem dX19_frame_65 : decode cX19_frame 65 = .ok (.iadd, 1) := by decide +kernel
theorem dX19_frame_66 : decode cX19_frame 66 = .ok (.ireturn, 1) := by decide +kernel
theorem dX19_frame_67 : decode cX19_frame 67 = .ok (.iload_n 2, 1) := by decide +kernel
theorem dX19_frame_68 : decode cX19_frame 68 = .ok (.iconst 1, 1) := by decide +kernel
theorem dX19_frame_69 : decode cX19_frame 69 = .ok (.if_icmp .ne 10, 3) := by decide +kernel
theorem dX19_frame_72 : decode cX19_frame 72 = .ok (.aload_n 0, 1) := by decide +kernel
theorem dX19_frame_73 : decode cX19_frame 73 = .ok (.getfield 150, 3) := by decide +kernel
theorem dX19_frame_76 : decode cX19_frame 76 = .ok (.iload_n 1, 1) := by decide +kernel
theorem dX19_frame_77 : decode cX19_frame 77 = .ok (.iaload, 1) := by decide +kernel
theorem dX19_frame_78 : decode cX19_frame 78 = .ok (.ireturn, 1) := by decide +kernel
theorem dX19_frame_79 : decode cX19_frame 79 = .ok (.iload_n 2, 1) := by decide +kernel
theorem dX19_frame_80 : decode cX19_frame 80 = .ok (.iconst 2, 1) := by decide +kernel
theorem dX19_frame_81 : decode cX19_frame 81 = .ok (.if_icmp .ne 10, 3) := by decide +kernel
theorem dX19_frame_84 : decode cX19_frame 84 = .ok (.aload_n 0, 1) := by decide +kernel
theorem dX19_frame_85 : decode cX19_frame 85 = .ok (.getfield 159, 3) := by decide +kernel
theorem dX19_frame_88 : decode cX19_frame 88 = .ok (.iload_n 1, 1) := by decide +kernel
theorem dX19_frame_89 : decode cX19_frame 89 = .ok (.iaload, 1) := by decide +kernel
theorem dX19_frame_90 : decode cX19_frame 90 = .ok (.ireturn, 1) := by decide +kernel
theorem dX19_frame_91 : decode cX19_frame 91 = .ok (.iload_n 2, 1) := by decide +kernel
theorem dX19_frame_92 : decode cX19_frame 92 = .ok (.iconst 3, 1) := by decide +kernel
theorem dX19_frame_93 : decode cX19_frame 93 = .ok (.if_icmp .ne 12, 3) := by decide +kernel
theorem dX19_frame_96 : decode cX19_frame 96 = .ok (.aload_n 0, 1) := by decide +kernel
theorem dX19_frame_97 : decode cX19_frame 97 = .ok (.getfield 162, 3) := by decide +kernel
theorem dX19_frame_100 : decode cX19_frame 100 = .ok (.iload_n 1, 1) := by decide +kernel
theorem dX19_frame_101 : decode cX19_frame 101 = .ok (.iaload, 1) := by decide +kernel
theorem dX19_frame_102 : decode cX19_frame 102 = .ok (.goto 9, 3) := by decide +kernel
theorem dX19_frame_105 : decode cX19_frame 105 = .ok (.aload_n 0, 1) := by decide +kernel
theorem dX19_frame_106 : decode cX19_frame 106 = .ok (.getfield 168, 3) := by decide +kernel
theorem dX19_frame_109 : decode cX19_frame 109 = .ok (.iload_n 1, 1) := by decide +kernel
theorem dX19_frame_110 : decode cX19_frame 110 = .ok (.iaload, 1) := by decide +kernel
theorem dX19_frame_111 : decode cX19_frame 111 = .ok (.ireturn, 1) := by decide +kernel
theorem cwX19_frame : mw_cwV yX19_frame cX19_frame 3 ((some .int)) 2 := ⟨⟨wd_13, wd_4197, by decide +kernel⟩, wd_4195, wd_4196⟩
set_option maxHeartbeats 4000000 in
set_option maxRecDepth 100000 in
theorem tX19_frame (l : Launch) (G : mwG) (ad : Nat → Nat) (fu : Nat) (a1 : Int32) (a2 : Int32) (M : mwM) (L : mwL) {r0 : Int32} {M0 : mwM} {L0 : mwL} (hD : DX19_frame fu a1 a2 M L = some (r0, M0, L0)) : Met l yX19_frame (Cond.code yX19_frame cX19_frame 3 ((some .int)) :: GT) ({ frames := 0, cells := 0, slots := 0, locals := 0 }) (mw_Pre G ad NF TF FF M L [.ref (ad 732), .int a1, .int a2]) (mw_Qi G ad NF TF FF (mw_eqI r0 M0 L0)) 0 0 (mw_fr G) := by
  refine mw_enter (by decide) (Nat.le_of_ble_eq_true rfl) ?_
  intro p e s m below meth c ls C hr hlocks hnm hw hl
  have hl : lv_has ls 3 [(0, .ref (ad 732)), (1, .int a1), (2, .int a2)] := hl
  have hb111 : ∀ (s0 : Int32) (M : mwM) (L : mwL) (H : Heap) (locs : List Loc) (ls : Array Slot), fX19_frame_b111 fu a1 a2 s0 M L = some (r0, M0, L0) → mw_W G ad NF TF FF M L H locs → lv_has ls 3 [] → W p l e ({ frames := 0, cells := 0, slots := 0, locals := 0 }) s m [.ref (ad 732), .int a1, .int a2].toArray below meth c H locs 0 0 (MQ below (mw_Qi G ad NF TF FF (mw_eqI r0 M0 L0)) [.ref (ad 732), .int a1, .int a2].toArray s 0 0 (mw_fr G)) (F0 m 111 ls [.int s0]) := by
    intro s0 M L H locs ls hD hw hl
    unfold fX19_frame_b111 at hD
    exact mr_iret C hr hlocks hw rfl (Option.some.inj hD) dX19_frame_111
  have hb38 : ∀ (s1 : Int32) (M : mwM) (L : mwL) (H : Heap) (locs : List Loc) (ls : Array Slot), fX19_frame_b38 fu a1 a2 s1 M L = some (r0, M0, L0) → mw_W G ad NF TF FF M L H locs → lv_has ls 3 [(0, .ref (ad 732)), (1, .int a1), (2, .int a2)] → W p l e ({ frames := 0, cells := 0, slots := 0, locals := 0 }) s m [.ref (ad 732), .int a1, .int a2].toArray below meth c H locs 0 0 (MQ below (mw_Qi G ad NF TF FF (mw_eqI r0 M0 L0)) [.ref (ad 732), .int a1, .int a2].toArray s 0 0 (mw_fr G)) (F0 m 38 ls [.int s1, .ref (ad 732)]) := by
    intro s1 M L H locs ls hD hw hl
    unfold fX19_frame_b38 at hD
    obtain ⟨M1, eM1, hD⟩ := g_let hD
    refine mr_putI C hw kc_19 0 (by decide) tf_732 wd_2781 dX19_frame_38 (by decide) rfl rfl rfl rfl (fun H locs hw => ?_)
    replace hw : mw_W G ad NF TF FF M1 L H locs := by rw [eM1]; exact hw
    refine lv_aload_n C.1.1 C.1.2.1 dX19_frame_41 rfl (lv_at hl 0 rfl) ?_
    refine mr_getI C hw kc_19 0 (by decide) tf_732 wd_2781 dX19_frame_42 (by decide) rfl ?_
    refine lv_if_le (tgt := 50) C.1.1 C.1.2.1 dX19_frame_45 (by decide) (fun c2 => ?_) (fun c2 => ?_)
    · replace hD := g_pos c2 hD
      refine lv_iload_n C.1.1 C.1.2.1 dX19_frame_50 rfl (lv_at hl 2 rfl) ?_
      refine lv_if_ne (tgt := 67) C.1.1 C.1.2.1 dX19_frame_51 (by decide) (fun c3 => ?_) (fun c3 => ?_)
      · replace hD := g_neg c3 hD
        refine lv_iload_n C.1.1 C.1.2.1 dX19_frame_67 rfl (lv_at hl 2 rfl) ?_
        refine lv_iconst (v := 1) C.1.1 C.1.2.1 dX19_frame_68 (by decide) ?_
        refine lv_icmp_ne (tgt := 79) C.1.1 C.1.2.1 dX19_frame_69 (by decide) (fun c4 => ?_) (fun c4 => ?_)
        · replace hD := g_neg c4 hD
          refine lv_iload_n C.1.1 C.1.2.1 dX19_frame_79 rfl (lv_at hl 2 rfl) ?_
          refine lv_iconst (v := 2) C.1.1 C.1.2.1 dX19_frame_80 (by decide) ?_
          refine lv_icmp_ne (tgt := 91) C.1.1 C.1.2.1 dX19_frame_81 (by decide) (fun c5 => ?_) (fun c5 => ?_)
          · replace hD := g_neg c5 hD
            refine lv_iload_n C.1.1 C.1.2.1 dX19_frame_91 rfl (lv_at hl 2 rfl) ?_
            refine lv_iconst (v := 3) C.1.1 C.1.2.1 dX19_frame_92 (by decide) ?_
            refine lv_icmp_ne (tgt := 105) C.1.1 C.1.2.1 dX19_frame_93 (by decide) (fun c6 => ?_) (fun c6 => ?_)
            · replace hD := g_neg c6 hD
              refine lv_aload_n C.1.1 C.1.2.1 dX19_frame_105 rfl (lv_at hl 0 rfl) ?_
              refine mr_getR C hw kc_19 74 (by decide) tf_732 ff_732_74 wd_2855 dX19_frame_106 (by decide) rfl ?_
              refine lv_iload_n C.1.1 C.1.2.1 dX19_frame_109 rfl (lv_at hl 1 rfl) ?_
              obtain ⟨q7, hD⟩ := g_ck hD
              refine mr_iald C hw (by decide) tf_785 q7 dX19_frame_110 ?_
              exact hb111 (M1 785 a1.toNatClampNeg) M1 L _ _ ls hD hw (lv_sub hl [] rfl)
            · replace hD := g_pos c6 hD
              refine lv_aload_n C.1.1 C.1.2.1 dX19_frame_96 rfl (lv_at hl 0 rfl) ?_
              refine mr_getR C hw kc_19 72 (by decide) tf_732 ff_732_72 wd_2853 dX19_frame_97 (by decide) rfl ?_
              refine lv_iload_n C.1.1 C.1.2.1 dX19_frame_100 rfl (lv_at hl 1 rfl) ?_
              obtain ⟨q8, hD⟩ := g_ck hD
              refine mr_iald C hw (by decide) tf_783 q8 dX19_frame_101 ?_
              refine lv_goto (tgt := 111) C.1.1 C.1.2.1 dX19_frame_102 (by decide) ?_
              exact hb111 (M1 783 a1.toNatClampNeg) M1 L _ _ ls hD hw (lv_sub hl [] rfl)
          · replace hD := g_pos c5 hD
            refine lv_aload_n C.1.1 C.1.2.1 dX19_frame_84 rfl (lv_at hl 0 rfl) ?_
            refine mr_getR C hw kc_19 71 (by decide) tf_732 ff_732_71 wd_2852 dX19_frame_85 (by decide) rfl ?_
            refine lv_iload_n C.1.1 C.1.2.1 dX19_frame_88 rfl (lv_at hl 1 rfl) ?_
            obtain ⟨q9, hD⟩ := g_ck hD
            refine mr_iald C hw (by decide) tf_782 q9 dX19_frame_89 ?_
            exact mr_iret C hr hlocks hw rfl (Option.some.inj hD) dX19_frame_90
        · replace hD := g_pos c4 hD
          refine lv_aload_n C.1.1 C.1.2.1 dX19_frame_72 rfl (lv_at hl 0 rfl) ?_
          refine mr_getR C hw kc_19 68 (by decide) tf_732 ff_732_68 wd_2849 dX19_frame_73 (by decide) rfl ?_
          refine lv_iload_n C.1.1 C.1.2.1 dX19_frame_76 rfl (lv_at hl 1 rfl) ?_
          obtain ⟨q10, hD⟩ := g_ck hD
          refine mr_iald C hw (by decide) tf_779 q10 dX19_frame_77 ?_
          exact mr_iret C hr hlocks hw rfl (Option.some.inj hD) dX19_frame_78
      · replace hD := g_pos c3 hD
        refine lv_bipush (v := 64) C.1.1 C.1.2.1 dX19_frame_54 (by decide) ?_
        refine lv_bipush (v := 8) C.1.1 C.1.2.1 dX19_frame_56 (by decide) ?_
        refine lv_aload_n C.1.1 C.1.2.1 dX19_frame_58 rfl (lv_at hl 0 rfl) ?_
        refine mr_getR C hw kc_19 73 (by decide) tf_732 ff_732_73 wd_2854 dX19_frame_59 (by decide) rfl ?_
        refine lv_iload_n C.1.1 C.1.2.1 dX19_frame_62 rfl (lv_at hl 1 rfl) ?_
        obtain ⟨q11, hD⟩ := g_ck hD
        refine mr_iald C hw (by decide) tf_784 q11 dX19_frame_63 ?_
        refine lv_imul C.1.1 C.1.2.1 dX19_frame_64 ?_
        refine lv_iadd C.1.1 C.1.2.1 dX19_frame_65 ?_
        exact mr_iret C hr hlocks hw rfl (Option.some.inj hD) dX19_frame_66
    · replace hD := g_neg c2 hD
      refine lv_iconst (v := 0) C.1.1 C.1.2.1 dX19_frame_48 (by decide) ?_
      exact mr_iret C hr hlocks hw rfl (Option.some.inj hD) dX19_frame_49
  have hb20 : ∀ (M : mwM) (L : mwL) (H : Heap) (locs : List Loc) (ls : Array Slot), fX19_frame_b20 fu a1 a2 M L = some (r0, M0, L0) → mw_W G ad NF TF FF M L H locs → lv_has ls 3 [(0, .ref (ad 732)), (1, .int a1), (2, .int a2)] → W p l e ({ frames := 0, cells := 0, slots := 0, locals := 0 }) s m [.ref (ad 732), .int a1, .int a2].toArray below meth c H locs 0 0 (MQ below (mw_Qi G ad NF TF FF (mw_eqI r0 M0 L0)) [.ref (ad 732), .int a1, .int a2].toArray s 0 0 (mw_fr G)) (F0 m 20 ls [.ref (ad 732)]) := by
    intro M L H locs ls hD hw hl
    unfold fX19_frame_b20 at hD
    refine lv_iconst (v := 1) C.1.1 C.1.2.1 dX19_frame_20 (by decide) ?_
    refine lv_goto (tgt := 38) C.1.1 C.1.2.1 dX19_frame_21 (by decide) ?_
    exact hb38 1 M L _ _ ls hD hw (lv_sub hl [0, 1, 2] rfl)
  have hb33 : ∀ (M : mwM) (L : mwL) (H : Heap) (locs : List Loc) (ls : Array Slot), fX19_frame_b33 fu a1 a2 M L = some (r0, M0, L0) → mw_W G ad NF TF FF M L H locs → lv_has ls 3 [(0, .ref (ad 732)), (1, .int a1), (2, .int a2)] → W p l e ({ frames := 0, cells := 0, slots := 0, locals := 0 }) s m [.ref (ad 732), .int a1, .int a2].toArray below meth c H locs 0 0 (MQ below (mw_Qi G ad NF TF FF (mw_eqI r0 M0 L0)) [.ref (ad 732), .int a1, .int a2].toArray s 0 0 (mw_fr G)) (F0 m 33 ls [.ref (ad 732)]) := by
    intro M L H locs ls hD hw hl
    unfold fX19_frame_b33 at hD
    refine lv_iconst (v := 2) C.1.1 C.1.2.1 dX19_frame_33 (by decide) ?_
    refine lv_goto (tgt := 38) C.1.1 C.1.2.1 dX19_frame_34 (by decide) ?_
    exact hb38 2 M L _ _ ls hD hw (lv_sub hl [0, 1, 2] rfl)
  unfold DX19_frame at hD
  refine lv_aload_n C.1.1 C.1.2.1 dX19_frame_0 rfl (lv_at hl 0 rfl) ?_
  refine lv_aload_n C.1.1 C.1.2.1 dX19_frame_1 rfl (lv_at hl 0 rfl) ?_
  refine mr_getI C hw kc_19 4 (by decide) tf_732 wd_2785 dX19_frame_2 (by decide) rfl ?_
  refine lv_if_eq (tgt := 20) C.1.1 C.1.2.1 dX19_frame_5 (by decide) (fun c12 => ?_) (fun c12 => ?_)
  · replace hD := g_pos c12 hD
    exact hb20 M L _ _ ls hD hw (lv_sub hl [0, 1, 2] rfl)
  · replace hD := g_neg c12 hD
    refine lv_iload_n C.1.1 C.1.2.1 dX19_frame_8 rfl (lv_at hl 1 rfl) ?_
    refine lv_if_lt (tgt := 20) C.1.1 C.1.2.1 dX19_frame_9 (by decide) (fun c13 => ?_) (fun c13 => ?_)
    · replace hD := g_pos c13 hD
      exact hb20 M L _ _ ls hD hw (lv_sub hl [0, 1, 2] rfl)
    · replace hD := g_neg c13 hD
      refine lv_iload_n C.1.1 C.1.2.1 dX19_frame_12 rfl (lv_at hl 1 rfl) ?_
      refine lv_aload_n C.1.1 C.1.2.1 dX19_frame_13 rfl (lv_at hl 0 rfl) ?_
      refine mr_getI C hw kc_19 67 (by decide) tf_732 wd_2848 dX19_frame_14 (by decide) rfl ?_
      refine lv_icmp_lt (tgt := 24) C.1.1 C.1.2.1 dX19_frame_17 (by decide) (fun c14 => ?_) (fun c14 => ?_)
      · replace hD := g_pos c14 hD
        refine lv_iload_n C.1.1 C.1.2.1 dX19_frame_24 rfl (lv_at hl 2 rfl) ?_
        refine lv_if_lt (tgt := 33) C.1.1 C.1.2.1 dX19_frame_25 (by decide) (fun c15 => ?_) (fun c15 => ?_)
        · replace hD := g_pos c15 hD
          exact hb33 M L _ _ ls hD hw (lv_sub hl [0, 1, 2] rfl)
        · replace hD := g_neg c15 hD
          refine lv_iload_n C.1.1 C.1.2.1 dX19_frame_28 rfl (lv_at hl 2 rfl) ?_
          refine lv_iconst (v := 4) C.1.1 C.1.2.1 dX19_frame_29 (by decide) ?_
          refine lv_icmp_le (tgt := 37) C.1.1 C.1.2.1 dX19_frame_30 (by decide) (fun c16 => ?_) (fun c16 => ?_)
          · replace hD := g_pos c16 hD
            refine lv_iconst (v := 0) C.1.1 C.1.2.1 dX19_frame_37 (by decide) ?_
            exact hb38 0 M L _ _ ls hD hw (lv_sub hl [0, 1, 2] rfl)
          · replace hD := g_neg c16 hD
            exact hb33 M L _ _ ls hD hw (lv_sub hl [0, 1, 2] rfl)
      · replace hD := g_neg c14 hD
        exact hb20 M L _ _ ls hD hw (lv_sub hl [0, 1, 2] rfl)

theorem dX19_signal_0 : decode cX19_signal 0 = .ok (.aload_n 0, 1) := by decide +kernel
theorem dX19_signal_1 : decode cX19_signal 1 = .ok (.aload_n 0, 1) := by decide +kernel
theorem dX19_signal_2 : decode cX19_signal 2 = .ok (.getfield 630, 3) := by decide +kernel
theorem dX19_signal_5 : decode cX19_signal 5 = .ok (.ifCond .eq 15, 3) := by decide +kernel
theorem dX19_signal_8 : decode cX19_signal 8 = .ok (.iload_n 1, 1) := by decide +kernel
theorem dX19_signal_9 : decode cX19_signal 9 = .ok (.ifCond .lt 11, 3) := by decide +kernel
theorem dX19_signal_12 : decode cX19_signal 12 = .ok (.iload_n 1, 1) := by decide +kernel
theorem dX19_signal_13 : decode cX19_signal 13 = .ok (.aload_n 0, 1) := by decide +kernel
theorem dX19_signal_14 : decode cX19_signal 14 = .ok (.getfield 541, 3) := by decide +kernel
theorem dX19_signal_17 : decode cX19_signal 17 = .ok (.if_icmp .lt 7, 3) := by decide +kernel
theorem dX19_signal_20 : decode cX19_signal 20 = .ok (.iconst 1, 1) := by decide +kernel
theorem dX19_signal_21 : decode cX19_signal 21 = .ok (.goto 4, 3) := by decide +kernel
theorem dX19_signal_24 : decode cX19_signal 24 = .ok (.iconst 0, 1) := by decide +kernel
theorem dX19_signal_25 : decode cX19_signal 25 = .ok (.putfield 289, 3) := by decide +kernel
theorem dX19_signal_28 : decode cX19_signal 28 = .ok (.aload_n 0, 1) := by decide +kernel
theorem dX19_signal_29 : decode cX19_signal 29 = .ok (.getfield 289, 3) := by decide +kernel
theorem dX19_signal_32 : decode cX19_signal 32 = .ok (.ifCond .le 5, 3) := by decide +kernel
theorem dX19_signal_35 : decode cX19_signal 35 = .ok (.iconst 0, 1) := by decide +kernel
theorem dX19_signal_36 : decode cX19_signal 36 = .ok (.ireturn, 1) := by decide +kernel
theorem dX19_signal_37 : decode cX19_signal 37 = .ok (.iload_n 2, 1) := by decide +kernel
theorem dX19_signal_38 : decode cX19_signal 38 = .ok (.ifCond .eq 12, 3) := by decide +kernel
theorem dX19_signal_41 : decode cX19_signal 41 = .ok (.aload_n 0, 1) := by decide +kernel
theorem dX19_signal_42 : decode cX19_signal 42 = .ok (.getfield 116, 3) := by decide +kernel
theorem dX19_signal_45 : decode cX19_signal 45 = .ok (.iload_n 1, 1) := by decide +kernel
theorem dX19_signal_46 : decode cX19_signal 46 = .ok (.iaload, 1) := by decide +kernel
theorem dX19_signal_47 : decode cX19_signal 47 = .ok (.goto 9, 3) := by decide +kernel
theorem dX19_signal_50 : decode cX19_signal 50 = .ok (.aload_n 0, 1) := by decide +kernel
theorem dX19_signal_51 : decode cX19_signal 51 = .ok (.getfield 113, 3) := by decide +kernel
theorem dX19_signal_54 : decode cX19_signal 54 = .ok (.iload_n 1, 1) := by decide +kernel
theorem dX19_signal_55 : decode cX19_signal 55 = .ok (.iaload, 1) := by decide +kernel
theorem dX19_signal_56 : decode cX19_signal 56 = .ok (.ireturn, 1) := by decide +kernel
theorem cwX19_signal : mw_cwV yX19_signal cX19_signal 3 ((some .int)) 2 := ⟨⟨wd_13, wd_4201, by decide +kernel⟩, wd_4199, wd_4200⟩
set_option maxHeartbeats 4000000 in
set_option maxRecDepth 100000 in
theorem tX19_signal (l : Launch) (G : mwG) (ad : Nat → Nat) (fu : Nat) (a1 : Int32) (a2 : Int32) (M : mwM) (L : mwL) {r0 : Int32} {M0 : mwM} {L0 : mwL} (hD : DX19_signal fu a1 a2 M L = some (r0, M0, L0)) : Met l yX19_signal (Cond.code yX19_signal cX19_signal 3 ((some .int)) :: GT) ({ frames := 0, cells := 0, slots := 0, locals := 0 }) (mw_Pre G ad NF TF FF M L [.ref (ad 732), .int a1, .int a2]) (mw_Qi G ad NF TF FF (mw_eqI r0 M0 L0)) 0 0 (mw_fr G) := by
  refine mw_enter (by decide) (Nat.le_of_ble_eq_true rfl) ?_
  intro p e s m below meth c ls C hr hlocks hnm hw hl
  have hl : lv_has ls 3 [(0, .ref (ad 732)), (1, .int a1), (2, .int a2)] := hl
  have hb56 : ∀ (s0 : Int32) (M : mwM) (L : mwL) (H : Heap) (locs : List Loc) (ls : Array Slot), fX19_signal_b56 fu a1 a2 s0 M L = some (r0, M0, L0) → mw_W G ad NF TF FF M L H locs → lv_has ls 3 [] → W p l e ({ frames := 0, cells := 0, slots := 0, locals := 0 }) s m [.ref (ad 732), .int a1, .int a2].toArray below meth c H locs 0 0 (MQ below (mw_Qi G ad NF TF FF (mw_eqI r0 M0 L0)) [.ref (ad 732), .int a1, .int a2].toArray s 0 0 (mw_fr G)) (F0 m 56 ls [.int s0]) := by
    intro s0 M L H locs ls hD hw hl
    unfold fX19_signal_b56 at hD
    exact mr_iret C hr hlocks hw rfl (Option.some.inj hD) dX19_signal_56
  have hb25 : ∀ (s1 : Int32) (M : mwM) (L : mwL) (H : Heap) (locs : List Loc) (ls : Array Slot), fX19_signal_b25 fu a1 a2 s1 M L = some (r0, M0, L0) → mw_W G ad NF TF FF M L H locs → lv_has ls 3 [(0, .ref (ad 732)), (1, .int a1), (2, .int a2)] → W p l e ({ frames := 0, cells := 0, slots := 0, locals := 0 }) s m [.ref (ad 732), .int a1, .int a2].toArray below meth c H locs 0 0 (MQ below (mw_Qi G ad NF TF FF (mw_eqI r0 M0 L0)) [.ref (ad 732), .int a1, .int a2].toArray s 0 0 (mw_fr G)) (F0 m 25 ls [.int s1, .ref (ad 732)]) := by
    intro s1 M L H locs ls hD hw hl
    unfold fX19_signal_b25 at hD
    obtain ⟨M1, eM1, hD⟩ := g_let hD
    refine mr_putI C hw kc_19 0 (by decide) tf_732 wd_2781 dX19_signal_25 (by decide) rfl rfl rfl rfl (fun H locs hw => ?_)
    replace hw : mw_W G ad NF TF FF M1 L H locs := by rw [eM1]; exact hw
    refine lv_aload_n C.1.1 C.1.2.1 dX19_signal_28 rfl (lv_at hl 0 rfl) ?_
    refine mr_getI C hw kc_19 0 (by decide) tf_732 wd_2781 dX19_signal_29 (by decide) rfl ?_
    refine lv_if_le (tgt := 37) C.1.1 C.1.2.1 dX19_signal_32 (by decide) (fun c2 => ?_) (fun c2 => ?_)
    · replace hD := g_pos c2 hD
      refine lv_iload_n C.1.1 C.1.2.1 dX19_signal_37 rfl (lv_at hl 2 rfl) ?_
      refine lv_if_eq (tgt := 50) C.1.1 C.1.2.1 dX19_signal_38 (by decide) (fun c3 => ?_) (fun c3 => ?_)
      · replace hD := g_pos c3 hD
        refine lv_aload_n C.1.1 C.1.2.1 dX19_signal_50 rfl (lv_at hl 0 rfl) ?_
        refine mr_getR C hw kc_19 53 (by decide) tf_732 ff_732_53 wd_2834 dX19_signal_51 (by decide) rfl ?_
        refine lv_iload_n C.1.1 C.1.2.1 dX19_signal_54 rfl (lv_at hl 1 rfl) ?_
        obtain ⟨q4, hD⟩ := g_ck hD
        refine mr_iald C hw (by decide) tf_767 q4 dX19_signal_55 ?_
        exact hb56 (M1 767 a1.toNatClampNeg) M1 L _ _ ls hD hw (lv_sub hl [] rfl)
      · replace hD := g_neg c3 hD
        refine lv_aload_n C.1.1 C.1.2.1 dX19_signal_41 rfl (lv_at hl 0 rfl) ?_
        refine mr_getR C hw kc_19 54 (by decide) tf_732 ff_732_54 wd_2835 dX19_signal_42 (by decide) rfl ?_
        refine lv_iload_n C.1.1 C.1.2.1 dX19_signal_45 rfl (lv_at hl 1 rfl) ?_
        obtain ⟨q5, hD⟩ := g_ck hD
        refine mr_iald C hw (by decide) tf_768 q5 dX19_signal_46 ?_
        refine lv_goto (tgt := 56) C.1.1 C.1.2.1 dX19_signal_47 (by decide) ?_
        exact hb56 (M1 768 a1.toNatClampNeg) M1 L _ _ ls hD hw (lv_sub hl [] rfl)
    · replace hD := g_neg c2 hD
      refine lv_iconst (v := 0) C.1.1 C.1.2.1 dX19_signal_35 (by decide) ?_
      exact mr_iret C hr hlocks hw rfl (Option.some.inj hD) dX19_signal_36
  have hb20 : ∀ (M : mwM) (L : mwL) (H : Heap) (locs : List Loc) (ls : Array Slot), fX19_signal_b20 fu a1 a2 M L = some (r0, M0, L0) → mw_W G ad NF TF FF M L H locs → lv_has ls 3 [(0, .ref (ad 732)), (1, .int a1), (2, .int a2)] → W p l e ({ frames := 0, cells := 0, slots := 0, locals := 0 }) s m [.ref (ad 732), .int a1, .int a2].toArray below meth c H locs 0 0 (MQ below (mw_Qi G ad NF TF FF (mw_eqI r0 M0 L0)) [.ref (ad 732), .int a1, .int a2].toArray s 0 0 (mw_fr G)) (F0 m 20 ls [.ref (ad 732)]) := by
    intro M L H locs ls hD hw hl
    unfold fX19_signal_b20 at hD
    refine lv_iconst (v := 1) C.1.1 C.1.2.1 dX19_signal_20 (by decide) ?_
    refine lv_goto (tgt := 25) C.1.1 C.1.2.1 dX19_signal_21 (by decide) ?_
    exact hb25 1 M L _ _ ls hD hw (lv_sub hl [0, 1, 2] rfl)
  unfold DX19_signal at hD
  refine lv_aload_n C.1.1 C.1.2.1 dX19_signal_0 rfl (lv_at hl 0 rfl) ?_
  refine lv_aload_n C.1.1 C.1.2.1 dX19_signal_1 rfl (lv_at hl 0 rfl) ?_
  refine mr_getI C hw kc_19 4 (by decide) tf_732 wd_2785 dX19_signal_2 (by decide) rfl ?_
  refine lv_if_eq (tgt := 20) C.1.1 C.1.2.1 dX19_signal_5 (by decide) (fun c6 => ?_) (fun c6 => ?_)
  · replace hD := g_pos c6 hD
    exact hb20 M L _ _ ls hD hw (lv_sub hl [0, 1, 2] rfl)
  · replace hD := g_neg c6 hD
    refine lv_iload_n C.1.1 C.1.2.1 dX19_signal_8 rfl (lv_at hl 1 rfl) ?_
    refine lv_if_lt (tgt := 20) C.1.1 C.1.2.1 dX19_signal_9 (by decide) (fun c7 => ?_) (fun c7 => ?_)
    · replace hD := g_pos c7 hD
      exact hb20 M L _ _ ls hD hw (lv_sub hl [0, 1, 2] rfl)
    · replace hD := g_neg c7 hD
      refine lv_iload_n C.1.1 C.1.2.1 dX19_signal_12 rfl (lv_at hl 1 rfl) ?_
      refine lv_aload_n C.1.1 C.1.2.1 dX19_signal_13 rfl (lv_at hl 0 rfl) ?_
      refine mr_getI C hw kc_19 45 (by decide) tf_732 wd_2826 dX19_signal_14 (by decide) rfl ?_
      refine lv_icmp_lt (tgt := 24) C.1.1 C.1.2.1 dX19_signal_17 (by decide) (fun c8 => ?_) (fun c8 => ?_)
      · replace hD := g_pos c8 hD
        refine lv_iconst (v := 0) C.1.1 C.1.2.1 dX19_signal_24 (by decide) ?_
        exact hb25 0 M L _ _ ls hD hw (lv_sub hl [0, 1, 2] rfl)
      · replace hD := g_neg c8 hD
        exact hb20 M L _ _ ls hD hw (lv_sub hl [0, 1, 2] rfl)

theorem dX19_time_0 : decode cX19_time 0 = .ok (.aload_n 0, 1) := by decide +kernel
theorem dX19_time_1 : decode cX19_time 1 = .ok (.iconst 0, 1) := by decide +kernel
theorem dX19_time_2 : decode cX19_time 2 = .ok (.putfield 289, 3) := by decide +kernel
theorem dX19_time_5 : decode cX19_time 5 = .ok (.aload_n 0, 1) := by decide +kernel
theorem dX19_time_6 : decode cX19_time 6 = .ok (.getfield 630, 3) := by decide +kernel
theorem dX19_time_9 : decode cX19_time 9 = .ok (.ifCond .eq 10, 3) := by decide +kernel
theorem dX19_time_12 : decode cX19_time 12 = .ok (.aload_n 0, 1) := by decide +kernel
theorem dX19_time_13 : decode cX19_time 13 = .ok (.getfield 600, 3) := by decide +kernel
theorem dX19_time_16 : decode cX19_time 16 = .ok (.goto 4, 3) := by decide +kernel
theorem dX19_time_19 : decode cX19_time 19 = .ok (.iconst 0, 1) := by decide +kernel
theorem dX19_time_20 : decode cX19_time 20 = .ok (.ireturn, 1) := by decide +kernel
theorem cwX19_time : mw_cwV yX19_time cX19_time 1 ((some .int)) 0 := ⟨⟨wd_13, wd_4205, by decide +kernel⟩, wd_4203, wd_4204⟩
set_option maxHeartbeats 4000000 in
set_option maxRecDepth 100000 in
theorem tX19_time (l : Launch) (G : mwG) (ad : Nat → Nat) (fu : Nat) (M : mwM) (L : mwL) {r0 : Int32} {M0 : mwM} {L0 : mwL} (hD : DX19_time fu M L = some (r0, M0, L0)) : Met l yX19_time (Cond.code yX19_time cX19_time 1 ((some .int)) :: GT) ({ frames := 0, cells := 0, slots := 0, locals := 0 }) (mw_Pre G ad NF TF FF M L [.ref (ad 732)]) (mw_Qi G ad NF TF FF (mw_eqI r0 M0 L0)) 0 0 (mw_fr G) := by
  refine mw_enter (by decide) (Nat.le_of_ble_eq_true rfl) ?_
  intro p e s m below meth c ls C hr hlocks hnm hw hl
  have hl : lv_has ls 1 [(0, .ref (ad 732))] := hl
  have hb20 : ∀ (s0 : Int32) (M : mwM) (L : mwL) (H : Heap) (locs : List Loc) (ls : Array Slot), fX19_time_b20 fu s0 M L = some (r0, M0, L0) → mw_W G ad NF TF FF M L H locs → lv_has ls 1 [] → W p l e ({ frames := 0, cells := 0, slots := 0, locals := 0 }) s m [.ref (ad 732)].toArray below meth c H locs 0 0 (MQ below (mw_Qi G ad NF TF FF (mw_eqI r0 M0 L0)) [.ref (ad 732)].toArray s 0 0 (mw_fr G)) (F0 m 20 ls [.int s0]) := by
    intro s0 M L H locs ls hD hw hl
    unfold fX19_time_b20 at hD
    exact mr_iret C hr hlocks hw rfl (Option.some.inj hD) dX19_time_20
  unfold DX19_time at hD
  refine lv_aload_n C.1.1 C.1.2.1 dX19_time_0 rfl (lv_at hl 0 rfl) ?_
  refine lv_iconst (v := 0) C.1.1 C.1.2.1 dX19_time_1 (by decide) ?_
  obtain ⟨M1, eM1, hD⟩ := g_let hD
  refine mr_putI C hw kc_19 0 (by decide) tf_732 wd_2781 dX19_time_2 (by decide) rfl rfl rfl rfl (fun H locs hw => ?_)
  replace hw : mw_W G ad NF TF FF M1 L H locs := by rw [eM1]; exact hw
  refine lv_aload_n C.1.1 C.1.2.1 dX19_time_5 rfl (lv_at hl 0 rfl) ?_
  refine mr_getI C hw kc_19 4 (by decide) tf_732 wd_2785 dX19_time_6 (by decide) rfl ?_
  refine lv_if_eq (tgt := 19) C.1.1 C.1.2.1 dX19_time_9 (by decide) (fun c2 => ?_) (fun c2 => ?_)
  · replace hD := g_pos c2 hD
    refine lv_iconst (v := 0) C.1.1 C.1.2.1 dX19_time_19 (by decide) ?_
    exact hb20 0 M1 L _ _ ls hD hw (lv_sub hl [] rfl)
  · replace hD := g_neg c2 hD
    refine lv_aload_n C.1.1 C.1.2.1 dX19_time_12 rfl (lv_at hl 0 rfl) ?_
    refine mr_getI C hw kc_19 83 (by decide) tf_732 wd_2864 dX19_time_13 (by decide) rfl ?_
    refine lv_goto (tgt := 20) C.1.1 C.1.2.1 dX19_time_16 (by decide) ?_
    exact hb20 (M1 732 83) M1 L _ _ ls hD hw (lv_sub hl [] rfl)

theorem dX19_bit_0 : decode cX19_bit 0 = .ok (.aload_n 0, 1) := by decide +kernel
theorem dX19_bit_1 : decode cX19_bit 1 = .ok (.aload_n 0, 1) := by decide +kernel
theorem dX19_bit_2 : decode cX19_bit 2 = .ok (.getfield 630, 3) := by decide +kernel
theorem dX19_bit_5 : decode cX19_bit 5 = .ok (.ifCond .eq 15, 3) := by decide +kernel
theorem dX19_bit_8 : decode cX19_bit 8 = .ok (.iload_n 1, 1) := by decide +kernel
theorem dX19_bit_9 : decode cX19_bit 9 = .ok (.ifCond .lt 11, 3) := by decide +kernel
theorem dX19_bit_12 : decode cX19_bit 12 = .ok (.iload_n 1, 1) := by decide +kernel
theorem dX19_bit_13 : decode cX19_bit 13 = .ok (.aload_n 0, 1) := by decide +kernel
theorem dX19_bit_14 : decode cX19_bit 14 = .ok (.getfield 600, 3) := by decide +kernel
theorem dX19_bit_17 : decode cX19_bit 17 = .ok (.if_icmp .lt 7, 3) := by decide +kernel
theorem dX19_bit_20 : decode cX19_bit 20 = .ok (.iconst 1, 1) := by decide +kernel
theorem dX19_bit_21 : decode cX19_bit 21 = .ok (.goto 4, 3) := by decide +kernel
theorem dX19_bit_24 : decode cX19_bit 24 = .ok (.iconst 0, 1) := by decide +kernel
theorem dX19_bit_25 : decode cX19_bit 25 = .ok (.putfield 289, 3) := by decide +kernel
theorem dX19_bit_28 : decode cX19_bit 28 = .ok (.aload_n 0, 1) := by decide +kernel
theorem dX19_bit_29 : decode cX19_bit 29 = .ok (.getfield 289, 3) := by decide +kernel
theorem dX19_bit_32 : decode cX19_bit 32 = .ok (.ifCond .le 7, 3) := by decide +kernel
theorem dX19_bit_35 : decode cX19_bit 35 = .ok (.iconst 0, 1) := by decide +kernel
theorem dX19_bit_36 : decode cX19_bit 36 = .ok (.goto 11, 3) := by decide +kernel
theorem dX19_bit_39 : decode cX19_bit 39 = .ok (.aload_n 0, 1) := by decide +kernel
theorem dX19_bit_40 : decode cX19_bit 40 = .ok (.getfield 184, 3) := by decide +kernel
theorem dX19_bit_43 : decode cX19_bit 43 = .ok (.iload_n 1, 1) := by decide +kernel
theorem dX19_bit_44 : decode cX19_bit 44 = .ok (.invokevirtual 812, 3) := by decide +kernel
theorem dX19_bit_47 : decode cX19_bit 47 = .ok (.ireturn, 1) := by decide +kernel
theorem cwX19_bit : mw_cwV yX19_bit cX19_bit 2 ((some .int)) 1 := ⟨⟨wd_13, wd_4209, by decide +kernel⟩, wd_4207, wd_4208⟩
set_option maxHeartbeats 4000000 in
set_option maxRecDepth 100000 in
theorem tX19_bit (l : Launch) (G : mwG) (ad : Nat → Nat) (fu : Nat) (a1 : Int32) (M : mwM) (L : mwL) {r0 : Int32} {M0 : mwM} {L0 : mwL} (hD : DX19_bit fu a1 M L = some (r0, M0, L0)) : Met l yX19_bit (Cond.code yX19_bit cX19_bit 2 ((some .int)) :: GT) ({ frames := 1, cells := 0, slots := 0, locals := 21 }) (mw_Pre G ad NF TF FF M L [.ref (ad 732), .int a1]) (mw_Qi G ad NF TF FF (mw_eqI r0 M0 L0)) 0 0 (mw_fr G) := by
  refine mw_enter (by decide) (Nat.le_of_ble_eq_true rfl) ?_
  intro p e s m below meth c ls C hr hlocks hnm hw hl
  have hl : lv_has ls 2 [(0, .ref (ad 732)), (1, .int a1)] := hl
  have hb47 : ∀ (s0 : Int32) (M : mwM) (L : mwL) (H : Heap) (locs : List Loc) (ls : Array Slot), fX19_bit_b47 fu a1 s0 M L = some (r0, M0, L0) → mw_W G ad NF TF FF M L H locs → lv_has ls 2 [] → W p l e ({ frames := 1, cells := 0, slots := 0, locals := 21 }) s m [.ref (ad 732), .int a1].toArray below meth c H locs 0 0 (MQ below (mw_Qi G ad NF TF FF (mw_eqI r0 M0 L0)) [.ref (ad 732), .int a1].toArray s 0 0 (mw_fr G)) (F0 m 47 ls [.int s0]) := by
    intro s0 M L H locs ls hD hw hl
    unfold fX19_bit_b47 at hD
    exact mr_iret C hr hlocks hw rfl (Option.some.inj hD) dX19_bit_47
  have hb25 : ∀ (s1 : Int32) (M : mwM) (L : mwL) (H : Heap) (locs : List Loc) (ls : Array Slot), fX19_bit_b25 fu a1 s1 M L = some (r0, M0, L0) → mw_W G ad NF TF FF M L H locs → lv_has ls 2 [(0, .ref (ad 732)), (1, .int a1)] → W p l e ({ frames := 1, cells := 0, slots := 0, locals := 21 }) s m [.ref (ad 732), .int a1].toArray below meth c H locs 0 0 (MQ below (mw_Qi G ad NF TF FF (mw_eqI r0 M0 L0)) [.ref (ad 732), .int a1].toArray s 0 0 (mw_fr G)) (F0 m 25 ls [.int s1, .ref (ad 732)]) := by
    intro s1 M L H locs ls hD hw hl
    unfold fX19_bit_b25 at hD
    obtain ⟨M1, eM1, hD⟩ := g_let hD
    refine mr_putI C hw kc_19 0 (by decide) tf_732 wd_2781 dX19_bit_25 (by decide) rfl rfl rfl rfl (fun H locs hw => ?_)
    replace hw : mw_W G ad NF TF FF M1 L H locs := by rw [eM1]; exact hw
    refine lv_aload_n C.1.1 C.1.2.1 dX19_bit_28 rfl (lv_at hl 0 rfl) ?_
    refine mr_getI C hw kc_19 0 (by decide) tf_732 wd_2781 dX19_bit_29 (by decide) rfl ?_
    refine lv_if_le (tgt := 39) C.1.1 C.1.2.1 dX19_bit_32 (by decide) (fun c2 => ?_) (fun c2 => ?_)
    · replace hD := g_pos c2 hD
      refine lv_aload_n C.1.1 C.1.2.1 dX19_bit_39 rfl (lv_at hl 0 rfl) ?_
      refine mr_getR C hw kc_19 77 (by decide) tf_732 ff_732_77 wd_2858 dX19_bit_40 (by decide) rfl ?_
      refine lv_iload_n C.1.1 C.1.2.1 dX19_bit_43 rfl (lv_at hl 1 rfl) ?_
      obtain ⟨r5, M3, L4, h1, hD⟩ := g_b3 hD
      refine md_cvI (As := [.int a1]) (rest := []) C hw (tX12_bit l G ad fu a1 M1 L h1) kc_12 (by decide) tf_821 wd_4210 cwX12_bit ⟨Nat.le_of_ble_eq_true rfl, Nat.le_of_ble_eq_true rfl⟩ rfl hl.1 (Nat.le_of_ble_eq_true rfl) dX19_bit_44 rfl rfl ⟨Nat.zero_le _, Nat.zero_le _⟩ rfl (fun H locs hw => ?_)
      exact hb47 r5 M3 L4 _ _ ls hD hw (lv_sub hl [] rfl)
    · replace hD := g_neg c2 hD
      refine lv_iconst (v := 0) C.1.1 C.1.2.1 dX19_bit_35 (by decide) ?_
      refine lv_goto (tgt := 47) C.1.1 C.1.2.1 dX19_bit_36 (by decide) ?_
      exact hb47 0 M1 L _ _ ls hD hw (lv_sub hl [] rfl)
  have hb20 : ∀ (M : mwM) (L : mwL) (H : Heap) (locs : List Loc) (ls : Array Slot), fX19_bit_b20 fu a1 M L = some (r0, M0, L0) → mw_W G ad NF TF FF M L H locs → lv_has ls 2 [(0, .ref (ad 732)), (1, .int a1)] → W p l e ({ frames := 1, cells := 0, slots := 0, locals := 21 }) s m [.ref (ad 732), .int a1].toArray below meth c H locs 0 0 (MQ below (mw_Qi G ad NF TF FF (mw_eqI r0 M0 L0)) [.ref (ad 732), .int a1].toArray s 0 0 (mw_fr G)) (F0 m 20 ls [.ref (ad 732)]) := by
    intro M L H locs ls hD hw hl
    unfold fX19_bit_b20 at hD
    refine lv_iconst (v := 1) C.1.1 C.1.2.1 dX19_bit_20 (by decide) ?_
    refine lv_goto (tgt := 25) C.1.1 C.1.2.1 dX19_bit_21 (by decide) ?_
    exact hb25 1 M L _ _ ls hD hw (lv_sub hl [0, 1] rfl)
  unfold DX19_bit at hD
  refine lv_aload_n C.1.1 C.1.2.1 dX19_bit_0 rfl (lv_at hl 0 rfl) ?_
  refine lv_aload_n C.1.1 C.1.2.1 dX19_bit_1 rfl (lv_at hl 0 rfl) ?_
  refine mr_getI C hw kc_19 4 (by decide) tf_732 wd_2785 dX19_bit_2 (by decide) rfl ?_
  refine lv_if_eq (tgt := 20) C.1.1 C.1.2.1 dX19_bit_5 (by decide) (fun c6 => ?_) (fun c6 => ?_)
  · replace hD := g_pos c6 hD
    exact hb20 M L _ _ ls hD hw (lv_sub hl [0, 1] rfl)
  · replace hD := g_neg c6 hD
    refine lv_iload_n C.1.1 C.1.2.1 dX19_bit_8 rfl (lv_at hl 1 rfl) ?_
    refine lv_if_lt (tgt := 20) C.1.1 C.1.2.1 dX19_bit_9 (by decide) (fun c7 => ?_) (fun c7 => ?_)
    · replace hD := g_pos c7 hD
      exact hb20 M L _ _ ls hD hw (lv_sub hl [0, 1] rfl)
    · replace hD := g_neg c7 hD
      refine lv_iload_n C.1.1 C.1.2.1 dX19_bit_12 rfl (lv_at hl 1 rfl) ?_
      refine lv_aload_n C.1.1 C.1.2.1 dX19_bit_13 rfl (lv_at hl 0 rfl) ?_
      refine mr_getI C hw kc_19 83 (by decide) tf_732 wd_2864 dX19_bit_14 (by decide) rfl ?_
      refine lv_icmp_lt (tgt := 24) C.1.1 C.1.2.1 dX19_bit_17 (by decide) (fun c8 => ?_) (fun c8 => ?_)
      · replace hD := g_pos c8 hD
        refine lv_iconst (v := 0) C.1.1 C.1.2.1 dX19_bit_24 (by decide) ?_
        exact hb25 0 M L _ _ ls hD hw (lv_sub hl [0, 1] rfl)
      · replace hD := g_neg c8 hD
        exact hb20 M L _ _ ls hD hw (lv_sub hl [0, 1] rfl)

theorem dX19_node_0 : decode cX19_node 0 = .ok (.aload_n 0, 1) := by decide +kernel
theorem dX19_node_1 : decode cX19_node 1 = .ok (.aload_n 0, 1) := by decide +kernel
theorem dX19_node_2 : decode cX19_node 2 = .ok (.getfield 630, 3) := by decide +kernel
theorem dX19_node_5 : decode cX19_node 5 = .ok (.ifCond .eq 15, 3) := by decide +kernel
theorem dX19_node_8 : decode cX19_node 8 = .ok (.iload_n 1, 1) := by decide +kernel
theorem dX19_node_9 : decode cX19_node 9 = .ok (.ifCond .lt 11, 3) := by decide +kernel
theorem dX19_node_12 : decode cX19_node 12 = .ok (.iload_n 1, 1) := by decide +kernel
theorem dX19_node_13 : decode cX19_node 13 = .ok (.aload_n 0, 1) := by decide +kernel
theorem dX19_node_14 : decode cX19_node 14 = .ok (.getfield 435, 3) := by decide +kernel
theorem dX19_node_17 : decode cX19_node 17 = .ok (.if_icmp .le 7, 3) := by decide +kernel
theorem dX19_node_20 : decode cX19_node 20 = .ok (.iconst 1, 1) := by decide +kernel
theorem dX19_node_21 : decode cX19_node 21 = .ok (.goto 17, 3) := by decide +kernel
theorem dX19_node_24 : decode cX19_node 24 = .ok (.iload_n 2, 1) := by decide +kernel
theorem dX19_node_25 : decode cX19_node 25 = .ok (.ifCond .lt 8, 3) := by decide +kernel
theorem dX19_node_28 : decode cX19_node 28 = .ok (.iload_n 2, 1) := by decide +kernel
theorem dX19_node_29 : decode cX19_node 29 = .ok (.iconst 2, 1) := by decide +kernel
theorem dX19_node_30 : decode cX19_node 30 = .ok (.if_icmp .le 7, 3) := by decide +kernel
theorem dX19_node_33 : decode cX19_node 33 = .ok (.iconst 2, 1) := by decide +kernel
theorem dX19_node_34 : decode cX19_node 34 = .ok (.goto 4, 3) := by decide +kernel
theorem dX19_node_37 : decode cX19_node 37 = .ok (.iconst 0, 1) := by decide +kernel
theorem dX19_node_38 : decode cX19_node 38 = .ok (.putfield 289, 3) := by decide +kernel
theorem dX19_node_41 : decode cX19_node 41 = .ok (.aload_n 0, 1) := by decide +kernel
theorem dX19_node_42 : decode cX19_node 42 = .ok (.getfield 289, 3) := by decide +kernel
theorem dX19_node_45 : decode cX19_node 45 = .ok (.ifCond .le 5, 3) := by decide +kernel
theorem dX19_node_48 : decode cX19_node 48 = .ok (.iconst 0, 1) := by decide +kernel
theorem dX19_node_49 : decode cX19_node 49 = .ok (.ireturn, 1) := by decide +kernel
theorem dX19_node_50 : decode cX19_node 50 = .ok (.iload_n 2, 1) := by decide +kernel
theorem dX19_node_51 : decode cX19_node 51 = .ok (.ifCond .ne 14, 3) := by decide +kernel
theorem dX19_node_54 : decode cX19_node 54 = .ok (.aload_n 0, 1) := by decide +kernel
theorem dX19_node_55 : decode cX19_node 55 = .ok (.getfield 184, 3) := by decide +kernel
theorem dX19_node_58 : decode cX19_node 58 = .ok (.iload_n 1, 1) := by decide +kernel
theorem dX19_node_59 : decode cX19_node 59 = .ok (.invokevirtual 815, 3) := by decide +kernel
theorem dX19_node_62 : decode cX19_node 62 = .ok (.goto 29, 3) := by decide +kernel
theorem dX19_node_65 : decode cX19_node 65 = .ok (.iload_n 2, 1) := by decide +kernel
theorem dX19_node_66 : decode cX19_node 66 = .ok (.iconst 1, 1) := by decide +kernel
theorem dX19_node_67 : decode cX19_node 67 = .ok (.if_icmp .ne 14, 3) := by decide +kernel
theorem dX19_node_70 : decode cX19_node 70 = .ok (.aload_n 0, 1) := by decide +kernel
theorem dX19_node_71 : decode cX19_node 71 = .ok (.getfield 184, 3) := by decide +kernel
theorem dX19_node_74 : decode cX19_node 74 = .ok (.iload_n 1, 1) := by decide +kernel
theorem dX19_node_75 : decode cX19_node 75 = .ok (.invokevirtual 816, 3) := by decide +kernel
theorem dX19_node_78 : decode cX19_node 78 = .ok (.goto 13, 3) := by decide +kernel
theorem dX19_node_81 : decode cX19_node 81 = .ok (.aload_n 0, 1) := by decide +kernel
theorem dX19_node_82 : decode cX19_node 82 = .ok (.getfield 184, 3) := by decide +kernel
theorem dX19_node_85 : decode cX19_node 85 = .ok (.iload_n 1, 1) := by decide +kernel
theorem dX19_node_86 : decode cX19_node 86 = .ok (.iconst (-1), 1) := by decide +kernel
theorem dX19_node_87 : decode cX19_node 87 = .ok (.iconst 0, 1) := by decide +kernel
theorem dX19_node_88 : decode cX19_node 88 = .ok (.invokevirtual 682, 3) := by decide +kernel
theorem dX19_node_91 : decode cX19_node 91 = .ok (.ireturn, 1) := by decide +kernel
theorem cwX19_node : mw_cwV yX19_node cX19_node 3 ((some .int)) 2 := ⟨⟨wd_13, wd_4217, by decide +kernel⟩, wd_4215, wd_4216⟩
set_option maxHeartbeats 4000000 in
set_option maxRecDepth 100000 in
theorem tX19_node (l : Launch) (G : mwG) (ad : Nat → Nat) (fu : Nat) (a1 : Int32) (a2 : Int32) (M : mwM) (L : mwL) {r0 : Int32} {M0 : mwM} {L0 : mwL} (hD : DX19_node fu a1 a2 M L = some (r0, M0, L0)) : Met l yX19_node (Cond.code yX19_node cX19_node 3 ((some .int)) :: GT) ({ frames := 2, cells := 0, slots := 0, locals := 49 }) (mw_Pre G ad NF TF FF M L [.ref (ad 732), .int a1, .int a2]) (mw_Qi G ad NF TF FF (mw_eqI r0 M0 L0)) 0 0 (mw_fr G) := by
  refine mw_enter (by decide) (Nat.le_of_ble_eq_true rfl) ?_
  intro p e s m below meth c ls C hr hlocks hnm hw hl
  have hl : lv_has ls 3 [(0, .ref (ad 732)), (1, .int a1), (2, .int a2)] := hl
  have hb91 : ∀ (s0 : Int32) (M : mwM) (L : mwL) (H : Heap) (locs : List Loc) (ls : Array Slot), fX19_node_b91 fu a1 a2 s0 M L = some (r0, M0, L0) → mw_W G ad NF TF FF M L H locs → lv_has ls 3 [] → W p l e ({ frames := 2, cells := 0, slots := 0, locals := 49 }) s m [.ref (ad 732), .int a1, .int a2].toArray below meth c H locs 0 0 (MQ below (mw_Qi G ad NF TF FF (mw_eqI r0 M0 L0)) [.ref (ad 732), .int a1, .int a2].toArray s 0 0 (mw_fr G)) (F0 m 91 ls [.int s0]) := by
    intro s0 M L H locs ls hD hw hl
    unfold fX19_node_b91 at hD
    exact mr_iret C hr hlocks hw rfl (Option.some.inj hD) dX19_node_91
  have hb38 : ∀ (s1 : Int32) (M : mwM) (L : mwL) (H : Heap) (locs : List Loc) (ls : Array Slot), fX19_node_b38 fu a1 a2 s1 M L = some (r0, M0, L0) → mw_W G ad NF TF FF M L H locs → lv_has ls 3 [(0, .ref (ad 732)), (1, .int a1), (2, .int a2)] → W p l e ({ frames := 2, cells := 0, slots := 0, locals := 49 }) s m [.ref (ad 732), .int a1, .int a2].toArray below meth c H locs 0 0 (MQ below (mw_Qi G ad NF TF FF (mw_eqI r0 M0 L0)) [.ref (ad 732), .int a1, .int a2].toArray s 0 0 (mw_fr G)) (F0 m 38 ls [.int s1, .ref (ad 732)]) := by
    intro s1 M L H locs ls hD hw hl
    unfold fX19_node_b38 at hD
    obtain ⟨M1, eM1, hD⟩ := g_let hD
    refine mr_putI C hw kc_19 0 (by decide) tf_732 wd_2781 dX19_node_38 (by decide) rfl rfl rfl rfl (fun H locs hw => ?_)
    replace hw : mw_W G ad NF TF FF M1 L H locs := by rw [eM1]; exact hw
    refine lv_aload_n C.1.1 C.1.2.1 dX19_node_41 rfl (lv_at hl 0 rfl) ?_
    refine mr_getI C hw kc_19 0 (by decide) tf_732 wd_2781 dX19_node_42 (by decide) rfl ?_
    refine lv_if_le (tgt := 50) C.1.1 C.1.2.1 dX19_node_45 (by decide) (fun c2 => ?_) (fun c2 => ?_)
    · replace hD := g_pos c2 hD
      refine lv_iload_n C.1.1 C.1.2.1 dX19_node_50 rfl (lv_at hl 2 rfl) ?_
      refine lv_if_ne (tgt := 65) C.1.1 C.1.2.1 dX19_node_51 (by decide) (fun c3 => ?_) (fun c3 => ?_)
      · replace hD := g_neg c3 hD
        refine lv_iload_n C.1.1 C.1.2.1 dX19_node_65 rfl (lv_at hl 2 rfl) ?_
        refine lv_iconst (v := 1) C.1.1 C.1.2.1 dX19_node_66 (by decide) ?_
        refine lv_icmp_ne (tgt := 81) C.1.1 C.1.2.1 dX19_node_67 (by decide) (fun c4 => ?_) (fun c4 => ?_)
        · replace hD := g_neg c4 hD
          refine lv_aload_n C.1.1 C.1.2.1 dX19_node_81 rfl (lv_at hl 0 rfl) ?_
          refine mr_getR C hw kc_19 77 (by decide) tf_732 ff_732_77 wd_2858 dX19_node_82 (by decide) rfl ?_
          refine lv_iload_n C.1.1 C.1.2.1 dX19_node_85 rfl (lv_at hl 1 rfl) ?_
          refine lv_iconst (v := (-1)) C.1.1 C.1.2.1 dX19_node_86 (by decide) ?_
          refine lv_iconst (v := 0) C.1.1 C.1.2.1 dX19_node_87 (by decide) ?_
          obtain ⟨r7, M5, L6, h1, hD⟩ := g_b3 hD
          refine md_cvI (As := [.int a1, .int ((-1)), .int 0]) (rest := []) C hw (tX12_taken l G ad fu a1 ((-1)) 0 M1 L h1) kc_12 (by decide) tf_821 wd_3858 cwX12_taken ⟨Nat.le_of_ble_eq_true rfl, Nat.le_of_ble_eq_true rfl⟩ rfl hl.1 (Nat.le_of_ble_eq_true rfl) dX19_node_88 rfl rfl ⟨Nat.zero_le _, Nat.zero_le _⟩ rfl (fun H locs hw => ?_)
          exact hb91 r7 M5 L6 _ _ ls hD hw (lv_sub hl [] rfl)
        · replace hD := g_pos c4 hD
          refine lv_aload_n C.1.1 C.1.2.1 dX19_node_70 rfl (lv_at hl 0 rfl) ?_
          refine mr_getR C hw kc_19 77 (by decide) tf_732 ff_732_77 wd_2858 dX19_node_71 (by decide) rfl ?_
          refine lv_iload_n C.1.1 C.1.2.1 dX19_node_74 rfl (lv_at hl 1 rfl) ?_
          obtain ⟨r10, M8, L9, h1, hD⟩ := g_b3 hD
          refine md_cvI (As := [.int a1]) (rest := []) C hw (tX12_waiting l G ad fu a1 M1 L h1) kc_12 (by decide) tf_821 wd_4222 cwX12_waiting ⟨Nat.le_of_ble_eq_true rfl, Nat.le_of_ble_eq_true rfl⟩ rfl hl.1 (Nat.le_of_ble_eq_true rfl) dX19_node_75 rfl rfl ⟨Nat.zero_le _, Nat.zero_le _⟩ rfl (fun H locs hw => ?_)
          refine lv_goto (tgt := 91) C.1.1 C.1.2.1 dX19_node_78 (by decide) ?_
          exact hb91 r10 M8 L9 _ _ ls hD hw (lv_sub hl [] rfl)
      · replace hD := g_pos c3 hD
        refine lv_aload_n C.1.1 C.1.2.1 dX19_node_54 rfl (lv_at hl 0 rfl) ?_
        refine mr_getR C hw kc_19 77 (by decide) tf_732 ff_732_77 wd_2858 dX19_node_55 (by decide) rfl ?_
        refine lv_iload_n C.1.1 C.1.2.1 dX19_node_58 rfl (lv_at hl 1 rfl) ?_
        obtain ⟨r13, M11, L12, h1, hD⟩ := g_b3 hD
        refine md_cvI (As := [.int a1]) (rest := []) C hw (tX12_state l G ad fu a1 M1 L h1) kc_12 (by decide) tf_821 wd_4218 cwX12_state ⟨Nat.le_of_ble_eq_true rfl, Nat.le_of_ble_eq_true rfl⟩ rfl hl.1 (Nat.le_of_ble_eq_true rfl) dX19_node_59 rfl rfl ⟨Nat.zero_le _, Nat.zero_le _⟩ rfl (fun H locs hw => ?_)
        refine lv_goto (tgt := 91) C.1.1 C.1.2.1 dX19_node_62 (by decide) ?_
        exact hb91 r13 M11 L12 _ _ ls hD hw (lv_sub hl [] rfl)
    · replace hD := g_neg c2 hD
      refine lv_iconst (v := 0) C.1.1 C.1.2.1 dX19_node_48 (by decide) ?_
      exact mr_iret C hr hlocks hw rfl (Option.some.inj hD) dX19_node_49
  have hb20 : ∀ (M : mwM) (L : mwL) (H : Heap) (locs : List Loc) (ls : Array Slot), fX19_node_b20 fu a1 a2 M L = some (r0, M0, L0) → mw_W G ad NF TF FF M L H locs → lv_has ls 3 [(0, .ref (ad 732)), (1, .int a1), (2, .int a2)] → W p l e ({ frames := 2, cells := 0, slots := 0, locals := 49 }) s m [.ref (ad 732), .int a1, .int a2].toArray below meth c H locs 0 0 (MQ below (mw_Qi G ad NF TF FF (mw_eqI r0 M0 L0)) [.ref (ad 732), .int a1, .int a2].toArray s 0 0 (mw_fr G)) (F0 m 20 ls [.ref (ad 732)]) := by
    intro M L H locs ls hD hw hl
    unfold fX19_node_b20 at hD
    refine lv_iconst (v := 1) C.1.1 C.1.2.1 dX19_node_20 (by decide) ?_
    refine lv_goto (tgt := 38) C.1.1 C.1.2.1 dX19_node_21 (by decide) ?_
    exact hb38 1 M L _ _ ls hD hw (lv_sub hl [0, 1, 2] rfl)
  have hb33 : ∀ (M : mwM) (L : mwL) (H : Heap) (locs : List Loc) (ls : Array Slot), fX19_node_b33 fu a1 a2 M L = some (r0, M0, L0) → mw_W G ad NF TF FF M L H locs → lv_has ls 3 [(0, .ref (ad 732)), (1, .int a1), (2, .int a2)] → W p l e ({ frames := 2, cells := 0, slots := 0, locals := 49 }) s m [.ref (ad 732), .int a1, .int a2].toArray below meth c H locs 0 0 (MQ below (mw_Qi G ad NF TF FF (mw_eqI r0 M0 L0)) [.ref (ad 732), .int a1, .int a2].toArray s 0 0 (mw_fr G)) (F0 m 33 ls [.ref (ad 732)]) := by
    intro M L H locs ls hD hw hl
    unfold fX19_node_b33 at hD
    refine lv_iconst (v := 2) C.1.1 C.1.2.1 dX19_node_33 (by decide) ?_
    refine lv_goto (tgt := 38) C.1.1 C.1.2.1 dX19_node_34 (by decide) ?_
    exact hb38 2 M L _ _ ls hD hw (lv_sub hl [0, 1, 2] rfl)
  unfold DX19_node at hD
  refine lv_aload_n C.1.1 C.1.2.1 dX19_node_0 rfl (lv_at hl 0 rfl) ?_
  refine lv_aload_n C.1.1 C.1.2.1 dX19_node_1 rfl (lv_at hl 0 rfl) ?_
  refine mr_getI C hw kc_19 4 (by decide) tf_732 wd_2785 dX19_node_2 (by decide) rfl ?_
  refine lv_if_eq (tgt := 20) C.1.1 C.1.2.1 dX19_node_5 (by decide) (fun c14 => ?_) (fun c14 => ?_)
  · replace hD := g_pos c14 hD
    exact hb20 M L _ _ ls hD hw (lv_sub hl [0, 1, 2] rfl)
  · replace hD := g_neg c14 hD
    refine lv_iload_n C.1.1 C.1.2.1 dX19_node_8 rfl (lv_at hl 1 rfl) ?_
    refine lv_if_lt (tgt := 20) C.1.1 C.1.2.1 dX19_node_9 (by decide) (fun c15 => ?_) (fun c15 => ?_)
    · replace hD := g_pos c15 hD
      exact hb20 M L _ _ ls hD hw (lv_sub hl [0, 1, 2] rfl)
    · replace hD := g_neg c15 hD
      refine lv_iload_n C.1.1 C.1.2.1 dX19_node_12 rfl (lv_at hl 1 rfl) ?_
      refine lv_aload_n C.1.1 C.1.2.1 dX19_node_13 rfl (lv_at hl 0 rfl) ?_
      refine mr_getI C hw kc_19 19 (by decide) tf_732 wd_2800 dX19_node_14 (by decide) rfl ?_
      refine lv_icmp_le (tgt := 24) C.1.1 C.1.2.1 dX19_node_17 (by decide) (fun c16 => ?_) (fun c16 => ?_)
      · replace hD := g_pos c16 hD
        refine lv_iload_n C.1.1 C.1.2.1 dX19_node_24 rfl (lv_at hl 2 rfl) ?_
        refine lv_if_lt (tgt := 33) C.1.1 C.1.2.1 dX19_node_25 (by decide) (fun c17 => ?_) (fun c17 => ?_)
        · replace hD := g_pos c17 hD
          exact hb33 M L _ _ ls hD hw (lv_sub hl [0, 1, 2] rfl)
        · replace hD := g_neg c17 hD
          refine lv_iload_n C.1.1 C.1.2.1 dX19_node_28 rfl (lv_at hl 2 rfl) ?_
          refine lv_iconst (v := 2) C.1.1 C.1.2.1 dX19_node_29 (by decide) ?_
          refine lv_icmp_le (tgt := 37) C.1.1 C.1.2.1 dX19_node_30 (by decide) (fun c18 => ?_) (fun c18 => ?_)
          · replace hD := g_pos c18 hD
            refine lv_iconst (v := 0) C.1.1 C.1.2.1 dX19_node_37 (by decide) ?_
            exact hb38 0 M L _ _ ls hD hw (lv_sub hl [0, 1, 2] rfl)
          · replace hD := g_neg c18 hD
            exact hb33 M L _ _ ls hD hw (lv_sub hl [0, 1, 2] rfl)
      · replace hD := g_neg c16 hD
        exact hb20 M L _ _ ls hD hw (lv_sub hl [0, 1, 2] rfl)

theorem dX19_error_0 : decode cX19_error 0 = .ok (.aload_n 0, 1) := by decide +kernel
theorem dX19_error_1 : decode cX19_error 1 = .ok (.aload_n 0, 1) := by decide +kernel
theorem dX19_error_2 : decode cX19_error 2 = .ok (.getfield 630, 3) := by decide +kernel
theorem dX19_error_5 : decode cX19_error 5 = .ok (.ifCond .eq 7, 3) := by decide +kernel
theorem dX19_error_8 : decode cX19_error 8 = .ok (.iconst 0, 1) := by decide +kernel
theorem dX19_error_9 : decode cX19_error 9 = .ok (.goto 4, 3) := by decide +kernel
theorem dX19_error_12 : decode cX19_error 12 = .ok (.iconst 1, 1) := by decide +kernel
theorem dX19_error_13 : decode cX19_error 13 = .ok (.putfield 289, 3) := by decide +kernel
theorem dX19_error_16 : decode cX19_error 16 = .ok (.aload_n 0, 1) := by decide +kernel
theorem dX19_error_17 : decode cX19_error 17 = .ok (.getfield 289, 3) := by decide +kernel
theorem dX19_error_20 : decode cX19_error 20 = .ok (.ifCond .le 5, 3) := by decide +kernel
theorem dX19_error_23 : decode cX19_error 23 = .ok (.iconst 0, 1) := by decide +kernel
theorem dX19_error_24 : decode cX19_error 24 = .ok (.ireturn, 1) := by decide +kernel
theorem dX19_error_25 : decode cX19_error 25 = .ok (.aload_n 0, 1) := by decide +kernel
theorem dX19_error_26 : decode cX19_error 26 = .ok (.getfield 184, 3) := by decide +kernel
theorem dX19_error_29 : decode cX19_error 29 = .ok (.iload_n 1, 1) := by decide +kernel
theorem dX19_error_30 : decode cX19_error 30 = .ok (.iload_n 2, 1) := by decide +kernel
theorem dX19_error_31 : decode cX19_error 31 = .ok (.invokevirtual 819, 3) := by decide +kernel
theorem dX19_error_34 : decode cX19_error 34 = .ok (.istore_n 3, 1) := by decide +kernel
theorem dX19_error_35 : decode cX19_error 35 = .ok (.aload_n 0, 1) := by decide +kernel
theorem dX19_error_36 : decode cX19_error 36 = .ok (.aload_n 0, 1) := by decide +kernel
theorem dX19_error_37 : decode cX19_error 37 = .ok (.getfield 184, 3) := by decide +kernel
theorem dX19_error_40 : decode cX19_error 40 = .ok (.invokevirtual 649, 3) := by decide +kernel
theorem dX19_error_43 : decode cX19_error 43 = .ok (.putfield 289, 3) := by decide +kernel
theorem dX19_error_46 : decode cX19_error 46 = .ok (.aload_n 0, 1) := by decide +kernel
theorem dX19_error_47 : decode cX19_error 47 = .ok (.getfield 289, 3) := by decide +kernel
theorem dX19_error_50 : decode cX19_error 50 = .ok (.ifCond .le 7, 3) := by decide +kernel
theorem dX19_error_53 : decode cX19_error 53 = .ok (.iconst 0, 1) := by decide +kernel
theorem dX19_error_54 : decode cX19_error 54 = .ok (.goto 4, 3) := by decide +kernel
theorem dX19_error_57 : decode cX19_error 57 = .ok (.iload_n 3, 1) := by decide +kernel
theorem dX19_error_58 : decode cX19_error 58 = .ok (.ireturn, 1) := by decide +kernel
theorem cwX19_error : mw_cwV yX19_error cX19_error 4 ((some .int)) 2 := ⟨⟨wd_13, wd_4229, by decide +kernel⟩, wd_4227, wd_4228⟩
set_option maxHeartbeats 4000000 in
set_option maxRecDepth 100000 in
theorem tX19_error (l : Launch) (G : mwG) (ad : Nat → Nat) (fu : Nat) (a1 : Int32) (a2 : Int32) (M : mwM) (L : mwL) {r0 : Int32} {M0 : mwM} {L0 : mwL} (hD : DX19_error fu a1 a2 M L = some (r0, M0, L0)) : Met l yX19_error (Cond.code yX19_error cX19_error 4 ((some .int)) :: GT) ({ frames := 1, cells := 0, slots := 0, locals := 22 }) (mw_Pre G ad NF TF FF M L [.ref (ad 732), .int a1, .int a2]) (mw_Qi G ad NF TF FF (mw_eqI r0 M0 L0)) 0 0 (mw_fr G) := by
  refine mw_enter (by decide) (Nat.le_of_ble_eq_true rfl) ?_
  intro p e s m below meth c ls C hr hlocks hnm hw hl
  have hl : lv_has ls 4 [(0, .ref (ad 732)), (1, .int a1), (2, .int a2)] := hl
  have hb58 : ∀ (s0 : Int32) (M : mwM) (L : mwL) (H : Heap) (locs : List Loc) (ls : Array Slot), fX19_error_b58 fu a1 a2 s0 M L = some (r0, M0, L0) → mw_W G ad NF TF FF M L H locs → lv_has ls 4 [] → W p l e ({ frames := 1, cells := 0, slots := 0, locals := 22 }) s m [.ref (ad 732), .int a1, .int a2].toArray below meth c H locs 0 0 (MQ below (mw_Qi G ad NF TF FF (mw_eqI r0 M0 L0)) [.ref (ad 732), .int a1, .int a2].toArray s 0 0 (mw_fr G)) (F0 m 58 ls [.int s0]) := by
    intro s0 M L H locs ls hD hw hl
    unfold fX19_error_b58 at hD
    exact mr_iret C hr hlocks hw rfl (Option.some.inj hD) dX19_error_58
  have hb13 : ∀ (s1 : Int32) (M : mwM) (L : mwL) (H : Heap) (locs : List Loc) (ls : Array Slot), fX19_error_b13 fu a1 a2 s1 M L = some (r0, M0, L0) → mw_W G ad NF TF FF M L H locs → lv_has ls 4 [(0, .ref (ad 732)), (1, .int a1), (2, .int a2)] → W p l e ({ frames := 1, cells := 0, slots := 0, locals := 22 }) s m [.ref (ad 732), .int a1, .int a2].toArray below meth c H locs 0 0 (MQ below (mw_Qi G ad NF TF FF (mw_eqI r0 M0 L0)) [.ref (ad 732), .int a1, .int a2].toArray s 0 0 (mw_fr G)) (F0 m 13 ls [.int s1, .ref (ad 732)]) := by
    intro s1 M L H locs ls hD hw hl
    unfold fX19_error_b13 at hD
    obtain ⟨M1, eM1, hD⟩ := g_let hD
    refine mr_putI C hw kc_19 0 (by decide) tf_732 wd_2781 dX19_error_13 (by decide) rfl rfl rfl rfl (fun H locs hw => ?_)
    replace hw : mw_W G ad NF TF FF M1 L H locs := by rw [eM1]; exact hw
    refine lv_aload_n C.1.1 C.1.2.1 dX19_error_16 rfl (lv_at hl 0 rfl) ?_
    refine mr_getI C hw kc_19 0 (by decide) tf_732 wd_2781 dX19_error_17 (by decide) rfl ?_
    refine lv_if_le (tgt := 25) C.1.1 C.1.2.1 dX19_error_20 (by decide) (fun c2 => ?_) (fun c2 => ?_)
    · replace hD := g_pos c2 hD
      refine lv_aload_n C.1.1 C.1.2.1 dX19_error_25 rfl (lv_at hl 0 rfl) ?_
      refine mr_getR C hw kc_19 77 (by decide) tf_732 ff_732_77 wd_2858 dX19_error_26 (by decide) rfl ?_
      refine lv_iload_n C.1.1 C.1.2.1 dX19_error_29 rfl (lv_at hl 1 rfl) ?_
      refine lv_iload_n C.1.1 C.1.2.1 dX19_error_30 rfl (lv_at hl 2 rfl) ?_
      obtain ⟨r5, M3, L4, h1, hD⟩ := g_b3 hD
      refine md_cvI (As := [.int a1, .int a2]) (rest := []) C hw (tX12_error l G ad fu a1 a2 M1 L h1) kc_12 (by decide) tf_821 wd_4230 cwX12_error ⟨Nat.le_of_ble_eq_true rfl, Nat.le_of_ble_eq_true rfl⟩ rfl hl.1 (Nat.le_of_ble_eq_true rfl) dX19_error_31 rfl rfl ⟨Nat.zero_le _, Nat.zero_le _⟩ rfl (fun H locs hw => ?_)
      refine lv_istore_n (lv' := [(3, .int r5), (0, .ref (ad 732)), (1, .int a1), (2, .int a2)]) C.1.1 C.1.2.1 dX19_error_34 rfl hl (by decide) rfl (fun ls hl => ?_)
      refine lv_aload_n C.1.1 C.1.2.1 dX19_error_35 rfl (lv_at hl 1 rfl) ?_
      refine lv_aload_n C.1.1 C.1.2.1 dX19_error_36 rfl (lv_at hl 1 rfl) ?_
      refine mr_getR C hw kc_19 77 (by decide) tf_732 ff_732_77 wd_2858 dX19_error_37 (by decide) rfl ?_
      obtain ⟨r8, M6, L7, h1, hD⟩ := g_b3 hD
      refine md_cvI (As := []) (rest := [.ref (ad 732)]) C hw (tX12_thrown l G ad fu M3 L4 h1) kc_12 (by decide) tf_821 wd_3627 cwX12_thrown ⟨Nat.le_of_ble_eq_true rfl, Nat.le_of_ble_eq_true rfl⟩ rfl hl.1 (Nat.le_of_ble_eq_true rfl) dX19_error_40 rfl rfl ⟨Nat.zero_le _, Nat.zero_le _⟩ rfl (fun H locs hw => ?_)
      obtain ⟨M9, eM9, hD⟩ := g_let hD
      refine mr_putI C hw kc_19 0 (by decide) tf_732 wd_2781 dX19_error_43 (by decide) rfl rfl rfl rfl (fun H locs hw => ?_)
      replace hw : mw_W G ad NF TF FF M9 L7 H locs := by rw [eM9]; exact hw
      refine lv_aload_n C.1.1 C.1.2.1 dX19_error_46 rfl (lv_at hl 1 rfl) ?_
      refine mr_getI C hw kc_19 0 (by decide) tf_732 wd_2781 dX19_error_47 (by decide) rfl ?_
      refine lv_if_le (tgt := 57) C.1.1 C.1.2.1 dX19_error_50 (by decide) (fun c10 => ?_) (fun c10 => ?_)
      · replace hD := g_pos c10 hD
        refine lv_iload_n C.1.1 C.1.2.1 dX19_error_57 rfl (lv_at hl 0 rfl) ?_
        exact hb58 r5 M9 L7 _ _ ls hD hw (lv_sub hl [] rfl)
      · replace hD := g_neg c10 hD
        refine lv_iconst (v := 0) C.1.1 C.1.2.1 dX19_error_53 (by decide) ?_
        refine lv_goto (tgt := 58) C.1.1 C.1.2.1 dX19_error_54 (by decide) ?_
        exact hb58 0 M9 L7 _ _ ls hD hw (lv_sub hl [] rfl)
    · replace hD := g_neg c2 hD
      refine lv_iconst (v := 0) C.1.1 C.1.2.1 dX19_error_23 (by decide) ?_
      exact mr_iret C hr hlocks hw rfl (Option.some.inj hD) dX19_error_24
  unfold DX19_error at hD
  refine lv_aload_n C.1.1 C.1.2.1 dX19_error_0 rfl (lv_at hl 0 rfl) ?_
  refine lv_aload_n C.1.1 C.1.2.1 dX19_error_1 rfl (lv_at hl 0 rfl) ?_
  refine mr_getI C hw kc_19 4 (by decide) tf_732 wd_2785 dX19_error_2 (by decide) rfl ?_
  refine lv_if_eq (tgt := 12) C.1.1 C.1.2.1 dX19_error_5 (by decide) (fun c11 => ?_) (fun c11 => ?_)
  · replace hD := g_pos c11 hD
    refine lv_iconst (v := 1) C.1.1 C.1.2.1 dX19_error_12 (by decide) ?_
    exact hb13 1 M L _ _ ls hD hw (lv_sub hl [0, 1, 2] rfl)
  · replace hD := g_neg c11 hD
    refine lv_iconst (v := 0) C.1.1 C.1.2.1 dX19_error_8 (by decide) ?_
    refine lv_goto (tgt := 13) C.1.1 C.1.2.1 dX19_error_9 (by decide) ?_
    exact hb13 0 M L _ _ ls hD hw (lv_sub hl [0, 1, 2] rfl)

theorem dX19_flip_0 : decode cX19_flip 0 = .ok (.aload_n 0, 1) := by decide +kernel
theorem dX19_flip_1 : decode cX19_flip 1 = .ok (.aload_n 0, 1) := by decide +kernel
theorem dX19_flip_2 : decode cX19_flip 2 = .ok (.getfield 630, 3) := by decide +kernel
theorem dX19_flip_5 : decode cX19_flip 5 = .ok (.ifCond .eq 15, 3) := by decide +kernel
theorem dX19_flip_8 : decode cX19_flip 8 = .ok (.iload_n 1, 1) := by decide +kernel
theorem dX19_flip_9 : decode cX19_flip 9 = .ok (.ifCond .lt 11, 3) := by decide +kernel
theorem dX19_flip_12 : decode cX19_flip 12 = .ok (.iload_n 1, 1) := by decide +kernel
theorem dX19_flip_13 : decode cX19_flip 13 = .ok (.aload_n 0, 1) := by decide +kernel
theorem dX19_flip_14 : decode cX19_flip 14 = .ok (.getfield 435, 3) := by decide +kernel
theorem dX19_flip_17 : decode cX19_flip 17 = .ok (.if_icmp .le 7, 3) := by decide +kernel
theorem dX19_flip_20 : decode cX19_flip 20 = .ok (.iconst 1, 1) := by decide +kernel
theorem dX19_flip_21 : decode cX19_flip 21 = .ok (.goto 23, 3) := by decide +kernel
theorem dX19_flip_24 : decode cX19_flip 24 = .ok (.iload_n 2, 1) := by decide +kernel
theorem dX19_flip_25 : decode cX19_flip 25 = .ok (.aload_n 0, 1) := by decide +kernel
theorem dX19_flip_26 : decode cX19_flip 26 = .ok (.getfield 600, 3) := by decide +kernel
theorem dX19_flip_29 : decode cX19_flip 29 = .ok (.if_icmp .lt 10, 3) := by decide +kernel
theorem dX19_flip_32 : decode cX19_flip 32 = .ok (.iload_n 2, 1) := by decide +kernel
theorem dX19_flip_33 : decode cX19_flip 33 = .ok (.sipush 19999, 3) := by decide +kernel
theorem dX19_flip_36 : decode cX19_flip 36 = .ok (.if_icmp .le 7, 3) := by decide +kernel
theorem dX19_flip_39 : decode cX19_flip 39 = .ok (.iconst 2, 1) := by decide +kernel
theorem dX19_flip_40 : decode cX19_flip 40 = .ok (.goto 4, 3) := by decide +kernel
theorem dX19_flip_43 : decode cX19_flip 43 = .ok (.iconst 0, 1) := by decide +kernel
theorem dX19_flip_44 : decode cX19_flip 44 = .ok (.putfield 289, 3) := by decide +kernel
theorem dX19_flip_47 : decode cX19_flip 47 = .ok (.aload_n 0, 1) := by decide +kernel
theorem dX19_flip_48 : decode cX19_flip 48 = .ok (.getfield 289, 3) := by decide +kernel
theorem dX19_flip_51 : decode cX19_flip 51 = .ok (.ifCond .ne 12, 3) := by decide +kernel
theorem dX19_flip_54 : decode cX19_flip 54 = .ok (.aload_n 0, 1) := by decide +kernel
theorem dX19_flip_55 : decode cX19_flip 55 = .ok (.getfield 184, 3) := by decide +kernel
theorem dX19_flip_58 : decode cX19_flip 58 = .ok (.iload_n 1, 1) := by decide +kernel
theorem dX19_flip_59 : decode cX19_flip 59 = .ok (.iload_n 2, 1) := by decide +kernel
theorem dX19_flip_60 : decode cX19_flip 60 = .ok (.invokevirtual 822, 3) := by decide +kernel
theorem dX19_flip_63 : decode cX19_flip 63 = .ok (.return_, 1) := by decide +kernel
theorem cwX19_flip : mw_cwV yX19_flip cX19_flip 3 (none) 2 := ⟨⟨wd_13, wd_4237, by decide +kernel⟩, wd_4235, wd_4236⟩
set_option maxHeartbeats 4000000 in
set_option maxRecDepth 100000 in
theorem tX19_flip (l : Launch) (G : mwG) (ad : Nat → Nat) (fu : Nat) (a1 : Int32) (a2 : Int32) (M : mwM) (L : mwL) {M0 : mwM} {L0 : mwL} (hD : DX19_flip fu a1 a2 M L = some (M0, L0)) : Met l yX19_flip (Cond.code yX19_flip cX19_flip 3 (none) :: GT) ({ frames := 2, cells := 0, slots := 0, locals := 43 }) (mw_Pre G ad NF TF FF M L [.ref (ad 732), .int a1, .int a2]) (mw_Qv G ad NF TF FF (mw_eqV M0 L0)) 0 0 (mw_fr G) := by
  refine mw_enter (by decide) (Nat.le_of_ble_eq_true rfl) ?_
  intro p e s m below meth c ls C hr hlocks hnm hw hl
  have hl : lv_has ls 3 [(0, .ref (ad 732)), (1, .int a1), (2, .int a2)] := hl
  have hb63 : ∀ (M : mwM) (L : mwL) (H : Heap) (locs : List Loc) (ls : Array Slot), fX19_flip_b63 fu a1 a2 M L = some (M0, L0) → mw_W G ad NF TF FF M L H locs → lv_has ls 3 [] → W p l e ({ frames := 2, cells := 0, slots := 0, locals := 43 }) s m [.ref (ad 732), .int a1, .int a2].toArray below meth c H locs 0 0 (MQ below (mw_Qv G ad NF TF FF (mw_eqV M0 L0)) [.ref (ad 732), .int a1, .int a2].toArray s 0 0 (mw_fr G)) (F0 m 63 ls []) := by
    intro M L H locs ls hD hw hl
    unfold fX19_flip_b63 at hD
    exact mr_vret C hr hlocks hw (Option.some.inj hD) dX19_flip_63
  have hb44 : ∀ (s1 : Int32) (M : mwM) (L : mwL) (H : Heap) (locs : List Loc) (ls : Array Slot), fX19_flip_b44 fu a1 a2 s1 M L = some (M0, L0) → mw_W G ad NF TF FF M L H locs → lv_has ls 3 [(0, .ref (ad 732)), (1, .int a1), (2, .int a2)] → W p l e ({ frames := 2, cells := 0, slots := 0, locals := 43 }) s m [.ref (ad 732), .int a1, .int a2].toArray below meth c H locs 0 0 (MQ below (mw_Qv G ad NF TF FF (mw_eqV M0 L0)) [.ref (ad 732), .int a1, .int a2].toArray s 0 0 (mw_fr G)) (F0 m 44 ls [.int s1, .ref (ad 732)]) := by
    intro s1 M L H locs ls hD hw hl
    unfold fX19_flip_b44 at hD
    obtain ⟨M1, eM1, hD⟩ := g_let hD
    refine mr_putI C hw kc_19 0 (by decide) tf_732 wd_2781 dX19_flip_44 (by decide) rfl rfl rfl rfl (fun H locs hw => ?_)
    replace hw : mw_W G ad NF TF FF M1 L H locs := by rw [eM1]; exact hw
    refine lv_aload_n C.1.1 C.1.2.1 dX19_flip_47 rfl (lv_at hl 0 rfl) ?_
    refine mr_getI C hw kc_19 0 (by decide) tf_732 wd_2781 dX19_flip_48 (by decide) rfl ?_
    refine lv_if_ne (tgt := 63) C.1.1 C.1.2.1 dX19_flip_51 (by decide) (fun c2 => ?_) (fun c2 => ?_)
    · replace hD := g_neg c2 hD
      exact hb63 M1 L _ _ ls hD hw (lv_sub hl [] rfl)
    · replace hD := g_pos c2 hD
      refine lv_aload_n C.1.1 C.1.2.1 dX19_flip_54 rfl (lv_at hl 0 rfl) ?_
      refine mr_getR C hw kc_19 77 (by decide) tf_732 ff_732_77 wd_2858 dX19_flip_55 (by decide) rfl ?_
      refine lv_iload_n C.1.1 C.1.2.1 dX19_flip_58 rfl (lv_at hl 1 rfl) ?_
      refine lv_iload_n C.1.1 C.1.2.1 dX19_flip_59 rfl (lv_at hl 2 rfl) ?_
      obtain ⟨M3, L4, h1, hD⟩ := g_b2 hD
      refine md_cvV (As := [.int a1, .int a2]) (rest := []) C hw (tX12_flip l G ad fu a1 a2 M1 L h1) kc_12 (by decide) tf_821 wd_4238 cwX12_flip ⟨Nat.le_of_ble_eq_true rfl, Nat.le_of_ble_eq_true rfl⟩ rfl hl.1 (Nat.le_of_ble_eq_true rfl) dX19_flip_60 rfl rfl ⟨Nat.zero_le _, Nat.zero_le _⟩ rfl (fun H locs hw => ?_)
      exact hb63 M3 L4 _ _ ls hD hw (lv_sub hl [] rfl)
  have hb20 : ∀ (M : mwM) (L : mwL) (H : Heap) (locs : List Loc) (ls : Array Slot), fX19_flip_b20 fu a1 a2 M L = some (M0, L0) → mw_W G ad NF TF FF M L H locs → lv_has ls 3 [(0, .ref (ad 732)), (1, .int a1), (2, .int a2)] → W p l e ({ frames := 2, cells := 0, slots := 0, locals := 43 }) s m [.ref (ad 732), .int a1, .int a2].toArray below meth c H locs 0 0 (MQ below (mw_Qv G ad NF TF FF (mw_eqV M0 L0)) [.ref (ad 732), .int a1, .int a2].toArray s 0 0 (mw_fr G)) (F0 m 20 ls [.ref (ad 732)]) := by
    intro M L H locs ls hD hw hl
    unfold fX19_flip_b20 at hD
    refine lv_iconst (v := 1) C.1.1 C.1.2.1 dX19_flip_20 (by decide) ?_
    refine lv_goto (tgt := 44) C.1.1 C.1.2.1 dX19_flip_21 (by decide) ?_
    exact hb44 1 M L _ _ ls hD hw (lv_sub hl [0, 1, 2] rfl)
  have hb39 : ∀ (M : mwM) (L : mwL) (H : Heap) (locs : List Loc) (ls : Array Slot), fX19_flip_b39 fu a1 a2 M L = some (M0, L0) → mw_W G ad NF TF FF M L H locs → lv_has ls 3 [(0, .ref (ad 732)), (1, .int a1), (2, .int a2)] → W p l e ({ frames := 2, cells := 0, slots := 0, locals := 43 }) s m [.ref (ad 732), .int a1, .int a2].toArray below meth c H locs 0 0 (MQ below (mw_Qv G ad NF TF FF (mw_eqV M0 L0)) [.ref (ad 732), .int a1, .int a2].toArray s 0 0 (mw_fr G)) (F0 m 39 ls [.ref (ad 732)]) := by
    intro M L H locs ls hD hw hl
    unfold fX19_flip_b39 at hD
    refine lv_iconst (v := 2) C.1.1 C.1.2.1 dX19_flip_39 (by decide) ?_
    refine lv_goto (tgt := 44) C.1.1 C.1.2.1 dX19_flip_40 (by decide) ?_
    exact hb44 2 M L _ _ ls hD hw (lv_sub hl [0, 1, 2] rfl)
  unfold DX19_flip at hD
  refine lv_aload_n C.1.1 C.1.2.1 dX19_flip_0 rfl (lv_at hl 0 rfl) ?_
  refine lv_aload_n C.1.1 C.1.2.1 dX19_flip_1 rfl (lv_at hl 0 rfl) ?_
  refine mr_getI C hw kc_19 4 (by decide) tf_732 wd_2785 dX19_flip_2 (by decide) rfl ?_
  refine lv_if_eq (tgt := 20) C.1.1 C.1.2.1 dX19_flip_5 (by decide) (fun c5 => ?_) (fun c5 => ?_)
  · replace hD := g_pos c5 hD
    exact hb20 M L _ _ ls hD hw (lv_sub hl [0, 1, 2] rfl)
  · replace hD := g_neg c5 hD
    refine lv_iload_n C.1.1 C.1.2.1 dX19_flip_8 rfl (lv_at hl 1 rfl) ?_
    refine lv_if_lt (tgt := 20) C.1.1 C.1.2.1 dX19_flip_9 (by decide) (fun c6 => ?_) (fun c6 => ?_)
    · replace hD := g_pos c6 hD
      exact hb20 M L _ _ ls hD hw (lv_sub hl [0, 1, 2] rfl)
    · replace hD := g_neg c6 hD
      refine lv_iload_n C.1.1 C.1.2.1 dX19_flip_12 rfl (lv_at hl 1 rfl) ?_
      refine lv_aload_n C.1.1 C.1.2.1 dX19_flip_13 rfl (lv_at hl 0 rfl) ?_
      refine mr_getI C hw kc_19 19 (by decide) tf_732 wd_2800 dX19_flip_14 (by decide) rfl ?_
      refine lv_icmp_le (tgt := 24) C.1.1 C.1.2.1 dX19_flip_17 (by decide) (fun c7 => ?_) (fun c7 => ?_)
      · replace hD := g_pos c7 hD
        refine lv_iload_n C.1.1 C.1.2.1 dX19_flip_24 rfl (lv_at hl 2 rfl) ?_
        refine lv_aload_n C.1.1 C.1.2.1 dX19_flip_25 rfl (lv_at hl 0 rfl) ?_
        refine mr_getI C hw kc_19 83 (by decide) tf_732 wd_2864 dX19_flip_26 (by decide) rfl ?_
        refine lv_icmp_lt (tgt := 39) C.1.1 C.1.2.1 dX19_flip_29 (by decide) (fun c8 => ?_) (fun c8 => ?_)
        · replace hD := g_pos c8 hD
          exact hb39 M L _ _ ls hD hw (lv_sub hl [0, 1, 2] rfl)
        · replace hD := g_neg c8 hD
          refine lv_iload_n C.1.1 C.1.2.1 dX19_flip_32 rfl (lv_at hl 2 rfl) ?_
          refine lv_sipush (v := 19999) C.1.1 C.1.2.1 dX19_flip_33 (by decide) ?_
          refine lv_icmp_le (tgt := 43) C.1.1 C.1.2.1 dX19_flip_36 (by decide) (fun c9 => ?_) (fun c9 => ?_)
          · replace hD := g_pos c9 hD
            refine lv_iconst (v := 0) C.1.1 C.1.2.1 dX19_flip_43 (by decide) ?_
            exact hb44 0 M L _ _ ls hD hw (lv_sub hl [0, 1, 2] rfl)
          · replace hD := g_neg c9 hD
            exact hb39 M L _ _ ls hD hw (lv_sub hl [0, 1, 2] rfl)
      · replace hD := g_neg c7 hD
        exact hb20 M L _ _ ls hD hw (lv_sub hl [0, 1, 2] rfl)

theorem dX19_noController_0 : decode cX19_noController 0 = .ok (.aload_n 0, 1) := by decide +kernel
theorem dX19_noController_1 : decode cX19_noController 1 = .ok (.getfield 630, 3) := by decide +kernel
theorem dX19_noController_4 : decode cX19_noController 4 = .ok (.ifCond .eq 15, 3) := by decide +kernel
theorem dX19_noController_7 : decode cX19_noController 7 = .ok (.iload_n 1, 1) := by decide +kernel
theorem dX19_noController_8 : decode cX19_noController 8 = .ok (.ifCond .lt 11, 3) := by decide +kernel
theorem dX19_noController_11 : decode cX19_noController 11 = .ok (.iload_n 1, 1) := by decide +kernel
theorem dX19_noController_12 : decode cX19_noController 12 = .ok (.aload_n 0, 1) := by decide +kernel
theorem dX19_noController_13 : decode cX19_noController 13 = .ok (.getfield 435, 3) := by decide +kernel
theorem dX19_noController_16 : decode cX19_noController 16 = .ok (.if_icmp .lt 7, 3) := by decide +kernel
theorem dX19_noController_19 : decode cX19_noController 19 = .ok (.iconst 1, 1) := by decide +kernel
theorem dX19_noController_20 : decode cX19_noController 20 = .ok (.goto 4, 3) := by decide +kernel
theorem dX19_noController_23 : decode cX19_noController 23 = .ok (.iconst 0, 1) := by decide +kernel
theorem dX19_noController_24 : decode cX19_noController 24 = .ok (.ireturn, 1) := by decide +kernel
theorem cwX19_noController : mw_cwV yX19_noController cX19_noController 2 ((some .boolean)) 1 := ⟨⟨wd_13, wd_4249, by decide +kernel⟩, wd_4248, sl_340⟩
set_option maxHeartbeats 4000000 in
set_option maxRecDepth 100000 in
theorem tX19_noController (l : Launch) (G : mwG) (ad : Nat → Nat) (fu : Nat) (a1 : Int32) (M : mwM) (L : mwL) {r0 : Int32} {M0 : mwM} {L0 : mwL} (hD : DX19_noController fu a1 M L = some (r0, M0, L0)) : Met l yX19_noController (Cond.code yX19_noController cX19_noController 2 ((some .boolean)) :: GT) ({ frames := 0, cells := 0, slots := 0, locals := 0 }) (mw_Pre G ad NF TF FF M L [.ref (ad 732), .int a1]) (mw_Qi G ad NF TF FF (mw_eqI r0 M0 L0)) 0 0 (mw_fr G) := by
  refine mw_enter (by decide) (Nat.le_of_ble_eq_true rfl) ?_
  intro p e s m below meth c ls C hr hlocks hnm hw hl
  have hl : lv_has ls 2 [(0, .ref (ad 732)), (1, .int a1)] := hl
  have hb24 : ∀ (s0 : Int32) (M : mwM) (L : mwL) (H : Heap) (locs : List Loc) (ls : Array Slot), fX19_noController_b24 fu a1 s0 M L = some (r0, M0, L0) → mw_W G ad NF TF FF M L H locs → lv_has ls 2 [] → W p l e ({ frames := 0, cells := 0, slots := 0, locals := 0 }) s m [.ref (ad 732), .int a1].toArray below meth c H locs 0 0 (MQ below (mw_Qi G ad NF TF FF (mw_eqI r0 M0 L0)) [.ref (ad 732), .int a1].toArray s 0 0 (mw_fr G)) (F0 m 24 ls [.int s0]) := by
    intro s0 M L H locs ls hD hw hl
    unfold fX19_noController_b24 at hD
    obtain ⟨z1, hD⟩ := g_zz hD
    exact mr_iret C hr hlocks hw (nz_zz z1) (Option.some.inj hD) dX19_noController_24
  have hb19 : ∀ (M : mwM) (L : mwL) (H : Heap) (locs : List Loc) (ls : Array Slot), fX19_noController_b19 fu a1 M L = some (r0, M0, L0) → mw_W G ad NF TF FF M L H locs → lv_has ls 2 [] → W p l e ({ frames := 0, cells := 0, slots := 0, locals := 0 }) s m [.ref (ad 732), .int a1].toArray below meth c H locs 0 0 (MQ below (mw_Qi G ad NF TF FF (mw_eqI r0 M0 L0)) [.ref (ad 732), .int a1].toArray s 0 0 (mw_fr G)) (F0 m 19 ls []) := by
    intro M L H locs ls hD hw hl
    unfold fX19_noController_b19 at hD
    refine lv_iconst (v := 1) C.1.1 C.1.2.1 dX19_noController_19 (by decide) ?_
    refine lv_goto (tgt := 24) C.1.1 C.1.2.1 dX19_noController_20 (by decide) ?_
    exact hb24 1 M L _ _ ls hD hw (lv_sub hl [] rfl)
  unfold DX19_noController at hD
  refine lv_aload_n C.1.1 C.1.2.1 dX19_noController_0 rfl (lv_at hl 0 rfl) ?_
  refine mr_getI C hw kc_19 4 (by decide) tf_732 wd_2785 dX19_noController_1 (by decide) rfl ?_
  refine lv_if_eq (tgt := 19) C.1.1 C.1.2.1 dX19_noController_4 (by decide) (fun c2 => ?_) (fun c2 => ?_)
  · replace hD := g_pos c2 hD
    exact hb19 M L _ _ ls hD hw (lv_sub hl [] rfl)
  · replace hD := g_neg c2 hD
    refine lv_iload_n C.1.1 C.1.2.1 dX19_noController_7 rfl (lv_at hl 1 rfl) ?_
    refine lv_if_lt (tgt := 19) C.1.1 C.1.2.1 dX19_noController_8 (by decide) (fun c3 => ?_) (fun c3 => ?_)
    · replace hD := g_pos c3 hD
      exact hb19 M L _ _ ls hD hw (lv_sub hl [] rfl)
    · replace hD := g_neg c3 hD
      refine lv_iload_n C.1.1 C.1.2.1 dX19_noController_11 rfl (lv_at hl 1 rfl) ?_
      refine lv_aload_n C.1.1 C.1.2.1 dX19_noController_12 rfl (lv_at hl 0 rfl) ?_
      refine mr_getI C hw kc_19 19 (by decide) tf_732 wd_2800 dX19_noController_13 (by decide) rfl ?_
      refine lv_icmp_lt (tgt := 23) C.1.1 C.1.2.1 dX19_noController_16 (by decide) (fun c4 => ?_) (fun c4 => ?_)
      · replace hD := g_pos c4 hD
        refine lv_iconst (v := 0) C.1.1 C.1.2.1 dX19_noController_23 (by decide) ?_
        exact hb24 0 M L _ _ ls hD hw (lv_sub hl [] rfl)
      · replace hD := g_neg c4 hD
        exact hb19 M L _ _ ls hD hw (lv_sub hl [] rfl)

theorem dX19_silence_0 : decode cX19_silence 0 = .ok (.aload_n 0, 1) := by decide +kernel
theorem dX19_silence_1 : decode cX19_silence 1 = .ok (.aload_n 0, 1) := by decide +kernel
theorem dX19_silence_2 : decode cX19_silence 2 = .ok (.iload_n 1, 1) := by decide +kernel
theorem dX19_silence_3 : decode cX19_silence 3 = .ok (.invokevirtual 825, 3) := by decide +kernel
theorem dX19_silence_6 : decode cX19_silence 6 = .ok (.ifCond .eq 7, 3) := by decide +kernel
theorem dX19_silence_9 : decode cX19_silence 9 = .ok (.iconst 1, 1) := by decide +kernel
theorem dX19_silence_10 : decode cX19_silence 10 = .ok (.goto 4, 3) := by decide +kernel
theorem dX19_silence_13 : decode cX19_silence 13 = .ok (.iconst 0, 1) := by decide +kernel
theorem dX19_silence_14 : decode cX19_silence 14 = .ok (.putfield 289, 3) := by decide +kernel
theorem dX19_silence_17 : decode cX19_silence 17 = .ok (.aload_n 0, 1) := by decide +kernel
theorem dX19_silence_18 : decode cX19_silence 18 = .ok (.getfield 289, 3) := by decide +kernel
theorem dX19_silence_21 : decode cX19_silence 21 = .ok (.ifCond .le 5, 3) := by decide +kernel
theorem dX19_silence_24 : decode cX19_silence 24 = .ok (.iconst 0, 1) := by decide +kernel
theorem dX19_silence_25 : decode cX19_silence 25 = .ok (.ireturn, 1) := by decide +kernel
theorem dX19_silence_26 : decode cX19_silence 26 = .ok (.aload_n 0, 1) := by decide +kernel
theorem dX19_silence_27 : decode cX19_silence 27 = .ok (.getfield 221, 3) := by decide +kernel
theorem dX19_silence_30 : decode cX19_silence 30 = .ok (.iload_n 1, 1) := by decide +kernel
theorem dX19_silence_31 : decode cX19_silence 31 = .ok (.iload_n 2, 1) := by decide +kernel
theorem dX19_silence_32 : decode cX19_silence 32 = .ok (.bastore, 1) := by decide +kernel
theorem dX19_silence_33 : decode cX19_silence 33 = .ok (.iconst 0, 1) := by decide +kernel
theorem dX19_silence_34 : decode cX19_silence 34 = .ok (.istore_n 3, 1) := by decide +kernel
theorem dX19_silence_35 : decode cX19_silence 35 = .ok (.iconst 0, 1) := by decide +kernel
theorem dX19_silence_36 : decode cX19_silence 36 = .ok (.istore 4, 2) := by decide +kernel
theorem dX19_silence_38 : decode cX19_silence 38 = .ok (.iload 4, 2) := by decide +kernel
theorem dX19_silence_40 : decode cX19_silence 40 = .ok (.bipush 6, 2) := by decide +kernel
theorem dX19_silence_42 : decode cX19_silence 42 = .ok (.if_icmp .ge 27, 3) := by decide +kernel
theorem dX19_silence_45 : decode cX19_silence 45 = .ok (.aload_n 0, 1) := by decide +kernel
theorem dX19_silence_46 : decode cX19_silence 46 = .ok (.getfield 221, 3) := by decide +kernel
theorem dX19_silence_49 : decode cX19_silence 49 = .ok (.iload 4, 2) := by decide +kernel
theorem dX19_silence_51 : decode cX19_silence 51 = .ok (.baload, 1) := by decide +kernel
theorem dX19_silence_52 : decode cX19_silence 52 = .ok (.ifCond .eq 9, 3) := by decide +kernel
theorem dX19_silence_55 : decode cX19_silence 55 = .ok (.iload_n 3, 1) := by decide +kernel
theorem dX19_silence_56 : decode cX19_silence 56 = .ok (.iconst 1, 1) := by decide +kernel
theorem dX19_silence_57 : decode cX19_silence 57 = .ok (.iadd, 1) := by decide +kernel
theorem dX19_silence_58 : decode cX19_silence 58 = .ok (.goto 4, 3) := by decide +kernel
theorem dX19_silence_61 : decode cX19_silence 61 = .ok (.iload_n 3, 1) := by decide +kernel
theorem dX19_silence_62 : decode cX19_silence 62 = .ok (.istore_n 3, 1) := by decide +kernel
theorem dX19_silence_63 : decode cX19_silence 63 = .ok (.iinc 4 1, 3) := by decide +kernel
theorem dX19_silence_66 : decode cX19_silence 66 = .ok (.goto (-28), 3) := by decide +kernel
theorem dX19_silence_69 : decode cX19_silence 69 = .ok (.iload_n 3, 1) := by decide +kernel
theorem dX19_silence_70 : decode cX19_silence 70 = .ok (.ireturn, 1) := by decide +kernel
theorem cwX19_silence : mw_cwV yX19_silence cX19_silence 5 ((some .int)) 2 := ⟨⟨wd_13, wd_4245, by decide +kernel⟩, wd_4243, wd_4244⟩
set_option maxHeartbeats 4000000 in
set_option maxRecDepth 100000 in
theorem tX19_silence (l : Launch) (G : mwG) (ad : Nat → Nat) (fu : Nat) (a1 : Int32) (a2 : Int32) (M : mwM) (L : mwL) {r0 : Int32} {M0 : mwM} {L0 : mwL} (hD : DX19_silence fu a1 a2 M L = some (r0, M0, L0)) : Met l yX19_silence (Cond.code yX19_silence cX19_silence 5 ((some .int)) :: GT) ({ frames := 1, cells := 0, slots := 0, locals := 21 }) (mw_Pre G ad NF TF FF M L [.ref (ad 732), .int a1, .int a2]) (mw_Qi G ad NF TF FF (mw_eqI r0 M0 L0)) 0 0 (mw_fr G) := by
  refine mw_enter (by decide) (Nat.le_of_ble_eq_true rfl) ?_
  intro p e s m below meth c ls C hr hlocks hnm hw hl
  have hl : lv_has ls 5 [(0, .ref (ad 732)), (1, .int a1), (2, .int a2)] := hl
  have hh38 : ∀ (f : Nat) (v3 : Int32) (v4 : Int32) (M : mwM) (L : mwL) (H : Heap) (locs : List Loc) (ls : Array Slot), fX19_silence_h38 fu a1 a2 f (v3, v4, M, L) = some (r0, M0, L0) → mw_W G ad NF TF FF M L H locs → lv_has ls 5 [(0, .ref (ad 732)), (3, .int v3), (4, .int v4)] → W p l e ({ frames := 1, cells := 0, slots := 0, locals := 21 }) s m [.ref (ad 732), .int a1, .int a2].toArray below meth c H locs 0 0 (MQ below (mw_Qi G ad NF TF FF (mw_eqI r0 M0 L0)) [.ref (ad 732), .int a1, .int a2].toArray s 0 0 (mw_fr G)) (F0 m 38 ls []) := by
    intro f
    induction f with
    | zero => intro v3 v4 M L H locs ls hD; cases hD
    | succ f38 ih38 =>
      intro v3 v4 M L H locs ls hD hw hl
      replace hD : fX19_silence_i38 fu a1 a2 (fX19_silence_h38 fu a1 a2 f38) v3 v4 M L = some (r0, M0, L0) := hD
      have hb62 : ∀ (v4 : Int32) (s0 : Int32) (M : mwM) (L : mwL) (H : Heap) (locs : List Loc) (ls : Array Slot), fX19_silence_b62 fu a1 a2 (fX19_silence_h38 fu a1 a2 f38) v4 s0 M L = some (r0, M0, L0) → mw_W G ad NF TF FF M L H locs → lv_has ls 5 [(0, .ref (ad 732)), (4, .int v4)] → W p l e ({ frames := 1, cells := 0, slots := 0, locals := 21 }) s m [.ref (ad 732), .int a1, .int a2].toArray below meth c H locs 0 0 (MQ below (mw_Qi G ad NF TF FF (mw_eqI r0 M0 L0)) [.ref (ad 732), .int a1, .int a2].toArray s 0 0 (mw_fr G)) (F0 m 62 ls [.int s0]) := by
        intro v4 s0 M L H locs ls hD hw hl
        unfold fX19_silence_b62 at hD
        refine lv_istore_n (lv' := [(3, .int s0), (0, .ref (ad 732)), (4, .int v4)]) C.1.1 C.1.2.1 dX19_silence_62 rfl hl (by decide) rfl (fun ls hl => ?_)
        obtain ⟨x8, ex8, hD⟩ := g_let hD
        refine lv_iinc (v := x8) (lv' := [(4, .int x8), (3, .int s0), (0, .ref (ad 732))]) C.1.1 C.1.2.1 dX19_silence_63 hl (k := 2) rfl (by rw [ex8]; rfl) (by decide) rfl (fun ls hl => ?_)
        refine lv_goto (tgt := 38) C.1.1 C.1.2.1 dX19_silence_66 (by decide) ?_
        exact ih38 s0 x8 M L _ _ ls hD hw (lv_sub hl [2, 1, 0] rfl)
      unfold fX19_silence_i38 at hD
      refine lv_iload C.1.1 C.1.2.1 dX19_silence_38 (lv_at hl 2 rfl) ?_
      refine lv_bipush (v := 6) C.1.1 C.1.2.1 dX19_silence_40 (by decide) ?_
      refine lv_icmp_ge (tgt := 69) C.1.1 C.1.2.1 dX19_silence_42 (by decide) (fun c5 => ?_) (fun c5 => ?_)
      · replace hD := g_pos c5 hD
        refine lv_iload_n C.1.1 C.1.2.1 dX19_silence_69 rfl (lv_at hl 1 rfl) ?_
        exact mr_iret C hr hlocks hw rfl (Option.some.inj hD) dX19_silence_70
      · replace hD := g_neg c5 hD
        refine lv_aload_n C.1.1 C.1.2.1 dX19_silence_45 rfl (lv_at hl 0 rfl) ?_
        refine mr_getR C hw kc_19 84 (by decide) tf_732 ff_732_84 wd_2865 dX19_silence_46 (by decide) rfl ?_
        refine lv_iload C.1.1 C.1.2.1 dX19_silence_49 (lv_at hl 2 rfl) ?_
        obtain ⟨q6, hD⟩ := g_ck hD
        refine mr_zald C hw (by decide) tf_923 q6 dX19_silence_51 ?_
        refine lv_if_eq (tgt := 61) C.1.1 C.1.2.1 dX19_silence_52 (by decide) (fun c7 => ?_) (fun c7 => ?_)
        · replace hD := g_pos c7 hD
          refine lv_iload_n C.1.1 C.1.2.1 dX19_silence_61 rfl (lv_at hl 1 rfl) ?_
          exact hb62 v4 v3 M L _ _ ls hD hw (lv_sub hl [0, 2] rfl)
        · replace hD := g_neg c7 hD
          refine lv_iload_n C.1.1 C.1.2.1 dX19_silence_55 rfl (lv_at hl 1 rfl) ?_
          refine lv_iconst (v := 1) C.1.1 C.1.2.1 dX19_silence_56 (by decide) ?_
          refine lv_iadd C.1.1 C.1.2.1 dX19_silence_57 ?_
          refine lv_goto (tgt := 62) C.1.1 C.1.2.1 dX19_silence_58 (by decide) ?_
          exact hb62 v4 (v3 + 1) M L _ _ ls hD hw (lv_sub hl [0, 2] rfl)
  have hb14 : ∀ (s1 : Int32) (M : mwM) (L : mwL) (H : Heap) (locs : List Loc) (ls : Array Slot), fX19_silence_b14 fu a1 a2 s1 M L = some (r0, M0, L0) → mw_W G ad NF TF FF M L H locs → lv_has ls 5 [(0, .ref (ad 732)), (1, .int a1), (2, .int a2)] → W p l e ({ frames := 1, cells := 0, slots := 0, locals := 21 }) s m [.ref (ad 732), .int a1, .int a2].toArray below meth c H locs 0 0 (MQ below (mw_Qi G ad NF TF FF (mw_eqI r0 M0 L0)) [.ref (ad 732), .int a1, .int a2].toArray s 0 0 (mw_fr G)) (F0 m 14 ls [.int s1, .ref (ad 732)]) := by
    intro s1 M L H locs ls hD hw hl
    unfold fX19_silence_b14 at hD
    obtain ⟨M1, eM1, hD⟩ := g_let hD
    refine mr_putI C hw kc_19 0 (by decide) tf_732 wd_2781 dX19_silence_14 (by decide) rfl rfl rfl rfl (fun H locs hw => ?_)
    replace hw : mw_W G ad NF TF FF M1 L H locs := by rw [eM1]; exact hw
    refine lv_aload_n C.1.1 C.1.2.1 dX19_silence_17 rfl (lv_at hl 0 rfl) ?_
    refine mr_getI C hw kc_19 0 (by decide) tf_732 wd_2781 dX19_silence_18 (by decide) rfl ?_
    refine lv_if_le (tgt := 26) C.1.1 C.1.2.1 dX19_silence_21 (by decide) (fun c2 => ?_) (fun c2 => ?_)
    · replace hD := g_pos c2 hD
      refine lv_aload_n C.1.1 C.1.2.1 dX19_silence_26 rfl (lv_at hl 0 rfl) ?_
      refine mr_getR C hw kc_19 84 (by decide) tf_732 ff_732_84 wd_2865 dX19_silence_27 (by decide) rfl ?_
      refine lv_iload_n C.1.1 C.1.2.1 dX19_silence_30 rfl (lv_at hl 1 rfl) ?_
      refine lv_iload_n C.1.1 C.1.2.1 dX19_silence_31 rfl (lv_at hl 2 rfl) ?_
      obtain ⟨q3, hD⟩ := g_ck hD
      obtain ⟨M4, eM4, hD⟩ := g_let hD
      refine mr_zast C hw (by decide) tf_923 q3 dX19_silence_32 (fun H locs hw => ?_)
      replace hw : mw_W G ad NF TF FF M4 L H locs := by rw [eM4]; exact hw
      refine lv_iconst (v := 0) C.1.1 C.1.2.1 dX19_silence_33 (by decide) ?_
      refine lv_istore_n (lv' := [(3, .int 0), (0, .ref (ad 732)), (1, .int a1), (2, .int a2)]) C.1.1 C.1.2.1 dX19_silence_34 rfl hl (by decide) rfl (fun ls hl => ?_)
      refine lv_iconst (v := 0) C.1.1 C.1.2.1 dX19_silence_35 (by decide) ?_
      refine lv_istore (lv' := [(4, .int 0), (3, .int 0), (0, .ref (ad 732)), (1, .int a1), (2, .int a2)]) C.1.1 C.1.2.1 dX19_silence_36 hl (by decide) rfl (fun ls hl => ?_)
      exact hh38 fu 0 0 M4 L _ _ ls hD hw (lv_sub hl [2, 1, 0] rfl)
    · replace hD := g_neg c2 hD
      refine lv_iconst (v := 0) C.1.1 C.1.2.1 dX19_silence_24 (by decide) ?_
      exact mr_iret C hr hlocks hw rfl (Option.some.inj hD) dX19_silence_25
  unfold DX19_silence at hD
  refine lv_aload_n C.1.1 C.1.2.1 dX19_silence_0 rfl (lv_at hl 0 rfl) ?_
  refine lv_aload_n C.1.1 C.1.2.1 dX19_silence_1 rfl (lv_at hl 0 rfl) ?_
  refine lv_iload_n C.1.1 C.1.2.1 dX19_silence_2 rfl (lv_at hl 1 rfl) ?_
  obtain ⟨r11, M9, L10, h1, hD⟩ := g_b3 hD
  refine md_cvI (As := [.int a1]) (rest := [.ref (ad 732)]) C hw (tX19_noController l G ad fu a1 M L h1) kc_19 (by decide) tf_732 wd_4246 cwX19_noController ⟨Nat.le_of_ble_eq_true rfl, Nat.le_of_ble_eq_true rfl⟩ rfl hl.1 (Nat.le_of_ble_eq_true rfl) dX19_silence_3 rfl rfl ⟨Nat.zero_le _, Nat.zero_le _⟩ rfl (fun H locs hw => ?_)
  refine lv_if_eq (tgt := 13) C.1.1 C.1.2.1 dX19_silence_6 (by decide) (fun c12 => ?_) (fun c12 => ?_)
  · replace hD := g_pos c12 hD
    refine lv_iconst (v := 0) C.1.1 C.1.2.1 dX19_silence_13 (by decide) ?_
    exact hb14 0 M9 L10 _ _ ls hD hw (lv_sub hl [0, 1, 2] rfl)
  · replace hD := g_neg c12 hD
    refine lv_iconst (v := 1) C.1.1 C.1.2.1 dX19_silence_9 (by decide) ?_
    refine lv_goto (tgt := 14) C.1.1 C.1.2.1 dX19_silence_10 (by decide) ?_
    exact hb14 1 M9 L10 _ _ ls hD hw (lv_sub hl [0, 1, 2] rfl)

theorem dX19_running_0 : decode cX19_running 0 = .ok (.aload_n 0, 1) := by decide +kernel
theorem dX19_running_1 : decode cX19_running 1 = .ok (.aload_n 0, 1) := by decide +kernel
theorem dX19_running_2 : decode cX19_running 2 = .ok (.iload_n 1, 1) := by decide +kernel
theorem dX19_running_3 : decode cX19_running 3 = .ok (.invokevirtual 825, 3) := by decide +kernel
theorem dX19_running_6 : decode cX19_running 6 = .ok (.ifCond .ne 15, 3) := by decide +kernel
theorem dX19_running_9 : decode cX19_running 9 = .ok (.iload_n 2, 1) := by decide +kernel
theorem dX19_running_10 : decode cX19_running 10 = .ok (.ifCond .lt 11, 3) := by decide +kernel
theorem dX19_running_13 : decode cX19_running 13 = .ok (.iload_n 2, 1) := by decide +kernel
theorem dX19_running_14 : decode cX19_running 14 = .ok (.aload_n 0, 1) := by decide +kernel
theorem dX19_running_15 : decode cX19_running 15 = .ok (.getfield 600, 3) := by decide +kernel
theorem dX19_running_18 : decode cX19_running 18 = .ok (.if_icmp .lt 7, 3) := by decide +kernel
theorem dX19_running_21 : decode cX19_running 21 = .ok (.iconst 1, 1) := by decide +kernel
theorem dX19_running_22 : decode cX19_running 22 = .ok (.goto 4, 3) := by decide +kernel
theorem dX19_running_25 : decode cX19_running 25 = .ok (.iconst 0, 1) := by decide +kernel
theorem dX19_running_26 : decode cX19_running 26 = .ok (.putfield 289, 3) := by decide +kernel
theorem dX19_running_29 : decode cX19_running 29 = .ok (.aload_n 0, 1) := by decide +kernel
theorem dX19_running_30 : decode cX19_running 30 = .ok (.getfield 289, 3) := by decide +kernel
theorem dX19_running_33 : decode cX19_running 33 = .ok (.ifCond .le 7, 3) := by decide +kernel
theorem dX19_running_36 : decode cX19_running 36 = .ok (.iconst 0, 1) := by decide +kernel
theorem dX19_running_37 : decode cX19_running 37 = .ok (.goto 13, 3) := by decide +kernel
theorem dX19_running_40 : decode cX19_running 40 = .ok (.aload_n 0, 1) := by decide +kernel
theorem dX19_running_41 : decode cX19_running 41 = .ok (.getfield 177, 3) := by decide +kernel
theorem dX19_running_44 : decode cX19_running 44 = .ok (.iload_n 1, 1) := by decide +kernel
theorem dX19_running_45 : decode cX19_running 45 = .ok (.iload_n 2, 1) := by decide +kernel
theorem dX19_running_46 : decode cX19_running 46 = .ok (.i2l, 1) := by decide +kernel
theorem dX19_running_47 : decode cX19_running 47 = .ok (.invokevirtual 828, 3) := by decide +kernel
theorem dX19_running_50 : decode cX19_running 50 = .ok (.ireturn, 1) := by decide +kernel
theorem cwX19_running : mw_cwV yX19_running cX19_running 3 ((some .int)) 2 := ⟨⟨wd_13, wd_4253, by decide +kernel⟩, wd_4251, wd_4252⟩
set_option maxHeartbeats 4000000 in
set_option maxRecDepth 100000 in
theorem tX19_running (l : Launch) (G : mwG) (ad : Nat → Nat) (fu : Nat) (a1 : Int32) (a2 : Int32) (M : mwM) (L : mwL) {r0 : Int32} {M0 : mwM} {L0 : mwL} (hD : DX19_running fu a1 a2 M L = some (r0, M0, L0)) : Met l yX19_running (Cond.code yX19_running cX19_running 3 ((some .int)) :: GT) ({ frames := 1, cells := 0, slots := 0, locals := 23 }) (mw_Pre G ad NF TF FF M L [.ref (ad 732), .int a1, .int a2]) (mw_Qi G ad NF TF FF (mw_eqI r0 M0 L0)) 0 0 (mw_fr G) := by
  refine mw_enter (by decide) (Nat.le_of_ble_eq_true rfl) ?_
  intro p e s m below meth c ls C hr hlocks hnm hw hl
  have hl : lv_has ls 3 [(0, .ref (ad 732)), (1, .int a1), (2, .int a2)] := hl
  have hb50 : ∀ (s0 : Int32) (M : mwM) (L : mwL) (H : Heap) (locs : List Loc) (ls : Array Slot), fX19_running_b50 fu a1 a2 s0 M L = some (r0, M0, L0) → mw_W G ad NF TF FF M L H locs → lv_has ls 3 [] → W p l e ({ frames := 1, cells := 0, slots := 0, locals := 23 }) s m [.ref (ad 732), .int a1, .int a2].toArray below meth c H locs 0 0 (MQ below (mw_Qi G ad NF TF FF (mw_eqI r0 M0 L0)) [.ref (ad 732), .int a1, .int a2].toArray s 0 0 (mw_fr G)) (F0 m 50 ls [.int s0]) := by
    intro s0 M L H locs ls hD hw hl
    unfold fX19_running_b50 at hD
    exact mr_iret C hr hlocks hw rfl (Option.some.inj hD) dX19_running_50
  have hb26 : ∀ (s1 : Int32) (M : mwM) (L : mwL) (H : Heap) (locs : List Loc) (ls : Array Slot), fX19_running_b26 fu a1 a2 s1 M L = some (r0, M0, L0) → mw_W G ad NF TF FF M L H locs → lv_has ls 3 [(0, .ref (ad 732)), (1, .int a1), (2, .int a2)] → W p l e ({ frames := 1, cells := 0, slots := 0, locals := 23 }) s m [.ref (ad 732), .int a1, .int a2].toArray below meth c H locs 0 0 (MQ below (mw_Qi G ad NF TF FF (mw_eqI r0 M0 L0)) [.ref (ad 732), .int a1, .int a2].toArray s 0 0 (mw_fr G)) (F0 m 26 ls [.int s1, .ref (ad 732)]) := by
    intro s1 M L H locs ls hD hw hl
    unfold fX19_running_b26 at hD
    obtain ⟨M1, eM1, hD⟩ := g_let hD
    refine mr_putI C hw kc_19 0 (by decide) tf_732 wd_2781 dX19_running_26 (by decide) rfl rfl rfl rfl (fun H locs hw => ?_)
    replace hw : mw_W G ad NF TF FF M1 L H locs := by rw [eM1]; exact hw
    refine lv_aload_n C.1.1 C.1.2.1 dX19_running_29 rfl (lv_at hl 0 rfl) ?_
    refine mr_getI C hw kc_19 0 (by decide) tf_732 wd_2781 dX19_running_30 (by decide) rfl ?_
    refine lv_if_le (tgt := 40) C.1.1 C.1.2.1 dX19_running_33 (by decide) (fun c2 => ?_) (fun c2 => ?_)
    · replace hD := g_pos c2 hD
      refine lv_aload_n C.1.1 C.1.2.1 dX19_running_40 rfl (lv_at hl 0 rfl) ?_
      refine mr_getR C hw kc_19 76 (by decide) tf_732 ff_732_76 wd_2857 dX19_running_41 (by decide) rfl ?_
      refine lv_iload_n C.1.1 C.1.2.1 dX19_running_44 rfl (lv_at hl 1 rfl) ?_
      refine lv_iload_n C.1.1 C.1.2.1 dX19_running_45 rfl (lv_at hl 2 rfl) ?_
      refine lv_i2l C.1.1 C.1.2.1 dX19_running_46 rfl ?_
      obtain ⟨r5, M3, L4, h1, hD⟩ := g_b3 hD
      refine md_cvI (As := [.int a1, .long a2.toInt64]) (rest := []) C hw (tX15_running l G ad fu a1 a2.toInt64 M1 L h1) kc_15 (by decide) tf_787 wd_4254 cwX15_running ⟨Nat.le_of_ble_eq_true rfl, Nat.le_of_ble_eq_true rfl⟩ rfl hl.1 (Nat.le_of_ble_eq_true rfl) dX19_running_47 rfl rfl ⟨Nat.zero_le _, Nat.zero_le _⟩ rfl (fun H locs hw => ?_)
      exact hb50 r5 M3 L4 _ _ ls hD hw (lv_sub hl [] rfl)
    · replace hD := g_neg c2 hD
      refine lv_iconst (v := 0) C.1.1 C.1.2.1 dX19_running_36 (by decide) ?_
      refine lv_goto (tgt := 50) C.1.1 C.1.2.1 dX19_running_37 (by decide) ?_
      exact hb50 0 M1 L _ _ ls hD hw (lv_sub hl [] rfl)
  have hb21 : ∀ (M : mwM) (L : mwL) (H : Heap) (locs : List Loc) (ls : Array Slot), fX19_running_b21 fu a1 a2 M L = some (r0, M0, L0) → mw_W G ad NF TF FF M L H locs → lv_has ls 3 [(0, .ref (ad 732)), (1, .int a1), (2, .int a2)] → W p l e ({ frames := 1, cells := 0, slots := 0, locals := 23 }) s m [.ref (ad 732), .int a1, .int a2].toArray below meth c H locs 0 0 (MQ below (mw_Qi G ad NF TF FF (mw_eqI r0 M0 L0)) [.ref (ad 732), .int a1, .int a2].toArray s 0 0 (mw_fr G)) (F0 m 21 ls [.ref (ad 732)]) := by
    intro M L H locs ls hD hw hl
    unfold fX19_running_b21 at hD
    refine lv_iconst (v := 1) C.1.1 C.1.2.1 dX19_running_21 (by decide) ?_
    refine lv_goto (tgt := 26) C.1.1 C.1.2.1 dX19_running_22 (by decide) ?_
    exact hb26 1 M L _ _ ls hD hw (lv_sub hl [0, 1, 2] rfl)
  unfold DX19_running at hD
  refine lv_aload_n C.1.1 C.1.2.1 dX19_running_0 rfl (lv_at hl 0 rfl) ?_
  refine lv_aload_n C.1.1 C.1.2.1 dX19_running_1 rfl (lv_at hl 0 rfl) ?_
  refine lv_iload_n C.1.1 C.1.2.1 dX19_running_2 rfl (lv_at hl 1 rfl) ?_
  obtain ⟨r8, M6, L7, h1, hD⟩ := g_b3 hD
  refine md_cvI (As := [.int a1]) (rest := [.ref (ad 732)]) C hw (tX19_noController l G ad fu a1 M L h1) kc_19 (by decide) tf_732 wd_4246 cwX19_noController ⟨Nat.le_of_ble_eq_true rfl, Nat.le_of_ble_eq_true rfl⟩ rfl hl.1 (Nat.le_of_ble_eq_true rfl) dX19_running_3 rfl rfl ⟨Nat.zero_le _, Nat.zero_le _⟩ rfl (fun H locs hw => ?_)
  refine lv_if_ne (tgt := 21) C.1.1 C.1.2.1 dX19_running_6 (by decide) (fun c9 => ?_) (fun c9 => ?_)
  · replace hD := g_neg c9 hD
    exact hb21 M6 L7 _ _ ls hD hw (lv_sub hl [0, 1, 2] rfl)
  · replace hD := g_pos c9 hD
    refine lv_iload_n C.1.1 C.1.2.1 dX19_running_9 rfl (lv_at hl 2 rfl) ?_
    refine lv_if_lt (tgt := 21) C.1.1 C.1.2.1 dX19_running_10 (by decide) (fun c10 => ?_) (fun c10 => ?_)
    · replace hD := g_pos c10 hD
      exact hb21 M6 L7 _ _ ls hD hw (lv_sub hl [0, 1, 2] rfl)
    · replace hD := g_neg c10 hD
      refine lv_iload_n C.1.1 C.1.2.1 dX19_running_13 rfl (lv_at hl 2 rfl) ?_
      refine lv_aload_n C.1.1 C.1.2.1 dX19_running_14 rfl (lv_at hl 0 rfl) ?_
      refine mr_getI C hw kc_19 83 (by decide) tf_732 wd_2864 dX19_running_15 (by decide) rfl ?_
      refine lv_icmp_lt (tgt := 25) C.1.1 C.1.2.1 dX19_running_18 (by decide) (fun c11 => ?_) (fun c11 => ?_)
      · replace hD := g_pos c11 hD
        refine lv_iconst (v := 0) C.1.1 C.1.2.1 dX19_running_25 (by decide) ?_
        exact hb26 0 M6 L7 _ _ ls hD hw (lv_sub hl [0, 1, 2] rfl)
      · replace hD := g_neg c11 hD
        exact hb21 M6 L7 _ _ ls hD hw (lv_sub hl [0, 1, 2] rfl)

theorem dX19_task_0 : decode cX19_task 0 = .ok (.aload_n 0, 1) := by decide +kernel
theorem dX19_task_1 : decode cX19_task 1 = .ok (.aload_n 0, 1) := by decide +kernel
theorem dX19_task_2 : decode cX19_task 2 = .ok (.getfield 630, 3) := by decide +kernel
theorem dX19_task_5 : decode cX19_task 5 = .ok (.ifCond .eq 15, 3) := by decide +kernel
theorem dX19_task_8 : decode cX19_task 8 = .ok (.iload_n 1, 1) := by decide +kernel
theorem dX19_task_9 : decode cX19_task 9 = .ok (.ifCond .lt 11, 3) := by decide +kernel
theorem dX19_task_12 : decode cX19_task 12 = .ok (.iload_n 1, 1) := by decide +kernel
theorem dX19_task_13 : decode cX19_task 13 = .ok (.aload_n 0, 1) := by decide +kernel
theorem dX19_task_14 : decode cX19_task 14 = .ok (.getfield 448, 3) := by decide +kernel
theorem dX19_task_17 : decode cX19_task 17 = .ok (.if_icmp .lt 7, 3) := by decide +kernel
theorem dX19_task_20 : decode cX19_task 20 = .ok (.iconst 1, 1) := by decide +kernel
theorem dX19_task_21 : decode cX19_task 21 = .ok (.goto 17, 3) := by decide +kernel
theorem dX19_task_24 : decode cX19_task 24 = .ok (.iload_n 2, 1) := by decide +kernel
theorem dX19_task_25 : decode cX19_task 25 = .ok (.ifCond .lt 8, 3) := by decide +kernel
theorem dX19_task_28 : decode cX19_task 28 = .ok (.iload_n 2, 1) := by decide +kernel
theorem dX19_task_29 : decode cX19_task 29 = .ok (.iconst 2, 1) := by decide +kernel
theorem dX19_task_30 : decode cX19_task 30 = .ok (.if_icmp .le 7, 3) := by decide +kernel
theorem dX19_task_33 : decode cX19_task 33 = .ok (.iconst 2, 1) := by decide +kernel
theorem dX19_task_34 : decode cX19_task 34 = .ok (.goto 4, 3) := by decide +kernel
theorem dX19_task_37 : decode cX19_task 37 = .ok (.iconst 0, 1) := by decide +kernel
theorem dX19_task_38 : decode cX19_task 38 = .ok (.putfield 289, 3) := by decide +kernel
theorem dX19_task_41 : decode cX19_task 41 = .ok (.aload_n 0, 1) := by decide +kernel
theorem dX19_task_42 : decode cX19_task 42 = .ok (.getfield 289, 3) := by decide +kernel
theorem dX19_task_45 : decode cX19_task 45 = .ok (.ifCond .le 5, 3) := by decide +kernel
theorem dX19_task_48 : decode cX19_task 48 = .ok (.iconst 0, 1) := by decide +kernel
theorem dX19_task_49 : decode cX19_task 49 = .ok (.ireturn, 1) := by decide +kernel
theorem dX19_task_50 : decode cX19_task 50 = .ok (.iload_n 2, 1) := by decide +kernel
theorem dX19_task_51 : decode cX19_task 51 = .ok (.ifCond .ne 16, 3) := by decide +kernel
theorem dX19_task_54 : decode cX19_task 54 = .ok (.aload_n 0, 1) := by decide +kernel
theorem dX19_task_55 : decode cX19_task 55 = .ok (.getfield 177, 3) := by decide +kernel
theorem dX19_task_58 : decode cX19_task 58 = .ok (.iload_n 1, 1) := by decide +kernel
theorem dX19_task_59 : decode cX19_task 59 = .ok (.iconst 1, 1) := by decide +kernel
theorem dX19_task_60 : decode cX19_task 60 = .ok (.iadd, 1) := by decide +kernel
theorem dX19_task_61 : decode cX19_task 61 = .ok (.invokevirtual 831, 3) := by decide +kernel
theorem dX19_task_64 : decode cX19_task 64 = .ok (.goto 28, 3) := by decide +kernel
theorem dX19_task_67 : decode cX19_task 67 = .ok (.iload_n 2, 1) := by decide +kernel
theorem dX19_task_68 : decode cX19_task 68 = .ok (.iconst 1, 1) := by decide +kernel
theorem dX19_task_69 : decode cX19_task 69 = .ok (.if_icmp .ne 17, 3) := by decide +kernel
theorem dX19_task_72 : decode cX19_task 72 = .ok (.aload_n 0, 1) := by decide +kernel
theorem dX19_task_73 : decode cX19_task 73 = .ok (.getfield 177, 3) := by decide +kernel
theorem dX19_task_76 : decode cX19_task 76 = .ok (.iload_n 1, 1) := by decide +kernel
theorem dX19_task_77 : decode cX19_task 77 = .ok (.iconst 1, 1) := by decide +kernel
theorem dX19_task_78 : decode cX19_task 78 = .ok (.iadd, 1) := by decide +kernel
theorem dX19_task_79 : decode cX19_task 79 = .ok (.invokevirtual 791, 3) := by decide +kernel
theorem dX19_task_82 : decode cX19_task 82 = .ok (.l2i, 1) := by decide +kernel
theorem dX19_task_83 : decode cX19_task 83 = .ok (.goto 9, 3) := by decide +kernel
theorem dX19_task_86 : decode cX19_task 86 = .ok (.aload_n 0, 1) := by decide +kernel
theorem dX19_task_87 : decode cX19_task 87 = .ok (.getfield 55, 3) := by decide +kernel
theorem dX19_task_90 : decode cX19_task 90 = .ok (.iload_n 1, 1) := by decide +kernel
theorem dX19_task_91 : decode cX19_task 91 = .ok (.iaload, 1) := by decide +kernel
theorem dX19_task_92 : decode cX19_task 92 = .ok (.ireturn, 1) := by decide +kernel
theorem cwX19_task : mw_cwV yX19_task cX19_task 3 ((some .int)) 2 := ⟨⟨wd_13, wd_4261, by decide +kernel⟩, wd_4259, wd_4260⟩
set_option maxHeartbeats 4000000 in
set_option maxRecDepth 100000 in
theorem tX19_task (l : Launch) (G : mwG) (ad : Nat → Nat) (fu : Nat) (a1 : Int32) (a2 : Int32) (M : mwM) (L : mwL) {r0 : Int32} {M0 : mwM} {L0 : mwL} (hD : DX19_task fu a1 a2 M L = some (r0, M0, L0)) : Met l yX19_task (Cond.code yX19_task cX19_task 3 ((some .int)) :: GT) ({ frames := 2, cells := 0, slots := 0, locals := 42 }) (mw_Pre G ad NF TF FF M L [.ref (ad 732), .int a1, .int a2]) (mw_Qi G ad NF TF FF (mw_eqI r0 M0 L0)) 0 0 (mw_fr G) := by
  refine mw_enter (by decide) (Nat.le_of_ble_eq_true rfl) ?_
  intro p e s m below meth c ls C hr hlocks hnm hw hl
  have hl : lv_has ls 3 [(0, .ref (ad 732)), (1, .int a1), (2, .int a2)] := hl
  have hb92 : ∀ (s0 : Int32) (M : mwM) (L : mwL) (H : Heap) (locs : List Loc) (ls : Array Slot), fX19_task_b92 fu a1 a2 s0 M L = some (r0, M0, L0) → mw_W G ad NF TF FF M L H locs → lv_has ls 3 [] → W p l e ({ frames := 2, cells := 0, slots := 0, locals := 42 }) s m [.ref (ad 732), .int a1, .int a2].toArray below meth c H locs 0 0 (MQ below (mw_Qi G ad NF TF FF (mw_eqI r0 M0 L0)) [.ref (ad 732), .int a1, .int a2].toArray s 0 0 (mw_fr G)) (F0 m 92 ls [.int s0]) := by
    intro s0 M L H locs ls hD hw hl
    unfold fX19_task_b92 at hD
    exact mr_iret C hr hlocks hw rfl (Option.some.inj hD) dX19_task_92
  have hb38 : ∀ (s1 : Int32) (M : mwM) (L : mwL) (H : Heap) (locs : List Loc) (ls : Array Slot), fX19_task_b38 fu a1 a2 s1 M L = some (r0, M0, L0) → mw_W G ad NF TF FF M L H locs → lv_has ls 3 [(0, .ref (ad 732)), (1, .int a1), (2, .int a2)] → W p l e ({ frames := 2, cells := 0, slots := 0, locals := 42 }) s m [.ref (ad 732), .int a1, .int a2].toArray below meth c H locs 0 0 (MQ below (mw_Qi G ad NF TF FF (mw_eqI r0 M0 L0)) [.ref (ad 732), .int a1, .int a2].toArray s 0 0 (mw_fr G)) (F0 m 38 ls [.int s1, .ref (ad 732)]) := by
    intro s1 M L H locs ls hD hw hl
    unfold fX19_task_b38 at hD
    obtain ⟨M1, eM1, hD⟩ := g_let hD
    refine mr_putI C hw kc_19 0 (by decide) tf_732 wd_2781 dX19_task_38 (by decide) rfl rfl rfl rfl (fun H locs hw => ?_)
    replace hw : mw_W G ad NF TF FF M1 L H locs := by rw [eM1]; exact hw
    refine lv_aload_n C.1.1 C.1.2.1 dX19_task_41 rfl (lv_at hl 0 rfl) ?_
    refine mr_getI C hw kc_19 0 (by decide) tf_732 wd_2781 dX19_task_42 (by decide) rfl ?_
    refine lv_if_le (tgt := 50) C.1.1 C.1.2.1 dX19_task_45 (by decide) (fun c2 => ?_) (fun c2 => ?_)
    · replace hD := g_pos c2 hD
      refine lv_iload_n C.1.1 C.1.2.1 dX19_task_50 rfl (lv_at hl 2 rfl) ?_
      refine lv_if_ne (tgt := 67) C.1.1 C.1.2.1 dX19_task_51 (by decide) (fun c3 => ?_) (fun c3 => ?_)
      · replace hD := g_neg c3 hD
        refine lv_iload_n C.1.1 C.1.2.1 dX19_task_67 rfl (lv_at hl 2 rfl) ?_
        refine lv_iconst (v := 1) C.1.1 C.1.2.1 dX19_task_68 (by decide) ?_
        refine lv_icmp_ne (tgt := 86) C.1.1 C.1.2.1 dX19_task_69 (by decide) (fun c4 => ?_) (fun c4 => ?_)
        · replace hD := g_neg c4 hD
          refine lv_aload_n C.1.1 C.1.2.1 dX19_task_86 rfl (lv_at hl 0 rfl) ?_
          refine mr_getR C hw kc_19 32 (by decide) tf_732 ff_732_32 wd_2813 dX19_task_87 (by decide) rfl ?_
          refine lv_iload_n C.1.1 C.1.2.1 dX19_task_90 rfl (lv_at hl 1 rfl) ?_
          obtain ⟨q5, hD⟩ := g_ck hD
          refine mr_iald C hw (by decide) tf_748 q5 dX19_task_91 ?_
          exact hb92 (M1 748 a1.toNatClampNeg) M1 L _ _ ls hD hw (lv_sub hl [] rfl)
        · replace hD := g_pos c4 hD
          refine lv_aload_n C.1.1 C.1.2.1 dX19_task_72 rfl (lv_at hl 0 rfl) ?_
          refine mr_getR C hw kc_19 76 (by decide) tf_732 ff_732_76 wd_2857 dX19_task_73 (by decide) rfl ?_
          refine lv_iload_n C.1.1 C.1.2.1 dX19_task_76 rfl (lv_at hl 1 rfl) ?_
          refine lv_iconst (v := 1) C.1.1 C.1.2.1 dX19_task_77 (by decide) ?_
          refine lv_iadd C.1.1 C.1.2.1 dX19_task_78 ?_
          obtain ⟨r8, M6, L7, h1, hD⟩ := g_b3 hD
          refine md_cvL (As := [.int (a1 + 1)]) (rest := []) C hw (tX15_used l G ad fu (a1 + 1) M1 L h1) kc_15 (by decide) tf_787 wd_3768 cwX15_used ⟨Nat.le_of_ble_eq_true rfl, Nat.le_of_ble_eq_true rfl⟩ rfl hl.1 (Nat.le_of_ble_eq_true rfl) dX19_task_79 rfl rfl ⟨Nat.zero_le _, Nat.zero_le _⟩ rfl (fun H locs hw => ?_)
          refine lv_l2i C.1.1 C.1.2.1 dX19_task_82 rfl ?_
          refine lv_goto (tgt := 92) C.1.1 C.1.2.1 dX19_task_83 (by decide) ?_
          exact hb92 r8.toInt32 M6 L7 _ _ ls hD hw (lv_sub hl [] rfl)
      · replace hD := g_pos c3 hD
        refine lv_aload_n C.1.1 C.1.2.1 dX19_task_54 rfl (lv_at hl 0 rfl) ?_
        refine mr_getR C hw kc_19 76 (by decide) tf_732 ff_732_76 wd_2857 dX19_task_55 (by decide) rfl ?_
        refine lv_iload_n C.1.1 C.1.2.1 dX19_task_58 rfl (lv_at hl 1 rfl) ?_
        refine lv_iconst (v := 1) C.1.1 C.1.2.1 dX19_task_59 (by decide) ?_
        refine lv_iadd C.1.1 C.1.2.1 dX19_task_60 ?_
        obtain ⟨r11, M9, L10, h1, hD⟩ := g_b3 hD
        refine md_cvI (As := [.int (a1 + 1)]) (rest := []) C hw (tX15_state l G ad fu (a1 + 1) M1 L h1) kc_15 (by decide) tf_787 wd_4262 cwX15_state ⟨Nat.le_of_ble_eq_true rfl, Nat.le_of_ble_eq_true rfl⟩ rfl hl.1 (Nat.le_of_ble_eq_true rfl) dX19_task_61 rfl rfl ⟨Nat.zero_le _, Nat.zero_le _⟩ rfl (fun H locs hw => ?_)
        refine lv_goto (tgt := 92) C.1.1 C.1.2.1 dX19_task_64 (by decide) ?_
        exact hb92 r11 M9 L10 _ _ ls hD hw (lv_sub hl [] rfl)
    · replace hD := g_neg c2 hD
      refine lv_iconst (v := 0) C.1.1 C.1.2.1 dX19_task_48 (by decide) ?_
      exact mr_iret C hr hlocks hw rfl (Option.some.inj hD) dX19_task_49
  have hb20 : ∀ (M : mwM) (L : mwL) (H : Heap) (locs : List Loc) (ls : Array Slot), fX19_task_b20 fu a1 a2 M L = some (r0, M0, L0) → mw_W G ad NF TF FF M L H locs → lv_has ls 3 [(0, .ref (ad 732)), (1, .int a1), (2, .int a2)] → W p l e ({ frames := 2, cells := 0, slots := 0, locals := 42 }) s m [.ref (ad 732), .int a1, .int a2].toArray below meth c H locs 0 0 (MQ below (mw_Qi G ad NF TF FF (mw_eqI r0 M0 L0)) [.ref (ad 732), .int a1, .int a2].toArray s 0 0 (mw_fr G)) (F0 m 20 ls [.ref (ad 732)]) := by
    intro M L H locs ls hD hw hl
    unfold fX19_task_b20 at hD
    refine lv_iconst (v := 1) C.1.1 C.1.2.1 dX19_task_20 (by decide) ?_
    refine lv_goto (tgt := 38) C.1.1 C.1.2.1 dX19_task_21 (by decide) ?_
    exact hb38 1 M L _ _ ls hD hw (lv_sub hl [0, 1, 2] rfl)
  have hb33 : ∀ (M : mwM) (L : mwL) (H : Heap) (locs : List Loc) (ls : Array Slot), fX19_task_b33 fu a1 a2 M L = some (r0, M0, L0) → mw_W G ad NF TF FF M L H locs → lv_has ls 3 [(0, .ref (ad 732)), (1, .int a1), (2, .int a2)] → W p l e ({ frames := 2, cells := 0, slots := 0, locals := 42 }) s m [.ref (ad 732), .int a1, .int a2].toArray below meth c H locs 0 0 (MQ below (mw_Qi G ad NF TF FF (mw_eqI r0 M0 L0)) [.ref (ad 732), .int a1, .int a2].toArray s 0 0 (mw_fr G)) (F0 m 33 ls [.ref (ad 732)]) := by
    intro M L H locs ls hD hw hl
    unfold fX19_task_b33 at hD
    refine lv_iconst (v := 2) C.1.1 C.1.2.1 dX19_task_33 (by decide) ?_
    refine lv_goto (tgt := 38) C.1.1 C.1.2.1 dX19_task_34 (by decide) ?_
    exact hb38 2 M L _ _ ls hD hw (lv_sub hl [0, 1, 2] rfl)
  unfold DX19_task at hD
  refine lv_aload_n C.1.1 C.1.2.1 dX19_task_0 rfl (lv_at hl 0 rfl) ?_
  refine lv_aload_n C.1.1 C.1.2.1 dX19_task_1 rfl (lv_at hl 0 rfl) ?_
  refine mr_getI C hw kc_19 4 (by decide) tf_732 wd_2785 dX19_task_2 (by decide) rfl ?_
  refine lv_if_eq (tgt := 20) C.1.1 C.1.2.1 dX19_task_5 (by decide) (fun c12 => ?_) (fun c12 => ?_)
  · replace hD := g_pos c12 hD
    exact hb20 M L _ _ ls hD hw (lv_sub hl [0, 1, 2] rfl)
  · replace hD := g_neg c12 hD
    refine lv_iload_n C.1.1 C.1.2.1 dX19_task_8 rfl (lv_at hl 1 rfl) ?_
    refine lv_if_lt (tgt := 20) C.1.1 C.1.2.1 dX19_task_9 (by decide) (fun c13 => ?_) (fun c13 => ?_)
    · replace hD := g_pos c13 hD
      exact hb20 M L _ _ ls hD hw (lv_sub hl [0, 1, 2] rfl)
    · replace hD := g_neg c13 hD
      refine lv_iload_n C.1.1 C.1.2.1 dX19_task_12 rfl (lv_at hl 1 rfl) ?_
      refine lv_aload_n C.1.1 C.1.2.1 dX19_task_13 rfl (lv_at hl 0 rfl) ?_
      refine mr_getI C hw kc_19 24 (by decide) tf_732 wd_2805 dX19_task_14 (by decide) rfl ?_
      refine lv_icmp_lt (tgt := 24) C.1.1 C.1.2.1 dX19_task_17 (by decide) (fun c14 => ?_) (fun c14 => ?_)
      · replace hD := g_pos c14 hD
        refine lv_iload_n C.1.1 C.1.2.1 dX19_task_24 rfl (lv_at hl 2 rfl) ?_
        refine lv_if_lt (tgt := 33) C.1.1 C.1.2.1 dX19_task_25 (by decide) (fun c15 => ?_) (fun c15 => ?_)
        · replace hD := g_pos c15 hD
          exact hb33 M L _ _ ls hD hw (lv_sub hl [0, 1, 2] rfl)
        · replace hD := g_neg c15 hD
          refine lv_iload_n C.1.1 C.1.2.1 dX19_task_28 rfl (lv_at hl 2 rfl) ?_
          refine lv_iconst (v := 2) C.1.1 C.1.2.1 dX19_task_29 (by decide) ?_
          refine lv_icmp_le (tgt := 37) C.1.1 C.1.2.1 dX19_task_30 (by decide) (fun c16 => ?_) (fun c16 => ?_)
          · replace hD := g_pos c16 hD
            refine lv_iconst (v := 0) C.1.1 C.1.2.1 dX19_task_37 (by decide) ?_
            exact hb38 0 M L _ _ ls hD hw (lv_sub hl [0, 1, 2] rfl)
          · replace hD := g_neg c16 hD
            exact hb33 M L _ _ ls hD hw (lv_sub hl [0, 1, 2] rfl)
      · replace hD := g_neg c14 hD
        exact hb20 M L _ _ ls hD hw (lv_sub hl [0, 1, 2] rfl)

theorem dX19_noChart_0 : decode cX19_noChart 0 = .ok (.aload_n 0, 1) := by decide +kernel
theorem dX19_noChart_1 : decode cX19_noChart 1 = .ok (.getfield 630, 3) := by decide +kernel
theorem dX19_noChart_4 : decode cX19_noChart 4 = .ok (.ifCond .eq 15, 3) := by decide +kernel
theorem dX19_noChart_7 : decode cX19_noChart 7 = .ok (.iload_n 1, 1) := by decide +kernel
theorem dX19_noChart_8 : decode cX19_noChart 8 = .ok (.ifCond .lt 11, 3) := by decide +kernel
theorem dX19_noChart_11 : decode cX19_noChart 11 = .ok (.iload_n 1, 1) := by decide +kernel
theorem dX19_noChart_12 : decode cX19_noChart 12 = .ok (.aload_n 0, 1) := by decide +kernel
theorem dX19_noChart_13 : decode cX19_noChart 13 = .ok (.getfield 456, 3) := by decide +kernel
theorem dX19_noChart_16 : decode cX19_noChart 16 = .ok (.if_icmp .lt 7, 3) := by decide +kernel
theorem dX19_noChart_19 : decode cX19_noChart 19 = .ok (.iconst 1, 1) := by decide +kernel
theorem dX19_noChart_20 : decode cX19_noChart 20 = .ok (.goto 4, 3) := by decide +kernel
theorem dX19_noChart_23 : decode cX19_noChart 23 = .ok (.iconst 0, 1) := by decide +kernel
theorem dX19_noChart_24 : decode cX19_noChart 24 = .ok (.ireturn, 1) := by decide +kernel
theorem cwX19_noChart : mw_cwV yX19_noChart cX19_noChart 2 ((some .boolean)) 1 := ⟨⟨wd_13, wd_4273, by decide +kernel⟩, wd_4272, sl_341⟩
set_option maxHeartbeats 4000000 in
set_option maxRecDepth 100000 in
theorem tX19_noChart (l : Launch) (G : mwG) (ad : Nat → Nat) (fu : Nat) (a1 : Int32) (M : mwM) (L : mwL) {r0 : Int32} {M0 : mwM} {L0 : mwL} (hD : DX19_noChart fu a1 M L = some (r0, M0, L0)) : Met l yX19_noChart (Cond.code yX19_noChart cX19_noChart 2 ((some .boolean)) :: GT) ({ frames := 0, cells := 0, slots := 0, locals := 0 }) (mw_Pre G ad NF TF FF M L [.ref (ad 732), .int a1]) (mw_Qi G ad NF TF FF (mw_eqI r0 M0 L0)) 0 0 (mw_fr G) := by
  refine mw_enter (by decide) (Nat.le_of_ble_eq_true rfl) ?_
  intro p e s m below meth c ls C hr hlocks hnm hw hl
  have hl : lv_has ls 2 [(0, .ref (ad 732)), (1, .int a1)] := hl
  have hb24 : ∀ (s0 : Int32) (M : mwM) (L : mwL) (H : Heap) (locs : List Loc) (ls : Array Slot), fX19_noChart_b24 fu a1 s0 M L = some (r0, M0, L0) → mw_W G ad NF TF FF M L H locs → lv_has ls 2 [] → W p l e ({ frames := 0, cells := 0, slots := 0, locals := 0 }) s m [.ref (ad 732), .int a1].toArray below meth c H locs 0 0 (MQ below (mw_Qi G ad NF TF FF (mw_eqI r0 M0 L0)) [.ref (ad 732), .int a1].toArray s 0 0 (mw_fr G)) (F0 m 24 ls [.int s0]) := by
    intro s0 M L H locs ls hD hw hl
    unfold fX19_noChart_b24 at hD
    obtain ⟨z1, hD⟩ := g_zz hD
    exact mr_iret C hr hlocks hw (nz_zz z1) (Option.some.inj hD) dX19_noChart_24
  have hb19 : ∀ (M : mwM) (L : mwL) (H : Heap) (locs : List Loc) (ls : Array Slot), fX19_noChart_b19 fu a1 M L = some (r0, M0, L0) → mw_W G ad NF TF FF M L H locs → lv_has ls 2 [] → W p l e ({ frames := 0, cells := 0, slots := 0, locals := 0 }) s m [.ref (ad 732), .int a1].toArray below meth c H locs 0 0 (MQ below (mw_Qi G ad NF TF FF (mw_eqI r0 M0 L0)) [.ref (ad 732), .int a1].toArray s 0 0 (mw_fr G)) (F0 m 19 ls []) := by
    intro M L H locs ls hD hw hl
    unfold fX19_noChart_b19 at hD
    refine lv_iconst (v := 1) C.1.1 C.1.2.1 dX19_noChart_19 (by decide) ?_
    refine lv_goto (tgt := 24) C.1.1 C.1.2.1 dX19_noChart_20 (by decide) ?_
    exact hb24 1 M L _ _ ls hD hw (lv_sub hl [] rfl)
  unfold DX19_noChart at hD
  refine lv_aload_n C.1.1 C.1.2.1 dX19_noChart_0 rfl (lv_at hl 0 rfl) ?_
  refine mr_getI C hw kc_19 4 (by decide) tf_732 wd_2785 dX19_noChart_1 (by decide) rfl ?_
  refine lv_if_eq (tgt := 19) C.1.1 C.1.2.1 dX19_noChart_4 (by decide) (fun c2 => ?_) (fun c2 => ?_)
  · replace hD := g_pos c2 hD
    exact hb19 M L _ _ ls hD hw (lv_sub hl [] rfl)
  · replace hD := g_neg c2 hD
    refine lv_iload_n C.1.1 C.1.2.1 dX19_noChart_7 rfl (lv_at hl 1 rfl) ?_
    refine lv_if_lt (tgt := 19) C.1.1 C.1.2.1 dX19_noChart_8 (by decide) (fun c3 => ?_) (fun c3 => ?_)
    · replace hD := g_pos c3 hD
      exact hb19 M L _ _ ls hD hw (lv_sub hl [] rfl)
    · replace hD := g_neg c3 hD
      refine lv_iload_n C.1.1 C.1.2.1 dX19_noChart_11 rfl (lv_at hl 1 rfl) ?_
      refine lv_aload_n C.1.1 C.1.2.1 dX19_noChart_12 rfl (lv_at hl 0 rfl) ?_
      refine mr_getI C hw kc_19 33 (by decide) tf_732 wd_2814 dX19_noChart_13 (by decide) rfl ?_
      refine lv_icmp_lt (tgt := 23) C.1.1 C.1.2.1 dX19_noChart_16 (by decide) (fun c4 => ?_) (fun c4 => ?_)
      · replace hD := g_pos c4 hD
        refine lv_iconst (v := 0) C.1.1 C.1.2.1 dX19_noChart_23 (by decide) ?_
        exact hb24 0 M L _ _ ls hD hw (lv_sub hl [] rfl)
      · replace hD := g_neg c4 hD
        exact hb19 M L _ _ ls hD hw (lv_sub hl [] rfl)

theorem dX19_active_0 : decode cX19_active 0 = .ok (.aload_n 0, 1) := by decide +kernel
theorem dX19_active_1 : decode cX19_active 1 = .ok (.aload_n 0, 1) := by decide +kernel
theorem dX19_active_2 : decode cX19_active 2 = .ok (.iload_n 1, 1) := by decide +kernel
theorem dX19_active_3 : decode cX19_active 3 = .ok (.invokevirtual 832, 3) := by decide +kernel
theorem dX19_active_6 : decode cX19_active 6 = .ok (.ifCond .ne 17, 3) := by decide +kernel
theorem dX19_active_9 : decode cX19_active 9 = .ok (.iload_n 2, 1) := by decide +kernel
theorem dX19_active_10 : decode cX19_active 10 = .ok (.ifCond .lt 13, 3) := by decide +kernel
theorem dX19_active_13 : decode cX19_active 13 = .ok (.iload_n 2, 1) := by decide +kernel
theorem dX19_active_14 : decode cX19_active 14 = .ok (.aload_n 0, 1) := by decide +kernel
theorem dX19_active_15 : decode cX19_active 15 = .ok (.getfield 73, 3) := by decide +kernel
theorem dX19_active_18 : decode cX19_active 18 = .ok (.iload_n 1, 1) := by decide +kernel
theorem dX19_active_19 : decode cX19_active 19 = .ok (.iaload, 1) := by decide +kernel
theorem dX19_active_20 : decode cX19_active 20 = .ok (.if_icmp .le 7, 3) := by decide +kernel
theorem dX19_active_23 : decode cX19_active 23 = .ok (.iconst 1, 1) := by decide +kernel
theorem dX19_active_24 : decode cX19_active 24 = .ok (.goto 4, 3) := by decide +kernel
theorem dX19_active_27 : decode cX19_active 27 = .ok (.iconst 0, 1) := by decide +kernel
theorem dX19_active_28 : decode cX19_active 28 = .ok (.putfield 289, 3) := by decide +kernel
theorem dX19_active_31 : decode cX19_active 31 = .ok (.aload_n 0, 1) := by decide +kernel
theorem dX19_active_32 : decode cX19_active 32 = .ok (.getfield 289, 3) := by decide +kernel
theorem dX19_active_35 : decode cX19_active 35 = .ok (.ifCond .le 7, 3) := by decide +kernel
theorem dX19_active_38 : decode cX19_active 38 = .ok (.iconst 0, 1) := by decide +kernel
theorem dX19_active_39 : decode cX19_active 39 = .ok (.goto 13, 3) := by decide +kernel
theorem dX19_active_42 : decode cX19_active 42 = .ok (.aload_n 0, 1) := by decide +kernel
theorem dX19_active_43 : decode cX19_active 43 = .ok (.getfield 217, 3) := by decide +kernel
theorem dX19_active_46 : decode cX19_active 46 = .ok (.iload_n 1, 1) := by decide +kernel
theorem dX19_active_47 : decode cX19_active 47 = .ok (.aaload, 1) := by decide +kernel
theorem dX19_active_48 : decode cX19_active 48 = .ok (.iload_n 2, 1) := by decide +kernel
theorem dX19_active_49 : decode cX19_active 49 = .ok (.invokevirtual 835, 3) := by decide +kernel
theorem dX19_active_52 : decode cX19_active 52 = .ok (.ireturn, 1) := by decide +kernel
theorem cwX19_active : mw_cwV yX19_active cX19_active 3 ((some .int)) 2 := ⟨⟨wd_13, wd_4269, by decide +kernel⟩, wd_4267, wd_4268⟩
set_option maxHeartbeats 4000000 in
set_option maxRecDepth 100000 in
theorem tX19_active (l : Launch) (G : mwG) (ad : Nat → Nat) (fu : Nat) (a1 : Int32) (a2 : Int32) (M : mwM) (L : mwL) {r0 : Int32} {M0 : mwM} {L0 : mwL} (hD : DX19_active fu a1 a2 M L = some (r0, M0, L0)) : Met l yX19_active (Cond.code yX19_active cX19_active 3 ((some .int)) :: GT) ({ frames := 3, cells := 0, slots := 0, locals := 66 }) (mw_Pre G ad NF TF FF M L [.ref (ad 732), .int a1, .int a2]) (mw_Qi G ad NF TF FF (mw_eqI r0 M0 L0)) 0 0 (mw_fr G) := by
  refine mw_enter (by decide) (Nat.le_of_ble_eq_true rfl) ?_
  intro p e s m below meth c ls C hr hlocks hnm hw hl
  have hl : lv_has ls 3 [(0, .ref (ad 732)), (1, .int a1), (2, .int a2)] := hl
  have hb52 : ∀ (s0 : Int32) (M : mwM) (L : mwL) (H : Heap) (locs : List Loc) (ls : Array Slot), fX19_active_b52 fu a1 a2 s0 M L = some (r0, M0, L0) → mw_W G ad NF TF FF M L H locs → lv_has ls 3 [] → W p l e ({ frames := 3, cells := 0, slots := 0, locals := 66 }) s m [.ref (ad 732), .int a1, .int a2].toArray below meth c H locs 0 0 (MQ below (mw_Qi G ad NF TF FF (mw_eqI r0 M0 L0)) [.ref (ad 732), .int a1, .int a2].toArray s 0 0 (mw_fr G)) (F0 m 52 ls [.int s0]) := by
    intro s0 M L H locs ls hD hw hl
    unfold fX19_active_b52 at hD
    exact mr_iret C hr hlocks hw rfl (Option.some.inj hD) dX19_active_52
  have hb28 : ∀ (s1 : Int32) (M : mwM) (L : mwL) (H : Heap) (locs : List Loc) (ls : Array Slot), fX19_active_b28 fu a1 a2 s1 M L = some (r0, M0, L0) → mw_W G ad NF TF FF M L H locs → lv_has ls 3 [(0, .ref (ad 732)), (1, .int a1), (2, .int a2)] → W p l e ({ frames := 3, cells := 0, slots := 0, locals := 66 }) s m [.ref (ad 732), .int a1, .int a2].toArray below meth c H locs 0 0 (MQ below (mw_Qi G ad NF TF FF (mw_eqI r0 M0 L0)) [.ref (ad 732), .int a1, .int a2].toArray s 0 0 (mw_fr G)) (F0 m 28 ls [.int s1, .ref (ad 732)]) := by
    intro s1 M L H locs ls hD hw hl
    unfold fX19_active_b28 at hD
    obtain ⟨M1, eM1, hD⟩ := g_let hD
    refine mr_putI C hw kc_19 0 (by decide) tf_732 wd_2781 dX19_active_28 (by decide) rfl rfl rfl rfl (fun H locs hw => ?_)
    replace hw : mw_W G ad NF TF FF M1 L H locs := by rw [eM1]; exact hw
    refine lv_aload_n C.1.1 C.1.2.1 dX19_active_31 rfl (lv_at hl 0 rfl) ?_
    refine mr_getI C hw kc_19 0 (by decide) tf_732 wd_2781 dX19_active_32 (by decide) rfl ?_
    refine lv_if_le (tgt := 42) C.1.1 C.1.2.1 dX19_active_35 (by decide) (fun c2 => ?_) (fun c2 => ?_)
    · replace hD := g_pos c2 hD
      refine lv_aload_n C.1.1 C.1.2.1 dX19_active_42 rfl (lv_at hl 0 rfl) ?_
      refine mr_getR C hw kc_19 82 (by decide) tf_732 ff_732_82 wd_2863 dX19_active_43 (by decide) rfl ?_
      refine lv_iload_n C.1.1 C.1.2.1 dX19_active_46 rfl (lv_at hl 1 rfl) ?_
      obtain ⟨q3, hD⟩ := g_ck hD
      refine mr_aald C hw (by decide) tf_922 (by decide) (by decide) rfl rfl q3 (fr_922 _ (g_lt q3)) dX19_active_47 ?_
      refine lv_iload_n C.1.1 C.1.2.1 dX19_active_48 rfl (lv_at hl 2 rfl) ?_
      obtain ⟨r6, M4, L5, h1, hD⟩ := g_b3 hD
      refine md_cvI (As := [.int a2]) (rest := []) C hw (tX13_active l G ad fu ((964 + 53 * a1.toNatClampNeg)) a2 M1 L h1 (isMc_of (g_lt q3))) kc_13 (Mc_N0 (isMc_of (g_lt q3))) (Mc_T0 (isMc_of (g_lt q3))) wd_4274 cwX13_active ⟨Nat.le_of_ble_eq_true rfl, Nat.le_of_ble_eq_true rfl⟩ rfl hl.1 (Nat.le_of_ble_eq_true rfl) dX19_active_49 rfl rfl ⟨Nat.zero_le _, Nat.zero_le _⟩ rfl (fun H locs hw => ?_)
      exact hb52 r6 M4 L5 _ _ ls hD hw (lv_sub hl [] rfl)
    · replace hD := g_neg c2 hD
      refine lv_iconst (v := 0) C.1.1 C.1.2.1 dX19_active_38 (by decide) ?_
      refine lv_goto (tgt := 52) C.1.1 C.1.2.1 dX19_active_39 (by decide) ?_
      exact hb52 0 M1 L _ _ ls hD hw (lv_sub hl [] rfl)
  have hb23 : ∀ (M : mwM) (L : mwL) (H : Heap) (locs : List Loc) (ls : Array Slot), fX19_active_b23 fu a1 a2 M L = some (r0, M0, L0) → mw_W G ad NF TF FF M L H locs → lv_has ls 3 [(0, .ref (ad 732)), (1, .int a1), (2, .int a2)] → W p l e ({ frames := 3, cells := 0, slots := 0, locals := 66 }) s m [.ref (ad 732), .int a1, .int a2].toArray below meth c H locs 0 0 (MQ below (mw_Qi G ad NF TF FF (mw_eqI r0 M0 L0)) [.ref (ad 732), .int a1, .int a2].toArray s 0 0 (mw_fr G)) (F0 m 23 ls [.ref (ad 732)]) := by
    intro M L H locs ls hD hw hl
    unfold fX19_active_b23 at hD
    refine lv_iconst (v := 1) C.1.1 C.1.2.1 dX19_active_23 (by decide) ?_
    refine lv_goto (tgt := 28) C.1.1 C.1.2.1 dX19_active_24 (by decide) ?_
    exact hb28 1 M L _ _ ls hD hw (lv_sub hl [0, 1, 2] rfl)
  unfold DX19_active at hD
  refine lv_aload_n C.1.1 C.1.2.1 dX19_active_0 rfl (lv_at hl 0 rfl) ?_
  refine lv_aload_n C.1.1 C.1.2.1 dX19_active_1 rfl (lv_at hl 0 rfl) ?_
  refine lv_iload_n C.1.1 C.1.2.1 dX19_active_2 rfl (lv_at hl 1 rfl) ?_
  obtain ⟨r9, M7, L8, h1, hD⟩ := g_b3 hD
  refine md_cvI (As := [.int a1]) (rest := [.ref (ad 732)]) C hw (tX19_noChart l G ad fu a1 M L h1) kc_19 (by decide) tf_732 wd_4270 cwX19_noChart ⟨Nat.le_of_ble_eq_true rfl, Nat.le_of_ble_eq_true rfl⟩ rfl hl.1 (Nat.le_of_ble_eq_true rfl) dX19_active_3 rfl rfl ⟨Nat.zero_le _, Nat.zero_le _⟩ rfl (fun H locs hw => ?_)
  refine lv_if_ne (tgt := 23) C.1.1 C.1.2.1 dX19_active_6 (by decide) (fun c10 => ?_) (fun c10 => ?_)
  · replace hD := g_neg c10 hD
    exact hb23 M7 L8 _ _ ls hD hw (lv_sub hl [0, 1, 2] rfl)
  · replace hD := g_pos c10 hD
    refine lv_iload_n C.1.1 C.1.2.1 dX19_active_9 rfl (lv_at hl 2 rfl) ?_
    refine lv_if_lt (tgt := 23) C.1.1 C.1.2.1 dX19_active_10 (by decide) (fun c11 => ?_) (fun c11 => ?_)
    · replace hD := g_pos c11 hD
      exact hb23 M7 L8 _ _ ls hD hw (lv_sub hl [0, 1, 2] rfl)
    · replace hD := g_neg c11 hD
      refine lv_iload_n C.1.1 C.1.2.1 dX19_active_13 rfl (lv_at hl 2 rfl) ?_
      refine lv_aload_n C.1.1 C.1.2.1 dX19_active_14 rfl (lv_at hl 0 rfl) ?_
      refine mr_getR C hw kc_19 39 (by decide) tf_732 ff_732_39 wd_2820 dX19_active_15 (by decide) rfl ?_
      refine lv_iload_n C.1.1 C.1.2.1 dX19_active_18 rfl (lv_at hl 1 rfl) ?_
      obtain ⟨q12, hD⟩ := g_ck hD
      refine mr_iald C hw (by decide) tf_754 q12 dX19_active_19 ?_
      refine lv_icmp_le (tgt := 27) C.1.1 C.1.2.1 dX19_active_20 (by decide) (fun c13 => ?_) (fun c13 => ?_)
      · replace hD := g_pos c13 hD
        refine lv_iconst (v := 0) C.1.1 C.1.2.1 dX19_active_27 (by decide) ?_
        exact hb28 0 M7 L8 _ _ ls hD hw (lv_sub hl [0, 1, 2] rfl)
      · replace hD := g_neg c13 hD
        exact hb23 M7 L8 _ _ ls hD hw (lv_sub hl [0, 1, 2] rfl)

theorem dX19_value_0 : decode cX19_value 0 = .ok (.aload_n 0, 1) := by decide +kernel
theorem dX19_value_1 : decode cX19_value 1 = .ok (.aload_n 0, 1) := by decide +kernel
theorem dX19_value_2 : decode cX19_value 2 = .ok (.iload_n 1, 1) := by decide +kernel
theorem dX19_value_3 : decode cX19_value 3 = .ok (.invokevirtual 832, 3) := by decide +kernel
theorem dX19_value_6 : decode cX19_value 6 = .ok (.ifCond .ne 13, 3) := by decide +kernel
theorem dX19_value_9 : decode cX19_value 9 = .ok (.iload_n 2, 1) := by decide +kernel
theorem dX19_value_10 : decode cX19_value 10 = .ok (.ifCond .lt 9, 3) := by decide +kernel
theorem dX19_value_13 : decode cX19_value 13 = .ok (.iload_n 2, 1) := by decide +kernel
theorem dX19_value_14 : decode cX19_value 14 = .ok (.bipush 31, 2) := by decide +kernel
theorem dX19_value_16 : decode cX19_value 16 = .ok (.if_icmp .le 7, 3) := by decide +kernel
theorem dX19_value_19 : decode cX19_value 19 = .ok (.iconst 1, 1) := by decide +kernel
theorem dX19_value_20 : decode cX19_value 20 = .ok (.goto 4, 3) := by decide +kernel
theorem dX19_value_23 : decode cX19_value 23 = .ok (.iconst 0, 1) := by decide +kernel
theorem dX19_value_24 : decode cX19_value 24 = .ok (.putfield 289, 3) := by decide +kernel
theorem dX19_value_27 : decode cX19_value 27 = .ok (.aload_n 0, 1) := by decide +kernel
theorem dX19_value_28 : decode cX19_value 28 = .ok (.getfield 289, 3) := by decide +kernel
theorem dX19_value_31 : decode cX19_value 31 = .ok (.ifCond .le 7, 3) := by decide +kernel
theorem dX19_value_34 : decode cX19_value 34 = .ok (.lconst 0, 1) := by decide +kernel
theorem dX19_value_35 : decode cX19_value 35 = .ok (.goto 13, 3) := by decide +kernel
theorem dX19_value_38 : decode cX19_value 38 = .ok (.aload_n 0, 1) := by decide +kernel
theorem dX19_value_39 : decode cX19_value 39 = .ok (.getfield 217, 3) := by decide +kernel
theorem dX19_value_42 : decode cX19_value 42 = .ok (.iload_n 1, 1) := by decide +kernel
theorem dX19_value_43 : decode cX19_value 43 = .ok (.aaload, 1) := by decide +kernel
theorem dX19_value_44 : decode cX19_value 44 = .ok (.iload_n 2, 1) := by decide +kernel
theorem dX19_value_45 : decode cX19_value 45 = .ok (.invokevirtual 661, 3) := by decide +kernel
theorem dX19_value_48 : decode cX19_value 48 = .ok (.lreturn, 1) := by decide +kernel
theorem cwX19_value : mw_cwV yX19_value cX19_value 3 ((some .long)) 2 := ⟨⟨wd_13, wd_4281, by decide +kernel⟩, wd_4279, wd_4280⟩
set_option maxHeartbeats 4000000 in
set_option maxRecDepth 100000 in
theorem tX19_value (l : Launch) (G : mwG) (ad : Nat → Nat) (fu : Nat) (a1 : Int32) (a2 : Int32) (M : mwM) (L : mwL) {r0 : Int64} {M0 : mwM} {L0 : mwL} (hD : DX19_value fu a1 a2 M L = some (r0, M0, L0)) : Met l yX19_value (Cond.code yX19_value cX19_value 3 ((some .long)) :: GT) ({ frames := 1, cells := 0, slots := 0, locals := 21 }) (mw_Pre G ad NF TF FF M L [.ref (ad 732), .int a1, .int a2]) (mw_Ql G ad NF TF FF (mw_eqL r0 M0 L0)) 0 0 (mw_fr G) := by
  refine mw_enter (by decide) (Nat.le_of_ble_eq_true rfl) ?_
  intro p e s m below meth c ls C hr hlocks hnm hw hl
  have hl : lv_has ls 3 [(0, .ref (ad 732)), (1, .int a1), (2, .int a2)] := hl
  have hb48 : ∀ (s0 : Int64) (M : mwM) (L : mwL) (H : Heap) (locs : List Loc) (ls : Array Slot), fX19_value_b48 fu a1 a2 s0 M L = some (r0, M0, L0) → mw_W G ad NF TF FF M L H locs → lv_has ls 3 [] → W p l e ({ frames := 1, cells := 0, slots := 0, locals := 21 }) s m [.ref (ad 732), .int a1, .int a2].toArray below meth c H locs 0 0 (MQ below (mw_Ql G ad NF TF FF (mw_eqL r0 M0 L0)) [.ref (ad 732), .int a1, .int a2].toArray s 0 0 (mw_fr G)) (F0 m 48 ls [.long s0]) := by
    intro s0 M L H locs ls hD hw hl
    unfold fX19_value_b48 at hD
    exact mr_lret C hr hlocks hw (Option.some.inj hD) dX19_value_48
  have hb24 : ∀ (s1 : Int32) (M : mwM) (L : mwL) (H : Heap) (locs : List Loc) (ls : Array Slot), fX19_value_b24 fu a1 a2 s1 M L = some (r0, M0, L0) → mw_W G ad NF TF FF M L H locs → lv_has ls 3 [(0, .ref (ad 732)), (1, .int a1), (2, .int a2)] → W p l e ({ frames := 1, cells := 0, slots := 0, locals := 21 }) s m [.ref (ad 732), .int a1, .int a2].toArray below meth c H locs 0 0 (MQ below (mw_Ql G ad NF TF FF (mw_eqL r0 M0 L0)) [.ref (ad 732), .int a1, .int a2].toArray s 0 0 (mw_fr G)) (F0 m 24 ls [.int s1, .ref (ad 732)]) := by
    intro s1 M L H locs ls hD hw hl
    unfold fX19_value_b24 at hD
    obtain ⟨M1, eM1, hD⟩ := g_let hD
    refine mr_putI C hw kc_19 0 (by decide) tf_732 wd_2781 dX19_value_24 (by decide) rfl rfl rfl rfl (fun H locs hw => ?_)
    replace hw : mw_W G ad NF TF FF M1 L H locs := by rw [eM1]; exact hw
    refine lv_aload_n C.1.1 C.1.2.1 dX19_value_27 rfl (lv_at hl 0 rfl) ?_
    refine mr_getI C hw kc_19 0 (by decide) tf_732 wd_2781 dX19_value_28 (by decide) rfl ?_
    refine lv_if_le (tgt := 38) C.1.1 C.1.2.1 dX19_value_31 (by decide) (fun c2 => ?_) (fun c2 => ?_)
    · replace hD := g_pos c2 hD
      refine lv_aload_n C.1.1 C.1.2.1 dX19_value_38 rfl (lv_at hl 0 rfl) ?_
      refine mr_getR C hw kc_19 82 (by decide) tf_732 ff_732_82 wd_2863 dX19_value_39 (by decide) rfl ?_
      refine lv_iload_n C.1.1 C.1.2.1 dX19_value_42 rfl (lv_at hl 1 rfl) ?_
      obtain ⟨q3, hD⟩ := g_ck hD
      refine mr_aald C hw (by decide) tf_922 (by decide) (by decide) rfl rfl q3 (fr_922 _ (g_lt q3)) dX19_value_43 ?_
      refine lv_iload_n C.1.1 C.1.2.1 dX19_value_44 rfl (lv_at hl 2 rfl) ?_
      obtain ⟨r6, M4, L5, h1, hD⟩ := g_b3 hD
      refine md_cvL (As := [.int a2]) (rest := []) C hw (tX13_value l G ad fu ((964 + 53 * a1.toNatClampNeg)) a2 M1 L h1 (isMc_of (g_lt q3))) kc_13 (Mc_N0 (isMc_of (g_lt q3))) (Mc_T0 (isMc_of (g_lt q3))) wd_3550 cwX13_value ⟨Nat.le_of_ble_eq_true rfl, Nat.le_of_ble_eq_true rfl⟩ rfl hl.1 (Nat.le_of_ble_eq_true rfl) dX19_value_45 rfl rfl ⟨Nat.zero_le _, Nat.zero_le _⟩ rfl (fun H locs hw => ?_)
      exact hb48 r6 M4 L5 _ _ ls hD hw (lv_sub hl [] rfl)
    · replace hD := g_neg c2 hD
      refine lv_lconst (v := 0) C.1.1 C.1.2.1 dX19_value_34 (by decide) ?_
      refine lv_goto (tgt := 48) C.1.1 C.1.2.1 dX19_value_35 (by decide) ?_
      exact hb48 0 M1 L _ _ ls hD hw (lv_sub hl [] rfl)
  have hb19 : ∀ (M : mwM) (L : mwL) (H : Heap) (locs : List Loc) (ls : Array Slot), fX19_value_b19 fu a1 a2 M L = some (r0, M0, L0) → mw_W G ad NF TF FF M L H locs → lv_has ls 3 [(0, .ref (ad 732)), (1, .int a1), (2, .int a2)] → W p l e ({ frames := 1, cells := 0, slots := 0, locals := 21 }) s m [.ref (ad 732), .int a1, .int a2].toArray below meth c H locs 0 0 (MQ below (mw_Ql G ad NF TF FF (mw_eqL r0 M0 L0)) [.ref (ad 732), .int a1, .int a2].toArray s 0 0 (mw_fr G)) (F0 m 19 ls [.ref (ad 732)]) := by
    intro M L H locs ls hD hw hl
    unfold fX19_value_b19 at hD
    refine lv_iconst (v := 1) C.1.1 C.1.2.1 dX19_value_19 (by decide) ?_
    refine lv_goto (tgt := 24) C.1.1 C.1.2.1 dX19_value_20 (by decide) ?_
    exact hb24 1 M L _ _ ls hD hw (lv_sub hl [0, 1, 2] rfl)
  unfold DX19_value at hD
  refine lv_aload_n C.1.1 C.1.2.1 dX19_value_0 rfl (lv_at hl 0 rfl) ?_
  refine lv_aload_n C.1.1 C.1.2.1 dX19_value_1 rfl (lv_at hl 0 rfl) ?_
  refine lv_iload_n C.1.1 C.1.2.1 dX19_value_2 rfl (lv_at hl 1 rfl) ?_
  obtain ⟨r9, M7, L8, h1, hD⟩ := g_b3 hD
  refine md_cvI (As := [.int a1]) (rest := [.ref (ad 732)]) C hw (tX19_noChart l G ad fu a1 M L h1) kc_19 (by decide) tf_732 wd_4270 cwX19_noChart ⟨Nat.le_of_ble_eq_true rfl, Nat.le_of_ble_eq_true rfl⟩ rfl hl.1 (Nat.le_of_ble_eq_true rfl) dX19_value_3 rfl rfl ⟨Nat.zero_le _, Nat.zero_le _⟩ rfl (fun H locs hw => ?_)
  refine lv_if_ne (tgt := 19) C.1.1 C.1.2.1 dX19_value_6 (by decide) (fun c10 => ?_) (fun c10 => ?_)
  · replace hD := g_neg c10 hD
    exact hb19 M7 L8 _ _ ls hD hw (lv_sub hl [0, 1, 2] rfl)
  · replace hD := g_pos c10 hD
    refine lv_iload_n C.1.1 C.1.2.1 dX19_value_9 rfl (lv_at hl 2 rfl) ?_
    refine lv_if_lt (tgt := 19) C.1.1 C.1.2.1 dX19_value_10 (by decide) (fun c11 => ?_) (fun c11 => ?_)
    · replace hD := g_pos c11 hD
      exact hb19 M7 L8 _ _ ls hD hw (lv_sub hl [0, 1, 2] rfl)
    · replace hD := g_neg c11 hD
      refine lv_iload_n C.1.1 C.1.2.1 dX19_value_13 rfl (lv_at hl 2 rfl) ?_
      refine lv_bipush (v := 31) C.1.1 C.1.2.1 dX19_value_14 (by decide) ?_
      refine lv_icmp_le (tgt := 23) C.1.1 C.1.2.1 dX19_value_16 (by decide) (fun c12 => ?_) (fun c12 => ?_)
      · replace hD := g_pos c12 hD
        refine lv_iconst (v := 0) C.1.1 C.1.2.1 dX19_value_23 (by decide) ?_
        exact hb24 0 M7 L8 _ _ ls hD hw (lv_sub hl [0, 1, 2] rfl)
      · replace hD := g_neg c12 hD
        exact hb19 M7 L8 _ _ ls hD hw (lv_sub hl [0, 1, 2] rfl)

theorem dX19_chart_0 : decode cX19_chart 0 = .ok (.aload_n 0, 1) := by decide +kernel
theorem dX19_chart_1 : decode cX19_chart 1 = .ok (.aload_n 0, 1) := by decide +kernel
theorem dX19_chart_2 : decode cX19_chart 2 = .ok (.iload_n 1, 1) := by decide +kernel
theorem dX19_chart_3 : decode cX19_chart 3 = .ok (.invokevirtual 832, 3) := by decide +kernel
theorem dX19_chart_6 : decode cX19_chart 6 = .ok (.ifCond .eq 7, 3) := by decide +kernel
theorem dX19_chart_9 : decode cX19_chart 9 = .ok (.iconst 1, 1) := by decide +kernel
theorem dX19_chart_10 : decode cX19_chart 10 = .ok (.goto 18, 3) := by decide +kernel
theorem dX19_chart_13 : decode cX19_chart 13 = .ok (.iload_n 2, 1) := by decide +kernel
theorem dX19_chart_14 : decode cX19_chart 14 = .ok (.ifCond .lt 9, 3) := by decide +kernel
theorem dX19_chart_17 : decode cX19_chart 17 = .ok (.iload_n 2, 1) := by decide +kernel
theorem dX19_chart_18 : decode cX19_chart 18 = .ok (.bipush 7, 2) := by decide +kernel
theorem dX19_chart_20 : decode cX19_chart 20 = .ok (.if_icmp .le 7, 3) := by decide +kernel
theorem dX19_chart_23 : decode cX19_chart 23 = .ok (.iconst 2, 1) := by decide +kernel
theorem dX19_chart_24 : decode cX19_chart 24 = .ok (.goto 4, 3) := by decide +kernel
theorem dX19_chart_27 : decode cX19_chart 27 = .ok (.iconst 0, 1) := by decide +kernel
theorem dX19_chart_28 : decode cX19_chart 28 = .ok (.putfield 289, 3) := by decide +kernel
theorem dX19_chart_31 : decode cX19_chart 31 = .ok (.aload_n 0, 1) := by decide +kernel
theorem dX19_chart_32 : decode cX19_chart 32 = .ok (.getfield 289, 3) := by decide +kernel
theorem dX19_chart_35 : decode cX19_chart 35 = .ok (.ifCond .le 5, 3) := by decide +kernel
theorem dX19_chart_38 : decode cX19_chart 38 = .ok (.iconst 0, 1) := by decide +kernel
theorem dX19_chart_39 : decode cX19_chart 39 = .ok (.ireturn, 1) := by decide +kernel
theorem dX19_chart_40 : decode cX19_chart 40 = .ok (.iload_n 2, 1) := by decide +kernel
theorem dX19_chart_41 : decode cX19_chart 41 = .ok (.iconst 3, 1) := by decide +kernel
theorem dX19_chart_42 : decode cX19_chart 42 = .ok (.if_icmp .ge 40, 3) := by decide +kernel
theorem dX19_chart_45 : decode cX19_chart 45 = .ok (.iload_n 2, 1) := by decide +kernel
theorem dX19_chart_46 : decode cX19_chart 46 = .ok (.ifCond .ne 15, 3) := by decide +kernel
theorem dX19_chart_49 : decode cX19_chart 49 = .ok (.aload_n 0, 1) := by decide +kernel
theorem dX19_chart_50 : decode cX19_chart 50 = .ok (.getfield 217, 3) := by decide +kernel
theorem dX19_chart_53 : decode cX19_chart 53 = .ok (.iload_n 1, 1) := by decide +kernel
theorem dX19_chart_54 : decode cX19_chart 54 = .ok (.aaload, 1) := by decide +kernel
theorem dX19_chart_55 : decode cX19_chart 55 = .ok (.invokevirtual 838, 3) := by decide +kernel
theorem dX19_chart_58 : decode cX19_chart 58 = .ok (.goto 23, 3) := by decide +kernel
theorem dX19_chart_61 : decode cX19_chart 61 = .ok (.iload_n 2, 1) := by decide +kernel
theorem dX19_chart_62 : decode cX19_chart 62 = .ok (.iconst 1, 1) := by decide +kernel
theorem dX19_chart_63 : decode cX19_chart 63 = .ok (.if_icmp .ne 12, 3) := by decide +kernel
theorem dX19_chart_66 : decode cX19_chart 66 = .ok (.aload_n 0, 1) := by decide +kernel
theorem dX19_chart_67 : decode cX19_chart 67 = .ok (.getfield 67, 3) := by decide +kernel
theorem dX19_chart_70 : decode cX19_chart 70 = .ok (.iload_n 1, 1) := by decide +kernel
theorem dX19_chart_71 : decode cX19_chart 71 = .ok (.iaload, 1) := by decide +kernel
theorem dX19_chart_72 : decode cX19_chart 72 = .ok (.goto 9, 3) := by decide +kernel
theorem dX19_chart_75 : decode cX19_chart 75 = .ok (.aload_n 0, 1) := by decide +kernel
theorem dX19_chart_76 : decode cX19_chart 76 = .ok (.getfield 64, 3) := by decide +kernel
theorem dX19_chart_79 : decode cX19_chart 79 = .ok (.iload_n 1, 1) := by decide +kernel
theorem dX19_chart_80 : decode cX19_chart 80 = .ok (.iaload, 1) := by decide +kernel
theorem dX19_chart_81 : decode cX19_chart 81 = .ok (.ireturn, 1) := by decide +kernel
theorem dX19_chart_82 : decode cX19_chart 82 = .ok (.aload_n 0, 1) := by decide +kernel
theorem dX19_chart_83 : decode cX19_chart 83 = .ok (.getfield 217, 3) := by decide +kernel
theorem dX19_chart_86 : decode cX19_chart 86 = .ok (.iload_n 1, 1) := by decide +kernel
theorem dX19_chart_87 : decode cX19_chart 87 = .ok (.aaload, 1) := by decide +kernel
theorem dX19_chart_88 : decode cX19_chart 88 = .ok (.iload_n 2, 1) := by decide +kernel
theorem dX19_chart_89 : decode cX19_chart 89 = .ok (.iconst 3, 1) := by decide +kernel
theorem dX19_chart_90 : decode cX19_chart 90 = .ok (.isub, 1) := by decide +kernel
theorem dX19_chart_91 : decode cX19_chart 91 = .ok (.invokevirtual 841, 3) := by decide +kernel
theorem dX19_chart_94 : decode cX19_chart 94 = .ok (.ireturn, 1) := by decide +kernel
theorem cwX19_chart : mw_cwV yX19_chart cX19_chart 3 ((some .int)) 2 := ⟨⟨wd_13, wd_4285, by decide +kernel⟩, wd_4283, wd_4284⟩
set_option maxHeartbeats 4000000 in
set_option maxRecDepth 100000 in
theorem tX19_chart (l : Launch) (G : mwG) (ad : Nat → Nat) (fu : Nat) (a1 : Int32) (a2 : Int32) (M : mwM) (L : mwL) {r0 : Int32} {M0 : mwM} {L0 : mwL} (hD : DX19_chart fu a1 a2 M L = some (r0, M0, L0)) : Met l yX19_chart (Cond.code yX19_chart cX19_chart 3 ((some .int)) :: GT) ({ frames := 1, cells := 0, slots := 0, locals := 23 }) (mw_Pre G ad NF TF FF M L [.ref (ad 732), .int a1, .int a2]) (mw_Qi G ad NF TF FF (mw_eqI r0 M0 L0)) 0 0 (mw_fr G) := by
  refine mw_enter (by decide) (Nat.le_of_ble_eq_true rfl) ?_
  intro p e s m below meth c ls C hr hlocks hnm hw hl
  have hl : lv_has ls 3 [(0, .ref (ad 732)), (1, .int a1), (2, .int a2)] := hl
  have hb81 : ∀ (s0 : Int32) (M : mwM) (L : mwL) (H : Heap) (locs : List Loc) (ls : Array Slot), fX19_chart_b81 fu a1 a2 s0 M L = some (r0, M0, L0) → mw_W G ad NF TF FF M L H locs → lv_has ls 3 [] → W p l e ({ frames := 1, cells := 0, slots := 0, locals := 23 }) s m [.ref (ad 732), .int a1, .int a2].toArray below meth c H locs 0 0 (MQ below (mw_Qi G ad NF TF FF (mw_eqI r0 M0 L0)) [.ref (ad 732), .int a1, .int a2].toArray s 0 0 (mw_fr G)) (F0 m 81 ls [.int s0]) := by
    intro s0 M L H locs ls hD hw hl
    unfold fX19_chart_b81 at hD
    exact mr_iret C hr hlocks hw rfl (Option.some.inj hD) dX19_chart_81
  have hb28 : ∀ (s1 : Int32) (M : mwM) (L : mwL) (H : Heap) (locs : List Loc) (ls : Array Slot), fX19_chart_b28 fu a1 a2 s1 M L = some (r0, M0, L0) → mw_W G ad NF TF FF M L H locs → lv_has ls 3 [(0, .ref (ad 732)), (1, .int a1), (2, .int a2)] → W p l e ({ frames := 1, cells := 0, slots := 0, locals := 23 }) s m [.ref (ad 732), .int a1, .int a2].toArray below meth c H locs 0 0 (MQ below (mw_Qi G ad NF TF FF (mw_eqI r0 M0 L0)) [.ref (ad 732), .int a1, .int a2].toArray s 0 0 (mw_fr G)) (F0 m 28 ls [.int s1, .ref (ad 732)]) := by
    intro s1 M L H locs ls hD hw hl
    unfold fX19_chart_b28 at hD
    obtain ⟨M1, eM1, hD⟩ := g_let hD
    refine mr_putI C hw kc_19 0 (by decide) tf_732 wd_2781 dX19_chart_28 (by decide) rfl rfl rfl rfl (fun H locs hw => ?_)
    replace hw : mw_W G ad NF TF FF M1 L H locs := by rw [eM1]; exact hw
    refine lv_aload_n C.1.1 C.1.2.1 dX19_chart_31 rfl (lv_at hl 0 rfl) ?_
    refine mr_getI C hw kc_19 0 (by decide) tf_732 wd_2781 dX19_chart_32 (by decide) rfl ?_
    refine lv_if_le (tgt := 40) C.1.1 C.1.2.1 dX19_chart_35 (by decide) (fun c2 => ?_) (fun c2 => ?_)
    · replace hD := g_pos c2 hD
      refine lv_iload_n C.1.1 C.1.2.1 dX19_chart_40 rfl (lv_at hl 2 rfl) ?_
      refine lv_iconst (v := 3) C.1.1 C.1.2.1 dX19_chart_41 (by decide) ?_
      refine lv_icmp_ge (tgt := 82) C.1.1 C.1.2.1 dX19_chart_42 (by decide) (fun c3 => ?_) (fun c3 => ?_)
      · replace hD := g_pos c3 hD
        refine lv_aload_n C.1.1 C.1.2.1 dX19_chart_82 rfl (lv_at hl 0 rfl) ?_
        refine mr_getR C hw kc_19 82 (by decide) tf_732 ff_732_82 wd_2863 dX19_chart_83 (by decide) rfl ?_
        refine lv_iload_n C.1.1 C.1.2.1 dX19_chart_86 rfl (lv_at hl 1 rfl) ?_
        obtain ⟨q4, hD⟩ := g_ck hD
        refine mr_aald C hw (by decide) tf_922 (by decide) (by decide) rfl rfl q4 (fr_922 _ (g_lt q4)) dX19_chart_87 ?_
        refine lv_iload_n C.1.1 C.1.2.1 dX19_chart_88 rfl (lv_at hl 2 rfl) ?_
        refine lv_iconst (v := 3) C.1.1 C.1.2.1 dX19_chart_89 (by decide) ?_
        refine lv_isub C.1.1 C.1.2.1 dX19_chart_90 ?_
        obtain ⟨r7, M5, L6, h1, hD⟩ := g_b3 hD
        refine md_cvI (As := [.int (a2 - 3)]) (rest := []) C hw (tX13_covered l G ad fu ((964 + 53 * a1.toNatClampNeg)) (a2 - 3) M1 L h1 (isMc_of (g_lt q4))) kc_13 (Mc_N0 (isMc_of (g_lt q4))) (Mc_T0 (isMc_of (g_lt q4))) wd_4290 cwX13_covered ⟨Nat.le_of_ble_eq_true rfl, Nat.le_of_ble_eq_true rfl⟩ rfl hl.1 (Nat.le_of_ble_eq_true rfl) dX19_chart_91 rfl rfl ⟨Nat.zero_le _, Nat.zero_le _⟩ rfl (fun H locs hw => ?_)
        exact mr_iret C hr hlocks hw rfl (Option.some.inj hD) dX19_chart_94
      · replace hD := g_neg c3 hD
        refine lv_iload_n C.1.1 C.1.2.1 dX19_chart_45 rfl (lv_at hl 2 rfl) ?_
        refine lv_if_ne (tgt := 61) C.1.1 C.1.2.1 dX19_chart_46 (by decide) (fun c8 => ?_) (fun c8 => ?_)
        · replace hD := g_neg c8 hD
          refine lv_iload_n C.1.1 C.1.2.1 dX19_chart_61 rfl (lv_at hl 2 rfl) ?_
          refine lv_iconst (v := 1) C.1.1 C.1.2.1 dX19_chart_62 (by decide) ?_
          refine lv_icmp_ne (tgt := 75) C.1.1 C.1.2.1 dX19_chart_63 (by decide) (fun c9 => ?_) (fun c9 => ?_)
          · replace hD := g_neg c9 hD
            refine lv_aload_n C.1.1 C.1.2.1 dX19_chart_75 rfl (lv_at hl 0 rfl) ?_
            refine mr_getR C hw kc_19 36 (by decide) tf_732 ff_732_36 wd_2817 dX19_chart_76 (by decide) rfl ?_
            refine lv_iload_n C.1.1 C.1.2.1 dX19_chart_79 rfl (lv_at hl 1 rfl) ?_
            obtain ⟨q10, hD⟩ := g_ck hD
            refine mr_iald C hw (by decide) tf_751 q10 dX19_chart_80 ?_
            exact hb81 (M1 751 a1.toNatClampNeg) M1 L _ _ ls hD hw (lv_sub hl [] rfl)
          · replace hD := g_pos c9 hD
            refine lv_aload_n C.1.1 C.1.2.1 dX19_chart_66 rfl (lv_at hl 0 rfl) ?_
            refine mr_getR C hw kc_19 37 (by decide) tf_732 ff_732_37 wd_2818 dX19_chart_67 (by decide) rfl ?_
            refine lv_iload_n C.1.1 C.1.2.1 dX19_chart_70 rfl (lv_at hl 1 rfl) ?_
            obtain ⟨q11, hD⟩ := g_ck hD
            refine mr_iald C hw (by decide) tf_752 q11 dX19_chart_71 ?_
            refine lv_goto (tgt := 81) C.1.1 C.1.2.1 dX19_chart_72 (by decide) ?_
            exact hb81 (M1 752 a1.toNatClampNeg) M1 L _ _ ls hD hw (lv_sub hl [] rfl)
        · replace hD := g_pos c8 hD
          refine lv_aload_n C.1.1 C.1.2.1 dX19_chart_49 rfl (lv_at hl 0 rfl) ?_
          refine mr_getR C hw kc_19 82 (by decide) tf_732 ff_732_82 wd_2863 dX19_chart_50 (by decide) rfl ?_
          refine lv_iload_n C.1.1 C.1.2.1 dX19_chart_53 rfl (lv_at hl 1 rfl) ?_
          obtain ⟨q12, hD⟩ := g_ck hD
          refine mr_aald C hw (by decide) tf_922 (by decide) (by decide) rfl rfl q12 (fr_922 _ (g_lt q12)) dX19_chart_54 ?_
          obtain ⟨r15, M13, L14, h1, hD⟩ := g_b3 hD
          refine md_cvI (As := []) (rest := []) C hw (tX13_dropped l G ad fu ((964 + 53 * a1.toNatClampNeg)) M1 L h1 (isMc_of (g_lt q12))) kc_13 (Mc_N0 (isMc_of (g_lt q12))) (Mc_T0 (isMc_of (g_lt q12))) wd_4286 cwX13_dropped ⟨Nat.le_of_ble_eq_true rfl, Nat.le_of_ble_eq_true rfl⟩ rfl hl.1 (Nat.le_of_ble_eq_true rfl) dX19_chart_55 rfl rfl ⟨Nat.zero_le _, Nat.zero_le _⟩ rfl (fun H locs hw => ?_)
          refine lv_goto (tgt := 81) C.1.1 C.1.2.1 dX19_chart_58 (by decide) ?_
          exact hb81 r15 M13 L14 _ _ ls hD hw (lv_sub hl [] rfl)
    · replace hD := g_neg c2 hD
      refine lv_iconst (v := 0) C.1.1 C.1.2.1 dX19_chart_38 (by decide) ?_
      exact mr_iret C hr hlocks hw rfl (Option.some.inj hD) dX19_chart_39
  have hb23 : ∀ (M : mwM) (L : mwL) (H : Heap) (locs : List Loc) (ls : Array Slot), fX19_chart_b23 fu a1 a2 M L = some (r0, M0, L0) → mw_W G ad NF TF FF M L H locs → lv_has ls 3 [(0, .ref (ad 732)), (1, .int a1), (2, .int a2)] → W p l e ({ frames := 1, cells := 0, slots := 0, locals := 23 }) s m [.ref (ad 732), .int a1, .int a2].toArray below meth c H locs 0 0 (MQ below (mw_Qi G ad NF TF FF (mw_eqI r0 M0 L0)) [.ref (ad 732), .int a1, .int a2].toArray s 0 0 (mw_fr G)) (F0 m 23 ls [.ref (ad 732)]) := by
    intro M L H locs ls hD hw hl
    unfold fX19_chart_b23 at hD
    refine lv_iconst (v := 2) C.1.1 C.1.2.1 dX19_chart_23 (by decide) ?_
    refine lv_goto (tgt := 28) C.1.1 C.1.2.1 dX19_chart_24 (by decide) ?_
    exact hb28 2 M L _ _ ls hD hw (lv_sub hl [0, 1, 2] rfl)
  unfold DX19_chart at hD
  refine lv_aload_n C.1.1 C.1.2.1 dX19_chart_0 rfl (lv_at hl 0 rfl) ?_
  refine lv_aload_n C.1.1 C.1.2.1 dX19_chart_1 rfl (lv_at hl 0 rfl) ?_
  refine lv_iload_n C.1.1 C.1.2.1 dX19_chart_2 rfl (lv_at hl 1 rfl) ?_
  obtain ⟨r18, M16, L17, h1, hD⟩ := g_b3 hD
  refine md_cvI (As := [.int a1]) (rest := [.ref (ad 732)]) C hw (tX19_noChart l G ad fu a1 M L h1) kc_19 (by decide) tf_732 wd_4270 cwX19_noChart ⟨Nat.le_of_ble_eq_true rfl, Nat.le_of_ble_eq_true rfl⟩ rfl hl.1 (Nat.le_of_ble_eq_true rfl) dX19_chart_3 rfl rfl ⟨Nat.zero_le _, Nat.zero_le _⟩ rfl (fun H locs hw => ?_)
  refine lv_if_eq (tgt := 13) C.1.1 C.1.2.1 dX19_chart_6 (by decide) (fun c19 => ?_) (fun c19 => ?_)
  · replace hD := g_pos c19 hD
    refine lv_iload_n C.1.1 C.1.2.1 dX19_chart_13 rfl (lv_at hl 2 rfl) ?_
    refine lv_if_lt (tgt := 23) C.1.1 C.1.2.1 dX19_chart_14 (by decide) (fun c20 => ?_) (fun c20 => ?_)
    · replace hD := g_pos c20 hD
      exact hb23 M16 L17 _ _ ls hD hw (lv_sub hl [0, 1, 2] rfl)
    · replace hD := g_neg c20 hD
      refine lv_iload_n C.1.1 C.1.2.1 dX19_chart_17 rfl (lv_at hl 2 rfl) ?_
      refine lv_bipush (v := 7) C.1.1 C.1.2.1 dX19_chart_18 (by decide) ?_
      refine lv_icmp_le (tgt := 27) C.1.1 C.1.2.1 dX19_chart_20 (by decide) (fun c21 => ?_) (fun c21 => ?_)
      · replace hD := g_pos c21 hD
        refine lv_iconst (v := 0) C.1.1 C.1.2.1 dX19_chart_27 (by decide) ?_
        exact hb28 0 M16 L17 _ _ ls hD hw (lv_sub hl [0, 1, 2] rfl)
      · replace hD := g_neg c21 hD
        exact hb23 M16 L17 _ _ ls hD hw (lv_sub hl [0, 1, 2] rfl)
  · replace hD := g_neg c19 hD
    refine lv_iconst (v := 1) C.1.1 C.1.2.1 dX19_chart_9 (by decide) ?_
    refine lv_goto (tgt := 28) C.1.1 C.1.2.1 dX19_chart_10 (by decide) ?_
    exact hb28 1 M16 L17 _ _ ls hD hw (lv_sub hl [0, 1, 2] rfl)

theorem dX19_trouble_0 : decode cX19_trouble 0 = .ok (.aload_n 0, 1) := by decide +kernel
theorem dX19_trouble_1 : decode cX19_trouble 1 = .ok (.aload_n 0, 1) := by decide +kernel
theorem dX19_trouble_2 : decode cX19_trouble 2 = .ok (.getfield 630, 3) := by decide +kernel
theorem dX19_trouble_5 : decode cX19_trouble 5 = .ok (.ifCond .eq 15, 3) := by decide +kernel
theorem dX19_trouble_8 : decode cX19_trouble 8 = .ok (.iload_n 1, 1) := by decide +kernel
theorem dX19_trouble_9 : decode cX19_trouble 9 = .ok (.ifCond .lt 11, 3) := by decide +kernel
theorem dX19_trouble_12 : decode cX19_trouble 12 = .ok (.iload_n 1, 1) := by decide +kernel
theorem dX19_trouble_13 : decode cX19_trouble 13 = .ok (.aload_n 0, 1) := by decide +kernel
theorem dX19_trouble_14 : decode cX19_trouble 14 = .ok (.getfield 558, 3) := by decide +kernel
theorem dX19_trouble_17 : decode cX19_trouble 17 = .ok (.if_icmp .lt 7, 3) := by decide +kernel
theorem dX19_trouble_20 : decode cX19_trouble 20 = .ok (.iconst 1, 1) := by decide +kernel
theorem dX19_trouble_21 : decode cX19_trouble 21 = .ok (.goto 17, 3) := by decide +kernel
theorem dX19_trouble_24 : decode cX19_trouble 24 = .ok (.iload_n 2, 1) := by decide +kernel
theorem dX19_trouble_25 : decode cX19_trouble 25 = .ok (.ifCond .lt 8, 3) := by decide +kernel
theorem dX19_trouble_28 : decode cX19_trouble 28 = .ok (.iload_n 2, 1) := by decide +kernel
theorem dX19_trouble_29 : decode cX19_trouble 29 = .ok (.iconst 4, 1) := by decide +kernel
theorem dX19_trouble_30 : decode cX19_trouble 30 = .ok (.if_icmp .le 7, 3) := by decide +kernel
theorem dX19_trouble_33 : decode cX19_trouble 33 = .ok (.iconst 2, 1) := by decide +kernel
theorem dX19_trouble_34 : decode cX19_trouble 34 = .ok (.goto 4, 3) := by decide +kernel
theorem dX19_trouble_37 : decode cX19_trouble 37 = .ok (.iconst 0, 1) := by decide +kernel
theorem dX19_trouble_38 : decode cX19_trouble 38 = .ok (.putfield 289, 3) := by decide +kernel
theorem dX19_trouble_41 : decode cX19_trouble 41 = .ok (.aload_n 0, 1) := by decide +kernel
theorem dX19_trouble_42 : decode cX19_trouble 42 = .ok (.getfield 289, 3) := by decide +kernel
theorem dX19_trouble_45 : decode cX19_trouble 45 = .ok (.ifCond .le 5, 3) := by decide +kernel
theorem dX19_trouble_48 : decode cX19_trouble 48 = .ok (.iconst 0, 1) := by decide +kernel
theorem dX19_trouble_49 : decode cX19_trouble 49 = .ok (.ireturn, 1) := by decide +kernel
theorem dX19_trouble_50 : decode cX19_trouble 50 = .ok (.aload_n 0, 1) := by decide +kernel
theorem dX19_trouble_51 : decode cX19_trouble 51 = .ok (.getfield 144, 3) := by decide +kernel
theorem dX19_trouble_54 : decode cX19_trouble 54 = .ok (.iload_n 1, 1) := by decide +kernel
theorem dX19_trouble_55 : decode cX19_trouble 55 = .ok (.iaload, 1) := by decide +kernel
theorem dX19_trouble_56 : decode cX19_trouble 56 = .ok (.istore_n 3, 1) := by decide +kernel
theorem dX19_trouble_57 : decode cX19_trouble 57 = .ok (.iload_n 2, 1) := by decide +kernel
theorem dX19_trouble_58 : decode cX19_trouble 58 = .ok (.iconst 2, 1) := by decide +kernel
theorem dX19_trouble_59 : decode cX19_trouble 59 = .ok (.if_icmp .ge 27, 3) := by decide +kernel
theorem dX19_trouble_62 : decode cX19_trouble 62 = .ok (.iload_n 2, 1) := by decide +kernel
theorem dX19_trouble_63 : decode cX19_trouble 63 = .ok (.ifCond .ne 14, 3) := by decide +kernel
theorem dX19_trouble_66 : decode cX19_trouble 66 = .ok (.aload_n 0, 1) := by decide +kernel
theorem dX19_trouble_67 : decode cX19_trouble 67 = .ok (.getfield 205, 3) := by decide +kernel
theorem dX19_trouble_70 : decode cX19_trouble 70 = .ok (.iload_n 3, 1) := by decide +kernel
theorem dX19_trouble_71 : decode cX19_trouble 71 = .ok (.invokevirtual 774, 3) := by decide +kernel
theorem dX19_trouble_74 : decode cX19_trouble 74 = .ok (.goto 11, 3) := by decide +kernel
theorem dX19_trouble_77 : decode cX19_trouble 77 = .ok (.aload_n 0, 1) := by decide +kernel
theorem dX19_trouble_78 : decode cX19_trouble 78 = .ok (.getfield 205, 3) := by decide +kernel
theorem dX19_trouble_81 : decode cX19_trouble 81 = .ok (.iload_n 3, 1) := by decide +kernel
theorem dX19_trouble_82 : decode cX19_trouble 82 = .ok (.invokevirtual 844, 3) := by decide +kernel
theorem dX19_trouble_85 : decode cX19_trouble 85 = .ok (.ireturn, 1) := by decide +kernel
theorem dX19_trouble_86 : decode cX19_trouble 86 = .ok (.iload_n 2, 1) := by decide +kernel
theorem dX19_trouble_87 : decode cX19_trouble 87 = .ok (.iconst 4, 1) := by decide +kernel
theorem dX19_trouble_88 : decode cX19_trouble 88 = .ok (.if_icmp .ne 15, 3) := by decide +kernel
theorem dX19_trouble_91 : decode cX19_trouble 91 = .ok (.aload_n 0, 1) := by decide +kernel
theorem dX19_trouble_92 : decode cX19_trouble 92 = .ok (.getfield 205, 3) := by decide +kernel
theorem dX19_trouble_95 : decode cX19_trouble 95 = .ok (.iload_n 1, 1) := by decide +kernel
theorem dX19_trouble_96 : decode cX19_trouble 96 = .ok (.iconst 0, 1) := by decide +kernel
theorem dX19_trouble_97 : decode cX19_trouble 97 = .ok (.invokevirtual 771, 3) := by decide +kernel
theorem dX19_trouble_100 : decode cX19_trouble 100 = .ok (.goto 15, 3) := by decide +kernel
theorem dX19_trouble_103 : decode cX19_trouble 103 = .ok (.aload_n 0, 1) := by decide +kernel
theorem dX19_trouble_104 : decode cX19_trouble 104 = .ok (.getfield 205, 3) := by decide +kernel
theorem dX19_trouble_107 : decode cX19_trouble 107 = .ok (.iload_n 3, 1) := by decide +kernel
theorem dX19_trouble_108 : decode cX19_trouble 108 = .ok (.iload_n 2, 1) := by decide +kernel
theorem dX19_trouble_109 : decode cX19_trouble 109 = .ok (.iconst 2, 1) := by decide +kernel
theorem dX19_trouble_110 : decode cX19_trouble 110 = .ok (.isub, 1) := by decide +kernel
theorem dX19_trouble_111 : decode cX19_trouble 111 = .ok (.iconst 1, 1) := by decide +kernel
theorem dX19_trouble_112 : decode cX19_trouble 112 = .ok (.invokevirtual 847, 3) := by decide +kernel
theorem dX19_trouble_115 : decode cX19_trouble 115 = .ok (.ireturn, 1) := by decide +kernel
theorem cwX19_trouble : mw_cwV yX19_trouble cX19_trouble 4 ((some .int)) 2 := ⟨⟨wd_13, wd_4297, by decide +kernel⟩, wd_4295, wd_4296⟩
set_option maxHeartbeats 4000000 in
set_option maxRecDepth 100000 in
theorem tX19_trouble (l : Launch) (G : mwG) (ad : Nat → Nat) (fu : Nat) (a1 : Int32) (a2 : Int32) (M : mwM) (L : mwL) {r0 : Int32} {M0 : mwM} {L0 : mwL} (hD : DX19_trouble fu a1 a2 M L = some (r0, M0, L0)) : Met l yX19_trouble (Cond.code yX19_trouble cX19_trouble 4 ((some .int)) :: GT) ({ frames := 3, cells := 0, slots := 0, locals := 66 }) (mw_Pre G ad NF TF FF M L [.ref (ad 732), .int a1, .int a2]) (mw_Qi G ad NF TF FF (mw_eqI r0 M0 L0)) 0 0 (mw_fr G) := by
  refine mw_enter (by decide) (Nat.le_of_ble_eq_true rfl) ?_
  intro p e s m below meth c ls C hr hlocks hnm hw hl
  have hl : lv_has ls 4 [(0, .ref (ad 732)), (1, .int a1), (2, .int a2)] := hl
  have hb115 : ∀ (s0 : Int32) (M : mwM) (L : mwL) (H : Heap) (locs : List Loc) (ls : Array Slot), fX19_trouble_b115 fu a1 a2 s0 M L = some (r0, M0, L0) → mw_W G ad NF TF FF M L H locs → lv_has ls 4 [] → W p l e ({ frames := 3, cells := 0, slots := 0, locals := 66 }) s m [.ref (ad 732), .int a1, .int a2].toArray below meth c H locs 0 0 (MQ below (mw_Qi G ad NF TF FF (mw_eqI r0 M0 L0)) [.ref (ad 732), .int a1, .int a2].toArray s 0 0 (mw_fr G)) (F0 m 115 ls [.int s0]) := by
    intro s0 M L H locs ls hD hw hl
    unfold fX19_trouble_b115 at hD
    exact mr_iret C hr hlocks hw rfl (Option.some.inj hD) dX19_trouble_115
  have hb85 : ∀ (s0 : Int32) (M : mwM) (L : mwL) (H : Heap) (locs : List Loc) (ls : Array Slot), fX19_trouble_b85 fu a1 a2 s0 M L = some (r0, M0, L0) → mw_W G ad NF TF FF M L H locs → lv_has ls 4 [] → W p l e ({ frames := 3, cells := 0, slots := 0, locals := 66 }) s m [.ref (ad 732), .int a1, .int a2].toArray below meth c H locs 0 0 (MQ below (mw_Qi G ad NF TF FF (mw_eqI r0 M0 L0)) [.ref (ad 732), .int a1, .int a2].toArray s 0 0 (mw_fr G)) (F0 m 85 ls [.int s0]) := by
    intro s0 M L H locs ls hD hw hl
    unfold fX19_trouble_b85 at hD
    exact mr_iret C hr hlocks hw rfl (Option.some.inj hD) dX19_trouble_85
  have hb38 : ∀ (s1 : Int32) (M : mwM) (L : mwL) (H : Heap) (locs : List Loc) (ls : Array Slot), fX19_trouble_b38 fu a1 a2 s1 M L = some (r0, M0, L0) → mw_W G ad NF TF FF M L H locs → lv_has ls 4 [(0, .ref (ad 732)), (1, .int a1), (2, .int a2)] → W p l e ({ frames := 3, cells := 0, slots := 0, locals := 66 }) s m [.ref (ad 732), .int a1, .int a2].toArray below meth c H locs 0 0 (MQ below (mw_Qi G ad NF TF FF (mw_eqI r0 M0 L0)) [.ref (ad 732), .int a1, .int a2].toArray s 0 0 (mw_fr G)) (F0 m 38 ls [.int s1, .ref (ad 732)]) := by
    intro s1 M L H locs ls hD hw hl
    unfold fX19_trouble_b38 at hD
    obtain ⟨M1, eM1, hD⟩ := g_let hD
    refine mr_putI C hw kc_19 0 (by decide) tf_732 wd_2781 dX19_trouble_38 (by decide) rfl rfl rfl rfl (fun H locs hw => ?_)
    replace hw : mw_W G ad NF TF FF M1 L H locs := by rw [eM1]; exact hw
    refine lv_aload_n C.1.1 C.1.2.1 dX19_trouble_41 rfl (lv_at hl 0 rfl) ?_
    refine mr_getI C hw kc_19 0 (by decide) tf_732 wd_2781 dX19_trouble_42 (by decide) rfl ?_
    refine lv_if_le (tgt := 50) C.1.1 C.1.2.1 dX19_trouble_45 (by decide) (fun c2 => ?_) (fun c2 => ?_)
    · replace hD := g_pos c2 hD
      refine lv_aload_n C.1.1 C.1.2.1 dX19_trouble_50 rfl (lv_at hl 0 rfl) ?_
      refine mr_getR C hw kc_19 65 (by decide) tf_732 ff_732_65 wd_2846 dX19_trouble_51 (by decide) rfl ?_
      refine lv_iload_n C.1.1 C.1.2.1 dX19_trouble_54 rfl (lv_at hl 1 rfl) ?_
      obtain ⟨q3, hD⟩ := g_ck hD
      refine mr_iald C hw (by decide) tf_777 q3 dX19_trouble_55 ?_
      obtain ⟨x4, ex4, hD⟩ := g_let hD
      refine W.eq (g2 := F0 m 56 ls (.int x4 :: [])) (by rw [ex4]) ?_
      refine lv_istore_n (lv' := [(3, .int x4), (0, .ref (ad 732)), (1, .int a1), (2, .int a2)]) C.1.1 C.1.2.1 dX19_trouble_56 rfl hl (by decide) rfl (fun ls hl => ?_)
      refine lv_iload_n C.1.1 C.1.2.1 dX19_trouble_57 rfl (lv_at hl 3 rfl) ?_
      refine lv_iconst (v := 2) C.1.1 C.1.2.1 dX19_trouble_58 (by decide) ?_
      refine lv_icmp_ge (tgt := 86) C.1.1 C.1.2.1 dX19_trouble_59 (by decide) (fun c5 => ?_) (fun c5 => ?_)
      · replace hD := g_pos c5 hD
        refine lv_iload_n C.1.1 C.1.2.1 dX19_trouble_86 rfl (lv_at hl 3 rfl) ?_
        refine lv_iconst (v := 4) C.1.1 C.1.2.1 dX19_trouble_87 (by decide) ?_
        refine lv_icmp_ne (tgt := 103) C.1.1 C.1.2.1 dX19_trouble_88 (by decide) (fun c6 => ?_) (fun c6 => ?_)
        · replace hD := g_neg c6 hD
          refine lv_aload_n C.1.1 C.1.2.1 dX19_trouble_103 rfl (lv_at hl 1 rfl) ?_
          refine mr_getR C hw kc_19 80 (by decide) tf_732 ff_732_80 wd_2861 dX19_trouble_104 (by decide) rfl ?_
          refine lv_iload_n C.1.1 C.1.2.1 dX19_trouble_107 rfl (lv_at hl 0 rfl) ?_
          refine lv_iload_n C.1.1 C.1.2.1 dX19_trouble_108 rfl (lv_at hl 3 rfl) ?_
          refine lv_iconst (v := 2) C.1.1 C.1.2.1 dX19_trouble_109 (by decide) ?_
          refine lv_isub C.1.1 C.1.2.1 dX19_trouble_110 ?_
          refine lv_iconst (v := 1) C.1.1 C.1.2.1 dX19_trouble_111 (by decide) ?_
          obtain ⟨r9, M7, L8, h1, hD⟩ := g_b3 hD
          refine md_cvI (As := [.int x4, .int (a2 - 2), .int 1]) (rest := []) C hw (tX18_snapshot l G ad fu x4 (a2 - 2) 1 M1 L h1) kc_18 (by decide) tf_902 wd_4302 cwX18_snapshot ⟨Nat.le_of_ble_eq_true rfl, Nat.le_of_ble_eq_true rfl⟩ rfl hl.1 (Nat.le_of_ble_eq_true rfl) dX19_trouble_112 rfl rfl ⟨Nat.zero_le _, Nat.zero_le _⟩ rfl (fun H locs hw => ?_)
          exact hb115 r9 M7 L8 _ _ ls hD hw (lv_sub hl [] rfl)
        · replace hD := g_pos c6 hD
          refine lv_aload_n C.1.1 C.1.2.1 dX19_trouble_91 rfl (lv_at hl 1 rfl) ?_
          refine mr_getR C hw kc_19 80 (by decide) tf_732 ff_732_80 wd_2861 dX19_trouble_92 (by decide) rfl ?_
          refine lv_iload_n C.1.1 C.1.2.1 dX19_trouble_95 rfl (lv_at hl 2 rfl) ?_
          refine lv_iconst (v := 0) C.1.1 C.1.2.1 dX19_trouble_96 (by decide) ?_
          obtain ⟨r12, M10, L11, h1, hD⟩ := g_b3 hD
          refine md_cvI (As := [.int a1, .int 0]) (rest := []) C hw (tX18_stored l G ad fu a1 0 M1 L h1) kc_18 (by decide) tf_902 wd_4016 cwX18_stored ⟨Nat.le_of_ble_eq_true rfl, Nat.le_of_ble_eq_true rfl⟩ rfl hl.1 (Nat.le_of_ble_eq_true rfl) dX19_trouble_97 rfl rfl ⟨Nat.zero_le _, Nat.zero_le _⟩ rfl (fun H locs hw => ?_)
          refine lv_goto (tgt := 115) C.1.1 C.1.2.1 dX19_trouble_100 (by decide) ?_
          exact hb115 r12 M10 L11 _ _ ls hD hw (lv_sub hl [] rfl)
      · replace hD := g_neg c5 hD
        refine lv_iload_n C.1.1 C.1.2.1 dX19_trouble_62 rfl (lv_at hl 3 rfl) ?_
        refine lv_if_ne (tgt := 77) C.1.1 C.1.2.1 dX19_trouble_63 (by decide) (fun c13 => ?_) (fun c13 => ?_)
        · replace hD := g_neg c13 hD
          refine lv_aload_n C.1.1 C.1.2.1 dX19_trouble_77 rfl (lv_at hl 1 rfl) ?_
          refine mr_getR C hw kc_19 80 (by decide) tf_732 ff_732_80 wd_2861 dX19_trouble_78 (by decide) rfl ?_
          refine lv_iload_n C.1.1 C.1.2.1 dX19_trouble_81 rfl (lv_at hl 0 rfl) ?_
          obtain ⟨r16, M14, L15, h1, hD⟩ := g_b3 hD
          refine md_cvI (As := [.int x4]) (rest := []) C hw (tX18_age l G ad fu x4 M1 L h1) kc_18 (by decide) tf_902 wd_4298 cwX18_age ⟨Nat.le_of_ble_eq_true rfl, Nat.le_of_ble_eq_true rfl⟩ rfl hl.1 (Nat.le_of_ble_eq_true rfl) dX19_trouble_82 rfl rfl ⟨Nat.zero_le _, Nat.zero_le _⟩ rfl (fun H locs hw => ?_)
          exact hb85 r16 M14 L15 _ _ ls hD hw (lv_sub hl [] rfl)
        · replace hD := g_pos c13 hD
          refine lv_aload_n C.1.1 C.1.2.1 dX19_trouble_66 rfl (lv_at hl 1 rfl) ?_
          refine mr_getR C hw kc_19 80 (by decide) tf_732 ff_732_80 wd_2861 dX19_trouble_67 (by decide) rfl ?_
          refine lv_iload_n C.1.1 C.1.2.1 dX19_trouble_70 rfl (lv_at hl 0 rfl) ?_
          obtain ⟨r19, M17, L18, h1, hD⟩ := g_b3 hD
          refine md_cvI (As := [.int x4]) (rest := []) C hw (tX18_status l G ad fu x4 M1 L h1) kc_18 (by decide) tf_902 wd_4020 cwX18_status ⟨Nat.le_of_ble_eq_true rfl, Nat.le_of_ble_eq_true rfl⟩ rfl hl.1 (Nat.le_of_ble_eq_true rfl) dX19_trouble_71 rfl rfl ⟨Nat.zero_le _, Nat.zero_le _⟩ rfl (fun H locs hw => ?_)
          refine lv_goto (tgt := 85) C.1.1 C.1.2.1 dX19_trouble_74 (by decide) ?_
          exact hb85 r19 M17 L18 _ _ ls hD hw (lv_sub hl [] rfl)
    · replace hD := g_neg c2 hD
      refine lv_iconst (v := 0) C.1.1 C.1.2.1 dX19_trouble_48 (by decide) ?_
      exact mr_iret C hr hlocks hw rfl (Option.some.inj hD) dX19_trouble_49
  have hb20 : ∀ (M : mwM) (L : mwL) (H : Heap) (locs : List Loc) (ls : Array Slot), fX19_trouble_b20 fu a1 a2 M L = some (r0, M0, L0) → mw_W G ad NF TF FF M L H locs → lv_has ls 4 [(0, .ref (ad 732)), (1, .int a1), (2, .int a2)] → W p l e ({ frames := 3, cells := 0, slots := 0, locals := 66 }) s m [.ref (ad 732), .int a1, .int a2].toArray below meth c H locs 0 0 (MQ below (mw_Qi G ad NF TF FF (mw_eqI r0 M0 L0)) [.ref (ad 732), .int a1, .int a2].toArray s 0 0 (mw_fr G)) (F0 m 20 ls [.ref (ad 732)]) := by
    intro M L H locs ls hD hw hl
    unfold fX19_trouble_b20 at hD
    refine lv_iconst (v := 1) C.1.1 C.1.2.1 dX19_trouble_20 (by decide) ?_
    refine lv_goto (tgt := 38) C.1.1 C.1.2.1 dX19_trouble_21 (by decide) ?_
    exact hb38 1 M L _ _ ls hD hw (lv_sub hl [0, 1, 2] rfl)
  have hb33 : ∀ (M : mwM) (L : mwL) (H : Heap) (locs : List Loc) (ls : Array Slot), fX19_trouble_b33 fu a1 a2 M L = some (r0, M0, L0) → mw_W G ad NF TF FF M L H locs → lv_has ls 4 [(0, .ref (ad 732)), (1, .int a1), (2, .int a2)] → W p l e ({ frames := 3, cells := 0, slots := 0, locals := 66 }) s m [.ref (ad 732), .int a1, .int a2].toArray below meth c H locs 0 0 (MQ below (mw_Qi G ad NF TF FF (mw_eqI r0 M0 L0)) [.ref (ad 732), .int a1, .int a2].toArray s 0 0 (mw_fr G)) (F0 m 33 ls [.ref (ad 732)]) := by
    intro M L H locs ls hD hw hl
    unfold fX19_trouble_b33 at hD
    refine lv_iconst (v := 2) C.1.1 C.1.2.1 dX19_trouble_33 (by decide) ?_
    refine lv_goto (tgt := 38) C.1.1 C.1.2.1 dX19_trouble_34 (by decide) ?_
    exact hb38 2 M L _ _ ls hD hw (lv_sub hl [0, 1, 2] rfl)
  unfold DX19_trouble at hD
  refine lv_aload_n C.1.1 C.1.2.1 dX19_trouble_0 rfl (lv_at hl 0 rfl) ?_
  refine lv_aload_n C.1.1 C.1.2.1 dX19_trouble_1 rfl (lv_at hl 0 rfl) ?_
  refine mr_getI C hw kc_19 4 (by decide) tf_732 wd_2785 dX19_trouble_2 (by decide) rfl ?_
  refine lv_if_eq (tgt := 20) C.1.1 C.1.2.1 dX19_trouble_5 (by decide) (fun c20 => ?_) (fun c20 => ?_)
  · replace hD := g_pos c20 hD
    exact hb20 M L _ _ ls hD hw (lv_sub hl [0, 1, 2] rfl)
  · replace hD := g_neg c20 hD
    refine lv_iload_n C.1.1 C.1.2.1 dX19_trouble_8 rfl (lv_at hl 1 rfl) ?_
    refine lv_if_lt (tgt := 20) C.1.1 C.1.2.1 dX19_trouble_9 (by decide) (fun c21 => ?_) (fun c21 => ?_)
    · replace hD := g_pos c21 hD
      exact hb20 M L _ _ ls hD hw (lv_sub hl [0, 1, 2] rfl)
    · replace hD := g_neg c21 hD
      refine lv_iload_n C.1.1 C.1.2.1 dX19_trouble_12 rfl (lv_at hl 1 rfl) ?_
      refine lv_aload_n C.1.1 C.1.2.1 dX19_trouble_13 rfl (lv_at hl 0 rfl) ?_
      refine mr_getI C hw kc_19 62 (by decide) tf_732 wd_2843 dX19_trouble_14 (by decide) rfl ?_
      refine lv_icmp_lt (tgt := 24) C.1.1 C.1.2.1 dX19_trouble_17 (by decide) (fun c22 => ?_) (fun c22 => ?_)
      · replace hD := g_pos c22 hD
        refine lv_iload_n C.1.1 C.1.2.1 dX19_trouble_24 rfl (lv_at hl 2 rfl) ?_
        refine lv_if_lt (tgt := 33) C.1.1 C.1.2.1 dX19_trouble_25 (by decide) (fun c23 => ?_) (fun c23 => ?_)
        · replace hD := g_pos c23 hD
          exact hb33 M L _ _ ls hD hw (lv_sub hl [0, 1, 2] rfl)
        · replace hD := g_neg c23 hD
          refine lv_iload_n C.1.1 C.1.2.1 dX19_trouble_28 rfl (lv_at hl 2 rfl) ?_
          refine lv_iconst (v := 4) C.1.1 C.1.2.1 dX19_trouble_29 (by decide) ?_
          refine lv_icmp_le (tgt := 37) C.1.1 C.1.2.1 dX19_trouble_30 (by decide) (fun c24 => ?_) (fun c24 => ?_)
          · replace hD := g_pos c24 hD
            refine lv_iconst (v := 0) C.1.1 C.1.2.1 dX19_trouble_37 (by decide) ?_
            exact hb38 0 M L _ _ ls hD hw (lv_sub hl [0, 1, 2] rfl)
          · replace hD := g_neg c24 hD
            exact hb33 M L _ _ ls hD hw (lv_sub hl [0, 1, 2] rfl)
      · replace hD := g_neg c22 hD
        exact hb20 M L _ _ ls hD hw (lv_sub hl [0, 1, 2] rfl)

theorem dX19_cycle_0 : decode cX19_cycle 0 = .ok (.aload_n 0, 1) := by decide +kernel
theorem dX19_cycle_1 : decode cX19_cycle 1 = .ok (.aload_n 0, 1) := by decide +kernel
theorem dX19_cycle_2 : decode cX19_cycle 2 = .ok (.getfield 630, 3) := by decide +kernel
theorem dX19_cycle_5 : decode cX19_cycle 5 = .ok (.ifCond .eq 7, 3) := by decide +kernel
theorem dX19_cycle_8 : decode cX19_cycle 8 = .ok (.iconst 0, 1) := by decide +kernel
theorem dX19_cycle_9 : decode cX19_cycle 9 = .ok (.goto 4, 3) := by decide +kernel
theorem dX19_cycle_12 : decode cX19_cycle 12 = .ok (.iconst 1, 1) := by decide +kernel
theorem dX19_cycle_13 : decode cX19_cycle 13 = .ok (.putfield 289, 3) := by decide +kernel
theorem dX19_cycle_16 : decode cX19_cycle 16 = .ok (.aload_n 0, 1) := by decide +kernel
theorem dX19_cycle_17 : decode cX19_cycle 17 = .ok (.getfield 289, 3) := by decide +kernel
theorem dX19_cycle_20 : decode cX19_cycle 20 = .ok (.ifCond .le 7, 3) := by decide +kernel
theorem dX19_cycle_23 : decode cX19_cycle 23 = .ok (.iconst 0, 1) := by decide +kernel
theorem dX19_cycle_24 : decode cX19_cycle 24 = .ok (.goto 11, 3) := by decide +kernel
theorem dX19_cycle_27 : decode cX19_cycle 27 = .ok (.aload_n 0, 1) := by decide +kernel
theorem dX19_cycle_28 : decode cX19_cycle 28 = .ok (.getfield 205, 3) := by decide +kernel
theorem dX19_cycle_31 : decode cX19_cycle 31 = .ok (.iload_n 1, 1) := by decide +kernel
theorem dX19_cycle_32 : decode cX19_cycle 32 = .ok (.invokevirtual 850, 3) := by decide +kernel
theorem dX19_cycle_35 : decode cX19_cycle 35 = .ok (.ireturn, 1) := by decide +kernel
theorem cwX19_cycle : mw_cwV yX19_cycle cX19_cycle 2 ((some .int)) 1 := ⟨⟨wd_13, wd_4309, by decide +kernel⟩, wd_4307, wd_4308⟩
set_option maxHeartbeats 4000000 in
set_option maxRecDepth 100000 in
theorem tX19_cycle (l : Launch) (G : mwG) (ad : Nat → Nat) (fu : Nat) (a1 : Int32) (M : mwM) (L : mwL) {r0 : Int32} {M0 : mwM} {L0 : mwL} (hD : DX19_cycle fu a1 M L = some (r0, M0, L0)) : Met l yX19_cycle (Cond.code yX19_cycle cX19_cycle 2 ((some .int)) :: GT) ({ frames := 3, cells := 0, slots := 0, locals := 66 }) (mw_Pre G ad NF TF FF M L [.ref (ad 732), .int a1]) (mw_Qi G ad NF TF FF (mw_eqI r0 M0 L0)) 0 0 (mw_fr G) := by
  refine mw_enter (by decide) (Nat.le_of_ble_eq_true rfl) ?_
  intro p e s m below meth c ls C hr hlocks hnm hw hl
  have hl : lv_has ls 2 [(0, .ref (ad 732)), (1, .int a1)] := hl
  have hb35 : ∀ (s0 : Int32) (M : mwM) (L : mwL) (H : Heap) (locs : List Loc) (ls : Array Slot), fX19_cycle_b35 fu a1 s0 M L = some (r0, M0, L0) → mw_W G ad NF TF FF M L H locs → lv_has ls 2 [] → W p l e ({ frames := 3, cells := 0, slots := 0, locals := 66 }) s m [.ref (ad 732), .int a1].toArray below meth c H locs 0 0 (MQ below (mw_Qi G ad NF TF FF (mw_eqI r0 M0 L0)) [.ref (ad 732), .int a1].toArray s 0 0 (mw_fr G)) (F0 m 35 ls [.int s0]) := by
    intro s0 M L H locs ls hD hw hl
    unfold fX19_cycle_b35 at hD
    exact mr_iret C hr hlocks hw rfl (Option.some.inj hD) dX19_cycle_35
  have hb13 : ∀ (s1 : Int32) (M : mwM) (L : mwL) (H : Heap) (locs : List Loc) (ls : Array Slot), fX19_cycle_b13 fu a1 s1 M L = some (r0, M0, L0) → mw_W G ad NF TF FF M L H locs → lv_has ls 2 [(0, .ref (ad 732)), (1, .int a1)] → W p l e ({ frames := 3, cells := 0, slots := 0, locals := 66 }) s m [.ref (ad 732), .int a1].toArray below meth c H locs 0 0 (MQ below (mw_Qi G ad NF TF FF (mw_eqI r0 M0 L0)) [.ref (ad 732), .int a1].toArray s 0 0 (mw_fr G)) (F0 m 13 ls [.int s1, .ref (ad 732)]) := by
    intro s1 M L H locs ls hD hw hl
    unfold fX19_cycle_b13 at hD
    obtain ⟨M1, eM1, hD⟩ := g_let hD
    refine mr_putI C hw kc_19 0 (by decide) tf_732 wd_2781 dX19_cycle_13 (by decide) rfl rfl rfl rfl (fun H locs hw => ?_)
    replace hw : mw_W G ad NF TF FF M1 L H locs := by rw [eM1]; exact hw
    refine lv_aload_n C.1.1 C.1.2.1 dX19_cycle_16 rfl (lv_at hl 0 rfl) ?_
    refine mr_getI C hw kc_19 0 (by decide) tf_732 wd_2781 dX19_cycle_17 (by decide) rfl ?_
    refine lv_if_le (tgt := 27) C.1.1 C.1.2.1 dX19_cycle_20 (by decide) (fun c2 => ?_) (fun c2 => ?_)
    · replace hD := g_pos c2 hD
      refine lv_aload_n C.1.1 C.1.2.1 dX19_cycle_27 rfl (lv_at hl 0 rfl) ?_
      refine mr_getR C hw kc_19 80 (by decide) tf_732 ff_732_80 wd_2861 dX19_cycle_28 (by decide) rfl ?_
      refine lv_iload_n C.1.1 C.1.2.1 dX19_cycle_31 rfl (lv_at hl 1 rfl) ?_
      obtain ⟨r5, M3, L4, h1, hD⟩ := g_b3 hD
      refine md_cvI (As := [.int a1]) (rest := []) C hw (tX18_cycle l G ad fu a1 M1 L h1) kc_18 (by decide) tf_902 wd_4310 cwX18_cycle ⟨Nat.le_of_ble_eq_true rfl, Nat.le_of_ble_eq_true rfl⟩ rfl hl.1 (Nat.le_of_ble_eq_true rfl) dX19_cycle_32 rfl rfl ⟨Nat.zero_le _, Nat.zero_le _⟩ rfl (fun H locs hw => ?_)
      exact hb35 r5 M3 L4 _ _ ls hD hw (lv_sub hl [] rfl)
    · replace hD := g_neg c2 hD
      refine lv_iconst (v := 0) C.1.1 C.1.2.1 dX19_cycle_23 (by decide) ?_
      refine lv_goto (tgt := 35) C.1.1 C.1.2.1 dX19_cycle_24 (by decide) ?_
      exact hb35 0 M1 L _ _ ls hD hw (lv_sub hl [] rfl)
  unfold DX19_cycle at hD
  refine lv_aload_n C.1.1 C.1.2.1 dX19_cycle_0 rfl (lv_at hl 0 rfl) ?_
  refine lv_aload_n C.1.1 C.1.2.1 dX19_cycle_1 rfl (lv_at hl 0 rfl) ?_
  refine mr_getI C hw kc_19 4 (by decide) tf_732 wd_2785 dX19_cycle_2 (by decide) rfl ?_
  refine lv_if_eq (tgt := 12) C.1.1 C.1.2.1 dX19_cycle_5 (by decide) (fun c6 => ?_) (fun c6 => ?_)
  · replace hD := g_pos c6 hD
    refine lv_iconst (v := 1) C.1.1 C.1.2.1 dX19_cycle_12 (by decide) ?_
    exact hb13 1 M L _ _ ls hD hw (lv_sub hl [0, 1] rfl)
  · replace hD := g_neg c6 hD
    refine lv_iconst (v := 0) C.1.1 C.1.2.1 dX19_cycle_8 (by decide) ?_
    refine lv_goto (tgt := 13) C.1.1 C.1.2.1 dX19_cycle_9 (by decide) ?_
    exact hb13 0 M L _ _ ls hD hw (lv_sub hl [0, 1] rfl)
