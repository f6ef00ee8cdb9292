theorem dL_text_0 : decode cL_text 0 = .ok (.aload_n 0, 1) := by decide +kernel
theorem dL_text_1 : decode cL_text 1 = .ok (.iload_n 1, 1) := by decide +kernel
theorem dL_text_2 : decode cL_text 2 = .ok (.iload_n 2, 1) := by decide +kernel
theorem dL_text_3 : decode cL_text 3 = .ok (.iload_n 3, 1) := by decide +kernel
theorem dL_text_4 : decode cL_text 4 = .ok (.iload 4, 2) := by decide +kernel
theorem dL_text_6 : decode cL_text 6 = .ok (.invokevirtual 7, 3) := by decide +kernel
theorem dL_text_9 : decode cL_text 9 = .ok (.goto 7, 3) := by decide +kernel
theorem dL_text_12 : decode cL_text 12 = .ok (.astore 5, 2) := by decide +kernel
theorem dL_text_14 : decode cL_text 14 = .ok (.iconst 1, 1) := by decide +kernel
theorem dL_text_15 : decode cL_text 15 = .ok (.ireturn, 1) := by decide +kernel
theorem dL_text_16 : decode cL_text 16 = .ok (.iconst 0, 1) := by decide +kernel
theorem dL_text_17 : decode cL_text 17 = .ok (.ireturn, 1) := by decide +kernel
theorem cwL_text : mx_cwS yL_text cL_text 6 ((some .int)) [(0, 9, 12, 13)] 5 := ⟨wd_0, wd_685, by decide +kernel, wd_684⟩
set_option maxHeartbeats 4000000 in
set_option maxRecDepth 100000 in
theorem tL_text (l : Launch) (G : mwG) (ad : Nat → Nat) (fu : Nat) (a2 : Int32) (a3 : Int32) (a4 : Int32) (a5 : Int32) (M : mwM) (L : mwL) {r0 : Int32} {M0 : mwM} {L0 : mwL} (hst : l.stackTraces = false) (hD : DL_text fu a2 a3 a4 a5 M L = some (r0, M0, L0)) : Met l yL_text (Cond.codeWith yL_text cL_text 6 ((some .int)) [(0, 9, 12, 13)] :: GT) ({ frames := 9, cells := 1, slots := 6, locals := 165 }) (mx_Pre G ad NF TF FF M L [.ref (ad 0), .int a2, .int a3, .int a4, .int a5]) (mw_Qi G ad NF TF FF (mw_eqI r0 M0 L0)) 1 6 (mw_fr G) := by
  refine mx_enterW (by decide) (Nat.le_of_ble_eq_true rfl) ?_
  intro p e s m below meth c ls C KX hr hlocks htab hw hl
  have hw0 := hw
  have hl : lv_has ls 6 [(0, .ref (ad 0)), (1, .int a2), (2, .int a3), (3, .int a4), (4, .int a5)] := hl
  unfold DL_text at hD
  refine lv_aload_n C.1.1 C.1.2.1 dL_text_0 rfl (lv_at hl 0 rfl) ?_
  refine lv_iload_n C.1.1 C.1.2.1 dL_text_1 rfl (lv_at hl 1 rfl) ?_
  refine lv_iload_n C.1.1 C.1.2.1 dL_text_2 rfl (lv_at hl 2 rfl) ?_
  refine lv_iload_n C.1.1 C.1.2.1 dL_text_3 rfl (lv_at hl 3 rfl) ?_
  refine lv_iload C.1.1 C.1.2.1 dL_text_4 (lv_at hl 4 rfl) ?_
  obtain ⟨z3, M1, L2, h1, hD⟩ := g_b3 hD
  refine mx_cvV (As := [.int a2, .int a3, .int a4, .int a5]) (rest := []) C KX hw (tX11_text l G ad fu a2 a3 a4 a5 M L hst h1) kc_11 (by decide) tf_0 wd_687 cwX11_text ⟨Nat.le_of_ble_eq_true rfl, Nat.le_of_ble_eq_true rfl⟩ rfl hl.1 (Nat.le_of_ble_eq_true rfl) dL_text_6 rfl rfl ⟨Nat.le_of_ble_eq_true rfl, Nat.le_of_ble_eq_true rfl⟩ rfl (fun H locs ce q9 hz hw hce hcv hcl => ?_) (fun H locs hz hw => ?_)
  · replace hD := g_neg hz hD
    by_cases hz1 : z3 = 1
    · replace hD := g_pos hz1 hD
      rw [hz1] at hcl
      refine vx_catch (own := "CarHouseLaw") (name := "java/lang/IllegalStateException") (E := "java/lang/IllegalStateException") C.1.2.2.2.1 [] ⟨0, 9, 12, 13⟩ [] htab (fun z h => nomatch h) (by decide) (by decide) (C.1.2.2.2.2 _ wd_686) (mx_cast KX 1) hce hcv hcl ?_
      refine lv_astore (lv' := [(5, .ref q9), (0, .ref (ad 0)), (1, .int a2), (2, .int a3), (3, .int a4), (4, .int a5)]) C.1.1 C.1.2.1 dL_text_12 hl (by decide) rfl (fun ls hl => ?_)
      refine lv_iconst (v := 1) C.1.1 C.1.2.1 dL_text_14 (by decide) ?_
      exact mr_iret C hr hlocks hw rfl (Option.some.inj hD) dL_text_15
    replace hD := g_neg hz1 hD
    cases hD
  replace hD := g_pos hz hD
  refine lv_goto (tgt := 16) C.1.1 C.1.2.1 dL_text_9 (by decide) ?_
  refine lv_iconst (v := 0) C.1.1 C.1.2.1 dL_text_16 (by decide) ?_
  exact mr_iret C hr hlocks hw rfl (Option.some.inj hD) dL_text_17

theorem dL_cut_0 : decode cL_cut 0 = .ok (.aload_n 2, 1) := by decide +kernel
theorem dL_cut_1 : decode cL_cut 1 = .ok (.iconst 0, 1) := by decide +kernel
theorem dL_cut_2 : decode cL_cut 2 = .ok (.aload_n 0, 1) := by decide +kernel
theorem dL_cut_3 : decode cL_cut 3 = .ok (.iload_n 1, 1) := by decide +kernel
theorem dL_cut_4 : decode cL_cut 4 = .ok (.invokevirtual 15, 3) := by decide +kernel
theorem dL_cut_7 : decode cL_cut 7 = .ok (.i2l, 1) := by decide +kernel
theorem dL_cut_8 : decode cL_cut 8 = .ok (.lastore, 1) := by decide +kernel
theorem dL_cut_9 : decode cL_cut 9 = .ok (.goto 6, 3) := by decide +kernel
theorem dL_cut_12 : decode cL_cut 12 = .ok (.astore_n 3, 1) := by decide +kernel
theorem dL_cut_13 : decode cL_cut 13 = .ok (.iconst 1, 1) := by decide +kernel
theorem dL_cut_14 : decode cL_cut 14 = .ok (.ireturn, 1) := by decide +kernel
theorem dL_cut_15 : decode cL_cut 15 = .ok (.iconst 0, 1) := by decide +kernel
theorem dL_cut_16 : decode cL_cut 16 = .ok (.ireturn, 1) := by decide +kernel
theorem cwL_cut : mx_cwS yL_cut cL_cut 4 ((some .int)) [(0, 9, 12, 19)] 3 := ⟨wd_0, wd_767, by decide +kernel, wd_766⟩
set_option maxHeartbeats 4000000 in
set_option maxRecDepth 100000 in
theorem tL_cut (l : Launch) (G : mwG) (ad : Nat → Nat) (fu : Nat) (a2 : Int32) (M : mwM) (L : mwL) {r0 : Int32} {M0 : mwM} {L0 : mwL} (hst : l.stackTraces = false) (hD : DL_cut fu a2 M L = some (r0, M0, L0)) : Met l yL_cut (Cond.codeWith yL_cut cL_cut 4 ((some .int)) [(0, 9, 12, 19)] :: GT) ({ frames := 9, cells := 1, slots := 6, locals := 162 }) (mx_Pre G ad NF TF FF M L [.ref (ad 0), .int a2, .ref (ad 1577)]) (mw_Qi G ad NF TF FF (mw_eqI r0 M0 L0)) 1 6 (mw_fr G) := by
  refine mx_enterW (by decide) (Nat.le_of_ble_eq_true rfl) ?_
  intro p e s m below meth c ls C KX hr hlocks htab hw hl
  have hw0 := hw
  have hl : lv_has ls 4 [(0, .ref (ad 0)), (1, .int a2), (2, .ref (ad 1577))] := hl
  unfold DL_cut at hD
  refine lv_aload_n C.1.1 C.1.2.1 dL_cut_0 rfl (lv_at hl 2 rfl) ?_
  refine lv_iconst (v := 0) C.1.1 C.1.2.1 dL_cut_1 (by decide) ?_
  refine lv_aload_n C.1.1 C.1.2.1 dL_cut_2 rfl (lv_at hl 0 rfl) ?_
  refine lv_iload_n C.1.1 C.1.2.1 dL_cut_3 rfl (lv_at hl 1 rfl) ?_
  obtain ⟨z3, M1, L2, h1, hD⟩ := g_b3 hD
  refine mx_cvI (As := [.int a2]) (rest := [.int 0, .ref (ad 1577)]) C KX hw (tX11_cut l G ad fu a2 M L hst h1) kc_11 (by decide) tf_0 wd_769 cwX11_cut ⟨Nat.le_of_ble_eq_true rfl, Nat.le_of_ble_eq_true rfl⟩ rfl hl.1 (Nat.le_of_ble_eq_true rfl) dL_cut_4 rfl rfl ⟨Nat.le_of_ble_eq_true rfl, Nat.le_of_ble_eq_true rfl⟩ rfl (fun H locs ce q9 hz hw hce hcv hcl => ?_) (fun H locs hz hw => ?_)
  · replace hD := g_neg hz hD
    by_cases hz2 : z3.1 = 2
    · replace hD := g_pos hz2 hD
      rw [hz2] at hcl
      refine vx_catch (own := "CarHouseLaw") (name := "java/lang/IllegalArgumentException") (E := "java/lang/IllegalArgumentException") C.1.2.2.2.1 [] ⟨0, 9, 12, 19⟩ [] htab (fun z h => nomatch h) (by decide) (by decide) (C.1.2.2.2.2 _ wd_768) (mx_cast KX 2) hce hcv hcl ?_
      refine lv_astore_n (lv' := [(3, .ref q9), (0, .ref (ad 0)), (1, .int a2), (2, .ref (ad 1577))]) C.1.1 C.1.2.1 dL_cut_12 rfl hl (by decide) rfl (fun ls hl => ?_)
      refine lv_iconst (v := 1) C.1.1 C.1.2.1 dL_cut_13 (by decide) ?_
      exact mr_iret C hr hlocks hw rfl (Option.some.inj hD) dL_cut_14
    replace hD := g_neg hz2 hD
    cases hD
  replace hD := g_pos hz hD
  refine lv_i2l C.1.1 C.1.2.1 dL_cut_7 rfl ?_
  obtain ⟨L5, eL5, hD⟩ := g_let hD
  refine mr_last C hw (by decide) tf_1577 (show vp_in 0 1 from by unfold vp_in; decide) dL_cut_8 (fun H locs hw => ?_)
  replace hw : mw_W G ad NF TF FF M1 L5 H locs := by rw [eL5]; exact hw
  refine lv_goto (tgt := 15) C.1.1 C.1.2.1 dL_cut_9 (by decide) ?_
  refine lv_iconst (v := 0) C.1.1 C.1.2.1 dL_cut_15 (by decide) ?_
  exact mr_iret C hr hlocks hw rfl (Option.some.inj hD) dL_cut_16

theorem dL_system_0 : decode cL_system 0 = .ok (.aload_n 1, 1) := by decide +kernel
theorem dL_system_1 : decode cL_system 1 = .ok (.iconst 0, 1) := by decide +kernel
theorem dL_system_2 : decode cL_system 2 = .ok (.aload_n 0, 1) := by decide +kernel
theorem dL_system_3 : decode cL_system 3 = .ok (.invokevirtual 21, 3) := by decide +kernel
theorem dL_system_6 : decode cL_system 6 = .ok (.i2l, 1) := by decide +kernel
theorem dL_system_7 : decode cL_system 7 = .ok (.lastore, 1) := by decide +kernel
theorem dL_system_8 : decode cL_system 8 = .ok (.goto 6, 3) := by decide +kernel
theorem dL_system_11 : decode cL_system 11 = .ok (.astore_n 2, 1) := by decide +kernel
theorem dL_system_12 : decode cL_system 12 = .ok (.iconst 1, 1) := by decide +kernel
theorem dL_system_13 : decode cL_system 13 = .ok (.ireturn, 1) := by decide +kernel
theorem dL_system_14 : decode cL_system 14 = .ok (.iconst 0, 1) := by decide +kernel
theorem dL_system_15 : decode cL_system 15 = .ok (.ireturn, 1) := by decide +kernel
theorem cwL_system : mx_cwS yL_system cL_system 3 ((some .int)) [(0, 8, 11, 13)] 2 := ⟨wd_0, wd_791, by decide +kernel, wd_790⟩
set_option maxHeartbeats 4000000 in
set_option maxRecDepth 100000 in
theorem tL_system (l : Launch) (G : mwG) (ad : Nat → Nat) (fu : Nat) (M : mwM) (L : mwL) {r0 : Int32} {M0 : mwM} {L0 : mwL} (hst : l.stackTraces = false) (hD : DL_system fu M L = some (r0, M0, L0)) : Met l yL_system (Cond.codeWith yL_system cL_system 3 ((some .int)) [(0, 8, 11, 13)] :: GT) ({ frames := 50, cells := 1, slots := 6, locals := 1269 }) (mx_Pre G ad NF TF FF M L [.ref (ad 0), .ref (ad 1577)]) (mw_Qi G ad NF TF FF (mw_eqI r0 M0 L0)) 1 6 (mw_fr G) := by
  refine mx_enterW (by decide) (Nat.le_of_ble_eq_true rfl) ?_
  intro p e s m below meth c ls C KX hr hlocks htab hw hl
  have hw0 := hw
  have hl : lv_has ls 3 [(0, .ref (ad 0)), (1, .ref (ad 1577))] := hl
  unfold DL_system at hD
  refine lv_aload_n C.1.1 C.1.2.1 dL_system_0 rfl (lv_at hl 1 rfl) ?_
  refine lv_iconst (v := 0) C.1.1 C.1.2.1 dL_system_1 (by decide) ?_
  refine lv_aload_n C.1.1 C.1.2.1 dL_system_2 rfl (lv_at hl 0 rfl) ?_
  obtain ⟨z3, M1, L2, h1, hD⟩ := g_b3 hD
  refine mx_cvI (As := []) (rest := [.int 0, .ref (ad 1577)]) C KX hw (tX11_system l G ad fu M L hst h1) kc_11 (by decide) tf_0 wd_792 cwX11_system ⟨Nat.le_of_ble_eq_true rfl, Nat.le_of_ble_eq_true rfl⟩ rfl hl.1 (Nat.le_of_ble_eq_true rfl) dL_system_3 rfl rfl ⟨Nat.le_of_ble_eq_true rfl, Nat.le_of_ble_eq_true rfl⟩ rfl (fun H locs ce q9 hz hw hce hcv hcl => ?_) (fun H locs hz hw => ?_)
  · replace hD := g_neg hz hD
    by_cases hz1 : z3.1 = 1
    · replace hD := g_pos hz1 hD
      rw [hz1] at hcl
      refine vx_catch (own := "CarHouseLaw") (name := "java/lang/IllegalStateException") (E := "java/lang/IllegalStateException") C.1.2.2.2.1 [] ⟨0, 8, 11, 13⟩ [] htab (fun z h => nomatch h) (by decide) (by decide) (C.1.2.2.2.2 _ wd_686) (mx_cast KX 1) hce hcv hcl ?_
      refine lv_astore_n (lv' := [(2, .ref q9), (0, .ref (ad 0)), (1, .ref (ad 1577))]) C.1.1 C.1.2.1 dL_system_11 rfl hl (by decide) rfl (fun ls hl => ?_)
      refine lv_iconst (v := 1) C.1.1 C.1.2.1 dL_system_12 (by decide) ?_
      exact mr_iret C hr hlocks hw rfl (Option.some.inj hD) dL_system_13
    replace hD := g_neg hz1 hD
    cases hD
  replace hD := g_pos hz hD
  refine lv_i2l C.1.1 C.1.2.1 dL_system_6 rfl ?_
  obtain ⟨L5, eL5, hD⟩ := g_let hD
  refine mr_last C hw (by decide) tf_1577 (show vp_in 0 1 from by unfold vp_in; decide) dL_system_7 (fun H locs hw => ?_)
  replace hw : mw_W G ad NF TF FF M1 L5 H locs := by rw [eL5]; exact hw
  refine lv_goto (tgt := 14) C.1.1 C.1.2.1 dL_system_8 (by decide) ?_
  refine lv_iconst (v := 0) C.1.1 C.1.2.1 dL_system_14 (by decide) ?_
  exact mr_iret C hr hlocks hw rfl (Option.some.inj hD) dL_system_15

theorem dL_count_0 : decode cL_count 0 = .ok (.aload_n 2, 1) := by decide +kernel
theorem dL_count_1 : decode cL_count 1 = .ok (.iconst 0, 1) := by decide +kernel
theorem dL_count_2 : decode cL_count 2 = .ok (.aload_n 0, 1) := by decide +kernel
theorem dL_count_3 : decode cL_count 3 = .ok (.iload_n 1, 1) := by decide +kernel
theorem dL_count_4 : decode cL_count 4 = .ok (.invokevirtual 25, 3) := by decide +kernel
theorem dL_count_7 : decode cL_count 7 = .ok (.i2l, 1) := by decide +kernel
theorem dL_count_8 : decode cL_count 8 = .ok (.lastore, 1) := by decide +kernel
theorem dL_count_9 : decode cL_count 9 = .ok (.goto 9, 3) := by decide +kernel
theorem dL_count_12 : decode cL_count 12 = .ok (.astore_n 3, 1) := by decide +kernel
theorem dL_count_13 : decode cL_count 13 = .ok (.iconst 1, 1) := by decide +kernel
theorem dL_count_14 : decode cL_count 14 = .ok (.ireturn, 1) := by decide +kernel
theorem dL_count_15 : decode cL_count 15 = .ok (.astore_n 3, 1) := by decide +kernel
theorem dL_count_16 : decode cL_count 16 = .ok (.iconst 2, 1) := by decide +kernel
theorem dL_count_17 : decode cL_count 17 = .ok (.ireturn, 1) := by decide +kernel
theorem dL_count_18 : decode cL_count 18 = .ok (.iconst 0, 1) := by decide +kernel
theorem dL_count_19 : decode cL_count 19 = .ok (.ireturn, 1) := by decide +kernel
theorem cwL_count : mx_cwS yL_count cL_count 4 ((some .int)) [(0, 9, 12, 19), (0, 9, 15, 13)] 3 := ⟨wd_0, wd_1238, by decide +kernel, wd_1237⟩
set_option maxHeartbeats 4000000 in
set_option maxRecDepth 100000 in
theorem tL_count (l : Launch) (G : mwG) (ad : Nat → Nat) (fu : Nat) (a2 : Int32) (M : mwM) (L : mwL) {r0 : Int32} {M0 : mwM} {L0 : mwL} (hst : l.stackTraces = false) (hD : DL_count fu a2 M L = some (r0, M0, L0)) : Met l yL_count (Cond.codeWith yL_count cL_count 4 ((some .int)) [(0, 9, 12, 19), (0, 9, 15, 13)] :: GT) ({ frames := 9, cells := 1, slots := 6, locals := 162 }) (mx_Pre G ad NF TF FF M L [.ref (ad 0), .int a2, .ref (ad 1577)]) (mw_Qi G ad NF TF FF (mw_eqI r0 M0 L0)) 1 6 (mw_fr G) := by
  refine mx_enterW (by decide) (Nat.le_of_ble_eq_true rfl) ?_
  intro p e s m below meth c ls C KX hr hlocks htab hw hl
  have hw0 := hw
  have hl : lv_has ls 4 [(0, .ref (ad 0)), (1, .int a2), (2, .ref (ad 1577))] := hl
  unfold DL_count at hD
  refine lv_aload_n C.1.1 C.1.2.1 dL_count_0 rfl (lv_at hl 2 rfl) ?_
  refine lv_iconst (v := 0) C.1.1 C.1.2.1 dL_count_1 (by decide) ?_
  refine lv_aload_n C.1.1 C.1.2.1 dL_count_2 rfl (lv_at hl 0 rfl) ?_
  refine lv_iload_n C.1.1 C.1.2.1 dL_count_3 rfl (lv_at hl 1 rfl) ?_
  obtain ⟨z3, M1, L2, h1, hD⟩ := g_b3 hD
  refine mx_cvI (As := [.int a2]) (rest := [.int 0, .ref (ad 1577)]) C KX hw (tX11_count l G ad fu a2 M L hst h1) kc_11 (by decide) tf_0 wd_1239 cwX11_count ⟨Nat.le_of_ble_eq_true rfl, Nat.le_of_ble_eq_true rfl⟩ rfl hl.1 (Nat.le_of_ble_eq_true rfl) dL_count_4 rfl rfl ⟨Nat.le_of_ble_eq_true rfl, Nat.le_of_ble_eq_true rfl⟩ rfl (fun H locs ce q9 hz hw hce hcv hcl => ?_) (fun H locs hz hw => ?_)
  · replace hD := g_neg hz hD
    by_cases hz2 : z3.1 = 2
    · replace hD := g_pos hz2 hD
      rw [hz2] at hcl
      refine vx_catch (own := "CarHouseLaw") (name := "java/lang/IllegalArgumentException") (E := "java/lang/IllegalArgumentException") C.1.2.2.2.1 [] ⟨0, 9, 12, 19⟩ [⟨0, 9, 15, 13⟩] htab (fun z h => nomatch h) (by decide) (by decide) (C.1.2.2.2.2 _ wd_768) (mx_cast KX 2) hce hcv hcl ?_
      refine lv_astore_n (lv' := [(3, .ref q9), (0, .ref (ad 0)), (1, .int a2), (2, .ref (ad 1577))]) C.1.1 C.1.2.1 dL_count_12 rfl hl (by decide) rfl (fun ls hl => ?_)
      refine lv_iconst (v := 1) C.1.1 C.1.2.1 dL_count_13 (by decide) ?_
      exact mr_iret C hr hlocks hw rfl (Option.some.inj hD) dL_count_14
    replace hD := g_neg hz2 hD
    by_cases hz1 : z3.1 = 1
    · replace hD := g_pos hz1 hD
      rw [hz1] at hcl
      refine vx_catch (own := "CarHouseLaw") (name := "java/lang/IllegalStateException") (E := "java/lang/IllegalStateException") C.1.2.2.2.1 [⟨0, 9, 12, 19⟩] ⟨0, 9, 15, 13⟩ [] htab (fun z h => by cases List.mem_singleton.mp h; exact Or.inr ⟨by decide, _, C.1.2.2.2.2 _ wd_768, KX.2.2.2.2.1⟩) (by decide) (by decide) (C.1.2.2.2.2 _ wd_686) (mx_cast KX 1) hce hcv hcl ?_
      refine lv_astore_n (lv' := [(3, .ref q9), (0, .ref (ad 0)), (1, .int a2), (2, .ref (ad 1577))]) C.1.1 C.1.2.1 dL_count_15 rfl hl (by decide) rfl (fun ls hl => ?_)
      refine lv_iconst (v := 2) C.1.1 C.1.2.1 dL_count_16 (by decide) ?_
      exact mr_iret C hr hlocks hw rfl (Option.some.inj hD) dL_count_17
    replace hD := g_neg hz1 hD
    cases hD
  replace hD := g_pos hz hD
  refine lv_i2l C.1.1 C.1.2.1 dL_count_7 rfl ?_
  obtain ⟨L5, eL5, hD⟩ := g_let hD
  refine mr_last C hw (by decide) tf_1577 (show vp_in 0 1 from by unfold vp_in; decide) dL_count_8 (fun H locs hw => ?_)
  replace hw : mw_W G ad NF TF FF M1 L5 H locs := by rw [eL5]; exact hw
  refine lv_goto (tgt := 18) C.1.1 C.1.2.1 dL_count_9 (by decide) ?_
  refine lv_iconst (v := 0) C.1.1 C.1.2.1 dL_count_18 (by decide) ?_
  exact mr_iret C hr hlocks hw rfl (Option.some.inj hD) dL_count_19

theorem dL_frame_0 : decode cL_frame 0 = .ok (.aload_n 3, 1) := by decide +kernel
theorem dL_frame_1 : decode cL_frame 1 = .ok (.iconst 0, 1) := by decide +kernel
theorem dL_frame_2 : decode cL_frame 2 = .ok (.aload_n 0, 1) := by decide +kernel
theorem dL_frame_3 : decode cL_frame 3 = .ok (.iload_n 1, 1) := by decide +kernel
theorem dL_frame_4 : decode cL_frame 4 = .ok (.iload_n 2, 1) := by decide +kernel
theorem dL_frame_5 : decode cL_frame 5 = .ok (.invokevirtual 28, 3) := by decide +kernel
theorem dL_frame_8 : decode cL_frame 8 = .ok (.i2l, 1) := by decide +kernel
theorem dL_frame_9 : decode cL_frame 9 = .ok (.lastore, 1) := by decide +kernel
theorem dL_frame_10 : decode cL_frame 10 = .ok (.goto 11, 3) := by decide +kernel
theorem dL_frame_13 : decode cL_frame 13 = .ok (.astore 4, 2) := by decide +kernel
theorem dL_frame_15 : decode cL_frame 15 = .ok (.iconst 1, 1) := by decide +kernel
theorem dL_frame_16 : decode cL_frame 16 = .ok (.ireturn, 1) := by decide +kernel
theorem dL_frame_17 : decode cL_frame 17 = .ok (.astore 4, 2) := by decide +kernel
theorem dL_frame_19 : decode cL_frame 19 = .ok (.iconst 2, 1) := by decide +kernel
theorem dL_frame_20 : decode cL_frame 20 = .ok (.ireturn, 1) := by decide +kernel
theorem dL_frame_21 : decode cL_frame 21 = .ok (.iconst 0, 1) := by decide +kernel
theorem dL_frame_22 : decode cL_frame 22 = .ok (.ireturn, 1) := by decide +kernel
theorem cwL_frame : mx_cwS yL_frame cL_frame 5 ((some .int)) [(0, 10, 13, 32), (0, 10, 17, 19)] 4 := ⟨wd_0, wd_1247, by decide +kernel, wd_1246⟩
set_option maxHeartbeats 4000000 in
set_option maxRecDepth 100000 in
theorem tL_frame (l : Launch) (G : mwG) (ad : Nat → Nat) (fu : Nat) (a2 : Int32) (a3 : Int32) (M : mwM) (L : mwL) {r0 : Int32} {M0 : mwM} {L0 : mwL} (hst : l.stackTraces = false) (hD : DL_frame fu a2 a3 M L = some (r0, M0, L0)) : Met l yL_frame (Cond.codeWith yL_frame cL_frame 5 ((some .int)) [(0, 10, 13, 32), (0, 10, 17, 19)] :: GT) ({ frames := 9, cells := 1, slots := 6, locals := 163 }) (mx_Pre G ad NF TF FF M L [.ref (ad 0), .int a2, .int a3, .ref (ad 1577)]) (mw_Qi G ad NF TF FF (mw_eqI r0 M0 L0)) 1 6 (mw_fr G) := by
  refine mx_enterW (by decide) (Nat.le_of_ble_eq_true rfl) ?_
  intro p e s m below meth c ls C KX hr hlocks htab hw hl
  have hw0 := hw
  have hl : lv_has ls 5 [(0, .ref (ad 0)), (1, .int a2), (2, .int a3), (3, .ref (ad 1577))] := hl
  unfold DL_frame at hD
  refine lv_aload_n C.1.1 C.1.2.1 dL_frame_0 rfl (lv_at hl 3 rfl) ?_
  refine lv_iconst (v := 0) C.1.1 C.1.2.1 dL_frame_1 (by decide) ?_
  refine lv_aload_n C.1.1 C.1.2.1 dL_frame_2 rfl (lv_at hl 0 rfl) ?_
  refine lv_iload_n C.1.1 C.1.2.1 dL_frame_3 rfl (lv_at hl 1 rfl) ?_
  refine lv_iload_n C.1.1 C.1.2.1 dL_frame_4 rfl (lv_at hl 2 rfl) ?_
  obtain ⟨z3, M1, L2, h1, hD⟩ := g_b3 hD
  refine mx_cvI (As := [.int a2, .int a3]) (rest := [.int 0, .ref (ad 1577)]) C KX hw (tX11_frame l G ad fu a2 a3 M L hst h1) kc_11 (by decide) tf_0 wd_1249 cwX11_frame ⟨Nat.le_of_ble_eq_true rfl, Nat.le_of_ble_eq_true rfl⟩ rfl hl.1 (Nat.le_of_ble_eq_true rfl) dL_frame_5 rfl rfl ⟨Nat.le_of_ble_eq_true rfl, Nat.le_of_ble_eq_true rfl⟩ rfl (fun H locs ce q9 hz hw hce hcv hcl => ?_) (fun H locs hz hw => ?_)
  · replace hD := g_neg hz hD
    by_cases hz3 : z3.1 = 3
    · replace hD := g_pos hz3 hD
      rw [hz3] at hcl
      refine vx_catch (own := "CarHouseLaw") (name := "java/lang/IndexOutOfBoundsException") (E := "java/lang/IndexOutOfBoundsException") C.1.2.2.2.1 [] ⟨0, 10, 13, 32⟩ [⟨0, 10, 17, 19⟩] htab (fun z h => nomatch h) (by decide) (by decide) (C.1.2.2.2.2 _ wd_1248) (mx_cast KX 3) hce hcv hcl ?_
      refine lv_astore (lv' := [(4, .ref q9), (0, .ref (ad 0)), (1, .int a2), (2, .int a3), (3, .ref (ad 1577))]) C.1.1 C.1.2.1 dL_frame_13 hl (by decide) rfl (fun ls hl => ?_)
      refine lv_iconst (v := 1) C.1.1 C.1.2.1 dL_frame_15 (by decide) ?_
      exact mr_iret C hr hlocks hw rfl (Option.some.inj hD) dL_frame_16
    replace hD := g_neg hz3 hD
    by_cases hz2 : z3.1 = 2
    · replace hD := g_pos hz2 hD
      rw [hz2] at hcl
      refine vx_catch (own := "CarHouseLaw") (name := "java/lang/IllegalArgumentException") (E := "java/lang/IllegalArgumentException") C.1.2.2.2.1 [⟨0, 10, 13, 32⟩] ⟨0, 10, 17, 19⟩ [] htab (fun z h => by cases List.mem_singleton.mp h; exact Or.inr ⟨by decide, _, C.1.2.2.2.2 _ wd_1248, KX.2.2.2.2.2.1⟩) (by decide) (by decide) (C.1.2.2.2.2 _ wd_768) (mx_cast KX 2) hce hcv hcl ?_
      refine lv_astore (lv' := [(4, .ref q9), (0, .ref (ad 0)), (1, .int a2), (2, .int a3), (3, .ref (ad 1577))]) C.1.1 C.1.2.1 dL_frame_17 hl (by decide) rfl (fun ls hl => ?_)
      refine lv_iconst (v := 2) C.1.1 C.1.2.1 dL_frame_19 (by decide) ?_
      exact mr_iret C hr hlocks hw rfl (Option.some.inj hD) dL_frame_20
    replace hD := g_neg hz2 hD
    cases hD
  replace hD := g_pos hz hD
  refine lv_i2l C.1.1 C.1.2.1 dL_frame_8 rfl ?_
  obtain ⟨L5, eL5, hD⟩ := g_let hD
  refine mr_last C hw (by decide) tf_1577 (show vp_in 0 1 from by unfold vp_in; decide) dL_frame_9 (fun H locs hw => ?_)
  replace hw : mw_W G ad NF TF FF M1 L5 H locs := by rw [eL5]; exact hw
  refine lv_goto (tgt := 21) C.1.1 C.1.2.1 dL_frame_10 (by decide) ?_
  refine lv_iconst (v := 0) C.1.1 C.1.2.1 dL_frame_21 (by decide) ?_
  exact mr_iret C hr hlocks hw rfl (Option.some.inj hD) dL_frame_22

theorem dL_signal_0 : decode cL_signal 0 = .ok (.aload_n 3, 1) := by decide +kernel
theorem dL_signal_1 : decode cL_signal 1 = .ok (.iconst 0, 1) := by decide +kernel
theorem dL_signal_2 : decode cL_signal 2 = .ok (.aload_n 0, 1) := by decide +kernel
theorem dL_signal_3 : decode cL_signal 3 = .ok (.iload_n 1, 1) := by decide +kernel
theorem dL_signal_4 : decode cL_signal 4 = .ok (.iload_n 2, 1) := by decide +kernel
theorem dL_signal_5 : decode cL_signal 5 = .ok (.invokevirtual 34, 3) := by decide +kernel
theorem dL_signal_8 : decode cL_signal 8 = .ok (.i2l, 1) := by decide +kernel
theorem dL_signal_9 : decode cL_signal 9 = .ok (.lastore, 1) := by decide +kernel
theorem dL_signal_10 : decode cL_signal 10 = .ok (.goto 7, 3) := by decide +kernel
theorem dL_signal_13 : decode cL_signal 13 = .ok (.astore 4, 2) := by decide +kernel
theorem dL_signal_15 : decode cL_signal 15 = .ok (.iconst 1, 1) := by decide +kernel
theorem dL_signal_16 : decode cL_signal 16 = .ok (.ireturn, 1) := by decide +kernel
theorem dL_signal_17 : decode cL_signal 17 = .ok (.iconst 0, 1) := by decide +kernel
theorem dL_signal_18 : decode cL_signal 18 = .ok (.ireturn, 1) := by decide +kernel
theorem cwL_signal : mx_cwS yL_signal cL_signal 5 ((some .int)) [(0, 10, 13, 32)] 4 := ⟨wd_0, wd_1276, by decide +kernel, wd_1275⟩
set_option maxHeartbeats 4000000 in
set_option maxRecDepth 100000 in
theorem tL_signal (l : Launch) (G : mwG) (ad : Nat → Nat) (fu : Nat) (a2 : Int32) (a3 : Int32) (M : mwM) (L : mwL) {r0 : Int32} {M0 : mwM} {L0 : mwL} (hst : l.stackTraces = false) (hD : DL_signal fu a2 a3 M L = some (r0, M0, L0)) : Met l yL_signal (Cond.codeWith yL_signal cL_signal 5 ((some .int)) [(0, 10, 13, 32)] :: GT) ({ frames := 9, cells := 1, slots := 6, locals := 163 }) (mx_Pre G ad NF TF FF M L [.ref (ad 0), .int a2, .int a3, .ref (ad 1577)]) (mw_Qi G ad NF TF FF (mw_eqI r0 M0 L0)) 1 6 (mw_fr G) := by
  refine mx_enterW (by decide) (Nat.le_of_ble_eq_true rfl) ?_
  intro p e s m below meth c ls C KX hr hlocks htab hw hl
  have hw0 := hw
  have hl : lv_has ls 5 [(0, .ref (ad 0)), (1, .int a2), (2, .int a3), (3, .ref (ad 1577))] := hl
  unfold DL_signal at hD
  refine lv_aload_n C.1.1 C.1.2.1 dL_signal_0 rfl (lv_at hl 3 rfl) ?_
  refine lv_iconst (v := 0) C.1.1 C.1.2.1 dL_signal_1 (by decide) ?_
  refine lv_aload_n C.1.1 C.1.2.1 dL_signal_2 rfl (lv_at hl 0 rfl) ?_
  refine lv_iload_n C.1.1 C.1.2.1 dL_signal_3 rfl (lv_at hl 1 rfl) ?_
  refine lv_iload_n C.1.1 C.1.2.1 dL_signal_4 rfl (lv_at hl 2 rfl) ?_
  obtain ⟨z3, M1, L2, h1, hD⟩ := g_b3 hD
  refine mx_cvI (As := [.int a2, .int a3]) (rest := [.int 0, .ref (ad 1577)]) C KX hw (tX11_signal l G ad fu a2 a3 M L hst h1) kc_11 (by decide) tf_0 wd_1277 cwX11_signal ⟨Nat.le_of_ble_eq_true rfl, Nat.le_of_ble_eq_true rfl⟩ rfl hl.1 (Nat.le_of_ble_eq_true rfl) dL_signal_5 rfl rfl ⟨Nat.le_of_ble_eq_true rfl, Nat.le_of_ble_eq_true rfl⟩ rfl (fun H locs ce q9 hz hw hce hcv hcl => ?_) (fun H locs hz hw => ?_)
  · replace hD := g_neg hz hD
    by_cases hz3 : z3.1 = 3
    · replace hD := g_pos hz3 hD
      rw [hz3] at hcl
      refine vx_catch (own := "CarHouseLaw") (name := "java/lang/IndexOutOfBoundsException") (E := "java/lang/IndexOutOfBoundsException") C.1.2.2.2.1 [] ⟨0, 10, 13, 32⟩ [] htab (fun z h => nomatch h) (by decide) (by decide) (C.1.2.2.2.2 _ wd_1248) (mx_cast KX 3) hce hcv hcl ?_
      refine lv_astore (lv' := [(4, .ref q9), (0, .ref (ad 0)), (1, .int a2), (2, .int a3), (3, .ref (ad 1577))]) C.1.1 C.1.2.1 dL_signal_13 hl (by decide) rfl (fun ls hl => ?_)
      refine lv_iconst (v := 1) C.1.1 C.1.2.1 dL_signal_15 (by decide) ?_
      exact mr_iret C hr hlocks hw rfl (Option.some.inj hD) dL_signal_16
    replace hD := g_neg hz3 hD
    cases hD
  replace hD := g_pos hz hD
  refine lv_i2l C.1.1 C.1.2.1 dL_signal_8 rfl ?_
  obtain ⟨L5, eL5, hD⟩ := g_let hD
  refine mr_last C hw (by decide) tf_1577 (show vp_in 0 1 from by unfold vp_in; decide) dL_signal_9 (fun H locs hw => ?_)
  replace hw : mw_W G ad NF TF FF M1 L5 H locs := by rw [eL5]; exact hw
  refine lv_goto (tgt := 17) C.1.1 C.1.2.1 dL_signal_10 (by decide) ?_
  refine lv_iconst (v := 0) C.1.1 C.1.2.1 dL_signal_17 (by decide) ?_
  exact mr_iret C hr hlocks hw rfl (Option.some.inj hD) dL_signal_18

theorem dL_run_0 : decode cL_run 0 = .ok (.aload_n 2, 1) := by decide +kernel
theorem dL_run_1 : decode cL_run 1 = .ok (.iconst 0, 1) := by decide +kernel
theorem dL_run_2 : decode cL_run 2 = .ok (.aload_n 0, 1) := by decide +kernel
theorem dL_run_3 : decode cL_run 3 = .ok (.iload_n 1, 1) := by decide +kernel
theorem dL_run_4 : decode cL_run 4 = .ok (.invokevirtual 38, 3) := by decide +kernel
theorem dL_run_7 : decode cL_run 7 = .ok (.i2l, 1) := by decide +kernel
theorem dL_run_8 : decode cL_run 8 = .ok (.lastore, 1) := by decide +kernel
theorem dL_run_9 : decode cL_run 9 = .ok (.goto 9, 3) := by decide +kernel
theorem dL_run_12 : decode cL_run 12 = .ok (.astore_n 3, 1) := by decide +kernel
theorem dL_run_13 : decode cL_run 13 = .ok (.iconst 1, 1) := by decide +kernel
theorem dL_run_14 : decode cL_run 14 = .ok (.ireturn, 1) := by decide +kernel
theorem dL_run_15 : decode cL_run 15 = .ok (.astore_n 3, 1) := by decide +kernel
theorem dL_run_16 : decode cL_run 16 = .ok (.iconst 2, 1) := by decide +kernel
theorem dL_run_17 : decode cL_run 17 = .ok (.ireturn, 1) := by decide +kernel
theorem dL_run_18 : decode cL_run 18 = .ok (.iconst 0, 1) := by decide +kernel
theorem dL_run_19 : decode cL_run 19 = .ok (.ireturn, 1) := by decide +kernel
theorem cwL_run : mx_cwS yL_run cL_run 4 ((some .int)) [(0, 9, 12, 19), (0, 9, 15, 13)] 3 := ⟨wd_0, wd_1284, by decide +kernel, wd_1283⟩
set_option maxHeartbeats 4000000 in
set_option maxRecDepth 100000 in
theorem tL_run (l : Launch) (G : mwG) (ad : Nat → Nat) (fu : Nat) (a2 : Int32) (M : mwM) (L : mwL) {r0 : Int32} {M0 : mwM} {L0 : mwL} (hst : l.stackTraces = false) (hD : DL_run fu a2 M L = some (r0, M0, L0)) : Met l yL_run (Cond.codeWith yL_run cL_run 4 ((some .int)) [(0, 9, 12, 19), (0, 9, 15, 13)] :: GT) ({ frames := 9, cells := 1, slots := 6, locals := 202 }) (mx_Pre G ad NF TF FF M L [.ref (ad 0), .int a2, .ref (ad 1577)]) (mw_Qi G ad NF TF FF (mw_eqI r0 M0 L0)) 1 6 (mw_fr G) := by
  refine mx_enterW (by decide) (Nat.le_of_ble_eq_true rfl) ?_
  intro p e s m below meth c ls C KX hr hlocks htab hw hl
  have hw0 := hw
  have hl : lv_has ls 4 [(0, .ref (ad 0)), (1, .int a2), (2, .ref (ad 1577))] := hl
  unfold DL_run at hD
  refine lv_aload_n C.1.1 C.1.2.1 dL_run_0 rfl (lv_at hl 2 rfl) ?_
  refine lv_iconst (v := 0) C.1.1 C.1.2.1 dL_run_1 (by decide) ?_
  refine lv_aload_n C.1.1 C.1.2.1 dL_run_2 rfl (lv_at hl 0 rfl) ?_
  refine lv_iload_n C.1.1 C.1.2.1 dL_run_3 rfl (lv_at hl 1 rfl) ?_
  obtain ⟨z3, M1, L2, h1, hD⟩ := g_b3 hD
  refine mx_cvI (As := [.int a2]) (rest := [.int 0, .ref (ad 1577)]) C KX hw (tX11_run l G ad fu a2 M L hst h1) kc_11 (by decide) tf_0 wd_1285 cwX11_run ⟨Nat.le_of_ble_eq_true rfl, Nat.le_of_ble_eq_true rfl⟩ rfl hl.1 (Nat.le_of_ble_eq_true rfl) dL_run_4 rfl rfl ⟨Nat.le_of_ble_eq_true rfl, Nat.le_of_ble_eq_true rfl⟩ rfl (fun H locs ce q9 hz hw hce hcv hcl => ?_) (fun H locs hz hw => ?_)
  · replace hD := g_neg hz hD
    by_cases hz2 : z3.1 = 2
    · replace hD := g_pos hz2 hD
      rw [hz2] at hcl
      refine vx_catch (own := "CarHouseLaw") (name := "java/lang/IllegalArgumentException") (E := "java/lang/IllegalArgumentException") C.1.2.2.2.1 [] ⟨0, 9, 12, 19⟩ [⟨0, 9, 15, 13⟩] htab (fun z h => nomatch h) (by decide) (by decide) (C.1.2.2.2.2 _ wd_768) (mx_cast KX 2) hce hcv hcl ?_
      refine lv_astore_n (lv' := [(3, .ref q9), (0, .ref (ad 0)), (1, .int a2), (2, .ref (ad 1577))]) C.1.1 C.1.2.1 dL_run_12 rfl hl (by decide) rfl (fun ls hl => ?_)
      refine lv_iconst (v := 1) C.1.1 C.1.2.1 dL_run_13 (by decide) ?_
      exact mr_iret C hr hlocks hw rfl (Option.some.inj hD) dL_run_14
    replace hD := g_neg hz2 hD
    by_cases hz1 : z3.1 = 1
    · replace hD := g_pos hz1 hD
      rw [hz1] at hcl
      refine vx_catch (own := "CarHouseLaw") (name := "java/lang/IllegalStateException") (E := "java/lang/IllegalStateException") C.1.2.2.2.1 [⟨0, 9, 12, 19⟩] ⟨0, 9, 15, 13⟩ [] htab (fun z h => by cases List.mem_singleton.mp h; exact Or.inr ⟨by decide, _, C.1.2.2.2.2 _ wd_768, KX.2.2.2.2.1⟩) (by decide) (by decide) (C.1.2.2.2.2 _ wd_686) (mx_cast KX 1) hce hcv hcl ?_
      refine lv_astore_n (lv' := [(3, .ref q9), (0, .ref (ad 0)), (1, .int a2), (2, .ref (ad 1577))]) C.1.1 C.1.2.1 dL_run_15 rfl hl (by decide) rfl (fun ls hl => ?_)
      refine lv_iconst (v := 2) C.1.1 C.1.2.1 dL_run_16 (by decide) ?_
      exact mr_iret C hr hlocks hw rfl (Option.some.inj hD) dL_run_17
    replace hD := g_neg hz1 hD
    cases hD
  replace hD := g_pos hz hD
  refine lv_i2l C.1.1 C.1.2.1 dL_run_7 rfl ?_
  obtain ⟨L5, eL5, hD⟩ := g_let hD
  refine mr_last C hw (by decide) tf_1577 (show vp_in 0 1 from by unfold vp_in; decide) dL_run_8 (fun H locs hw => ?_)
  replace hw : mw_W G ad NF TF FF M1 L5 H locs := by rw [eL5]; exact hw
  refine lv_goto (tgt := 18) C.1.1 C.1.2.1 dL_run_9 (by decide) ?_
  refine lv_iconst (v := 0) C.1.1 C.1.2.1 dL_run_18 (by decide) ?_
  exact mr_iret C hr hlocks hw rfl (Option.some.inj hD) dL_run_19

theorem dL_bit_0 : decode cL_bit 0 = .ok (.aload_n 2, 1) := by decide +kernel
theorem dL_bit_1 : decode cL_bit 1 = .ok (.iconst 0, 1) := by decide +kernel
theorem dL_bit_2 : decode cL_bit 2 = .ok (.aload_n 0, 1) := by decide +kernel
theorem dL_bit_3 : decode cL_bit 3 = .ok (.iload_n 1, 1) := by decide +kernel
theorem dL_bit_4 : decode cL_bit 4 = .ok (.invokevirtual 41, 3) := by decide +kernel
theorem dL_bit_7 : decode cL_bit 7 = .ok (.i2l, 1) := by decide +kernel
theorem dL_bit_8 : decode cL_bit 8 = .ok (.lastore, 1) := by decide +kernel
theorem dL_bit_9 : decode cL_bit 9 = .ok (.goto 6, 3) := by decide +kernel
theorem dL_bit_12 : decode cL_bit 12 = .ok (.astore_n 3, 1) := by decide +kernel
theorem dL_bit_13 : decode cL_bit 13 = .ok (.iconst 1, 1) := by decide +kernel
theorem dL_bit_14 : decode cL_bit 14 = .ok (.ireturn, 1) := by decide +kernel
theorem dL_bit_15 : decode cL_bit 15 = .ok (.iconst 0, 1) := by decide +kernel
theorem dL_bit_16 : decode cL_bit 16 = .ok (.ireturn, 1) := by decide +kernel
theorem cwL_bit : mx_cwS yL_bit cL_bit 4 ((some .int)) [(0, 9, 12, 32)] 3 := ⟨wd_0, wd_1787, by decide +kernel, wd_1786⟩
set_option maxHeartbeats 4000000 in
set_option maxRecDepth 100000 in
theorem tL_bit (l : Launch) (G : mwG) (ad : Nat → Nat) (fu : Nat) (a2 : Int32) (M : mwM) (L : mwL) {r0 : Int32} {M0 : mwM} {L0 : mwL} (hst : l.stackTraces = false) (hD : DL_bit fu a2 M L = some (r0, M0, L0)) : Met l yL_bit (Cond.codeWith yL_bit cL_bit 4 ((some .int)) [(0, 9, 12, 32)] :: GT) ({ frames := 9, cells := 1, slots := 6, locals := 162 }) (mx_Pre G ad NF TF FF M L [.ref (ad 0), .int a2, .ref (ad 1577)]) (mw_Qi G ad NF TF FF (mw_eqI r0 M0 L0)) 1 6 (mw_fr G) := by
  refine mx_enterW (by decide) (Nat.le_of_ble_eq_true rfl) ?_
  intro p e s m below meth c ls C KX hr hlocks htab hw hl
  have hw0 := hw
  have hl : lv_has ls 4 [(0, .ref (ad 0)), (1, .int a2), (2, .ref (ad 1577))] := hl
  unfold DL_bit at hD
  refine lv_aload_n C.1.1 C.1.2.1 dL_bit_0 rfl (lv_at hl 2 rfl) ?_
  refine lv_iconst (v := 0) C.1.1 C.1.2.1 dL_bit_1 (by decide) ?_
  refine lv_aload_n C.1.1 C.1.2.1 dL_bit_2 rfl (lv_at hl 0 rfl) ?_
  refine lv_iload_n C.1.1 C.1.2.1 dL_bit_3 rfl (lv_at hl 1 rfl) ?_
  obtain ⟨z3, M1, L2, h1, hD⟩ := g_b3 hD
  refine mx_cvI (As := [.int a2]) (rest := [.int 0, .ref (ad 1577)]) C KX hw (tX11_bit l G ad fu a2 M L hst h1) kc_11 (by decide) tf_0 wd_1788 cwX11_bit ⟨Nat.le_of_ble_eq_true rfl, Nat.le_of_ble_eq_true rfl⟩ rfl hl.1 (Nat.le_of_ble_eq_true rfl) dL_bit_4 rfl rfl ⟨Nat.le_of_ble_eq_true rfl, Nat.le_of_ble_eq_true rfl⟩ rfl (fun H locs ce q9 hz hw hce hcv hcl => ?_) (fun H locs hz hw => ?_)
  · replace hD := g_neg hz hD
    by_cases hz3 : z3.1 = 3
    · replace hD := g_pos hz3 hD
      rw [hz3] at hcl
      refine vx_catch (own := "CarHouseLaw") (name := "java/lang/IndexOutOfBoundsException") (E := "java/lang/IndexOutOfBoundsException") C.1.2.2.2.1 [] ⟨0, 9, 12, 32⟩ [] htab (fun z h => nomatch h) (by decide) (by decide) (C.1.2.2.2.2 _ wd_1248) (mx_cast KX 3) hce hcv hcl ?_
      refine lv_astore_n (lv' := [(3, .ref q9), (0, .ref (ad 0)), (1, .int a2), (2, .ref (ad 1577))]) C.1.1 C.1.2.1 dL_bit_12 rfl hl (by decide) rfl (fun ls hl => ?_)
      refine lv_iconst (v := 1) C.1.1 C.1.2.1 dL_bit_13 (by decide) ?_
      exact mr_iret C hr hlocks hw rfl (Option.some.inj hD) dL_bit_14
    replace hD := g_neg hz3 hD
    cases hD
  replace hD := g_pos hz hD
  refine lv_i2l C.1.1 C.1.2.1 dL_bit_7 rfl ?_
  obtain ⟨L5, eL5, hD⟩ := g_let hD
  refine mr_last C hw (by decide) tf_1577 (show vp_in 0 1 from by unfold vp_in; decide) dL_bit_8 (fun H locs hw => ?_)
  replace hw : mw_W G ad NF TF FF M1 L5 H locs := by rw [eL5]; exact hw
  refine lv_goto (tgt := 15) C.1.1 C.1.2.1 dL_bit_9 (by decide) ?_
  refine lv_iconst (v := 0) C.1.1 C.1.2.1 dL_bit_15 (by decide) ?_
  exact mr_iret C hr hlocks hw rfl (Option.some.inj hD) dL_bit_16

theorem dL_node_0 : decode cL_node 0 = .ok (.aload_n 3, 1) := by decide +kernel
theorem dL_node_1 : decode cL_node 1 = .ok (.iconst 0, 1) := by decide +kernel
theorem dL_node_2 : decode cL_node 2 = .ok (.aload_n 0, 1) := by decide +kernel
theorem dL_node_3 : decode cL_node 3 = .ok (.iload_n 1, 1) := by decide +kernel
theorem dL_node_4 : decode cL_node 4 = .ok (.iload_n 2, 1) := by decide +kernel
theorem dL_node_5 : decode cL_node 5 = .ok (.invokevirtual 44, 3) := by decide +kernel
theorem dL_node_8 : decode cL_node 8 = .ok (.i2l, 1) := by decide +kernel
theorem dL_node_9 : decode cL_node 9 = .ok (.lastore, 1) := by decide +kernel
theorem dL_node_10 : decode cL_node 10 = .ok (.goto 11, 3) := by decide +kernel
theorem dL_node_13 : decode cL_node 13 = .ok (.astore 4, 2) := by decide +kernel
theorem dL_node_15 : decode cL_node 15 = .ok (.iconst 1, 1) := by decide +kernel
theorem dL_node_16 : decode cL_node 16 = .ok (.ireturn, 1) := by decide +kernel
theorem dL_node_17 : decode cL_node 17 = .ok (.astore 4, 2) := by decide +kernel
theorem dL_node_19 : decode cL_node 19 = .ok (.iconst 2, 1) := by decide +kernel
theorem dL_node_20 : decode cL_node 20 = .ok (.ireturn, 1) := by decide +kernel
theorem dL_node_21 : decode cL_node 21 = .ok (.iconst 0, 1) := by decide +kernel
theorem dL_node_22 : decode cL_node 22 = .ok (.ireturn, 1) := by decide +kernel
theorem cwL_node : mx_cwS yL_node cL_node 5 ((some .int)) [(0, 10, 13, 32), (0, 10, 17, 19)] 4 := ⟨wd_0, wd_1795, by decide +kernel, wd_1794⟩
set_option maxHeartbeats 4000000 in
set_option maxRecDepth 100000 in
theorem tL_node (l : Launch) (G : mwG) (ad : Nat → Nat) (fu : Nat) (a2 : Int32) (a3 : Int32) (M : mwM) (L : mwL) {r0 : Int32} {M0 : mwM} {L0 : mwL} (hst : l.stackTraces = false) (hD : DL_node fu a2 a3 M L = some (r0, M0, L0)) : Met l yL_node (Cond.codeWith yL_node cL_node 5 ((some .int)) [(0, 10, 13, 32), (0, 10, 17, 19)] :: GT) ({ frames := 9, cells := 1, slots := 6, locals := 164 }) (mx_Pre G ad NF TF FF M L [.ref (ad 0), .int a2, .int a3, .ref (ad 1577)]) (mw_Qi G ad NF TF FF (mw_eqI r0 M0 L0)) 1 6 (mw_fr G) := by
  refine mx_enterW (by decide) (Nat.le_of_ble_eq_true rfl) ?_
  intro p e s m below meth c ls C KX hr hlocks htab hw hl
  have hw0 := hw
  have hl : lv_has ls 5 [(0, .ref (ad 0)), (1, .int a2), (2, .int a3), (3, .ref (ad 1577))] := hl
  unfold DL_node at hD
  refine lv_aload_n C.1.1 C.1.2.1 dL_node_0 rfl (lv_at hl 3 rfl) ?_
  refine lv_iconst (v := 0) C.1.1 C.1.2.1 dL_node_1 (by decide) ?_
  refine lv_aload_n C.1.1 C.1.2.1 dL_node_2 rfl (lv_at hl 0 rfl) ?_
  refine lv_iload_n C.1.1 C.1.2.1 dL_node_3 rfl (lv_at hl 1 rfl) ?_
  refine lv_iload_n C.1.1 C.1.2.1 dL_node_4 rfl (lv_at hl 2 rfl) ?_
  obtain ⟨z3, M1, L2, h1, hD⟩ := g_b3 hD
  refine mx_cvI (As := [.int a2, .int a3]) (rest := [.int 0, .ref (ad 1577)]) C KX hw (tX11_node l G ad fu a2 a3 M L hst h1) kc_11 (by decide) tf_0 wd_1796 cwX11_node ⟨Nat.le_of_ble_eq_true rfl, Nat.le_of_ble_eq_true rfl⟩ rfl hl.1 (Nat.le_of_ble_eq_true rfl) dL_node_5 rfl rfl ⟨Nat.le_of_ble_eq_true rfl, Nat.le_of_ble_eq_true rfl⟩ rfl (fun H locs ce q9 hz hw hce hcv hcl => ?_) (fun H locs hz hw => ?_)
  · replace hD := g_neg hz hD
    by_cases hz3 : z3.1 = 3
    · replace hD := g_pos hz3 hD
      rw [hz3] at hcl
      refine vx_catch (own := "CarHouseLaw") (name := "java/lang/IndexOutOfBoundsException") (E := "java/lang/IndexOutOfBoundsException") C.1.2.2.2.1 [] ⟨0, 10, 13, 32⟩ [⟨0, 10, 17, 19⟩] htab (fun z h => nomatch h) (by decide) (by decide) (C.1.2.2.2.2 _ wd_1248) (mx_cast KX 3) hce hcv hcl ?_
      refine lv_astore (lv' := [(4, .ref q9), (0, .ref (ad 0)), (1, .int a2), (2, .int a3), (3, .ref (ad 1577))]) C.1.1 C.1.2.1 dL_node_13 hl (by decide) rfl (fun ls hl => ?_)
      refine lv_iconst (v := 1) C.1.1 C.1.2.1 dL_node_15 (by decide) ?_
      exact mr_iret C hr hlocks hw rfl (Option.some.inj hD) dL_node_16
    replace hD := g_neg hz3 hD
    by_cases hz2 : z3.1 = 2
    · replace hD := g_pos hz2 hD
      rw [hz2] at hcl
      refine vx_catch (own := "CarHouseLaw") (name := "java/lang/IllegalArgumentException") (E := "java/lang/IllegalArgumentException") C.1.2.2.2.1 [⟨0, 10, 13, 32⟩] ⟨0, 10, 17, 19⟩ [] htab (fun z h => by cases List.mem_singleton.mp h; exact Or.inr ⟨by decide, _, C.1.2.2.2.2 _ wd_1248, KX.2.2.2.2.2.1⟩) (by decide) (by decide) (C.1.2.2.2.2 _ wd_768) (mx_cast KX 2) hce hcv hcl ?_
      refine lv_astore (lv' := [(4, .ref q9), (0, .ref (ad 0)), (1, .int a2), (2, .int a3), (3, .ref (ad 1577))]) C.1.1 C.1.2.1 dL_node_17 hl (by decide) rfl (fun ls hl => ?_)
      refine lv_iconst (v := 2) C.1.1 C.1.2.1 dL_node_19 (by decide) ?_
      exact mr_iret C hr hlocks hw rfl (Option.some.inj hD) dL_node_20
    replace hD := g_neg hz2 hD
    cases hD
  replace hD := g_pos hz hD
  refine lv_i2l C.1.1 C.1.2.1 dL_node_8 rfl ?_
  obtain ⟨L5, eL5, hD⟩ := g_let hD
  refine mr_last C hw (by decide) tf_1577 (show vp_in 0 1 from by unfold vp_in; decide) dL_node_9 (fun H locs hw => ?_)
  replace hw : mw_W G ad NF TF FF M1 L5 H locs := by rw [eL5]; exact hw
  refine lv_goto (tgt := 21) C.1.1 C.1.2.1 dL_node_10 (by decide) ?_
  refine lv_iconst (v := 0) C.1.1 C.1.2.1 dL_node_21 (by decide) ?_
  exact mr_iret C hr hlocks hw rfl (Option.some.inj hD) dL_node_22

theorem dL_error_0 : decode cL_error 0 = .ok (.aload_n 3, 1) := by decide +kernel
theorem dL_error_1 : decode cL_error 1 = .ok (.iconst 0, 1) := by decide +kernel
theorem dL_error_2 : decode cL_error 2 = .ok (.aload_n 0, 1) := by decide +kernel
theorem dL_error_3 : decode cL_error 3 = .ok (.iload_n 1, 1) := by decide +kernel
theorem dL_error_4 : decode cL_error 4 = .ok (.iload_n 2, 1) := by decide +kernel
theorem dL_error_5 : decode cL_error 5 = .ok (.invokevirtual 47, 3) := by decide +kernel
theorem dL_error_8 : decode cL_error 8 = .ok (.i2l, 1) := by decide +kernel
theorem dL_error_9 : decode cL_error 9 = .ok (.lastore, 1) := by decide +kernel
theorem dL_error_10 : decode cL_error 10 = .ok (.goto 11, 3) := by decide +kernel
theorem dL_error_13 : decode cL_error 13 = .ok (.astore 4, 2) := by decide +kernel
theorem dL_error_15 : decode cL_error 15 = .ok (.iconst 1, 1) := by decide +kernel
theorem dL_error_16 : decode cL_error 16 = .ok (.ireturn, 1) := by decide +kernel
theorem dL_error_17 : decode cL_error 17 = .ok (.astore 4, 2) := by decide +kernel
theorem dL_error_19 : decode cL_error 19 = .ok (.iconst 2, 1) := by decide +kernel
theorem dL_error_20 : decode cL_error 20 = .ok (.ireturn, 1) := by decide +kernel
theorem dL_error_21 : decode cL_error 21 = .ok (.iconst 0, 1) := by decide +kernel
theorem dL_error_22 : decode cL_error 22 = .ok (.ireturn, 1) := by decide +kernel
theorem cwL_error : mx_cwS yL_error cL_error 5 ((some .int)) [(0, 10, 13, 32), (0, 10, 17, 19)] 4 := ⟨wd_0, wd_1804, by decide +kernel, wd_1803⟩
set_option maxHeartbeats 4000000 in
set_option maxRecDepth 100000 in
theorem tL_error (l : Launch) (G : mwG) (ad : Nat → Nat) (fu : Nat) (a2 : Int32) (a3 : Int32) (M : mwM) (L : mwL) {r0 : Int32} {M0 : mwM} {L0 : mwL} (hst : l.stackTraces = false) (hD : DL_error fu a2 a3 M L = some (r0, M0, L0)) : Met l yL_error (Cond.codeWith yL_error cL_error 5 ((some .int)) [(0, 10, 13, 32), (0, 10, 17, 19)] :: GT) ({ frames := 9, cells := 1, slots := 6, locals := 164 }) (mx_Pre G ad NF TF FF M L [.ref (ad 0), .int a2, .int a3, .ref (ad 1577)]) (mw_Qi G ad NF TF FF (mw_eqI r0 M0 L0)) 1 6 (mw_fr G) := by
  refine mx_enterW (by decide) (Nat.le_of_ble_eq_true rfl) ?_
  intro p e s m below meth c ls C KX hr hlocks htab hw hl
  have hw0 := hw
  have hl : lv_has ls 5 [(0, .ref (ad 0)), (1, .int a2), (2, .int a3), (3, .ref (ad 1577))] := hl
  unfold DL_error at hD
  refine lv_aload_n C.1.1 C.1.2.1 dL_error_0 rfl (lv_at hl 3 rfl) ?_
  refine lv_iconst (v := 0) C.1.1 C.1.2.1 dL_error_1 (by decide) ?_
  refine lv_aload_n C.1.1 C.1.2.1 dL_error_2 rfl (lv_at hl 0 rfl) ?_
  refine lv_iload_n C.1.1 C.1.2.1 dL_error_3 rfl (lv_at hl 1 rfl) ?_
  refine lv_iload_n C.1.1 C.1.2.1 dL_error_4 rfl (lv_at hl 2 rfl) ?_
  obtain ⟨z3, M1, L2, h1, hD⟩ := g_b3 hD
  refine mx_cvI (As := [.int a2, .int a3]) (rest := [.int 0, .ref (ad 1577)]) C KX hw (tX11_error l G ad fu a2 a3 M L hst h1) kc_11 (by decide) tf_0 wd_1805 cwX11_error ⟨Nat.le_of_ble_eq_true rfl, Nat.le_of_ble_eq_true rfl⟩ rfl hl.1 (Nat.le_of_ble_eq_true rfl) dL_error_5 rfl rfl ⟨Nat.le_of_ble_eq_true rfl, Nat.le_of_ble_eq_true rfl⟩ rfl (fun H locs ce q9 hz hw hce hcv hcl => ?_) (fun H locs hz hw => ?_)
  · replace hD := g_neg hz hD
    by_cases hz3 : z3.1 = 3
    · replace hD := g_pos hz3 hD
      rw [hz3] at hcl
      refine vx_catch (own := "CarHouseLaw") (name := "java/lang/IndexOutOfBoundsException") (E := "java/lang/IndexOutOfBoundsException") C.1.2.2.2.1 [] ⟨0, 10, 13, 32⟩ [⟨0, 10, 17, 19⟩] htab (fun z h => nomatch h) (by decide) (by decide) (C.1.2.2.2.2 _ wd_1248) (mx_cast KX 3) hce hcv hcl ?_
      refine lv_astore (lv' := [(4, .ref q9), (0, .ref (ad 0)), (1, .int a2), (2, .int a3), (3, .ref (ad 1577))]) C.1.1 C.1.2.1 dL_error_13 hl (by decide) rfl (fun ls hl => ?_)
      refine lv_iconst (v := 1) C.1.1 C.1.2.1 dL_error_15 (by decide) ?_
      exact mr_iret C hr hlocks hw rfl (Option.some.inj hD) dL_error_16
    replace hD := g_neg hz3 hD
    by_cases hz2 : z3.1 = 2
    · replace hD := g_pos hz2 hD
      rw [hz2] at hcl
      refine vx_catch (own := "CarHouseLaw") (name := "java/lang/IllegalArgumentException") (E := "java/lang/IllegalArgumentException") C.1.2.2.2.1 [⟨0, 10, 13, 32⟩] ⟨0, 10, 17, 19⟩ [] htab (fun z h => by cases List.mem_singleton.mp h; exact Or.inr ⟨by decide, _, C.1.2.2.2.2 _ wd_1248, KX.2.2.2.2.2.1⟩) (by decide) (by decide) (C.1.2.2.2.2 _ wd_768) (mx_cast KX 2) hce hcv hcl ?_
      refine lv_astore (lv' := [(4, .ref q9), (0, .ref (ad 0)), (1, .int a2), (2, .int a3), (3, .ref (ad 1577))]) C.1.1 C.1.2.1 dL_error_17 hl (by decide) rfl (fun ls hl => ?_)
      refine lv_iconst (v := 2) C.1.1 C.1.2.1 dL_error_19 (by decide) ?_
      exact mr_iret C hr hlocks hw rfl (Option.some.inj hD) dL_error_20
    replace hD := g_neg hz2 hD
    cases hD
  replace hD := g_pos hz hD
  refine lv_i2l C.1.1 C.1.2.1 dL_error_8 rfl ?_
  obtain ⟨L5, eL5, hD⟩ := g_let hD
  refine mr_last C hw (by decide) tf_1577 (show vp_in 0 1 from by unfold vp_in; decide) dL_error_9 (fun H locs hw => ?_)
  replace hw : mw_W G ad NF TF FF M1 L5 H locs := by rw [eL5]; exact hw
  refine lv_goto (tgt := 21) C.1.1 C.1.2.1 dL_error_10 (by decide) ?_
  refine lv_iconst (v := 0) C.1.1 C.1.2.1 dL_error_21 (by decide) ?_
  exact mr_iret C hr hlocks hw rfl (Option.some.inj hD) dL_error_22

theorem dL_flip_0 : decode cL_flip 0 = .ok (.aload_n 0, 1) := by decide +kernel
theorem dL_flip_1 : decode cL_flip 1 = .ok (.iload_n 1, 1) := by decide +kernel
theorem dL_flip_2 : decode cL_flip 2 = .ok (.iload_n 2, 1) := by decide +kernel
theorem dL_flip_3 : decode cL_flip 3 = .ok (.invokevirtual 50, 3) := by decide +kernel
theorem dL_flip_6 : decode cL_flip 6 = .ok (.goto 9, 3) := by decide +kernel
theorem dL_flip_9 : decode cL_flip 9 = .ok (.astore_n 3, 1) := by decide +kernel
theorem dL_flip_10 : decode cL_flip 10 = .ok (.iconst 1, 1) := by decide +kernel
theorem dL_flip_11 : decode cL_flip 11 = .ok (.ireturn, 1) := by decide +kernel
theorem dL_flip_12 : decode cL_flip 12 = .ok (.astore_n 3, 1) := by decide +kernel
theorem dL_flip_13 : decode cL_flip 13 = .ok (.iconst 2, 1) := by decide +kernel
theorem dL_flip_14 : decode cL_flip 14 = .ok (.ireturn, 1) := by decide +kernel
theorem dL_flip_15 : decode cL_flip 15 = .ok (.iconst 0, 1) := by decide +kernel
theorem dL_flip_16 : decode cL_flip 16 = .ok (.ireturn, 1) := by decide +kernel
theorem cwL_flip : mx_cwS yL_flip cL_flip 4 ((some .int)) [(0, 6, 9, 32), (0, 6, 12, 19)] 3 := ⟨wd_0, wd_1817, by decide +kernel, wd_1816⟩
set_option maxHeartbeats 4000000 in
set_option maxRecDepth 100000 in
theorem tL_flip (l : Launch) (G : mwG) (ad : Nat → Nat) (fu : Nat) (a2 : Int32) (a3 : Int32) (M : mwM) (L : mwL) {r0 : Int32} {M0 : mwM} {L0 : mwL} (hst : l.stackTraces = false) (hD : DL_flip fu a2 a3 M L = some (r0, M0, L0)) : Met l yL_flip (Cond.codeWith yL_flip cL_flip 4 ((some .int)) [(0, 6, 9, 32), (0, 6, 12, 19)] :: GT) ({ frames := 9, cells := 1, slots := 6, locals := 163 }) (mx_Pre G ad NF TF FF M L [.ref (ad 0), .int a2, .int a3]) (mw_Qi G ad NF TF FF (mw_eqI r0 M0 L0)) 1 6 (mw_fr G) := by
  refine mx_enterW (by decide) (Nat.le_of_ble_eq_true rfl) ?_
  intro p e s m below meth c ls C KX hr hlocks htab hw hl
  have hw0 := hw
  have hl : lv_has ls 4 [(0, .ref (ad 0)), (1, .int a2), (2, .int a3)] := hl
  unfold DL_flip at hD
  refine lv_aload_n C.1.1 C.1.2.1 dL_flip_0 rfl (lv_at hl 0 rfl) ?_
  refine lv_iload_n C.1.1 C.1.2.1 dL_flip_1 rfl (lv_at hl 1 rfl) ?_
  refine lv_iload_n C.1.1 C.1.2.1 dL_flip_2 rfl (lv_at hl 2 rfl) ?_
  obtain ⟨z3, M1, L2, h1, hD⟩ := g_b3 hD
  refine mx_cvV (As := [.int a2, .int a3]) (rest := []) C KX hw (tX11_flip l G ad fu a2 a3 M L hst h1) kc_11 (by decide) tf_0 wd_1818 cwX11_flip ⟨Nat.le_of_ble_eq_true rfl, Nat.le_of_ble_eq_true rfl⟩ rfl hl.1 (Nat.le_of_ble_eq_true rfl) dL_flip_3 rfl rfl ⟨Nat.le_of_ble_eq_true rfl, Nat.le_of_ble_eq_true rfl⟩ rfl (fun H locs ce q9 hz hw hce hcv hcl => ?_) (fun H locs hz hw => ?_)
  · replace hD := g_neg hz hD
    by_cases hz3 : z3 = 3
    · replace hD := g_pos hz3 hD
      rw [hz3] at hcl
      refine vx_catch (own := "CarHouseLaw") (name := "java/lang/IndexOutOfBoundsException") (E := "java/lang/IndexOutOfBoundsException") C.1.2.2.2.1 [] ⟨0, 6, 9, 32⟩ [⟨0, 6, 12, 19⟩] htab (fun z h => nomatch h) (by decide) (by decide) (C.1.2.2.2.2 _ wd_1248) (mx_cast KX 3) hce hcv hcl ?_
      refine lv_astore_n (lv' := [(3, .ref q9), (0, .ref (ad 0)), (1, .int a2), (2, .int a3)]) C.1.1 C.1.2.1 dL_flip_9 rfl hl (by decide) rfl (fun ls hl => ?_)
      refine lv_iconst (v := 1) C.1.1 C.1.2.1 dL_flip_10 (by decide) ?_
      exact mr_iret C hr hlocks hw rfl (Option.some.inj hD) dL_flip_11
    replace hD := g_neg hz3 hD
    by_cases hz2 : z3 = 2
    · replace hD := g_pos hz2 hD
      rw [hz2] at hcl
      refine vx_catch (own := "CarHouseLaw") (name := "java/lang/IllegalArgumentException") (E := "java/lang/IllegalArgumentException") C.1.2.2.2.1 [⟨0, 6, 9, 32⟩] ⟨0, 6, 12, 19⟩ [] htab (fun z h => by cases List.mem_singleton.mp h; exact Or.inr ⟨by decide, _, C.1.2.2.2.2 _ wd_1248, KX.2.2.2.2.2.1⟩) (by decide) (by decide) (C.1.2.2.2.2 _ wd_768) (mx_cast KX 2) hce hcv hcl ?_
      refine lv_astore_n (lv' := [(3, .ref q9), (0, .ref (ad 0)), (1, .int a2), (2, .int a3)]) C.1.1 C.1.2.1 dL_flip_12 rfl hl (by decide) rfl (fun ls hl => ?_)
      refine lv_iconst (v := 2) C.1.1 C.1.2.1 dL_flip_13 (by decide) ?_
      exact mr_iret C hr hlocks hw rfl (Option.some.inj hD) dL_flip_14
    replace hD := g_neg hz2 hD
    cases hD
  replace hD := g_pos hz hD
  refine lv_goto (tgt := 15) C.1.1 C.1.2.1 dL_flip_6 (by decide) ?_
  refine lv_iconst (v := 0) C.1.1 C.1.2.1 dL_flip_15 (by decide) ?_
  exact mr_iret C hr hlocks hw rfl (Option.some.inj hD) dL_flip_16

theorem dL_silence_0 : decode cL_silence 0 = .ok (.aload_n 3, 1) := by decide +kernel
theorem dL_silence_1 : decode cL_silence 1 = .ok (.iconst 0, 1) := by decide +kernel
theorem dL_silence_2 : decode cL_silence 2 = .ok (.aload_n 0, 1) := by decide +kernel
theorem dL_silence_3 : decode cL_silence 3 = .ok (.iload_n 1, 1) := by decide +kernel
theorem dL_silence_4 : decode cL_silence 4 = .ok (.iload_n 2, 1) := by decide +kernel
theorem dL_silence_5 : decode cL_silence 5 = .ok (.invokevirtual 54, 3) := by decide +kernel
theorem dL_silence_8 : decode cL_silence 8 = .ok (.i2l, 1) := by decide +kernel
theorem dL_silence_9 : decode cL_silence 9 = .ok (.lastore, 1) := by decide +kernel
theorem dL_silence_10 : decode cL_silence 10 = .ok (.goto 7, 3) := by decide +kernel
theorem dL_silence_13 : decode cL_silence 13 = .ok (.astore 4, 2) := by decide +kernel
theorem dL_silence_15 : decode cL_silence 15 = .ok (.iconst 1, 1) := by decide +kernel
theorem dL_silence_16 : decode cL_silence 16 = .ok (.ireturn, 1) := by decide +kernel
theorem dL_silence_17 : decode cL_silence 17 = .ok (.iconst 0, 1) := by decide +kernel
theorem dL_silence_18 : decode cL_silence 18 = .ok (.ireturn, 1) := by decide +kernel
theorem cwL_silence : mx_cwS yL_silence cL_silence 5 ((some .int)) [(0, 10, 13, 32)] 4 := ⟨wd_0, wd_1825, by decide +kernel, wd_1824⟩
set_option maxHeartbeats 4000000 in
set_option maxRecDepth 100000 in
theorem tL_silence (l : Launch) (G : mwG) (ad : Nat → Nat) (fu : Nat) (a2 : Int32) (a3 : Int32) (M : mwM) (L : mwL) {r0 : Int32} {M0 : mwM} {L0 : mwL} (hst : l.stackTraces = false) (hD : DL_silence fu a2 a3 M L = some (r0, M0, L0)) : Met l yL_silence (Cond.codeWith yL_silence cL_silence 5 ((some .int)) [(0, 10, 13, 32)] :: GT) ({ frames := 9, cells := 1, slots := 6, locals := 165 }) (mx_Pre G ad NF TF FF M L [.ref (ad 0), .int a2, .int a3, .ref (ad 1577)]) (mw_Qi G ad NF TF FF (mw_eqI r0 M0 L0)) 1 6 (mw_fr G) := by
  refine mx_enterW (by decide) (Nat.le_of_ble_eq_true rfl) ?_
  intro p e s m below meth c ls C KX hr hlocks htab hw hl
  have hw0 := hw
  have hl : lv_has ls 5 [(0, .ref (ad 0)), (1, .int a2), (2, .int a3), (3, .ref (ad 1577))] := hl
  unfold DL_silence at hD
  refine lv_aload_n C.1.1 C.1.2.1 dL_silence_0 rfl (lv_at hl 3 rfl) ?_
  refine lv_iconst (v := 0) C.1.1 C.1.2.1 dL_silence_1 (by decide) ?_
  refine lv_aload_n C.1.1 C.1.2.1 dL_silence_2 rfl (lv_at hl 0 rfl) ?_
  refine lv_iload_n C.1.1 C.1.2.1 dL_silence_3 rfl (lv_at hl 1 rfl) ?_
  refine lv_iload_n C.1.1 C.1.2.1 dL_silence_4 rfl (lv_at hl 2 rfl) ?_
  obtain ⟨z3, M1, L2, h1, hD⟩ := g_b3 hD
  refine mx_cvI (As := [.int a2, .int a3]) (rest := [.int 0, .ref (ad 1577)]) C KX hw (tX11_silence l G ad fu a2 a3 M L hst h1) kc_11 (by decide) tf_0 wd_1826 cwX11_silence ⟨Nat.le_of_ble_eq_true rfl, Nat.le_of_ble_eq_true rfl⟩ rfl hl.1 (Nat.le_of_ble_eq_true rfl) dL_silence_5 rfl rfl ⟨Nat.le_of_ble_eq_true rfl, Nat.le_of_ble_eq_true rfl⟩ rfl (fun H locs ce q9 hz hw hce hcv hcl => ?_) (fun H locs hz hw => ?_)
  · replace hD := g_neg hz hD
    by_cases hz3 : z3.1 = 3
    · replace hD := g_pos hz3 hD
      rw [hz3] at hcl
      refine vx_catch (own := "CarHouseLaw") (name := "java/lang/IndexOutOfBoundsException") (E := "java/lang/IndexOutOfBoundsException") C.1.2.2.2.1 [] ⟨0, 10, 13, 32⟩ [] htab (fun z h => nomatch h) (by decide) (by decide) (C.1.2.2.2.2 _ wd_1248) (mx_cast KX 3) hce hcv hcl ?_
      refine lv_astore (lv' := [(4, .ref q9), (0, .ref (ad 0)), (1, .int a2), (2, .int a3), (3, .ref (ad 1577))]) C.1.1 C.1.2.1 dL_silence_13 hl (by decide) rfl (fun ls hl => ?_)
      refine lv_iconst (v := 1) C.1.1 C.1.2.1 dL_silence_15 (by decide) ?_
      exact mr_iret C hr hlocks hw rfl (Option.some.inj hD) dL_silence_16
    replace hD := g_neg hz3 hD
    cases hD
  replace hD := g_pos hz hD
  refine lv_i2l C.1.1 C.1.2.1 dL_silence_8 rfl ?_
  obtain ⟨L5, eL5, hD⟩ := g_let hD
  refine mr_last C hw (by decide) tf_1577 (show vp_in 0 1 from by unfold vp_in; decide) dL_silence_9 (fun H locs hw => ?_)
  replace hw : mw_W G ad NF TF FF M1 L5 H locs := by rw [eL5]; exact hw
  refine lv_goto (tgt := 17) C.1.1 C.1.2.1 dL_silence_10 (by decide) ?_
  refine lv_iconst (v := 0) C.1.1 C.1.2.1 dL_silence_17 (by decide) ?_
  exact mr_iret C hr hlocks hw rfl (Option.some.inj hD) dL_silence_18

theorem dL_running_0 : decode cL_running 0 = .ok (.aload_n 3, 1) := by decide +kernel
theorem dL_running_1 : decode cL_running 1 = .ok (.iconst 0, 1) := by decide +kernel
theorem dL_running_2 : decode cL_running 2 = .ok (.aload_n 0, 1) := by decide +kernel
theorem dL_running_3 : decode cL_running 3 = .ok (.iload_n 1, 1) := by decide +kernel
theorem dL_running_4 : decode cL_running 4 = .ok (.iload_n 2, 1) := by decide +kernel
theorem dL_running_5 : decode cL_running 5 = .ok (.invokevirtual 57, 3) := by decide +kernel
theorem dL_running_8 : decode cL_running 8 = .ok (.i2l, 1) := by decide +kernel
theorem dL_running_9 : decode cL_running 9 = .ok (.lastore, 1) := by decide +kernel
theorem dL_running_10 : decode cL_running 10 = .ok (.goto 7, 3) := by decide +kernel
theorem dL_running_13 : decode cL_running 13 = .ok (.astore 4, 2) := by decide +kernel
theorem dL_running_15 : decode cL_running 15 = .ok (.iconst 1, 1) := by decide +kernel
theorem dL_running_16 : decode cL_running 16 = .ok (.ireturn, 1) := by decide +kernel
theorem dL_running_17 : decode cL_running 17 = .ok (.iconst 0, 1) := by decide +kernel
theorem dL_running_18 : decode cL_running 18 = .ok (.ireturn, 1) := by decide +kernel
theorem cwL_running : mx_cwS yL_running cL_running 5 ((some .int)) [(0, 10, 13, 32)] 4 := ⟨wd_0, wd_1833, by decide +kernel, wd_1832⟩
set_option maxHeartbeats 4000000 in
set_option maxRecDepth 100000 in
theorem tL_running (l : Launch) (G : mwG) (ad : Nat → Nat) (fu : Nat) (a2 : Int32) (a3 : Int32) (M : mwM) (L : mwL) {r0 : Int32} {M0 : mwM} {L0 : mwL} (hst : l.stackTraces = false) (hD : DL_running fu a2 a3 M L = some (r0, M0, L0)) : Met l yL_running (Cond.codeWith yL_running cL_running 5 ((some .int)) [(0, 10, 13, 32)] :: GT) ({ frames := 9, cells := 1, slots := 6, locals := 163 }) (mx_Pre G ad NF TF FF M L [.ref (ad 0), .int a2, .int a3, .ref (ad 1577)]) (mw_Qi G ad NF TF FF (mw_eqI r0 M0 L0)) 1 6 (mw_fr G) := by
  refine mx_enterW (by decide) (Nat.le_of_ble_eq_true rfl) ?_
  intro p e s m below meth c ls C KX hr hlocks htab hw hl
  have hw0 := hw
  have hl : lv_has ls 5 [(0, .ref (ad 0)), (1, .int a2), (2, .int a3), (3, .ref (ad 1577))] := hl
  unfold DL_running at hD
  refine lv_aload_n C.1.1 C.1.2.1 dL_running_0 rfl (lv_at hl 3 rfl) ?_
  refine lv_iconst (v := 0) C.1.1 C.1.2.1 dL_running_1 (by decide) ?_
  refine lv_aload_n C.1.1 C.1.2.1 dL_running_2 rfl (lv_at hl 0 rfl) ?_
  refine lv_iload_n C.1.1 C.1.2.1 dL_running_3 rfl (lv_at hl 1 rfl) ?_
  refine lv_iload_n C.1.1 C.1.2.1 dL_running_4 rfl (lv_at hl 2 rfl) ?_
  obtain ⟨z3, M1, L2, h1, hD⟩ := g_b3 hD
  refine mx_cvI (As := [.int a2, .int a3]) (rest := [.int 0, .ref (ad 1577)]) C KX hw (tX11_running l G ad fu a2 a3 M L hst h1) kc_11 (by decide) tf_0 wd_1834 cwX11_running ⟨Nat.le_of_ble_eq_true rfl, Nat.le_of_ble_eq_true rfl⟩ rfl hl.1 (Nat.le_of_ble_eq_true rfl) dL_running_5 rfl rfl ⟨Nat.le_of_ble_eq_true rfl, Nat.le_of_ble_eq_true rfl⟩ rfl (fun H locs ce q9 hz hw hce hcv hcl => ?_) (fun H locs hz hw => ?_)
  · replace hD := g_neg hz hD
    by_cases hz3 : z3.1 = 3
    · replace hD := g_pos hz3 hD
      rw [hz3] at hcl
      refine vx_catch (own := "CarHouseLaw") (name := "java/lang/IndexOutOfBoundsException") (E := "java/lang/IndexOutOfBoundsException") C.1.2.2.2.1 [] ⟨0, 10, 13, 32⟩ [] htab (fun z h => nomatch h) (by decide) (by decide) (C.1.2.2.2.2 _ wd_1248) (mx_cast KX 3) hce hcv hcl ?_
      refine lv_astore (lv' := [(4, .ref q9), (0, .ref (ad 0)), (1, .int a2), (2, .int a3), (3, .ref (ad 1577))]) C.1.1 C.1.2.1 dL_running_13 hl (by decide) rfl (fun ls hl => ?_)
      refine lv_iconst (v := 1) C.1.1 C.1.2.1 dL_running_15 (by decide) ?_
      exact mr_iret C hr hlocks hw rfl (Option.some.inj hD) dL_running_16
    replace hD := g_neg hz3 hD
    cases hD
  replace hD := g_pos hz hD
  refine lv_i2l C.1.1 C.1.2.1 dL_running_8 rfl ?_
  obtain ⟨L5, eL5, hD⟩ := g_let hD
  refine mr_last C hw (by decide) tf_1577 (show vp_in 0 1 from by unfold vp_in; decide) dL_running_9 (fun H locs hw => ?_)
  replace hw : mw_W G ad NF TF FF M1 L5 H locs := by rw [eL5]; exact hw
  refine lv_goto (tgt := 17) C.1.1 C.1.2.1 dL_running_10 (by decide) ?_
  refine lv_iconst (v := 0) C.1.1 C.1.2.1 dL_running_17 (by decide) ?_
  exact mr_iret C hr hlocks hw rfl (Option.some.inj hD) dL_running_18

theorem dL_task_0 : decode cL_task 0 = .ok (.aload_n 3, 1) := by decide +kernel
theorem dL_task_1 : decode cL_task 1 = .ok (.iconst 0, 1) := by decide +kernel
theorem dL_task_2 : decode cL_task 2 = .ok (.aload_n 0, 1) := by decide +kernel
theorem dL_task_3 : decode cL_task 3 = .ok (.iload_n 1, 1) := by decide +kernel
theorem dL_task_4 : decode cL_task 4 = .ok (.iload_n 2, 1) := by decide +kernel
theorem dL_task_5 : decode cL_task 5 = .ok (.invokevirtual 60, 3) := by decide +kernel
theorem dL_task_8 : decode cL_task 8 = .ok (.i2l, 1) := by decide +kernel
theorem dL_task_9 : decode cL_task 9 = .ok (.lastore, 1) := by decide +kernel
theorem dL_task_10 : decode cL_task 10 = .ok (.goto 11, 3) := by decide +kernel
theorem dL_task_13 : decode cL_task 13 = .ok (.astore 4, 2) := by decide +kernel
theorem dL_task_15 : decode cL_task 15 = .ok (.iconst 1, 1) := by decide +kernel
theorem dL_task_16 : decode cL_task 16 = .ok (.ireturn, 1) := by decide +kernel
theorem dL_task_17 : decode cL_task 17 = .ok (.astore 4, 2) := by decide +kernel
theorem dL_task_19 : decode cL_task 19 = .ok (.iconst 2, 1) := by decide +kernel
theorem dL_task_20 : decode cL_task 20 = .ok (.ireturn, 1) := by decide +kernel
theorem dL_task_21 : decode cL_task 21 = .ok (.iconst 0, 1) := by decide +kernel
theorem dL_task_22 : decode cL_task 22 = .ok (.ireturn, 1) := by decide +kernel
theorem cwL_task : mx_cwS yL_task cL_task 5 ((some .int)) [(0, 10, 13, 32), (0, 10, 17, 19)] 4 := ⟨wd_0, wd_1845, by decide +kernel, wd_1844⟩
set_option maxHeartbeats 4000000 in
set_option maxRecDepth 100000 in
theorem tL_task (l : Launch) (G : mwG) (ad : Nat → Nat) (fu : Nat) (a2 : Int32) (a3 : Int32) (M : mwM) (L : mwL) {r0 : Int32} {M0 : mwM} {L0 : mwL} (hst : l.stackTraces = false) (hD : DL_task fu a2 a3 M L = some (r0, M0, L0)) : Met l yL_task (Cond.codeWith yL_task cL_task 5 ((some .int)) [(0, 10, 13, 32), (0, 10, 17, 19)] :: GT) ({ frames := 9, cells := 1, slots := 6, locals := 164 }) (mx_Pre G ad NF TF FF M L [.ref (ad 0), .int a2, .int a3, .ref (ad 1577)]) (mw_Qi G ad NF TF FF (mw_eqI r0 M0 L0)) 1 6 (mw_fr G) := by
  refine mx_enterW (by decide) (Nat.le_of_ble_eq_true rfl) ?_
  intro p e s m below meth c ls C KX hr hlocks htab hw hl
  have hw0 := hw
  have hl : lv_has ls 5 [(0, .ref (ad 0)), (1, .int a2), (2, .int a3), (3, .ref (ad 1577))] := hl
  unfold DL_task at hD
  refine lv_aload_n C.1.1 C.1.2.1 dL_task_0 rfl (lv_at hl 3 rfl) ?_
  refine lv_iconst (v := 0) C.1.1 C.1.2.1 dL_task_1 (by decide) ?_
  refine lv_aload_n C.1.1 C.1.2.1 dL_task_2 rfl (lv_at hl 0 rfl) ?_
  refine lv_iload_n C.1.1 C.1.2.1 dL_task_3 rfl (lv_at hl 1 rfl) ?_
  refine lv_iload_n C.1.1 C.1.2.1 dL_task_4 rfl (lv_at hl 2 rfl) ?_
  obtain ⟨z3, M1, L2, h1, hD⟩ := g_b3 hD
  refine mx_cvI (As := [.int a2, .int a3]) (rest := [.int 0, .ref (ad 1577)]) C KX hw (tX11_task l G ad fu a2 a3 M L hst h1) kc_11 (by decide) tf_0 wd_1846 cwX11_task ⟨Nat.le_of_ble_eq_true rfl, Nat.le_of_ble_eq_true rfl⟩ rfl hl.1 (Nat.le_of_ble_eq_true rfl) dL_task_5 rfl rfl ⟨Nat.le_of_ble_eq_true rfl, Nat.le_of_ble_eq_true rfl⟩ rfl (fun H locs ce q9 hz hw hce hcv hcl => ?_) (fun H locs hz hw => ?_)
  · replace hD := g_neg hz hD
    by_cases hz3 : z3.1 = 3
    · replace hD := g_pos hz3 hD
      rw [hz3] at hcl
      refine vx_catch (own := "CarHouseLaw") (name := "java/lang/IndexOutOfBoundsException") (E := "java/lang/IndexOutOfBoundsException") C.1.2.2.2.1 [] ⟨0, 10, 13, 32⟩ [⟨0, 10, 17, 19⟩] htab (fun z h => nomatch h) (by decide) (by decide) (C.1.2.2.2.2 _ wd_1248) (mx_cast KX 3) hce hcv hcl ?_
      refine lv_astore (lv' := [(4, .ref q9), (0, .ref (ad 0)), (1, .int a2), (2, .int a3), (3, .ref (ad 1577))]) C.1.1 C.1.2.1 dL_task_13 hl (by decide) rfl (fun ls hl => ?_)
      refine lv_iconst (v := 1) C.1.1 C.1.2.1 dL_task_15 (by decide) ?_
      exact mr_iret C hr hlocks hw rfl (Option.some.inj hD) dL_task_16
    replace hD := g_neg hz3 hD
    by_cases hz2 : z3.1 = 2
    · replace hD := g_pos hz2 hD
      rw [hz2] at hcl
      refine vx_catch (own := "CarHouseLaw") (name := "java/lang/IllegalArgumentException") (E := "java/lang/IllegalArgumentException") C.1.2.2.2.1 [⟨0, 10, 13, 32⟩] ⟨0, 10, 17, 19⟩ [] htab (fun z h => by cases List.mem_singleton.mp h; exact Or.inr ⟨by decide, _, C.1.2.2.2.2 _ wd_1248, KX.2.2.2.2.2.1⟩) (by decide) (by decide) (C.1.2.2.2.2 _ wd_768) (mx_cast KX 2) hce hcv hcl ?_
      refine lv_astore (lv' := [(4, .ref q9), (0, .ref (ad 0)), (1, .int a2), (2, .int a3), (3, .ref (ad 1577))]) C.1.1 C.1.2.1 dL_task_17 hl (by decide) rfl (fun ls hl => ?_)
      refine lv_iconst (v := 2) C.1.1 C.1.2.1 dL_task_19 (by decide) ?_
      exact mr_iret C hr hlocks hw rfl (Option.some.inj hD) dL_task_20
    replace hD := g_neg hz2 hD
    cases hD
  replace hD := g_pos hz hD
  refine lv_i2l C.1.1 C.1.2.1 dL_task_8 rfl ?_
  obtain ⟨L5, eL5, hD⟩ := g_let hD
  refine mr_last C hw (by decide) tf_1577 (show vp_in 0 1 from by unfold vp_in; decide) dL_task_9 (fun H locs hw => ?_)
  replace hw : mw_W G ad NF TF FF M1 L5 H locs := by rw [eL5]; exact hw
  refine lv_goto (tgt := 21) C.1.1 C.1.2.1 dL_task_10 (by decide) ?_
  refine lv_iconst (v := 0) C.1.1 C.1.2.1 dL_task_21 (by decide) ?_
  exact mr_iret C hr hlocks hw rfl (Option.some.inj hD) dL_task_22

theorem dL_active_0 : decode cL_active 0 = .ok (.aload_n 3, 1) := by decide +kernel
theorem dL_active_1 : decode cL_active 1 = .ok (.iconst 0, 1) := by decide +kernel
theorem dL_active_2 : decode cL_active 2 = .ok (.aload_n 0, 1) := by decide +kernel
theorem dL_active_3 : decode cL_active 3 = .ok (.iload_n 1, 1) := by decide +kernel
theorem dL_active_4 : decode cL_active 4 = .ok (.iload_n 2, 1) := by decide +kernel
theorem dL_active_5 : decode cL_active 5 = .ok (.invokevirtual 63, 3) := by decide +kernel
theorem dL_active_8 : decode cL_active 8 = .ok (.i2l, 1) := by decide +kernel
theorem dL_active_9 : decode cL_active 9 = .ok (.lastore, 1) := by decide +kernel
theorem dL_active_10 : decode cL_active 10 = .ok (.goto 7, 3) := by decide +kernel
theorem dL_active_13 : decode cL_active 13 = .ok (.astore 4, 2) := by decide +kernel
theorem dL_active_15 : decode cL_active 15 = .ok (.iconst 1, 1) := by decide +kernel
theorem dL_active_16 : decode cL_active 16 = .ok (.ireturn, 1) := by decide +kernel
theorem dL_active_17 : decode cL_active 17 = .ok (.iconst 0, 1) := by decide +kernel
theorem dL_active_18 : decode cL_active 18 = .ok (.ireturn, 1) := by decide +kernel
theorem cwL_active : mx_cwS yL_active cL_active 5 ((some .int)) [(0, 10, 13, 32)] 4 := ⟨wd_0, wd_1854, by decide +kernel, wd_1853⟩
set_option maxHeartbeats 4000000 in
set_option maxRecDepth 100000 in
theorem tL_active (l : Launch) (G : mwG) (ad : Nat → Nat) (fu : Nat) (a2 : Int32) (a3 : Int32) (M : mwM) (L : mwL) {r0 : Int32} {M0 : mwM} {L0 : mwL} (hst : l.stackTraces = false) (hD : DL_active fu a2 a3 M L = some (r0, M0, L0)) : Met l yL_active (Cond.codeWith yL_active cL_active 5 ((some .int)) [(0, 10, 13, 32)] :: GT) ({ frames := 9, cells := 1, slots := 6, locals := 163 }) (mx_Pre G ad NF TF FF M L [.ref (ad 0), .int a2, .int a3, .ref (ad 1577)]) (mw_Qi G ad NF TF FF (mw_eqI r0 M0 L0)) 1 6 (mw_fr G) := by
  refine mx_enterW (by decide) (Nat.le_of_ble_eq_true rfl) ?_
  intro p e s m below meth c ls C KX hr hlocks htab hw hl
  have hw0 := hw
  have hl : lv_has ls 5 [(0, .ref (ad 0)), (1, .int a2), (2, .int a3), (3, .ref (ad 1577))] := hl
  unfold DL_active at hD
  refine lv_aload_n C.1.1 C.1.2.1 dL_active_0 rfl (lv_at hl 3 rfl) ?_
  refine lv_iconst (v := 0) C.1.1 C.1.2.1 dL_active_1 (by decide) ?_
  refine lv_aload_n C.1.1 C.1.2.1 dL_active_2 rfl (lv_at hl 0 rfl) ?_
  refine lv_iload_n C.1.1 C.1.2.1 dL_active_3 rfl (lv_at hl 1 rfl) ?_
  refine lv_iload_n C.1.1 C.1.2.1 dL_active_4 rfl (lv_at hl 2 rfl) ?_
  obtain ⟨z3, M1, L2, h1, hD⟩ := g_b3 hD
  refine mx_cvI (As := [.int a2, .int a3]) (rest := [.int 0, .ref (ad 1577)]) C KX hw (tX11_active l G ad fu a2 a3 M L hst h1) kc_11 (by decide) tf_0 wd_1855 cwX11_active ⟨Nat.le_of_ble_eq_true rfl, Nat.le_of_ble_eq_true rfl⟩ rfl hl.1 (Nat.le_of_ble_eq_true rfl) dL_active_5 rfl rfl ⟨Nat.le_of_ble_eq_true rfl, Nat.le_of_ble_eq_true rfl⟩ rfl (fun H locs ce q9 hz hw hce hcv hcl => ?_) (fun H locs hz hw => ?_)
  · replace hD := g_neg hz hD
    by_cases hz3 : z3.1 = 3
    · replace hD := g_pos hz3 hD
      rw [hz3] at hcl
      refine vx_catch (own := "CarHouseLaw") (name := "java/lang/IndexOutOfBoundsException") (E := "java/lang/IndexOutOfBoundsException") C.1.2.2.2.1 [] ⟨0, 10, 13, 32⟩ [] htab (fun z h => nomatch h) (by decide) (by decide) (C.1.2.2.2.2 _ wd_1248) (mx_cast KX 3) hce hcv hcl ?_
      refine lv_astore (lv' := [(4, .ref q9), (0, .ref (ad 0)), (1, .int a2), (2, .int a3), (3, .ref (ad 1577))]) C.1.1 C.1.2.1 dL_active_13 hl (by decide) rfl (fun ls hl => ?_)
      refine lv_iconst (v := 1) C.1.1 C.1.2.1 dL_active_15 (by decide) ?_
      exact mr_iret C hr hlocks hw rfl (Option.some.inj hD) dL_active_16
    replace hD := g_neg hz3 hD
    cases hD
  replace hD := g_pos hz hD
  refine lv_i2l C.1.1 C.1.2.1 dL_active_8 rfl ?_
  obtain ⟨L5, eL5, hD⟩ := g_let hD
  refine mr_last C hw (by decide) tf_1577 (show vp_in 0 1 from by unfold vp_in; decide) dL_active_9 (fun H locs hw => ?_)
  replace hw : mw_W G ad NF TF FF M1 L5 H locs := by rw [eL5]; exact hw
  refine lv_goto (tgt := 17) C.1.1 C.1.2.1 dL_active_10 (by decide) ?_
  refine lv_iconst (v := 0) C.1.1 C.1.2.1 dL_active_17 (by decide) ?_
  exact mr_iret C hr hlocks hw rfl (Option.some.inj hD) dL_active_18

theorem dL_value_0 : decode cL_value 0 = .ok (.aload_n 3, 1) := by decide +kernel
theorem dL_value_1 : decode cL_value 1 = .ok (.iconst 0, 1) := by decide +kernel
theorem dL_value_2 : decode cL_value 2 = .ok (.aload_n 0, 1) := by decide +kernel
theorem dL_value_3 : decode cL_value 3 = .ok (.iload_n 1, 1) := by decide +kernel
theorem dL_value_4 : decode cL_value 4 = .ok (.iload_n 2, 1) := by decide +kernel
theorem dL_value_5 : decode cL_value 5 = .ok (.invokevirtual 66, 3) := by decide +kernel
theorem dL_value_8 : decode cL_value 8 = .ok (.lastore, 1) := by decide +kernel
theorem dL_value_9 : decode cL_value 9 = .ok (.goto 7, 3) := by decide +kernel
theorem dL_value_12 : decode cL_value 12 = .ok (.astore 4, 2) := by decide +kernel
theorem dL_value_14 : decode cL_value 14 = .ok (.iconst 1, 1) := by decide +kernel
theorem dL_value_15 : decode cL_value 15 = .ok (.ireturn, 1) := by decide +kernel
theorem dL_value_16 : decode cL_value 16 = .ok (.iconst 0, 1) := by decide +kernel
theorem dL_value_17 : decode cL_value 17 = .ok (.ireturn, 1) := by decide +kernel
theorem cwL_value : mx_cwS yL_value cL_value 5 ((some .int)) [(0, 9, 12, 32)] 4 := ⟨wd_0, wd_1870, by decide +kernel, wd_1869⟩
set_option maxHeartbeats 4000000 in
set_option maxRecDepth 100000 in
theorem tL_value (l : Launch) (G : mwG) (ad : Nat → Nat) (fu : Nat) (a2 : Int32) (a3 : Int32) (M : mwM) (L : mwL) {r0 : Int32} {M0 : mwM} {L0 : mwL} (hst : l.stackTraces = false) (hD : DL_value fu a2 a3 M L = some (r0, M0, L0)) : Met l yL_value (Cond.codeWith yL_value cL_value 5 ((some .int)) [(0, 9, 12, 32)] :: GT) ({ frames := 9, cells := 1, slots := 6, locals := 163 }) (mx_Pre G ad NF TF FF M L [.ref (ad 0), .int a2, .int a3, .ref (ad 1577)]) (mw_Qi G ad NF TF FF (mw_eqI r0 M0 L0)) 1 6 (mw_fr G) := by
  refine mx_enterW (by decide) (Nat.le_of_ble_eq_true rfl) ?_
  intro p e s m below meth c ls C KX hr hlocks htab hw hl
  have hw0 := hw
  have hl : lv_has ls 5 [(0, .ref (ad 0)), (1, .int a2), (2, .int a3), (3, .ref (ad 1577))] := hl
  unfold DL_value at hD
  refine lv_aload_n C.1.1 C.1.2.1 dL_value_0 rfl (lv_at hl 3 rfl) ?_
  refine lv_iconst (v := 0) C.1.1 C.1.2.1 dL_value_1 (by decide) ?_
  refine lv_aload_n C.1.1 C.1.2.1 dL_value_2 rfl (lv_at hl 0 rfl) ?_
  refine lv_iload_n C.1.1 C.1.2.1 dL_value_3 rfl (lv_at hl 1 rfl) ?_
  refine lv_iload_n C.1.1 C.1.2.1 dL_value_4 rfl (lv_at hl 2 rfl) ?_
  obtain ⟨z3, M1, L2, h1, hD⟩ := g_b3 hD
  refine mx_cvL (As := [.int a2, .int a3]) (rest := [.int 0, .ref (ad 1577)]) C KX hw (tX11_value l G ad fu a2 a3 M L hst h1) kc_11 (by decide) tf_0 wd_1871 cwX11_value ⟨Nat.le_of_ble_eq_true rfl, Nat.le_of_ble_eq_true rfl⟩ rfl hl.1 (Nat.le_of_ble_eq_true rfl) dL_value_5 rfl rfl ⟨Nat.le_of_ble_eq_true rfl, Nat.le_of_ble_eq_true rfl⟩ rfl (fun H locs ce q9 hz hw hce hcv hcl => ?_) (fun H locs hz hw => ?_)
  · replace hD := g_neg hz hD
    by_cases hz3 : z3.1 = 3
    · replace hD := g_pos hz3 hD
      rw [hz3] at hcl
      refine vx_catch (own := "CarHouseLaw") (name := "java/lang/IndexOutOfBoundsException") (E := "java/lang/IndexOutOfBoundsException") C.1.2.2.2.1 [] ⟨0, 9, 12, 32⟩ [] htab (fun z h => nomatch h) (by decide) (by decide) (C.1.2.2.2.2 _ wd_1248) (mx_cast KX 3) hce hcv hcl ?_
      refine lv_astore (lv' := [(4, .ref q9), (0, .ref (ad 0)), (1, .int a2), (2, .int a3), (3, .ref (ad 1577))]) C.1.1 C.1.2.1 dL_value_12 hl (by decide) rfl (fun ls hl => ?_)
      refine lv_iconst (v := 1) C.1.1 C.1.2.1 dL_value_14 (by decide) ?_
      exact mr_iret C hr hlocks hw rfl (Option.some.inj hD) dL_value_15
    replace hD := g_neg hz3 hD
    cases hD
  replace hD := g_pos hz hD
  obtain ⟨L5, eL5, hD⟩ := g_let hD
  refine mr_last C hw (by decide) tf_1577 (show vp_in 0 1 from by unfold vp_in; decide) dL_value_8 (fun H locs hw => ?_)
  replace hw : mw_W G ad NF TF FF M1 L5 H locs := by rw [eL5]; exact hw
  refine lv_goto (tgt := 16) C.1.1 C.1.2.1 dL_value_9 (by decide) ?_
  refine lv_iconst (v := 0) C.1.1 C.1.2.1 dL_value_16 (by decide) ?_
  exact mr_iret C hr hlocks hw rfl (Option.some.inj hD) dL_value_17

theorem dL_chart_0 : decode cL_chart 0 = .ok (.aload_n 3, 1) := by decide +kernel
theorem dL_chart_1 : decode cL_chart 1 = .ok (.iconst 0, 1) := by decide +kernel
theorem dL_chart_2 : decode cL_chart 2 = .ok (.aload_n 0, 1) := by decide +kernel
theorem dL_chart_3 : decode cL_chart 3 = .ok (.iload_n 1, 1) := by decide +kernel
theorem dL_chart_4 : decode cL_chart 4 = .ok (.iload_n 2, 1) := by decide +kernel
theorem dL_chart_5 : decode cL_chart 5 = .ok (.invokevirtual 70, 3) := by decide +kernel
theorem dL_chart_8 : decode cL_chart 8 = .ok (.i2l, 1) := by decide +kernel
theorem dL_chart_9 : decode cL_chart 9 = .ok (.lastore, 1) := by decide +kernel
theorem dL_chart_10 : decode cL_chart 10 = .ok (.goto 11, 3) := by decide +kernel
theorem dL_chart_13 : decode cL_chart 13 = .ok (.astore 4, 2) := by decide +kernel
theorem dL_chart_15 : decode cL_chart 15 = .ok (.iconst 1, 1) := by decide +kernel
theorem dL_chart_16 : decode cL_chart 16 = .ok (.ireturn, 1) := by decide +kernel
theorem dL_chart_17 : decode cL_chart 17 = .ok (.astore 4, 2) := by decide +kernel
theorem dL_chart_19 : decode cL_chart 19 = .ok (.iconst 2, 1) := by decide +kernel
theorem dL_chart_20 : decode cL_chart 20 = .ok (.ireturn, 1) := by decide +kernel
theorem dL_chart_21 : decode cL_chart 21 = .ok (.iconst 0, 1) := by decide +kernel
theorem dL_chart_22 : decode cL_chart 22 = .ok (.ireturn, 1) := by decide +kernel
theorem cwL_chart : mx_cwS yL_chart cL_chart 5 ((some .int)) [(0, 10, 13, 32), (0, 10, 17, 19)] 4 := ⟨wd_0, wd_1878, by decide +kernel, wd_1877⟩
set_option maxHeartbeats 4000000 in
set_option maxRecDepth 100000 in
theorem tL_chart (l : Launch) (G : mwG) (ad : Nat → Nat) (fu : Nat) (a2 : Int32) (a3 : Int32) (M : mwM) (L : mwL) {r0 : Int32} {M0 : mwM} {L0 : mwL} (hst : l.stackTraces = false) (hD : DL_chart fu a2 a3 M L = some (r0, M0, L0)) : Met l yL_chart (Cond.codeWith yL_chart cL_chart 5 ((some .int)) [(0, 10, 13, 32), (0, 10, 17, 19)] :: GT) ({ frames := 9, cells := 1, slots := 6, locals := 163 }) (mx_Pre G ad NF TF FF M L [.ref (ad 0), .int a2, .int a3, .ref (ad 1577)]) (mw_Qi G ad NF TF FF (mw_eqI r0 M0 L0)) 1 6 (mw_fr G) := by
  refine mx_enterW (by decide) (Nat.le_of_ble_eq_true rfl) ?_
  intro p e s m below meth c ls C KX hr hlocks htab hw hl
  have hw0 := hw
  have hl : lv_has ls 5 [(0, .ref (ad 0)), (1, .int a2), (2, .int a3), (3, .ref (ad 1577))] := hl
  unfold DL_chart at hD
  refine lv_aload_n C.1.1 C.1.2.1 dL_chart_0 rfl (lv_at hl 3 rfl) ?_
  refine lv_iconst (v := 0) C.1.1 C.1.2.1 dL_chart_1 (by decide) ?_
  refine lv_aload_n C.1.1 C.1.2.1 dL_chart_2 rfl (lv_at hl 0 rfl) ?_
  refine lv_iload_n C.1.1 C.1.2.1 dL_chart_3 rfl (lv_at hl 1 rfl) ?_
  refine lv_iload_n C.1.1 C.1.2.1 dL_chart_4 rfl (lv_at hl 2 rfl) ?_
  obtain ⟨z3, M1, L2, h1, hD⟩ := g_b3 hD
  refine mx_cvI (As := [.int a2, .int a3]) (rest := [.int 0, .ref (ad 1577)]) C KX hw (tX11_chart l G ad fu a2 a3 M L hst h1) kc_11 (by decide) tf_0 wd_1879 cwX11_chart ⟨Nat.le_of_ble_eq_true rfl, Nat.le_of_ble_eq_true rfl⟩ rfl hl.1 (Nat.le_of_ble_eq_true rfl) dL_chart_5 rfl rfl ⟨Nat.le_of_ble_eq_true rfl, Nat.le_of_ble_eq_true rfl⟩ rfl (fun H locs ce q9 hz hw hce hcv hcl => ?_) (fun H locs hz hw => ?_)
  · replace hD := g_neg hz hD
    by_cases hz3 : z3.1 = 3
    · replace hD := g_pos hz3 hD
      rw [hz3] at hcl
      refine vx_catch (own := "CarHouseLaw") (name := "java/lang/IndexOutOfBoundsException") (E := "java/lang/IndexOutOfBoundsException") C.1.2.2.2.1 [] ⟨0, 10, 13, 32⟩ [⟨0, 10, 17, 19⟩] htab (fun z h => nomatch h) (by decide) (by decide) (C.1.2.2.2.2 _ wd_1248) (mx_cast KX 3) hce hcv hcl ?_
      refine lv_astore (lv' := [(4, .ref q9), (0, .ref (ad 0)), (1, .int a2), (2, .int a3), (3, .ref (ad 1577))]) C.1.1 C.1.2.1 dL_chart_13 hl (by decide) rfl (fun ls hl => ?_)
      refine lv_iconst (v := 1) C.1.1 C.1.2.1 dL_chart_15 (by decide) ?_
      exact mr_iret C hr hlocks hw rfl (Option.some.inj hD) dL_chart_16
    replace hD := g_neg hz3 hD
    by_cases hz2 : z3.1 = 2
    · replace hD := g_pos hz2 hD
      rw [hz2] at hcl
      refine vx_catch (own := "CarHouseLaw") (name := "java/lang/IllegalArgumentException") (E := "java/lang/IllegalArgumentException") C.1.2.2.2.1 [⟨0, 10, 13, 32⟩] ⟨0, 10, 17, 19⟩ [] htab (fun z h => by cases List.mem_singleton.mp h; exact Or.inr ⟨by decide, _, C.1.2.2.2.2 _ wd_1248, KX.2.2.2.2.2.1⟩) (by decide) (by decide) (C.1.2.2.2.2 _ wd_768) (mx_cast KX 2) hce hcv hcl ?_
      refine lv_astore (lv' := [(4, .ref q9), (0, .ref (ad 0)), (1, .int a2), (2, .int a3), (3, .ref (ad 1577))]) C.1.1 C.1.2.1 dL_chart_17 hl (by decide) rfl (fun ls hl => ?_)
      refine lv_iconst (v := 2) C.1.1 C.1.2.1 dL_chart_19 (by decide) ?_
      exact mr_iret C hr hlocks hw rfl (Option.some.inj hD) dL_chart_20
    replace hD := g_neg hz2 hD
    cases hD
  replace hD := g_pos hz hD
  refine lv_i2l C.1.1 C.1.2.1 dL_chart_8 rfl ?_
  obtain ⟨L5, eL5, hD⟩ := g_let hD
  refine mr_last C hw (by decide) tf_1577 (show vp_in 0 1 from by unfold vp_in; decide) dL_chart_9 (fun H locs hw => ?_)
  replace hw : mw_W G ad NF TF FF M1 L5 H locs := by rw [eL5]; exact hw
  refine lv_goto (tgt := 21) C.1.1 C.1.2.1 dL_chart_10 (by decide) ?_
  refine lv_iconst (v := 0) C.1.1 C.1.2.1 dL_chart_21 (by decide) ?_
  exact mr_iret C hr hlocks hw rfl (Option.some.inj hD) dL_chart_22

theorem dL_trouble_0 : decode cL_trouble 0 = .ok (.aload_n 3, 1) := by decide +kernel
theorem dL_trouble_1 : decode cL_trouble 1 = .ok (.iconst 0, 1) := by decide +kernel
theorem dL_trouble_2 : decode cL_trouble 2 = .ok (.aload_n 0, 1) := by decide +kernel
theorem dL_trouble_3 : decode cL_trouble 3 = .ok (.iload_n 1, 1) := by decide +kernel
theorem dL_trouble_4 : decode cL_trouble 4 = .ok (.iload_n 2, 1) := by decide +kernel
theorem dL_trouble_5 : decode cL_trouble 5 = .ok (.invokevirtual 73, 3) := by decide +kernel
theorem dL_trouble_8 : decode cL_trouble 8 = .ok (.i2l, 1) := by decide +kernel
theorem dL_trouble_9 : decode cL_trouble 9 = .ok (.lastore, 1) := by decide +kernel
theorem dL_trouble_10 : decode cL_trouble 10 = .ok (.goto 11, 3) := by decide +kernel
theorem dL_trouble_13 : decode cL_trouble 13 = .ok (.astore 4, 2) := by decide +kernel
theorem dL_trouble_15 : decode cL_trouble 15 = .ok (.iconst 1, 1) := by decide +kernel
theorem dL_trouble_16 : decode cL_trouble 16 = .ok (.ireturn, 1) := by decide +kernel
theorem dL_trouble_17 : decode cL_trouble 17 = .ok (.astore 4, 2) := by decide +kernel
theorem dL_trouble_19 : decode cL_trouble 19 = .ok (.iconst 2, 1) := by decide +kernel
theorem dL_trouble_20 : decode cL_trouble 20 = .ok (.ireturn, 1) := by decide +kernel
theorem dL_trouble_21 : decode cL_trouble 21 = .ok (.iconst 0, 1) := by decide +kernel
theorem dL_trouble_22 : decode cL_trouble 22 = .ok (.ireturn, 1) := by decide +kernel
theorem cwL_trouble : mx_cwS yL_trouble cL_trouble 5 ((some .int)) [(0, 10, 13, 32), (0, 10, 17, 19)] 4 := ⟨wd_0, wd_1891, by decide +kernel, wd_1890⟩
set_option maxHeartbeats 4000000 in
set_option maxRecDepth 100000 in
theorem tL_trouble (l : Launch) (G : mwG) (ad : Nat → Nat) (fu : Nat) (a2 : Int32) (a3 : Int32) (M : mwM) (L : mwL) {r0 : Int32} {M0 : mwM} {L0 : mwL} (hst : l.stackTraces = false) (hD : DL_trouble fu a2 a3 M L = some (r0, M0, L0)) : Met l yL_trouble (Cond.codeWith yL_trouble cL_trouble 5 ((some .int)) [(0, 10, 13, 32), (0, 10, 17, 19)] :: GT) ({ frames := 9, cells := 1, slots := 6, locals := 163 }) (mx_Pre G ad NF TF FF M L [.ref (ad 0), .int a2, .int a3, .ref (ad 1577)]) (mw_Qi G ad NF TF FF (mw_eqI r0 M0 L0)) 1 6 (mw_fr G) := by
  refine mx_enterW (by decide) (Nat.le_of_ble_eq_true rfl) ?_
  intro p e s m below meth c ls C KX hr hlocks htab hw hl
  have hw0 := hw
  have hl : lv_has ls 5 [(0, .ref (ad 0)), (1, .int a2), (2, .int a3), (3, .ref (ad 1577))] := hl
  unfold DL_trouble at hD
  refine lv_aload_n C.1.1 C.1.2.1 dL_trouble_0 rfl (lv_at hl 3 rfl) ?_
  refine lv_iconst (v := 0) C.1.1 C.1.2.1 dL_trouble_1 (by decide) ?_
  refine lv_aload_n C.1.1 C.1.2.1 dL_trouble_2 rfl (lv_at hl 0 rfl) ?_
  refine lv_iload_n C.1.1 C.1.2.1 dL_trouble_3 rfl (lv_at hl 1 rfl) ?_
  refine lv_iload_n C.1.1 C.1.2.1 dL_trouble_4 rfl (lv_at hl 2 rfl) ?_
  obtain ⟨z3, M1, L2, h1, hD⟩ := g_b3 hD
  refine mx_cvI (As := [.int a2, .int a3]) (rest := [.int 0, .ref (ad 1577)]) C KX hw (tX11_trouble l G ad fu a2 a3 M L hst h1) kc_11 (by decide) tf_0 wd_1892 cwX11_trouble ⟨Nat.le_of_ble_eq_true rfl, Nat.le_of_ble_eq_true rfl⟩ rfl hl.1 (Nat.le_of_ble_eq_true rfl) dL_trouble_5 rfl rfl ⟨Nat.le_of_ble_eq_true rfl, Nat.le_of_ble_eq_true rfl⟩ rfl (fun H locs ce q9 hz hw hce hcv hcl => ?_) (fun H locs hz hw => ?_)
  · replace hD := g_neg hz hD
    by_cases hz3 : z3.1 = 3
    · replace hD := g_pos hz3 hD
      rw [hz3] at hcl
      refine vx_catch (own := "CarHouseLaw") (name := "java/lang/IndexOutOfBoundsException") (E := "java/lang/IndexOutOfBoundsException") C.1.2.2.2.1 [] ⟨0, 10, 13, 32⟩ [⟨0, 10, 17, 19⟩] htab (fun z h => nomatch h) (by decide) (by decide) (C.1.2.2.2.2 _ wd_1248) (mx_cast KX 3) hce hcv hcl ?_
      refine lv_astore (lv' := [(4, .ref q9), (0, .ref (ad 0)), (1, .int a2), (2, .int a3), (3, .ref (ad 1577))]) C.1.1 C.1.2.1 dL_trouble_13 hl (by decide) rfl (fun ls hl => ?_)
      refine lv_iconst (v := 1) C.1.1 C.1.2.1 dL_trouble_15 (by decide) ?_
      exact mr_iret C hr hlocks hw rfl (Option.some.inj hD) dL_trouble_16
    replace hD := g_neg hz3 hD
    by_cases hz2 : z3.1 = 2
    · replace hD := g_pos hz2 hD
      rw [hz2] at hcl
      refine vx_catch (own := "CarHouseLaw") (name := "java/lang/IllegalArgumentException") (E := "java/lang/IllegalArgumentException") C.1.2.2.2.1 [⟨0, 10, 13, 32⟩] ⟨0, 10, 17, 19⟩ [] htab (fun z h => by cases List.mem_singleton.mp h; exact Or.inr ⟨by decide, _, C.1.2.2.2.2 _ wd_1248, KX.2.2.2.2.2.1⟩) (by decide) (by decide) (C.1.2.2.2.2 _ wd_768) (mx_cast KX 2) hce hcv hcl ?_
      refine lv_astore (lv' := [(4, .ref q9), (0, .ref (ad 0)), (1, .int a2), (2, .int a3), (3, .ref (ad 1577))]) C.1.1 C.1.2.1 dL_trouble_17 hl (by decide) rfl (fun ls hl => ?_)
      refine lv_iconst (v := 2) C.1.1 C.1.2.1 dL_trouble_19 (by decide) ?_
      exact mr_iret C hr hlocks hw rfl (Option.some.inj hD) dL_trouble_20
    replace hD := g_neg hz2 hD
    cases hD
  replace hD := g_pos hz hD
  refine lv_i2l C.1.1 C.1.2.1 dL_trouble_8 rfl ?_
  obtain ⟨L5, eL5, hD⟩ := g_let hD
  refine mr_last C hw (by decide) tf_1577 (show vp_in 0 1 from by unfold vp_in; decide) dL_trouble_9 (fun H locs hw => ?_)
  replace hw : mw_W G ad NF TF FF M1 L5 H locs := by rw [eL5]; exact hw
  refine lv_goto (tgt := 21) C.1.1 C.1.2.1 dL_trouble_10 (by decide) ?_
  refine lv_iconst (v := 0) C.1.1 C.1.2.1 dL_trouble_21 (by decide) ?_
  exact mr_iret C hr hlocks hw rfl (Option.some.inj hD) dL_trouble_22

theorem dL_cycle_0 : decode cL_cycle 0 = .ok (.aload_n 2, 1) := by decide +kernel
theorem dL_cycle_1 : decode cL_cycle 1 = .ok (.iconst 0, 1) := by decide +kernel
theorem dL_cycle_2 : decode cL_cycle 2 = .ok (.aload_n 0, 1) := by decide +kernel
theorem dL_cycle_3 : decode cL_cycle 3 = .ok (.iload_n 1, 1) := by decide +kernel
theorem dL_cycle_4 : decode cL_cycle 4 = .ok (.invokevirtual 76, 3) := by decide +kernel
theorem dL_cycle_7 : decode cL_cycle 7 = .ok (.i2l, 1) := by decide +kernel
theorem dL_cycle_8 : decode cL_cycle 8 = .ok (.lastore, 1) := by decide +kernel
theorem dL_cycle_9 : decode cL_cycle 9 = .ok (.goto 6, 3) := by decide +kernel
theorem dL_cycle_12 : decode cL_cycle 12 = .ok (.astore_n 3, 1) := by decide +kernel
theorem dL_cycle_13 : decode cL_cycle 13 = .ok (.iconst 1, 1) := by decide +kernel
theorem dL_cycle_14 : decode cL_cycle 14 = .ok (.ireturn, 1) := by decide +kernel
theorem dL_cycle_15 : decode cL_cycle 15 = .ok (.iconst 0, 1) := by decide +kernel
theorem dL_cycle_16 : decode cL_cycle 16 = .ok (.ireturn, 1) := by decide +kernel
theorem cwL_cycle : mx_cwS yL_cycle cL_cycle 4 ((some .int)) [(0, 9, 12, 13)] 3 := ⟨wd_0, wd_1904, by decide +kernel, wd_1903⟩
set_option maxHeartbeats 4000000 in
set_option maxRecDepth 100000 in
theorem tL_cycle (l : Launch) (G : mwG) (ad : Nat → Nat) (fu : Nat) (a2 : Int32) (M : mwM) (L : mwL) {r0 : Int32} {M0 : mwM} {L0 : mwL} (hst : l.stackTraces = false) (hD : DL_cycle fu a2 M L = some (r0, M0, L0)) : Met l yL_cycle (Cond.codeWith yL_cycle cL_cycle 4 ((some .int)) [(0, 9, 12, 13)] :: GT) ({ frames := 9, cells := 1, slots := 6, locals := 162 }) (mx_Pre G ad NF TF FF M L [.ref (ad 0), .int a2, .ref (ad 1577)]) (mw_Qi G ad NF TF FF (mw_eqI r0 M0 L0)) 1 6 (mw_fr G) := by
  refine mx_enterW (by decide) (Nat.le_of_ble_eq_true rfl) ?_
  intro p e s m below meth c ls C KX hr hlocks htab hw hl
  have hw0 := hw
  have hl : lv_has ls 4 [(0, .ref (ad 0)), (1, .int a2), (2, .ref (ad 1577))] := hl
  unfold DL_cycle at hD
  refine lv_aload_n C.1.1 C.1.2.1 dL_cycle_0 rfl (lv_at hl 2 rfl) ?_
  refine lv_iconst (v := 0) C.1.1 C.1.2.1 dL_cycle_1 (by decide) ?_
  refine lv_aload_n C.1.1 C.1.2.1 dL_cycle_2 rfl (lv_at hl 0 rfl) ?_
  refine lv_iload_n C.1.1 C.1.2.1 dL_cycle_3 rfl (lv_at hl 1 rfl) ?_
  obtain ⟨z3, M1, L2, h1, hD⟩ := g_b3 hD
  refine mx_cvI (As := [.int a2]) (rest := [.int 0, .ref (ad 1577)]) C KX hw (tX11_cycle l G ad fu a2 M L hst h1) kc_11 (by decide) tf_0 wd_1905 cwX11_cycle ⟨Nat.le_of_ble_eq_true rfl, Nat.le_of_ble_eq_true rfl⟩ rfl hl.1 (Nat.le_of_ble_eq_true rfl) dL_cycle_4 rfl rfl ⟨Nat.le_of_ble_eq_true rfl, Nat.le_of_ble_eq_true rfl⟩ rfl (fun H locs ce q9 hz hw hce hcv hcl => ?_) (fun H locs hz hw => ?_)
  · replace hD := g_neg hz hD
    by_cases hz1 : z3.1 = 1
    · replace hD := g_pos hz1 hD
      rw [hz1] at hcl
      refine vx_catch (own := "CarHouseLaw") (name := "java/lang/IllegalStateException") (E := "java/lang/IllegalStateException") C.1.2.2.2.1 [] ⟨0, 9, 12, 13⟩ [] htab (fun z h => nomatch h) (by decide) (by decide) (C.1.2.2.2.2 _ wd_686) (mx_cast KX 1) hce hcv hcl ?_
      refine lv_astore_n (lv' := [(3, .ref q9), (0, .ref (ad 0)), (1, .int a2), (2, .ref (ad 1577))]) C.1.1 C.1.2.1 dL_cycle_12 rfl hl (by decide) rfl (fun ls hl => ?_)
      refine lv_iconst (v := 1) C.1.1 C.1.2.1 dL_cycle_13 (by decide) ?_
      exact mr_iret C hr hlocks hw rfl (Option.some.inj hD) dL_cycle_14
    replace hD := g_neg hz1 hD
    cases hD
  replace hD := g_pos hz hD
  refine lv_i2l C.1.1 C.1.2.1 dL_cycle_7 rfl ?_
  obtain ⟨L5, eL5, hD⟩ := g_let hD
  refine mr_last C hw (by decide) tf_1577 (show vp_in 0 1 from by unfold vp_in; decide) dL_cycle_8 (fun H locs hw => ?_)
  replace hw : mw_W G ad NF TF FF M1 L5 H locs := by rw [eL5]; exact hw
  refine lv_goto (tgt := 15) C.1.1 C.1.2.1 dL_cycle_9 (by decide) ?_
  refine lv_iconst (v := 0) C.1.1 C.1.2.1 dL_cycle_15 (by decide) ?_
  exact mr_iret C hr hlocks hw rfl (Option.some.inj hD) dL_cycle_16

theorem dL_counted_0 : decode cL_counted 0 = .ok (.aload_n 2, 1) := by decide +kernel
theorem dL_counted_1 : decode cL_counted 1 = .ok (.iconst 0, 1) := by decide +kernel
theorem dL_counted_2 : decode cL_counted 2 = .ok (.aload_n 0, 1) := by decide +kernel
theorem dL_counted_3 : decode cL_counted 3 = .ok (.iload_n 1, 1) := by decide +kernel
theorem dL_counted_4 : decode cL_counted 4 = .ok (.invokevirtual 80, 3) := by decide +kernel
theorem dL_counted_7 : decode cL_counted 7 = .ok (.i2l, 1) := by decide +kernel
theorem dL_counted_8 : decode cL_counted 8 = .ok (.lastore, 1) := by decide +kernel
theorem dL_counted_9 : decode cL_counted 9 = .ok (.goto 6, 3) := by decide +kernel
theorem dL_counted_12 : decode cL_counted 12 = .ok (.astore_n 3, 1) := by decide +kernel
theorem dL_counted_13 : decode cL_counted 13 = .ok (.iconst 1, 1) := by decide +kernel
theorem dL_counted_14 : decode cL_counted 14 = .ok (.ireturn, 1) := by decide +kernel
theorem dL_counted_15 : decode cL_counted 15 = .ok (.iconst 0, 1) := by decide +kernel
theorem dL_counted_16 : decode cL_counted 16 = .ok (.ireturn, 1) := by decide +kernel
theorem cwL_counted : mx_cwS yL_counted cL_counted 4 ((some .int)) [(0, 9, 12, 19)] 3 := ⟨wd_0, wd_1919, by decide +kernel, wd_1918⟩
set_option maxHeartbeats 4000000 in
set_option maxRecDepth 100000 in
theorem tL_counted (l : Launch) (G : mwG) (ad : Nat → Nat) (fu : Nat) (a2 : Int32) (M : mwM) (L : mwL) {r0 : Int32} {M0 : mwM} {L0 : mwL} (hst : l.stackTraces = false) (hD : DL_counted fu a2 M L = some (r0, M0, L0)) : Met l yL_counted (Cond.codeWith yL_counted cL_counted 4 ((some .int)) [(0, 9, 12, 19)] :: GT) ({ frames := 9, cells := 1, slots := 6, locals := 162 }) (mx_Pre G ad NF TF FF M L [.ref (ad 0), .int a2, .ref (ad 1577)]) (mw_Qi G ad NF TF FF (mw_eqI r0 M0 L0)) 1 6 (mw_fr G) := by
  refine mx_enterW (by decide) (Nat.le_of_ble_eq_true rfl) ?_
  intro p e s m below meth c ls C KX hr hlocks htab hw hl
  have hw0 := hw
  have hl : lv_has ls 4 [(0, .ref (ad 0)), (1, .int a2), (2, .ref (ad 1577))] := hl
  unfold DL_counted at hD
  refine lv_aload_n C.1.1 C.1.2.1 dL_counted_0 rfl (lv_at hl 2 rfl) ?_
  refine lv_iconst (v := 0) C.1.1 C.1.2.1 dL_counted_1 (by decide) ?_
  refine lv_aload_n C.1.1 C.1.2.1 dL_counted_2 rfl (lv_at hl 0 rfl) ?_
  refine lv_iload_n C.1.1 C.1.2.1 dL_counted_3 rfl (lv_at hl 1 rfl) ?_
  obtain ⟨z3, M1, L2, h1, hD⟩ := g_b3 hD
  refine mx_cvI (As := [.int a2]) (rest := [.int 0, .ref (ad 1577)]) C KX hw (tX11_counted l G ad fu a2 M L hst h1) kc_11 (by decide) tf_0 wd_1920 cwX11_counted ⟨Nat.le_of_ble_eq_true rfl, Nat.le_of_ble_eq_true rfl⟩ rfl hl.1 (Nat.le_of_ble_eq_true rfl) dL_counted_4 rfl rfl ⟨Nat.le_of_ble_eq_true rfl, Nat.le_of_ble_eq_true rfl⟩ rfl (fun H locs ce q9 hz hw hce hcv hcl => ?_) (fun H locs hz hw => ?_)
  · replace hD := g_neg hz hD
    by_cases hz2 : z3.1 = 2
    · replace hD := g_pos hz2 hD
      rw [hz2] at hcl
      refine vx_catch (own := "CarHouseLaw") (name := "java/lang/IllegalArgumentException") (E := "java/lang/IllegalArgumentException") C.1.2.2.2.1 [] ⟨0, 9, 12, 19⟩ [] htab (fun z h => nomatch h) (by decide) (by decide) (C.1.2.2.2.2 _ wd_768) (mx_cast KX 2) hce hcv hcl ?_
      refine lv_astore_n (lv' := [(3, .ref q9), (0, .ref (ad 0)), (1, .int a2), (2, .ref (ad 1577))]) C.1.1 C.1.2.1 dL_counted_12 rfl hl (by decide) rfl (fun ls hl => ?_)
      refine lv_iconst (v := 1) C.1.1 C.1.2.1 dL_counted_13 (by decide) ?_
      exact mr_iret C hr hlocks hw rfl (Option.some.inj hD) dL_counted_14
    replace hD := g_neg hz2 hD
    cases hD
  replace hD := g_pos hz hD
  refine lv_i2l C.1.1 C.1.2.1 dL_counted_7 rfl ?_
  obtain ⟨L5, eL5, hD⟩ := g_let hD
  refine mr_last C hw (by decide) tf_1577 (show vp_in 0 1 from by unfold vp_in; decide) dL_counted_8 (fun H locs hw => ?_)
  replace hw : mw_W G ad NF TF FF M1 L5 H locs := by rw [eL5]; exact hw
  refine lv_goto (tgt := 15) C.1.1 C.1.2.1 dL_counted_9 (by decide) ?_
  refine lv_iconst (v := 0) C.1.1 C.1.2.1 dL_counted_15 (by decide) ?_
  exact mr_iret C hr hlocks hw rfl (Option.some.inj hD) dL_counted_16

theorem dL_ask_0 : decode cL_ask 0 = .ok (.aload_n 2, 1) := by decide +kernel
theorem dL_ask_1 : decode cL_ask 1 = .ok (.iconst 0, 1) := by decide +kernel
theorem dL_ask_2 : decode cL_ask 2 = .ok (.aload_n 0, 1) := by decide +kernel
theorem dL_ask_3 : decode cL_ask 3 = .ok (.iload_n 1, 1) := by decide +kernel
theorem dL_ask_4 : decode cL_ask 4 = .ok (.invokevirtual 83, 3) := by decide +kernel
theorem dL_ask_7 : decode cL_ask 7 = .ok (.i2l, 1) := by decide +kernel
theorem dL_ask_8 : decode cL_ask 8 = .ok (.lastore, 1) := by decide +kernel
theorem dL_ask_9 : decode cL_ask 9 = .ok (.goto 9, 3) := by decide +kernel
theorem dL_ask_12 : decode cL_ask 12 = .ok (.astore_n 3, 1) := by decide +kernel
theorem dL_ask_13 : decode cL_ask 13 = .ok (.iconst 1, 1) := by decide +kernel
theorem dL_ask_14 : decode cL_ask 14 = .ok (.ireturn, 1) := by decide +kernel
theorem dL_ask_15 : decode cL_ask 15 = .ok (.astore_n 3, 1) := by decide +kernel
theorem dL_ask_16 : decode cL_ask 16 = .ok (.iconst 2, 1) := by decide +kernel
theorem dL_ask_17 : decode cL_ask 17 = .ok (.ireturn, 1) := by decide +kernel
theorem dL_ask_18 : decode cL_ask 18 = .ok (.iconst 0, 1) := by decide +kernel
theorem dL_ask_19 : decode cL_ask 19 = .ok (.ireturn, 1) := by decide +kernel
theorem cwL_ask : mx_cwS yL_ask cL_ask 4 ((some .int)) [(0, 9, 12, 32), (0, 9, 15, 13)] 3 := ⟨wd_0, wd_1927, by decide +kernel, wd_1926⟩
set_option maxHeartbeats 4000000 in
set_option maxRecDepth 100000 in
theorem tL_ask (l : Launch) (G : mwG) (ad : Nat → Nat) (fu : Nat) (a2 : Int32) (M : mwM) (L : mwL) {r0 : Int32} {M0 : mwM} {L0 : mwL} (hst : l.stackTraces = false) (hD : DL_ask fu a2 M L = some (r0, M0, L0)) : Met l yL_ask (Cond.codeWith yL_ask cL_ask 4 ((some .int)) [(0, 9, 12, 32), (0, 9, 15, 13)] :: GT) ({ frames := 9, cells := 1, slots := 6, locals := 163 }) (mx_Pre G ad NF TF FF M L [.ref (ad 0), .int a2, .ref (ad 1577)]) (mw_Qi G ad NF TF FF (mw_eqI r0 M0 L0)) 1 6 (mw_fr G) := by
  refine mx_enterW (by decide) (Nat.le_of_ble_eq_true rfl) ?_
  intro p e s m below meth c ls C KX hr hlocks htab hw hl
  have hw0 := hw
  have hl : lv_has ls 4 [(0, .ref (ad 0)), (1, .int a2), (2, .ref (ad 1577))] := hl
  unfold DL_ask at hD
  refine lv_aload_n C.1.1 C.1.2.1 dL_ask_0 rfl (lv_at hl 2 rfl) ?_
  refine lv_iconst (v := 0) C.1.1 C.1.2.1 dL_ask_1 (by decide) ?_
  refine lv_aload_n C.1.1 C.1.2.1 dL_ask_2 rfl (lv_at hl 0 rfl) ?_
  refine lv_iload_n C.1.1 C.1.2.1 dL_ask_3 rfl (lv_at hl 1 rfl) ?_
  obtain ⟨z3, M1, L2, h1, hD⟩ := g_b3 hD
  refine mx_cvI (As := [.int a2]) (rest := [.int 0, .ref (ad 1577)]) C KX hw (tX11_ask l G ad fu a2 M L hst h1) kc_11 (by decide) tf_0 wd_1928 cwX11_ask ⟨Nat.le_of_ble_eq_true rfl, Nat.le_of_ble_eq_true rfl⟩ rfl hl.1 (Nat.le_of_ble_eq_true rfl) dL_ask_4 rfl rfl ⟨Nat.le_of_ble_eq_true rfl, Nat.le_of_ble_eq_true rfl⟩ rfl (fun H locs ce q9 hz hw hce hcv hcl => ?_) (fun H locs hz hw => ?_)
  · replace hD := g_neg hz hD
    by_cases hz3 : z3.1 = 3
    · replace hD := g_pos hz3 hD
      rw [hz3] at hcl
      refine vx_catch (own := "CarHouseLaw") (name := "java/lang/IndexOutOfBoundsException") (E := "java/lang/IndexOutOfBoundsException") C.1.2.2.2.1 [] ⟨0, 9, 12, 32⟩ [⟨0, 9, 15, 13⟩] htab (fun z h => nomatch h) (by decide) (by decide) (C.1.2.2.2.2 _ wd_1248) (mx_cast KX 3) hce hcv hcl ?_
      refine lv_astore_n (lv' := [(3, .ref q9), (0, .ref (ad 0)), (1, .int a2), (2, .ref (ad 1577))]) C.1.1 C.1.2.1 dL_ask_12 rfl hl (by decide) rfl (fun ls hl => ?_)
      refine lv_iconst (v := 1) C.1.1 C.1.2.1 dL_ask_13 (by decide) ?_
      exact mr_iret C hr hlocks hw rfl (Option.some.inj hD) dL_ask_14
    replace hD := g_neg hz3 hD
    by_cases hz1 : z3.1 = 1
    · replace hD := g_pos hz1 hD
      rw [hz1] at hcl
      refine vx_catch (own := "CarHouseLaw") (name := "java/lang/IllegalStateException") (E := "java/lang/IllegalStateException") C.1.2.2.2.1 [⟨0, 9, 12, 32⟩] ⟨0, 9, 15, 13⟩ [] htab (fun z h => by cases List.mem_singleton.mp h; exact Or.inr ⟨by decide, _, C.1.2.2.2.2 _ wd_1248, KX.2.2.2.2.2.2⟩) (by decide) (by decide) (C.1.2.2.2.2 _ wd_686) (mx_cast KX 1) hce hcv hcl ?_
      refine lv_astore_n (lv' := [(3, .ref q9), (0, .ref (ad 0)), (1, .int a2), (2, .ref (ad 1577))]) C.1.1 C.1.2.1 dL_ask_15 rfl hl (by decide) rfl (fun ls hl => ?_)
      refine lv_iconst (v := 2) C.1.1 C.1.2.1 dL_ask_16 (by decide) ?_
      exact mr_iret C hr hlocks hw rfl (Option.some.inj hD) dL_ask_17
    replace hD := g_neg hz1 hD
    cases hD
  replace hD := g_pos hz hD
  refine lv_i2l C.1.1 C.1.2.1 dL_ask_7 rfl ?_
  obtain ⟨L5, eL5, hD⟩ := g_let hD
  refine mr_last C hw (by decide) tf_1577 (show vp_in 0 1 from by unfold vp_in; decide) dL_ask_8 (fun H locs hw => ?_)
  replace hw : mw_W G ad NF TF FF M1 L5 H locs := by rw [eL5]; exact hw
  refine lv_goto (tgt := 18) C.1.1 C.1.2.1 dL_ask_9 (by decide) ?_
  refine lv_iconst (v := 0) C.1.1 C.1.2.1 dL_ask_18 (by decide) ?_
  exact mr_iret C hr hlocks hw rfl (Option.some.inj hD) dL_ask_19

theorem dL_answer_0 : decode cL_answer 0 = .ok (.aload_n 2, 1) := by decide +kernel
theorem dL_answer_1 : decode cL_answer 1 = .ok (.iconst 0, 1) := by decide +kernel
theorem dL_answer_2 : decode cL_answer 2 = .ok (.aload_n 0, 1) := by decide +kernel
theorem dL_answer_3 : decode cL_answer 3 = .ok (.iload_n 1, 1) := by decide +kernel
theorem dL_answer_4 : decode cL_answer 4 = .ok (.invokevirtual 86, 3) := by decide +kernel
theorem dL_answer_7 : decode cL_answer 7 = .ok (.i2l, 1) := by decide +kernel
theorem dL_answer_8 : decode cL_answer 8 = .ok (.lastore, 1) := by decide +kernel
theorem dL_answer_9 : decode cL_answer 9 = .ok (.goto 6, 3) := by decide +kernel
theorem dL_answer_12 : decode cL_answer 12 = .ok (.astore_n 3, 1) := by decide +kernel
theorem dL_answer_13 : decode cL_answer 13 = .ok (.iconst 1, 1) := by decide +kernel
theorem dL_answer_14 : decode cL_answer 14 = .ok (.ireturn, 1) := by decide +kernel
theorem dL_answer_15 : decode cL_answer 15 = .ok (.iconst 0, 1) := by decide +kernel
theorem dL_answer_16 : decode cL_answer 16 = .ok (.ireturn, 1) := by decide +kernel
theorem cwL_answer : mx_cwS yL_answer cL_answer 4 ((some .int)) [(0, 9, 12, 32)] 3 := ⟨wd_0, wd_1936, by decide +kernel, wd_1935⟩
set_option maxHeartbeats 4000000 in
set_option maxRecDepth 100000 in
theorem tL_answer (l : Launch) (G : mwG) (ad : Nat → Nat) (fu : Nat) (a2 : Int32) (M : mwM) (L : mwL) {r0 : Int32} {M0 : mwM} {L0 : mwL} (hst : l.stackTraces = false) (hD : DL_answer fu a2 M L = some (r0, M0, L0)) : Met l yL_answer (Cond.codeWith yL_answer cL_answer 4 ((some .int)) [(0, 9, 12, 32)] :: GT) ({ frames := 9, cells := 1, slots := 6, locals := 162 }) (mx_Pre G ad NF TF FF M L [.ref (ad 0), .int a2, .ref (ad 1577)]) (mw_Qi G ad NF TF FF (mw_eqI r0 M0 L0)) 1 6 (mw_fr G) := by
  refine mx_enterW (by decide) (Nat.le_of_ble_eq_true rfl) ?_
  intro p e s m below meth c ls C KX hr hlocks htab hw hl
  have hw0 := hw
  have hl : lv_has ls 4 [(0, .ref (ad 0)), (1, .int a2), (2, .ref (ad 1577))] := hl
  unfold DL_answer at hD
  refine lv_aload_n C.1.1 C.1.2.1 dL_answer_0 rfl (lv_at hl 2 rfl) ?_
  refine lv_iconst (v := 0) C.1.1 C.1.2.1 dL_answer_1 (by decide) ?_
  refine lv_aload_n C.1.1 C.1.2.1 dL_answer_2 rfl (lv_at hl 0 rfl) ?_
  refine lv_iload_n C.1.1 C.1.2.1 dL_answer_3 rfl (lv_at hl 1 rfl) ?_
  obtain ⟨z3, M1, L2, h1, hD⟩ := g_b3 hD
  refine mx_cvI (As := [.int a2]) (rest := [.int 0, .ref (ad 1577)]) C KX hw (tX11_answer l G ad fu a2 M L hst h1) kc_11 (by decide) tf_0 wd_1937 cwX11_answer ⟨Nat.le_of_ble_eq_true rfl, Nat.le_of_ble_eq_true rfl⟩ rfl hl.1 (Nat.le_of_ble_eq_true rfl) dL_answer_4 rfl rfl ⟨Nat.le_of_ble_eq_true rfl, Nat.le_of_ble_eq_true rfl⟩ rfl (fun H locs ce q9 hz hw hce hcv hcl => ?_) (fun H locs hz hw => ?_)
  · replace hD := g_neg hz hD
    by_cases hz3 : z3.1 = 3
    · replace hD := g_pos hz3 hD
      rw [hz3] at hcl
      refine vx_catch (own := "CarHouseLaw") (name := "java/lang/IndexOutOfBoundsException") (E := "java/lang/IndexOutOfBoundsException") C.1.2.2.2.1 [] ⟨0, 9, 12, 32⟩ [] htab (fun z h => nomatch h) (by decide) (by decide) (C.1.2.2.2.2 _ wd_1248) (mx_cast KX 3) hce hcv hcl ?_
      refine lv_astore_n (lv' := [(3, .ref q9), (0, .ref (ad 0)), (1, .int a2), (2, .ref (ad 1577))]) C.1.1 C.1.2.1 dL_answer_12 rfl hl (by decide) rfl (fun ls hl => ?_)
      refine lv_iconst (v := 1) C.1.1 C.1.2.1 dL_answer_13 (by decide) ?_
      exact mr_iret C hr hlocks hw rfl (Option.some.inj hD) dL_answer_14
    replace hD := g_neg hz3 hD
    cases hD
  replace hD := g_pos hz hD
  refine lv_i2l C.1.1 C.1.2.1 dL_answer_7 rfl ?_
  obtain ⟨L5, eL5, hD⟩ := g_let hD
  refine mr_last C hw (by decide) tf_1577 (show vp_in 0 1 from by unfold vp_in; decide) dL_answer_8 (fun H locs hw => ?_)
  replace hw : mw_W G ad NF TF FF M1 L5 H locs := by rw [eL5]; exact hw
  refine lv_goto (tgt := 15) C.1.1 C.1.2.1 dL_answer_9 (by decide) ?_
  refine lv_iconst (v := 0) C.1.1 C.1.2.1 dL_answer_15 (by decide) ?_
  exact mr_iret C hr hlocks hw rfl (Option.some.inj hD) dL_answer_16
