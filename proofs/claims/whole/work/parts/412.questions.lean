theorem dX7_clear_0 : decode cX7_clear 0 = .ok (.aload_n 0, 1) := by decide +kernel
theorem dX7_clear_1 : decode cX7_clear 1 = .ok (.iconst 0, 1) := by decide +kernel
theorem dX7_clear_2 : decode cX7_clear 2 = .ok (.putfield 34, 3) := by decide +kernel
theorem dX7_clear_5 : decode cX7_clear 5 = .ok (.iconst 0, 1) := by decide +kernel
theorem dX7_clear_6 : decode cX7_clear 6 = .ok (.istore_n 1, 1) := by decide +kernel
theorem dX7_clear_7 : decode cX7_clear 7 = .ok (.iload_n 1, 1) := by decide +kernel
theorem dX7_clear_8 : decode cX7_clear 8 = .ok (.bipush 6, 2) := by decide +kernel
theorem dX7_clear_10 : decode cX7_clear 10 = .ok (.if_icmp .ge 37, 3) := by decide +kernel
theorem dX7_clear_13 : decode cX7_clear 13 = .ok (.aload_n 0, 1) := by decide +kernel
theorem dX7_clear_14 : decode cX7_clear 14 = .ok (.getfield 9, 3) := by decide +kernel
theorem dX7_clear_17 : decode cX7_clear 17 = .ok (.iload_n 1, 1) := by decide +kernel
theorem dX7_clear_18 : decode cX7_clear 18 = .ok (.iconst 1, 1) := by decide +kernel
theorem dX7_clear_19 : decode cX7_clear 19 = .ok (.iastore, 1) := by decide +kernel
theorem dX7_clear_20 : decode cX7_clear 20 = .ok (.aload_n 0, 1) := by decide +kernel
theorem dX7_clear_21 : decode cX7_clear 21 = .ok (.getfield 15, 3) := by decide +kernel
theorem dX7_clear_24 : decode cX7_clear 24 = .ok (.iload_n 1, 1) := by decide +kernel
theorem dX7_clear_25 : decode cX7_clear 25 = .ok (.iconst 0, 1) := by decide +kernel
theorem dX7_clear_26 : decode cX7_clear 26 = .ok (.bastore, 1) := by decide +kernel
theorem dX7_clear_27 : decode cX7_clear 27 = .ok (.aload_n 0, 1) := by decide +kernel
theorem dX7_clear_28 : decode cX7_clear 28 = .ok (.getfield 19, 3) := by decide +kernel
theorem dX7_clear_31 : decode cX7_clear 31 = .ok (.iload_n 1, 1) := by decide +kernel
theorem dX7_clear_32 : decode cX7_clear 32 = .ok (.iconst 0, 1) := by decide +kernel
theorem dX7_clear_33 : decode cX7_clear 33 = .ok (.bastore, 1) := by decide +kernel
theorem dX7_clear_34 : decode cX7_clear 34 = .ok (.aload_n 0, 1) := by decide +kernel
theorem dX7_clear_35 : decode cX7_clear 35 = .ok (.getfield 25, 3) := by decide +kernel
theorem dX7_clear_38 : decode cX7_clear 38 = .ok (.iload_n 1, 1) := by decide +kernel
theorem dX7_clear_39 : decode cX7_clear 39 = .ok (.iconst 0, 1) := by decide +kernel
theorem dX7_clear_40 : decode cX7_clear 40 = .ok (.iastore, 1) := by decide +kernel
theorem dX7_clear_41 : decode cX7_clear 41 = .ok (.iinc 1 1, 3) := by decide +kernel
theorem dX7_clear_44 : decode cX7_clear 44 = .ok (.goto (-37), 3) := by decide +kernel
theorem dX7_clear_47 : decode cX7_clear 47 = .ok (.return_, 1) := by decide +kernel
theorem cwX7_clear : mw_cwV yX7_clear cX7_clear 2 (none) 0 := ⟨⟨wd_11, wd_821, by decide +kernel⟩, wd_819, wd_820⟩
set_option maxHeartbeats 4000000 in
set_option maxRecDepth 100000 in
theorem tX7_clear (l : Launch) (G : mwG) (ad : Nat → Nat) (fu : Nat) (M : mwM) (L : mwL) {M0 : mwM} {L0 : mwL} (hD : DX7_clear fu M L = some (M0, L0)) : Met l yX7_clear (Cond.code yX7_clear cX7_clear 2 (none) :: GT) ({ frames := 0, cells := 0, slots := 0, locals := 0 }) (mw_Pre G ad NF TF FF M L [.ref (ad 275)]) (mw_Qv G ad NF TF FF (mw_eqV M0 L0)) 0 0 (mw_fr G) := by
  refine mw_enter (by decide) (Nat.le_of_ble_eq_true rfl) ?_
  intro p e s m below meth c ls C hr hlocks hnm hw hl
  have hl : lv_has ls 2 [(0, .ref (ad 275))] := hl
  have hh7 : ∀ (f : Nat) (v1 : Int32) (M : mwM) (L : mwL) (H : Heap) (locs : List Loc) (ls : Array Slot), fX7_clear_h7 fu f (v1, M, L) = some (M0, L0) → mw_W G ad NF TF FF M L H locs → lv_has ls 2 [(0, .ref (ad 275)), (1, .int v1)] → W p l e ({ frames := 0, cells := 0, slots := 0, locals := 0 }) s m [.ref (ad 275)].toArray below meth c H locs 0 0 (MQ below (mw_Qv G ad NF TF FF (mw_eqV M0 L0)) [.ref (ad 275)].toArray s 0 0 (mw_fr G)) (F0 m 7 ls []) := by
    intro f
    induction f with
    | zero => intro v1 M L H locs ls hD; cases hD
    | succ f7 ih7 =>
      intro v1 M L H locs ls hD hw hl
      replace hD : fX7_clear_i7 fu (fX7_clear_h7 fu f7) v1 M L = some (M0, L0) := hD
      unfold fX7_clear_i7 at hD
      refine lv_iload_n C.1.1 C.1.2.1 dX7_clear_7 rfl (lv_at hl 1 rfl) ?_
      refine lv_bipush (v := 6) C.1.1 C.1.2.1 dX7_clear_8 (by decide) ?_
      refine lv_icmp_ge (tgt := 47) C.1.1 C.1.2.1 dX7_clear_10 (by decide) (fun c1 => ?_) (fun c1 => ?_)
      · replace hD := g_pos c1 hD
        exact mr_vret C hr hlocks hw (Option.some.inj hD) dX7_clear_47
      · replace hD := g_neg c1 hD
        refine lv_aload_n C.1.1 C.1.2.1 dX7_clear_13 rfl (lv_at hl 0 rfl) ?_
        refine mr_getR C hw kc_7 0 (by decide) tf_275 ff_275_0 wd_407 dX7_clear_14 (by decide) rfl ?_
        refine lv_iload_n C.1.1 C.1.2.1 dX7_clear_17 rfl (lv_at hl 1 rfl) ?_
        refine lv_iconst (v := 1) C.1.1 C.1.2.1 dX7_clear_18 (by decide) ?_
        obtain ⟨q2, hD⟩ := g_ck hD
        obtain ⟨M3, eM3, hD⟩ := g_let hD
        refine mr_iast C hw (by decide) tf_276 q2 dX7_clear_19 (fun H locs hw => ?_)
        replace hw : mw_W G ad NF TF FF M3 L H locs := by rw [eM3]; exact hw
        refine lv_aload_n C.1.1 C.1.2.1 dX7_clear_20 rfl (lv_at hl 0 rfl) ?_
        refine mr_getR C hw kc_7 1 (by decide) tf_275 ff_275_1 wd_408 dX7_clear_21 (by decide) rfl ?_
        refine lv_iload_n C.1.1 C.1.2.1 dX7_clear_24 rfl (lv_at hl 1 rfl) ?_
        refine lv_iconst (v := 0) C.1.1 C.1.2.1 dX7_clear_25 (by decide) ?_
        obtain ⟨q4, hD⟩ := g_ck hD
        obtain ⟨M5, eM5, hD⟩ := g_let hD
        refine mr_zast C hw (by decide) tf_277 q4 dX7_clear_26 (fun H locs hw => ?_)
        replace hw : mw_W G ad NF TF FF M5 L H locs := by rw [eM5]; exact hw
        refine lv_aload_n C.1.1 C.1.2.1 dX7_clear_27 rfl (lv_at hl 0 rfl) ?_
        refine mr_getR C hw kc_7 2 (by decide) tf_275 ff_275_2 wd_409 dX7_clear_28 (by decide) rfl ?_
        refine lv_iload_n C.1.1 C.1.2.1 dX7_clear_31 rfl (lv_at hl 1 rfl) ?_
        refine lv_iconst (v := 0) C.1.1 C.1.2.1 dX7_clear_32 (by decide) ?_
        obtain ⟨q6, hD⟩ := g_ck hD
        obtain ⟨M7, eM7, hD⟩ := g_let hD
        refine mr_zast C hw (by decide) tf_278 q6 dX7_clear_33 (fun H locs hw => ?_)
        replace hw : mw_W G ad NF TF FF M7 L H locs := by rw [eM7]; exact hw
        refine lv_aload_n C.1.1 C.1.2.1 dX7_clear_34 rfl (lv_at hl 0 rfl) ?_
        refine mr_getR C hw kc_7 4 (by decide) tf_275 ff_275_4 wd_411 dX7_clear_35 (by decide) rfl ?_
        refine lv_iload_n C.1.1 C.1.2.1 dX7_clear_38 rfl (lv_at hl 1 rfl) ?_
        refine lv_iconst (v := 0) C.1.1 C.1.2.1 dX7_clear_39 (by decide) ?_
        obtain ⟨q8, hD⟩ := g_ck hD
        obtain ⟨M9, eM9, hD⟩ := g_let hD
        refine mr_iast C hw (by decide) tf_280 q8 dX7_clear_40 (fun H locs hw => ?_)
        replace hw : mw_W G ad NF TF FF M9 L H locs := by rw [eM9]; exact hw
        obtain ⟨x10, ex10, hD⟩ := g_let hD
        refine lv_iinc (v := x10) (lv' := [(1, .int x10), (0, .ref (ad 275))]) C.1.1 C.1.2.1 dX7_clear_41 hl (k := 1) rfl (by rw [ex10]; rfl) (by decide) rfl (fun ls hl => ?_)
        refine lv_goto (tgt := 7) C.1.1 C.1.2.1 dX7_clear_44 (by decide) ?_
        exact ih7 x10 M9 L _ _ ls hD hw (lv_sub hl [1, 0] rfl)
  unfold DX7_clear at hD
  refine lv_aload_n C.1.1 C.1.2.1 dX7_clear_0 rfl (lv_at hl 0 rfl) ?_
  refine lv_iconst (v := 0) C.1.1 C.1.2.1 dX7_clear_1 (by decide) ?_
  obtain ⟨M11, eM11, hD⟩ := g_let hD
  refine mr_putI C hw kc_7 8 (by decide) tf_275 wd_417 dX7_clear_2 (by decide) rfl rfl rfl rfl (fun H locs hw => ?_)
  replace hw : mw_W G ad NF TF FF M11 L H locs := by rw [eM11]; exact hw
  refine lv_iconst (v := 0) C.1.1 C.1.2.1 dX7_clear_5 (by decide) ?_
  refine lv_istore_n (lv' := [(1, .int 0), (0, .ref (ad 275))]) C.1.1 C.1.2.1 dX7_clear_6 rfl hl (by decide) rfl (fun ls hl => ?_)
  exact hh7 fu 0 M11 L _ _ ls hD hw (lv_sub hl [1, 0] rfl)

theorem dX7_isKnown_0 : decode cX7_isKnown 0 = .ok (.iload_n 0, 1) := by decide +kernel
theorem dX7_isKnown_1 : decode cX7_isKnown 1 = .ok (.bipush 16, 2) := by decide +kernel
theorem dX7_isKnown_3 : decode cX7_isKnown 3 = .ok (.if_icmp .eq 33, 3) := by decide +kernel
theorem dX7_isKnown_6 : decode cX7_isKnown 6 = .ok (.iload_n 0, 1) := by decide +kernel
theorem dX7_isKnown_7 : decode cX7_isKnown 7 = .ok (.bipush 20, 2) := by decide +kernel
theorem dX7_isKnown_9 : decode cX7_isKnown 9 = .ok (.if_icmp .eq 27, 3) := by decide +kernel
theorem dX7_isKnown_12 : decode cX7_isKnown 12 = .ok (.iload_n 0, 1) := by decide +kernel
theorem dX7_isKnown_13 : decode cX7_isKnown 13 = .ok (.bipush 25, 2) := by decide +kernel
theorem dX7_isKnown_15 : decode cX7_isKnown 15 = .ok (.if_icmp .eq 21, 3) := by decide +kernel
theorem dX7_isKnown_18 : decode cX7_isKnown 18 = .ok (.iload_n 0, 1) := by decide +kernel
theorem dX7_isKnown_19 : decode cX7_isKnown 19 = .ok (.bipush 34, 2) := by decide +kernel
theorem dX7_isKnown_21 : decode cX7_isKnown 21 = .ok (.if_icmp .eq 15, 3) := by decide +kernel
theorem dX7_isKnown_24 : decode cX7_isKnown 24 = .ok (.iload_n 0, 1) := by decide +kernel
theorem dX7_isKnown_25 : decode cX7_isKnown 25 = .ok (.bipush 39, 2) := by decide +kernel
theorem dX7_isKnown_27 : decode cX7_isKnown 27 = .ok (.if_icmp .eq 9, 3) := by decide +kernel
theorem dX7_isKnown_30 : decode cX7_isKnown 30 = .ok (.iload_n 0, 1) := by decide +kernel
theorem dX7_isKnown_31 : decode cX7_isKnown 31 = .ok (.bipush 46, 2) := by decide +kernel
theorem dX7_isKnown_33 : decode cX7_isKnown 33 = .ok (.if_icmp .ne 7, 3) := by decide +kernel
theorem dX7_isKnown_36 : decode cX7_isKnown 36 = .ok (.iconst 1, 1) := by decide +kernel
theorem dX7_isKnown_37 : decode cX7_isKnown 37 = .ok (.goto 4, 3) := by decide +kernel
theorem dX7_isKnown_40 : decode cX7_isKnown 40 = .ok (.iconst 0, 1) := by decide +kernel
theorem dX7_isKnown_41 : decode cX7_isKnown 41 = .ok (.ireturn, 1) := by decide +kernel
theorem cwX7_isKnown : mw_cwS yX7_isKnown cX7_isKnown 1 ((some .boolean)) 1 := ⟨⟨wd_11, wd_1547, by decide +kernel⟩, wd_1546⟩
set_option maxHeartbeats 4000000 in
set_option maxRecDepth 100000 in
theorem tX7_isKnown (l : Launch) (G : mwG) (ad : Nat → Nat) (fu : Nat) (a1 : Int32) (M : mwM) (L : mwL) {r0 : Int32} {M0 : mwM} {L0 : mwL} (hD : DX7_isKnown fu a1 M L = some (r0, M0, L0)) : Met l yX7_isKnown (Cond.code yX7_isKnown cX7_isKnown 1 ((some .boolean)) :: GT) ({ frames := 0, cells := 0, slots := 0, locals := 0 }) (mw_Pre G ad NF TF FF M L [.int a1]) (mw_Qi G ad NF TF FF (mw_eqI r0 M0 L0)) 0 0 (mw_fr G) := by
  refine mw_enter (by decide) (Nat.le_of_ble_eq_true rfl) ?_
  intro p e s m below meth c ls C hr hlocks hnm hw hl
  have hl : lv_has ls 1 [(0, .int a1)] := hl
  have hb41 : ∀ (s0 : Int32) (M : mwM) (L : mwL) (H : Heap) (locs : List Loc) (ls : Array Slot), fX7_isKnown_b41 fu a1 s0 M L = some (r0, M0, L0) → mw_W G ad NF TF FF M L H locs → lv_has ls 1 [] → W p l e ({ frames := 0, cells := 0, slots := 0, locals := 0 }) s m [.int a1].toArray below meth c H locs 0 0 (MQ below (mw_Qi G ad NF TF FF (mw_eqI r0 M0 L0)) [.int a1].toArray s 0 0 (mw_fr G)) (F0 m 41 ls [.int s0]) := by
    intro s0 M L H locs ls hD hw hl
    unfold fX7_isKnown_b41 at hD
    obtain ⟨z1, hD⟩ := g_zz hD
    exact mr_iret C hr hlocks hw (nz_zz z1) (Option.some.inj hD) dX7_isKnown_41
  have hb36 : ∀ (M : mwM) (L : mwL) (H : Heap) (locs : List Loc) (ls : Array Slot), fX7_isKnown_b36 fu a1 M L = some (r0, M0, L0) → mw_W G ad NF TF FF M L H locs → lv_has ls 1 [] → W p l e ({ frames := 0, cells := 0, slots := 0, locals := 0 }) s m [.int a1].toArray below meth c H locs 0 0 (MQ below (mw_Qi G ad NF TF FF (mw_eqI r0 M0 L0)) [.int a1].toArray s 0 0 (mw_fr G)) (F0 m 36 ls []) := by
    intro M L H locs ls hD hw hl
    unfold fX7_isKnown_b36 at hD
    refine lv_iconst (v := 1) C.1.1 C.1.2.1 dX7_isKnown_36 (by decide) ?_
    refine lv_goto (tgt := 41) C.1.1 C.1.2.1 dX7_isKnown_37 (by decide) ?_
    exact hb41 1 M L _ _ ls hD hw (lv_sub hl [] rfl)
  unfold DX7_isKnown at hD
  refine lv_iload_n C.1.1 C.1.2.1 dX7_isKnown_0 rfl (lv_at hl 0 rfl) ?_
  refine lv_bipush (v := 16) C.1.1 C.1.2.1 dX7_isKnown_1 (by decide) ?_
  refine lv_icmp_eq (tgt := 36) C.1.1 C.1.2.1 dX7_isKnown_3 (by decide) (fun c2 => ?_) (fun c2 => ?_)
  · replace hD := g_pos c2 hD
    exact hb36 M L _ _ ls hD hw (lv_sub hl [] rfl)
  · replace hD := g_neg c2 hD
    refine lv_iload_n C.1.1 C.1.2.1 dX7_isKnown_6 rfl (lv_at hl 0 rfl) ?_
    refine lv_bipush (v := 20) C.1.1 C.1.2.1 dX7_isKnown_7 (by decide) ?_
    refine lv_icmp_eq (tgt := 36) C.1.1 C.1.2.1 dX7_isKnown_9 (by decide) (fun c3 => ?_) (fun c3 => ?_)
    · replace hD := g_pos c3 hD
      exact hb36 M L _ _ ls hD hw (lv_sub hl [] rfl)
    · replace hD := g_neg c3 hD
      refine lv_iload_n C.1.1 C.1.2.1 dX7_isKnown_12 rfl (lv_at hl 0 rfl) ?_
      refine lv_bipush (v := 25) C.1.1 C.1.2.1 dX7_isKnown_13 (by decide) ?_
      refine lv_icmp_eq (tgt := 36) C.1.1 C.1.2.1 dX7_isKnown_15 (by decide) (fun c4 => ?_) (fun c4 => ?_)
      · replace hD := g_pos c4 hD
        exact hb36 M L _ _ ls hD hw (lv_sub hl [] rfl)
      · replace hD := g_neg c4 hD
        refine lv_iload_n C.1.1 C.1.2.1 dX7_isKnown_18 rfl (lv_at hl 0 rfl) ?_
        refine lv_bipush (v := 34) C.1.1 C.1.2.1 dX7_isKnown_19 (by decide) ?_
        refine lv_icmp_eq (tgt := 36) C.1.1 C.1.2.1 dX7_isKnown_21 (by decide) (fun c5 => ?_) (fun c5 => ?_)
        · replace hD := g_pos c5 hD
          exact hb36 M L _ _ ls hD hw (lv_sub hl [] rfl)
        · replace hD := g_neg c5 hD
          refine lv_iload_n C.1.1 C.1.2.1 dX7_isKnown_24 rfl (lv_at hl 0 rfl) ?_
          refine lv_bipush (v := 39) C.1.1 C.1.2.1 dX7_isKnown_25 (by decide) ?_
          refine lv_icmp_eq (tgt := 36) C.1.1 C.1.2.1 dX7_isKnown_27 (by decide) (fun c6 => ?_) (fun c6 => ?_)
          · replace hD := g_pos c6 hD
            exact hb36 M L _ _ ls hD hw (lv_sub hl [] rfl)
          · replace hD := g_neg c6 hD
            refine lv_iload_n C.1.1 C.1.2.1 dX7_isKnown_30 rfl (lv_at hl 0 rfl) ?_
            refine lv_bipush (v := 46) C.1.1 C.1.2.1 dX7_isKnown_31 (by decide) ?_
            refine lv_icmp_ne (tgt := 40) C.1.1 C.1.2.1 dX7_isKnown_33 (by decide) (fun c7 => ?_) (fun c7 => ?_)
            · replace hD := g_neg c7 hD
              refine lv_iconst (v := 0) C.1.1 C.1.2.1 dX7_isKnown_40 (by decide) ?_
              exact hb41 0 M L _ _ ls hD hw (lv_sub hl [] rfl)
            · replace hD := g_pos c7 hD
              exact hb36 M L _ _ ls hD hw (lv_sub hl [] rfl)

theorem dX7_put_0 : decode cX7_put 0 = .ok (.aload_n 0, 1) := by decide +kernel
theorem dX7_put_1 : decode cX7_put 1 = .ok (.getfield 38, 3) := by decide +kernel
theorem dX7_put_4 : decode cX7_put 4 = .ok (.bipush 20, 2) := by decide +kernel
theorem dX7_put_6 : decode cX7_put 6 = .ok (.if_icmp .ge 23, 3) := by decide +kernel
theorem dX7_put_9 : decode cX7_put 9 = .ok (.aload_n 0, 1) := by decide +kernel
theorem dX7_put_10 : decode cX7_put 10 = .ok (.getfield 31, 3) := by decide +kernel
theorem dX7_put_13 : decode cX7_put 13 = .ok (.aload_n 0, 1) := by decide +kernel
theorem dX7_put_14 : decode cX7_put 14 = .ok (.getfield 38, 3) := by decide +kernel
theorem dX7_put_17 : decode cX7_put 17 = .ok (.iload_n 1, 1) := by decide +kernel
theorem dX7_put_18 : decode cX7_put 18 = .ok (.iastore, 1) := by decide +kernel
theorem dX7_put_19 : decode cX7_put 19 = .ok (.aload_n 0, 1) := by decide +kernel
theorem dX7_put_20 : decode cX7_put 20 = .ok (.dup, 1) := by decide +kernel
theorem dX7_put_21 : decode cX7_put 21 = .ok (.getfield 38, 3) := by decide +kernel
theorem dX7_put_24 : decode cX7_put 24 = .ok (.iconst 1, 1) := by decide +kernel
theorem dX7_put_25 : decode cX7_put 25 = .ok (.iadd, 1) := by decide +kernel
theorem dX7_put_26 : decode cX7_put 26 = .ok (.putfield 38, 3) := by decide +kernel
theorem dX7_put_29 : decode cX7_put 29 = .ok (.return_, 1) := by decide +kernel
theorem cwX7_put : mw_cwV yX7_put cX7_put 2 (none) 1 := ⟨⟨wd_11, wd_1555, by decide +kernel⟩, wd_1554, sl_107⟩
set_option maxHeartbeats 4000000 in
set_option maxRecDepth 100000 in
theorem tX7_put (l : Launch) (G : mwG) (ad : Nat → Nat) (fu : Nat) (a1 : Int32) (M : mwM) (L : mwL) {M0 : mwM} {L0 : mwL} (hD : DX7_put fu a1 M L = some (M0, L0)) : Met l yX7_put (Cond.code yX7_put cX7_put 2 (none) :: GT) ({ frames := 0, cells := 0, slots := 0, locals := 0 }) (mw_Pre G ad NF TF FF M L [.ref (ad 275), .int a1]) (mw_Qv G ad NF TF FF (mw_eqV M0 L0)) 0 0 (mw_fr G) := by
  refine mw_enter (by decide) (Nat.le_of_ble_eq_true rfl) ?_
  intro p e s m below meth c ls C hr hlocks hnm hw hl
  have hl : lv_has ls 2 [(0, .ref (ad 275)), (1, .int a1)] := hl
  have hb29 : ∀ (M : mwM) (L : mwL) (H : Heap) (locs : List Loc) (ls : Array Slot), fX7_put_b29 fu a1 M L = some (M0, L0) → mw_W G ad NF TF FF M L H locs → lv_has ls 2 [] → W p l e ({ frames := 0, cells := 0, slots := 0, locals := 0 }) s m [.ref (ad 275), .int a1].toArray below meth c H locs 0 0 (MQ below (mw_Qv G ad NF TF FF (mw_eqV M0 L0)) [.ref (ad 275), .int a1].toArray s 0 0 (mw_fr G)) (F0 m 29 ls []) := by
    intro M L H locs ls hD hw hl
    unfold fX7_put_b29 at hD
    exact mr_vret C hr hlocks hw (Option.some.inj hD) dX7_put_29
  unfold DX7_put at hD
  refine lv_aload_n C.1.1 C.1.2.1 dX7_put_0 rfl (lv_at hl 0 rfl) ?_
  refine mr_getI C hw kc_7 7 (by decide) tf_275 wd_415 dX7_put_1 (by decide) rfl ?_
  refine lv_bipush (v := 20) C.1.1 C.1.2.1 dX7_put_4 (by decide) ?_
  refine lv_icmp_ge (tgt := 29) C.1.1 C.1.2.1 dX7_put_6 (by decide) (fun c1 => ?_) (fun c1 => ?_)
  · replace hD := g_pos c1 hD
    exact hb29 M L _ _ ls hD hw (lv_sub hl [] rfl)
  · replace hD := g_neg c1 hD
    refine lv_aload_n C.1.1 C.1.2.1 dX7_put_9 rfl (lv_at hl 0 rfl) ?_
    refine mr_getR C hw kc_7 6 (by decide) tf_275 ff_275_6 wd_413 dX7_put_10 (by decide) rfl ?_
    refine lv_aload_n C.1.1 C.1.2.1 dX7_put_13 rfl (lv_at hl 0 rfl) ?_
    refine mr_getI C hw kc_7 7 (by decide) tf_275 wd_415 dX7_put_14 (by decide) rfl ?_
    refine lv_iload_n C.1.1 C.1.2.1 dX7_put_17 rfl (lv_at hl 1 rfl) ?_
    obtain ⟨q2, hD⟩ := g_ck hD
    obtain ⟨M3, eM3, hD⟩ := g_let hD
    refine mr_iast C hw (by decide) tf_282 q2 dX7_put_18 (fun H locs hw => ?_)
    replace hw : mw_W G ad NF TF FF M3 L H locs := by rw [eM3]; exact hw
    refine lv_aload_n C.1.1 C.1.2.1 dX7_put_19 rfl (lv_at hl 0 rfl) ?_
    refine lv_dup C.1.1 C.1.2.1 dX7_put_20 rfl ?_
    refine mr_getI C hw kc_7 7 (by decide) tf_275 wd_415 dX7_put_21 (by decide) rfl ?_
    refine lv_iconst (v := 1) C.1.1 C.1.2.1 dX7_put_24 (by decide) ?_
    refine lv_iadd C.1.1 C.1.2.1 dX7_put_25 ?_
    obtain ⟨M4, eM4, hD⟩ := g_let hD
    refine mr_putI C hw kc_7 7 (by decide) tf_275 wd_415 dX7_put_26 (by decide) rfl rfl rfl rfl (fun H locs hw => ?_)
    replace hw : mw_W G ad NF TF FF M4 L H locs := by rw [eM4]; exact hw
    exact hb29 M4 L _ _ ls hD hw (lv_sub hl [] rfl)

theorem dX7_refuse_0 : decode cX7_refuse 0 = .ok (.aload_n 0, 1) := by decide +kernel
theorem dX7_refuse_1 : decode cX7_refuse 1 = .ok (.bipush 127, 2) := by decide +kernel
theorem dX7_refuse_3 : decode cX7_refuse 3 = .ok (.invokevirtual 95, 3) := by decide +kernel
theorem dX7_refuse_6 : decode cX7_refuse 6 = .ok (.aload_n 0, 1) := by decide +kernel
theorem dX7_refuse_7 : decode cX7_refuse 7 = .ok (.iload_n 1, 1) := by decide +kernel
theorem dX7_refuse_8 : decode cX7_refuse 8 = .ok (.invokevirtual 95, 3) := by decide +kernel
theorem dX7_refuse_11 : decode cX7_refuse 11 = .ok (.aload_n 0, 1) := by decide +kernel
theorem dX7_refuse_12 : decode cX7_refuse 12 = .ok (.iload_n 2, 1) := by decide +kernel
theorem dX7_refuse_13 : decode cX7_refuse 13 = .ok (.invokevirtual 95, 3) := by decide +kernel
theorem dX7_refuse_16 : decode cX7_refuse 16 = .ok (.return_, 1) := by decide +kernel
theorem cwX7_refuse : mw_cwV yX7_refuse cX7_refuse 3 (none) 2 := ⟨⟨wd_11, wd_1551, by decide +kernel⟩, wd_1550, sl_106⟩
set_option maxHeartbeats 4000000 in
set_option maxRecDepth 100000 in
theorem tX7_refuse (l : Launch) (G : mwG) (ad : Nat → Nat) (fu : Nat) (a1 : Int32) (a2 : Int32) (M : mwM) (L : mwL) {M0 : mwM} {L0 : mwL} (hD : DX7_refuse fu a1 a2 M L = some (M0, L0)) : Met l yX7_refuse (Cond.code yX7_refuse cX7_refuse 3 (none) :: GT) ({ frames := 1, cells := 0, slots := 0, locals := 21 }) (mw_Pre G ad NF TF FF M L [.ref (ad 275), .int a1, .int a2]) (mw_Qv G ad NF TF FF (mw_eqV M0 L0)) 0 0 (mw_fr G) := by
  refine mw_enter (by decide) (Nat.le_of_ble_eq_true rfl) ?_
  intro p e s m below meth c ls C hr hlocks hnm hw hl
  have hl : lv_has ls 3 [(0, .ref (ad 275)), (1, .int a1), (2, .int a2)] := hl
  unfold DX7_refuse at hD
  refine lv_aload_n C.1.1 C.1.2.1 dX7_refuse_0 rfl (lv_at hl 0 rfl) ?_
  refine lv_bipush (v := 127) C.1.1 C.1.2.1 dX7_refuse_1 (by decide) ?_
  obtain ⟨M1, L2, h1, hD⟩ := g_b2 hD
  refine md_cvV (As := [.int 127]) (rest := []) C hw (tX7_put l G ad fu 127 M L h1) kc_7 (by decide) tf_275 wd_1552 cwX7_put ⟨Nat.le_of_ble_eq_true rfl, Nat.le_of_ble_eq_true rfl⟩ rfl hl.1 (Nat.le_of_ble_eq_true rfl) dX7_refuse_3 rfl rfl ⟨Nat.zero_le _, Nat.zero_le _⟩ rfl (fun H locs hw => ?_)
  refine lv_aload_n C.1.1 C.1.2.1 dX7_refuse_6 rfl (lv_at hl 0 rfl) ?_
  refine lv_iload_n C.1.1 C.1.2.1 dX7_refuse_7 rfl (lv_at hl 1 rfl) ?_
  obtain ⟨M3, L4, h1, hD⟩ := g_b2 hD
  refine md_cvV (As := [.int a1]) (rest := []) C hw (tX7_put l G ad fu a1 M1 L2 h1) kc_7 (by decide) tf_275 wd_1552 cwX7_put ⟨Nat.le_of_ble_eq_true rfl, Nat.le_of_ble_eq_true rfl⟩ rfl hl.1 (Nat.le_of_ble_eq_true rfl) dX7_refuse_8 rfl rfl ⟨Nat.zero_le _, Nat.zero_le _⟩ rfl (fun H locs hw => ?_)
  refine lv_aload_n C.1.1 C.1.2.1 dX7_refuse_11 rfl (lv_at hl 0 rfl) ?_
  refine lv_iload_n C.1.1 C.1.2.1 dX7_refuse_12 rfl (lv_at hl 2 rfl) ?_
  obtain ⟨M5, L6, h1, hD⟩ := g_b2 hD
  refine md_cvV (As := [.int a2]) (rest := []) C hw (tX7_put l G ad fu a2 M3 L4 h1) kc_7 (by decide) tf_275 wd_1552 cwX7_put ⟨Nat.le_of_ble_eq_true rfl, Nat.le_of_ble_eq_true rfl⟩ rfl hl.1 (Nat.le_of_ble_eq_true rfl) dX7_refuse_13 rfl rfl ⟨Nat.zero_le _, Nat.zero_le _⟩ rfl (fun H locs hw => ?_)
  exact mr_vret C hr hlocks hw (Option.some.inj hD) dX7_refuse_16

theorem dX7_isRightLength_0 : decode cX7_isRightLength 0 = .ok (.aload_n 0, 1) := by decide +kernel
theorem dX7_isRightLength_1 : decode cX7_isRightLength 1 = .ok (.iconst 0, 1) := by decide +kernel
theorem dX7_isRightLength_2 : decode cX7_isRightLength 2 = .ok (.iaload, 1) := by decide +kernel
theorem dX7_isRightLength_3 : decode cX7_isRightLength 3 = .ok (.lookupswitch 106 #[(16, 41), (34, 52), (39, 75), (46, 63)], 41) := by decide +kernel
theorem dX7_isRightLength_44 : decode cX7_isRightLength 44 = .ok (.iload_n 1, 1) := by decide +kernel
theorem dX7_isRightLength_45 : decode cX7_isRightLength 45 = .ok (.iconst 2, 1) := by decide +kernel
theorem dX7_isRightLength_46 : decode cX7_isRightLength 46 = .ok (.if_icmp .ne 7, 3) := by decide +kernel
theorem dX7_isRightLength_49 : decode cX7_isRightLength 49 = .ok (.iconst 1, 1) := by decide +kernel
theorem dX7_isRightLength_50 : decode cX7_isRightLength 50 = .ok (.goto 4, 3) := by decide +kernel
theorem dX7_isRightLength_53 : decode cX7_isRightLength 53 = .ok (.iconst 0, 1) := by decide +kernel
theorem dX7_isRightLength_54 : decode cX7_isRightLength 54 = .ok (.ireturn, 1) := by decide +kernel
theorem dX7_isRightLength_55 : decode cX7_isRightLength 55 = .ok (.iload_n 1, 1) := by decide +kernel
theorem dX7_isRightLength_56 : decode cX7_isRightLength 56 = .ok (.iconst 3, 1) := by decide +kernel
theorem dX7_isRightLength_57 : decode cX7_isRightLength 57 = .ok (.if_icmp .ne 7, 3) := by decide +kernel
theorem dX7_isRightLength_60 : decode cX7_isRightLength 60 = .ok (.iconst 1, 1) := by decide +kernel
theorem dX7_isRightLength_61 : decode cX7_isRightLength 61 = .ok (.goto 4, 3) := by decide +kernel
theorem dX7_isRightLength_64 : decode cX7_isRightLength 64 = .ok (.iconst 0, 1) := by decide +kernel
theorem dX7_isRightLength_65 : decode cX7_isRightLength 65 = .ok (.ireturn, 1) := by decide +kernel
theorem dX7_isRightLength_66 : decode cX7_isRightLength 66 = .ok (.iload_n 1, 1) := by decide +kernel
theorem dX7_isRightLength_67 : decode cX7_isRightLength 67 = .ok (.bipush 11, 2) := by decide +kernel
theorem dX7_isRightLength_69 : decode cX7_isRightLength 69 = .ok (.if_icmp .ne 7, 3) := by decide +kernel
theorem dX7_isRightLength_72 : decode cX7_isRightLength 72 = .ok (.iconst 1, 1) := by decide +kernel
theorem dX7_isRightLength_73 : decode cX7_isRightLength 73 = .ok (.goto 4, 3) := by decide +kernel
theorem dX7_isRightLength_76 : decode cX7_isRightLength 76 = .ok (.iconst 0, 1) := by decide +kernel
theorem dX7_isRightLength_77 : decode cX7_isRightLength 77 = .ok (.ireturn, 1) := by decide +kernel
theorem dX7_isRightLength_78 : decode cX7_isRightLength 78 = .ok (.iload_n 1, 1) := by decide +kernel
theorem dX7_isRightLength_79 : decode cX7_isRightLength 79 = .ok (.iconst 2, 1) := by decide +kernel
theorem dX7_isRightLength_80 : decode cX7_isRightLength 80 = .ok (.if_icmp .ne 10, 3) := by decide +kernel
theorem dX7_isRightLength_83 : decode cX7_isRightLength 83 = .ok (.aload_n 0, 1) := by decide +kernel
theorem dX7_isRightLength_84 : decode cX7_isRightLength 84 = .ok (.iconst 1, 1) := by decide +kernel
theorem dX7_isRightLength_85 : decode cX7_isRightLength 85 = .ok (.iaload, 1) := by decide +kernel
theorem dX7_isRightLength_86 : decode cX7_isRightLength 86 = .ok (.iconst 1, 1) := by decide +kernel
theorem dX7_isRightLength_87 : decode cX7_isRightLength 87 = .ok (.if_icmp .eq 16, 3) := by decide +kernel
theorem dX7_isRightLength_90 : decode cX7_isRightLength 90 = .ok (.iload_n 1, 1) := by decide +kernel
theorem dX7_isRightLength_91 : decode cX7_isRightLength 91 = .ok (.bipush 6, 2) := by decide +kernel
theorem dX7_isRightLength_93 : decode cX7_isRightLength 93 = .ok (.if_icmp .ne 14, 3) := by decide +kernel
theorem dX7_isRightLength_96 : decode cX7_isRightLength 96 = .ok (.aload_n 0, 1) := by decide +kernel
theorem dX7_isRightLength_97 : decode cX7_isRightLength 97 = .ok (.iconst 1, 1) := by decide +kernel
theorem dX7_isRightLength_98 : decode cX7_isRightLength 98 = .ok (.iaload, 1) := by decide +kernel
theorem dX7_isRightLength_99 : decode cX7_isRightLength 99 = .ok (.iconst 2, 1) := by decide +kernel
theorem dX7_isRightLength_100 : decode cX7_isRightLength 100 = .ok (.if_icmp .ne 7, 3) := by decide +kernel
theorem dX7_isRightLength_103 : decode cX7_isRightLength 103 = .ok (.iconst 1, 1) := by decide +kernel
theorem dX7_isRightLength_104 : decode cX7_isRightLength 104 = .ok (.goto 4, 3) := by decide +kernel
theorem dX7_isRightLength_107 : decode cX7_isRightLength 107 = .ok (.iconst 0, 1) := by decide +kernel
theorem dX7_isRightLength_108 : decode cX7_isRightLength 108 = .ok (.ireturn, 1) := by decide +kernel
theorem dX7_isRightLength_109 : decode cX7_isRightLength 109 = .ok (.iload_n 1, 1) := by decide +kernel
theorem dX7_isRightLength_110 : decode cX7_isRightLength 110 = .ok (.iconst 1, 1) := by decide +kernel
theorem dX7_isRightLength_111 : decode cX7_isRightLength 111 = .ok (.if_icmp .ne 7, 3) := by decide +kernel
theorem dX7_isRightLength_114 : decode cX7_isRightLength 114 = .ok (.iconst 1, 1) := by decide +kernel
theorem dX7_isRightLength_115 : decode cX7_isRightLength 115 = .ok (.goto 4, 3) := by decide +kernel
theorem dX7_isRightLength_118 : decode cX7_isRightLength 118 = .ok (.iconst 0, 1) := by decide +kernel
theorem dX7_isRightLength_119 : decode cX7_isRightLength 119 = .ok (.ireturn, 1) := by decide +kernel
theorem cwX7_isRightLength : mw_cwS yX7_isRightLength cX7_isRightLength 2 ((some .boolean)) 2 := ⟨⟨wd_11, wd_1558, by decide +kernel⟩, wd_1557⟩
set_option maxHeartbeats 4000000 in
set_option maxRecDepth 100000 in
theorem tX7_isRightLength (l : Launch) (G : mwG) (ad : Nat → Nat) (fu : Nat) (a1 : Nat) (n1 : Nat) (a2 : Int32) (M : mwM) (L : mwL) {r0 : Int32} {M0 : mwM} {L0 : mwL} (hD : DX7_isRightLength fu a1 n1 a2 M L = some (r0, M0, L0)) (hk1 : a1 < NF) (hT1 : TF a1 = (0, n1)) : Met l yX7_isRightLength (Cond.code yX7_isRightLength cX7_isRightLength 2 ((some .boolean)) :: GT) ({ frames := 0, cells := 0, slots := 0, locals := 0 }) (mw_Pre G ad NF TF FF M L [.ref (ad a1), .int a2]) (mw_Qi G ad NF TF FF (mw_eqI r0 M0 L0)) 0 0 (mw_fr G) := by
  refine mw_enter (by decide) (Nat.le_of_ble_eq_true rfl) ?_
  intro p e s m below meth c ls C hr hlocks hnm hw hl
  have hl : lv_has ls 2 [(0, .ref (ad a1)), (1, .int a2)] := hl
  have hb54 : ∀ (s0 : Int32) (M : mwM) (L : mwL) (H : Heap) (locs : List Loc) (ls : Array Slot), fX7_isRightLength_b54 fu a1 n1 a2 s0 M L = some (r0, M0, L0) → mw_W G ad NF TF FF M L H locs → lv_has ls 2 [] → W p l e ({ frames := 0, cells := 0, slots := 0, locals := 0 }) s m [.ref (ad a1), .int a2].toArray below meth c H locs 0 0 (MQ below (mw_Qi G ad NF TF FF (mw_eqI r0 M0 L0)) [.ref (ad a1), .int a2].toArray s 0 0 (mw_fr G)) (F0 m 54 ls [.int s0]) := by
    intro s0 M L H locs ls hD hw hl
    unfold fX7_isRightLength_b54 at hD
    obtain ⟨z1, hD⟩ := g_zz hD
    exact mr_iret C hr hlocks hw (nz_zz z1) (Option.some.inj hD) dX7_isRightLength_54
  have hb65 : ∀ (s0 : Int32) (M : mwM) (L : mwL) (H : Heap) (locs : List Loc) (ls : Array Slot), fX7_isRightLength_b65 fu a1 n1 a2 s0 M L = some (r0, M0, L0) → mw_W G ad NF TF FF M L H locs → lv_has ls 2 [] → W p l e ({ frames := 0, cells := 0, slots := 0, locals := 0 }) s m [.ref (ad a1), .int a2].toArray below meth c H locs 0 0 (MQ below (mw_Qi G ad NF TF FF (mw_eqI r0 M0 L0)) [.ref (ad a1), .int a2].toArray s 0 0 (mw_fr G)) (F0 m 65 ls [.int s0]) := by
    intro s0 M L H locs ls hD hw hl
    unfold fX7_isRightLength_b65 at hD
    obtain ⟨z2, hD⟩ := g_zz hD
    exact mr_iret C hr hlocks hw (nz_zz z2) (Option.some.inj hD) dX7_isRightLength_65
  have hb77 : ∀ (s0 : Int32) (M : mwM) (L : mwL) (H : Heap) (locs : List Loc) (ls : Array Slot), fX7_isRightLength_b77 fu a1 n1 a2 s0 M L = some (r0, M0, L0) → mw_W G ad NF TF FF M L H locs → lv_has ls 2 [] → W p l e ({ frames := 0, cells := 0, slots := 0, locals := 0 }) s m [.ref (ad a1), .int a2].toArray below meth c H locs 0 0 (MQ below (mw_Qi G ad NF TF FF (mw_eqI r0 M0 L0)) [.ref (ad a1), .int a2].toArray s 0 0 (mw_fr G)) (F0 m 77 ls [.int s0]) := by
    intro s0 M L H locs ls hD hw hl
    unfold fX7_isRightLength_b77 at hD
    obtain ⟨z3, hD⟩ := g_zz hD
    exact mr_iret C hr hlocks hw (nz_zz z3) (Option.some.inj hD) dX7_isRightLength_77
  have hb108 : ∀ (s0 : Int32) (M : mwM) (L : mwL) (H : Heap) (locs : List Loc) (ls : Array Slot), fX7_isRightLength_b108 fu a1 n1 a2 s0 M L = some (r0, M0, L0) → mw_W G ad NF TF FF M L H locs → lv_has ls 2 [] → W p l e ({ frames := 0, cells := 0, slots := 0, locals := 0 }) s m [.ref (ad a1), .int a2].toArray below meth c H locs 0 0 (MQ below (mw_Qi G ad NF TF FF (mw_eqI r0 M0 L0)) [.ref (ad a1), .int a2].toArray s 0 0 (mw_fr G)) (F0 m 108 ls [.int s0]) := by
    intro s0 M L H locs ls hD hw hl
    unfold fX7_isRightLength_b108 at hD
    obtain ⟨z7, hD⟩ := g_zz hD
    exact mr_iret C hr hlocks hw (nz_zz z7) (Option.some.inj hD) dX7_isRightLength_108
  have hb103 : ∀ (M : mwM) (L : mwL) (H : Heap) (locs : List Loc) (ls : Array Slot), fX7_isRightLength_b103 fu a1 n1 a2 M L = some (r0, M0, L0) → mw_W G ad NF TF FF M L H locs → lv_has ls 2 [] → W p l e ({ frames := 0, cells := 0, slots := 0, locals := 0 }) s m [.ref (ad a1), .int a2].toArray below meth c H locs 0 0 (MQ below (mw_Qi G ad NF TF FF (mw_eqI r0 M0 L0)) [.ref (ad a1), .int a2].toArray s 0 0 (mw_fr G)) (F0 m 103 ls []) := by
    intro M L H locs ls hD hw hl
    unfold fX7_isRightLength_b103 at hD
    refine lv_iconst (v := 1) C.1.1 C.1.2.1 dX7_isRightLength_103 (by decide) ?_
    refine lv_goto (tgt := 108) C.1.1 C.1.2.1 dX7_isRightLength_104 (by decide) ?_
    exact hb108 1 M L _ _ ls hD hw (lv_sub hl [] rfl)
  have hb107 : ∀ (M : mwM) (L : mwL) (H : Heap) (locs : List Loc) (ls : Array Slot), fX7_isRightLength_b107 fu a1 n1 a2 M L = some (r0, M0, L0) → mw_W G ad NF TF FF M L H locs → lv_has ls 2 [] → W p l e ({ frames := 0, cells := 0, slots := 0, locals := 0 }) s m [.ref (ad a1), .int a2].toArray below meth c H locs 0 0 (MQ below (mw_Qi G ad NF TF FF (mw_eqI r0 M0 L0)) [.ref (ad a1), .int a2].toArray s 0 0 (mw_fr G)) (F0 m 107 ls []) := by
    intro M L H locs ls hD hw hl
    unfold fX7_isRightLength_b107 at hD
    refine lv_iconst (v := 0) C.1.1 C.1.2.1 dX7_isRightLength_107 (by decide) ?_
    exact hb108 0 M L _ _ ls hD hw (lv_sub hl [] rfl)
  have hb90 : ∀ (M : mwM) (L : mwL) (H : Heap) (locs : List Loc) (ls : Array Slot), fX7_isRightLength_b90 fu a1 n1 a2 M L = some (r0, M0, L0) → mw_W G ad NF TF FF M L H locs → lv_has ls 2 [(0, .ref (ad a1)), (1, .int a2)] → W p l e ({ frames := 0, cells := 0, slots := 0, locals := 0 }) s m [.ref (ad a1), .int a2].toArray below meth c H locs 0 0 (MQ below (mw_Qi G ad NF TF FF (mw_eqI r0 M0 L0)) [.ref (ad a1), .int a2].toArray s 0 0 (mw_fr G)) (F0 m 90 ls []) := by
    intro M L H locs ls hD hw hl
    unfold fX7_isRightLength_b90 at hD
    refine lv_iload_n C.1.1 C.1.2.1 dX7_isRightLength_90 rfl (lv_at hl 1 rfl) ?_
    refine lv_bipush (v := 6) C.1.1 C.1.2.1 dX7_isRightLength_91 (by decide) ?_
    refine lv_icmp_ne (tgt := 107) C.1.1 C.1.2.1 dX7_isRightLength_93 (by decide) (fun c4 => ?_) (fun c4 => ?_)
    · replace hD := g_neg c4 hD
      exact hb107 M L _ _ ls hD hw (lv_sub hl [] rfl)
    · replace hD := g_pos c4 hD
      refine lv_aload_n C.1.1 C.1.2.1 dX7_isRightLength_96 rfl (lv_at hl 0 rfl) ?_
      refine lv_iconst (v := 1) C.1.1 C.1.2.1 dX7_isRightLength_97 (by decide) ?_
      obtain ⟨q5, hD⟩ := g_ck hD
      refine mr_iald C hw hk1 hT1 q5 dX7_isRightLength_98 ?_
      refine lv_iconst (v := 2) C.1.1 C.1.2.1 dX7_isRightLength_99 (by decide) ?_
      refine lv_icmp_ne (tgt := 107) C.1.1 C.1.2.1 dX7_isRightLength_100 (by decide) (fun c6 => ?_) (fun c6 => ?_)
      · replace hD := g_neg c6 hD
        exact hb107 M L _ _ ls hD hw (lv_sub hl [] rfl)
      · replace hD := g_pos c6 hD
        exact hb103 M L _ _ ls hD hw (lv_sub hl [] rfl)
  have hb119 : ∀ (s0 : Int32) (M : mwM) (L : mwL) (H : Heap) (locs : List Loc) (ls : Array Slot), fX7_isRightLength_b119 fu a1 n1 a2 s0 M L = some (r0, M0, L0) → mw_W G ad NF TF FF M L H locs → lv_has ls 2 [] → W p l e ({ frames := 0, cells := 0, slots := 0, locals := 0 }) s m [.ref (ad a1), .int a2].toArray below meth c H locs 0 0 (MQ below (mw_Qi G ad NF TF FF (mw_eqI r0 M0 L0)) [.ref (ad a1), .int a2].toArray s 0 0 (mw_fr G)) (F0 m 119 ls [.int s0]) := by
    intro s0 M L H locs ls hD hw hl
    unfold fX7_isRightLength_b119 at hD
    obtain ⟨z8, hD⟩ := g_zz hD
    exact mr_iret C hr hlocks hw (nz_zz z8) (Option.some.inj hD) dX7_isRightLength_119
  unfold DX7_isRightLength at hD
  refine lv_aload_n C.1.1 C.1.2.1 dX7_isRightLength_0 rfl (lv_at hl 0 rfl) ?_
  refine lv_iconst (v := 0) C.1.1 C.1.2.1 dX7_isRightLength_1 (by decide) ?_
  obtain ⟨q9, hD⟩ := g_ck hD
  refine mr_iald C hw hk1 hT1 q9 dX7_isRightLength_2 ?_
  obtain ⟨x10, ex10, hD⟩ := g_let hD
  refine W.eq (g2 := F0 m 3 ls (.int x10 :: [])) (by rw [ex10]) ?_
  by_cases c11 : x10 = 16
  · replace hD := g_pos c11 hD
    refine lv_lookup (tgt := 44) C.1.1 C.1.2.1 dX7_isRightLength_3 (by decide) (off := 41) (by rw [c11]; decide) (by decide) ?_
    refine lv_iload_n C.1.1 C.1.2.1 dX7_isRightLength_44 rfl (lv_at hl 1 rfl) ?_
    refine lv_iconst (v := 2) C.1.1 C.1.2.1 dX7_isRightLength_45 (by decide) ?_
    refine lv_icmp_ne (tgt := 53) C.1.1 C.1.2.1 dX7_isRightLength_46 (by decide) (fun c12 => ?_) (fun c12 => ?_)
    · replace hD := g_neg c12 hD
      refine lv_iconst (v := 0) C.1.1 C.1.2.1 dX7_isRightLength_53 (by decide) ?_
      exact hb54 0 M L _ _ ls hD hw (lv_sub hl [] rfl)
    · replace hD := g_pos c12 hD
      refine lv_iconst (v := 1) C.1.1 C.1.2.1 dX7_isRightLength_49 (by decide) ?_
      refine lv_goto (tgt := 54) C.1.1 C.1.2.1 dX7_isRightLength_50 (by decide) ?_
      exact hb54 1 M L _ _ ls hD hw (lv_sub hl [] rfl)
  replace hD := g_neg c11 hD
  by_cases c13 : x10 = 34
  · replace hD := g_pos c13 hD
    refine lv_lookup (tgt := 55) C.1.1 C.1.2.1 dX7_isRightLength_3 (by decide) (off := 52) (by rw [c13]; decide) (by decide) ?_
    refine lv_iload_n C.1.1 C.1.2.1 dX7_isRightLength_55 rfl (lv_at hl 1 rfl) ?_
    refine lv_iconst (v := 3) C.1.1 C.1.2.1 dX7_isRightLength_56 (by decide) ?_
    refine lv_icmp_ne (tgt := 64) C.1.1 C.1.2.1 dX7_isRightLength_57 (by decide) (fun c14 => ?_) (fun c14 => ?_)
    · replace hD := g_neg c14 hD
      refine lv_iconst (v := 0) C.1.1 C.1.2.1 dX7_isRightLength_64 (by decide) ?_
      exact hb65 0 M L _ _ ls hD hw (lv_sub hl [] rfl)
    · replace hD := g_pos c14 hD
      refine lv_iconst (v := 1) C.1.1 C.1.2.1 dX7_isRightLength_60 (by decide) ?_
      refine lv_goto (tgt := 65) C.1.1 C.1.2.1 dX7_isRightLength_61 (by decide) ?_
      exact hb65 1 M L _ _ ls hD hw (lv_sub hl [] rfl)
  replace hD := g_neg c13 hD
  by_cases c15 : x10 = 39
  · replace hD := g_pos c15 hD
    refine lv_lookup (tgt := 78) C.1.1 C.1.2.1 dX7_isRightLength_3 (by decide) (off := 75) (by rw [c15]; decide) (by decide) ?_
    refine lv_iload_n C.1.1 C.1.2.1 dX7_isRightLength_78 rfl (lv_at hl 1 rfl) ?_
    refine lv_iconst (v := 2) C.1.1 C.1.2.1 dX7_isRightLength_79 (by decide) ?_
    refine lv_icmp_ne (tgt := 90) C.1.1 C.1.2.1 dX7_isRightLength_80 (by decide) (fun c16 => ?_) (fun c16 => ?_)
    · replace hD := g_neg c16 hD
      exact hb90 M L _ _ ls hD hw (lv_sub hl [0, 1] rfl)
    · replace hD := g_pos c16 hD
      refine lv_aload_n C.1.1 C.1.2.1 dX7_isRightLength_83 rfl (lv_at hl 0 rfl) ?_
      refine lv_iconst (v := 1) C.1.1 C.1.2.1 dX7_isRightLength_84 (by decide) ?_
      obtain ⟨q17, hD⟩ := g_ck hD
      refine mr_iald C hw hk1 hT1 q17 dX7_isRightLength_85 ?_
      refine lv_iconst (v := 1) C.1.1 C.1.2.1 dX7_isRightLength_86 (by decide) ?_
      refine lv_icmp_eq (tgt := 103) C.1.1 C.1.2.1 dX7_isRightLength_87 (by decide) (fun c18 => ?_) (fun c18 => ?_)
      · replace hD := g_pos c18 hD
        exact hb103 M L _ _ ls hD hw (lv_sub hl [] rfl)
      · replace hD := g_neg c18 hD
        exact hb90 M L _ _ ls hD hw (lv_sub hl [0, 1] rfl)
  replace hD := g_neg c15 hD
  by_cases c19 : x10 = 46
  · replace hD := g_pos c19 hD
    refine lv_lookup (tgt := 66) C.1.1 C.1.2.1 dX7_isRightLength_3 (by decide) (off := 63) (by rw [c19]; decide) (by decide) ?_
    refine lv_iload_n C.1.1 C.1.2.1 dX7_isRightLength_66 rfl (lv_at hl 1 rfl) ?_
    refine lv_bipush (v := 11) C.1.1 C.1.2.1 dX7_isRightLength_67 (by decide) ?_
    refine lv_icmp_ne (tgt := 76) C.1.1 C.1.2.1 dX7_isRightLength_69 (by decide) (fun c20 => ?_) (fun c20 => ?_)
    · replace hD := g_neg c20 hD
      refine lv_iconst (v := 0) C.1.1 C.1.2.1 dX7_isRightLength_76 (by decide) ?_
      exact hb77 0 M L _ _ ls hD hw (lv_sub hl [] rfl)
    · replace hD := g_pos c20 hD
      refine lv_iconst (v := 1) C.1.1 C.1.2.1 dX7_isRightLength_72 (by decide) ?_
      refine lv_goto (tgt := 77) C.1.1 C.1.2.1 dX7_isRightLength_73 (by decide) ?_
      exact hb77 1 M L _ _ ls hD hw (lv_sub hl [] rfl)
  replace hD := g_neg c19 hD
  have nc11 : ¬ (16 : Int) = x10.toInt := fun q => c11 (Int32.toInt_inj.mp (q.symm.trans (by decide)))
  have nc13 : ¬ (34 : Int) = x10.toInt := fun q => c13 (Int32.toInt_inj.mp (q.symm.trans (by decide)))
  have nc15 : ¬ (39 : Int) = x10.toInt := fun q => c15 (Int32.toInt_inj.mp (q.symm.trans (by decide)))
  have nc19 : ¬ (46 : Int) = x10.toInt := fun q => c19 (Int32.toInt_inj.mp (q.symm.trans (by decide)))
  refine lv_lookup (tgt := 109) C.1.1 C.1.2.1 dX7_isRightLength_3 (by decide) (off := 106) (by simp [Op.lookupswitch.offset, nc11, nc13, nc15, nc19]) (by decide) ?_
  refine lv_iload_n C.1.1 C.1.2.1 dX7_isRightLength_109 rfl (lv_at hl 1 rfl) ?_
  refine lv_iconst (v := 1) C.1.1 C.1.2.1 dX7_isRightLength_110 (by decide) ?_
  refine lv_icmp_ne (tgt := 118) C.1.1 C.1.2.1 dX7_isRightLength_111 (by decide) (fun c21 => ?_) (fun c21 => ?_)
  · replace hD := g_neg c21 hD
    refine lv_iconst (v := 0) C.1.1 C.1.2.1 dX7_isRightLength_118 (by decide) ?_
    exact hb119 0 M L _ _ ls hD hw (lv_sub hl [] rfl)
  · replace hD := g_pos c21 hD
    refine lv_iconst (v := 1) C.1.1 C.1.2.1 dX7_isRightLength_114 (by decide) ?_
    refine lv_goto (tgt := 119) C.1.1 C.1.2.1 dX7_isRightLength_115 (by decide) ?_
    exact hb119 1 M L _ _ ls hD hw (lv_sub hl [] rfl)

theorem dX7_openSession_0 : decode cX7_openSession 0 = .ok (.iload_n 2, 1) := by decide +kernel
theorem dX7_openSession_1 : decode cX7_openSession 1 = .ok (.iconst 1, 1) := by decide +kernel
theorem dX7_openSession_2 : decode cX7_openSession 2 = .ok (.if_icmp .lt 8, 3) := by decide +kernel
theorem dX7_openSession_5 : decode cX7_openSession 5 = .ok (.iload_n 2, 1) := by decide +kernel
theorem dX7_openSession_6 : decode cX7_openSession 6 = .ok (.iconst 3, 1) := by decide +kernel
theorem dX7_openSession_7 : decode cX7_openSession 7 = .ok (.if_icmp .le 12, 3) := by decide +kernel
theorem dX7_openSession_10 : decode cX7_openSession 10 = .ok (.aload_n 0, 1) := by decide +kernel
theorem dX7_openSession_11 : decode cX7_openSession 11 = .ok (.bipush 16, 2) := by decide +kernel
theorem dX7_openSession_13 : decode cX7_openSession 13 = .ok (.bipush 18, 2) := by decide +kernel
theorem dX7_openSession_15 : decode cX7_openSession 15 = .ok (.invokevirtual 45, 3) := by decide +kernel
theorem dX7_openSession_18 : decode cX7_openSession 18 = .ok (.return_, 1) := by decide +kernel
theorem dX7_openSession_19 : decode cX7_openSession 19 = .ok (.aload_n 0, 1) := by decide +kernel
theorem dX7_openSession_20 : decode cX7_openSession 20 = .ok (.getfield 9, 3) := by decide +kernel
theorem dX7_openSession_23 : decode cX7_openSession 23 = .ok (.iload_n 1, 1) := by decide +kernel
theorem dX7_openSession_24 : decode cX7_openSession 24 = .ok (.iload_n 2, 1) := by decide +kernel
theorem dX7_openSession_25 : decode cX7_openSession 25 = .ok (.iastore, 1) := by decide +kernel
theorem dX7_openSession_26 : decode cX7_openSession 26 = .ok (.aload_n 0, 1) := by decide +kernel
theorem dX7_openSession_27 : decode cX7_openSession 27 = .ok (.getfield 15, 3) := by decide +kernel
theorem dX7_openSession_30 : decode cX7_openSession 30 = .ok (.iload_n 1, 1) := by decide +kernel
theorem dX7_openSession_31 : decode cX7_openSession 31 = .ok (.iconst 0, 1) := by decide +kernel
theorem dX7_openSession_32 : decode cX7_openSession 32 = .ok (.bastore, 1) := by decide +kernel
theorem dX7_openSession_33 : decode cX7_openSession 33 = .ok (.aload_n 0, 1) := by decide +kernel
theorem dX7_openSession_34 : decode cX7_openSession 34 = .ok (.getfield 19, 3) := by decide +kernel
theorem dX7_openSession_37 : decode cX7_openSession 37 = .ok (.iload_n 1, 1) := by decide +kernel
theorem dX7_openSession_38 : decode cX7_openSession 38 = .ok (.iconst 0, 1) := by decide +kernel
theorem dX7_openSession_39 : decode cX7_openSession 39 = .ok (.bastore, 1) := by decide +kernel
theorem dX7_openSession_40 : decode cX7_openSession 40 = .ok (.aload_n 0, 1) := by decide +kernel
theorem dX7_openSession_41 : decode cX7_openSession 41 = .ok (.bipush 80, 2) := by decide +kernel
theorem dX7_openSession_43 : decode cX7_openSession 43 = .ok (.invokevirtual 95, 3) := by decide +kernel
theorem dX7_openSession_46 : decode cX7_openSession 46 = .ok (.aload_n 0, 1) := by decide +kernel
theorem dX7_openSession_47 : decode cX7_openSession 47 = .ok (.iload_n 2, 1) := by decide +kernel
theorem dX7_openSession_48 : decode cX7_openSession 48 = .ok (.invokevirtual 95, 3) := by decide +kernel
theorem dX7_openSession_51 : decode cX7_openSession 51 = .ok (.return_, 1) := by decide +kernel
theorem cwX7_openSession : mw_cwV yX7_openSession cX7_openSession 3 (none) 2 := ⟨⟨wd_11, wd_1562, by decide +kernel⟩, wd_1561, sl_108⟩
set_option maxHeartbeats 4000000 in
set_option maxRecDepth 100000 in
theorem tX7_openSession (l : Launch) (G : mwG) (ad : Nat → Nat) (fu : Nat) (a1 : Int32) (a2 : Int32) (M : mwM) (L : mwL) {M0 : mwM} {L0 : mwL} (hD : DX7_openSession fu a1 a2 M L = some (M0, L0)) : Met l yX7_openSession (Cond.code yX7_openSession cX7_openSession 3 (none) :: GT) ({ frames := 2, cells := 0, slots := 0, locals := 43 }) (mw_Pre G ad NF TF FF M L [.ref (ad 275), .int a1, .int a2]) (mw_Qv G ad NF TF FF (mw_eqV M0 L0)) 0 0 (mw_fr G) := by
  refine mw_enter (by decide) (Nat.le_of_ble_eq_true rfl) ?_
  intro p e s m below meth c ls C hr hlocks hnm hw hl
  have hl : lv_has ls 3 [(0, .ref (ad 275)), (1, .int a1), (2, .int a2)] := hl
  have hb10 : ∀ (M : mwM) (L : mwL) (H : Heap) (locs : List Loc) (ls : Array Slot), fX7_openSession_b10 fu a1 a2 M L = some (M0, L0) → mw_W G ad NF TF FF M L H locs → lv_has ls 3 [(0, .ref (ad 275))] → W p l e ({ frames := 2, cells := 0, slots := 0, locals := 43 }) s m [.ref (ad 275), .int a1, .int a2].toArray below meth c H locs 0 0 (MQ below (mw_Qv G ad NF TF FF (mw_eqV M0 L0)) [.ref (ad 275), .int a1, .int a2].toArray s 0 0 (mw_fr G)) (F0 m 10 ls []) := by
    intro M L H locs ls hD hw hl
    unfold fX7_openSession_b10 at hD
    refine lv_aload_n C.1.1 C.1.2.1 dX7_openSession_10 rfl (lv_at hl 0 rfl) ?_
    refine lv_bipush (v := 16) C.1.1 C.1.2.1 dX7_openSession_11 (by decide) ?_
    refine lv_bipush (v := 18) C.1.1 C.1.2.1 dX7_openSession_13 (by decide) ?_
    obtain ⟨M1, L2, h1, hD⟩ := g_b2 hD
    refine md_cvV (As := [.int 16, .int 18]) (rest := []) C hw (tX7_refuse l G ad fu 16 18 M L h1) kc_7 (by decide) tf_275 wd_1548 cwX7_refuse ⟨Nat.le_of_ble_eq_true rfl, Nat.le_of_ble_eq_true rfl⟩ rfl hl.1 (Nat.le_of_ble_eq_true rfl) dX7_openSession_15 rfl rfl ⟨Nat.zero_le _, Nat.zero_le _⟩ rfl (fun H locs hw => ?_)
    exact mr_vret C hr hlocks hw (Option.some.inj hD) dX7_openSession_18
  unfold DX7_openSession at hD
  refine lv_iload_n C.1.1 C.1.2.1 dX7_openSession_0 rfl (lv_at hl 2 rfl) ?_
  refine lv_iconst (v := 1) C.1.1 C.1.2.1 dX7_openSession_1 (by decide) ?_
  refine lv_icmp_lt (tgt := 10) C.1.1 C.1.2.1 dX7_openSession_2 (by decide) (fun c3 => ?_) (fun c3 => ?_)
  · replace hD := g_pos c3 hD
    exact hb10 M L _ _ ls hD hw (lv_sub hl [0] rfl)
  · replace hD := g_neg c3 hD
    refine lv_iload_n C.1.1 C.1.2.1 dX7_openSession_5 rfl (lv_at hl 2 rfl) ?_
    refine lv_iconst (v := 3) C.1.1 C.1.2.1 dX7_openSession_6 (by decide) ?_
    refine lv_icmp_le (tgt := 19) C.1.1 C.1.2.1 dX7_openSession_7 (by decide) (fun c4 => ?_) (fun c4 => ?_)
    · replace hD := g_pos c4 hD
      refine lv_aload_n C.1.1 C.1.2.1 dX7_openSession_19 rfl (lv_at hl 0 rfl) ?_
      refine mr_getR C hw kc_7 0 (by decide) tf_275 ff_275_0 wd_407 dX7_openSession_20 (by decide) rfl ?_
      refine lv_iload_n C.1.1 C.1.2.1 dX7_openSession_23 rfl (lv_at hl 1 rfl) ?_
      refine lv_iload_n C.1.1 C.1.2.1 dX7_openSession_24 rfl (lv_at hl 2 rfl) ?_
      obtain ⟨q5, hD⟩ := g_ck hD
      obtain ⟨M6, eM6, hD⟩ := g_let hD
      refine mr_iast C hw (by decide) tf_276 q5 dX7_openSession_25 (fun H locs hw => ?_)
      replace hw : mw_W G ad NF TF FF M6 L H locs := by rw [eM6]; exact hw
      refine lv_aload_n C.1.1 C.1.2.1 dX7_openSession_26 rfl (lv_at hl 0 rfl) ?_
      refine mr_getR C hw kc_7 1 (by decide) tf_275 ff_275_1 wd_408 dX7_openSession_27 (by decide) rfl ?_
      refine lv_iload_n C.1.1 C.1.2.1 dX7_openSession_30 rfl (lv_at hl 1 rfl) ?_
      refine lv_iconst (v := 0) C.1.1 C.1.2.1 dX7_openSession_31 (by decide) ?_
      obtain ⟨q7, hD⟩ := g_ck hD
      obtain ⟨M8, eM8, hD⟩ := g_let hD
      refine mr_zast C hw (by decide) tf_277 q7 dX7_openSession_32 (fun H locs hw => ?_)
      replace hw : mw_W G ad NF TF FF M8 L H locs := by rw [eM8]; exact hw
      refine lv_aload_n C.1.1 C.1.2.1 dX7_openSession_33 rfl (lv_at hl 0 rfl) ?_
      refine mr_getR C hw kc_7 2 (by decide) tf_275 ff_275_2 wd_409 dX7_openSession_34 (by decide) rfl ?_
      refine lv_iload_n C.1.1 C.1.2.1 dX7_openSession_37 rfl (lv_at hl 1 rfl) ?_
      refine lv_iconst (v := 0) C.1.1 C.1.2.1 dX7_openSession_38 (by decide) ?_
      obtain ⟨q9, hD⟩ := g_ck hD
      obtain ⟨M10, eM10, hD⟩ := g_let hD
      refine mr_zast C hw (by decide) tf_278 q9 dX7_openSession_39 (fun H locs hw => ?_)
      replace hw : mw_W G ad NF TF FF M10 L H locs := by rw [eM10]; exact hw
      refine lv_aload_n C.1.1 C.1.2.1 dX7_openSession_40 rfl (lv_at hl 0 rfl) ?_
      refine lv_bipush (v := 80) C.1.1 C.1.2.1 dX7_openSession_41 (by decide) ?_
      obtain ⟨M11, L12, h1, hD⟩ := g_b2 hD
      refine md_cvV (As := [.int 80]) (rest := []) C hw (tX7_put l G ad fu 80 M10 L h1) kc_7 (by decide) tf_275 wd_1552 cwX7_put ⟨Nat.le_of_ble_eq_true rfl, Nat.le_of_ble_eq_true rfl⟩ rfl hl.1 (Nat.le_of_ble_eq_true rfl) dX7_openSession_43 rfl rfl ⟨Nat.zero_le _, Nat.zero_le _⟩ rfl (fun H locs hw => ?_)
      refine lv_aload_n C.1.1 C.1.2.1 dX7_openSession_46 rfl (lv_at hl 0 rfl) ?_
      refine lv_iload_n C.1.1 C.1.2.1 dX7_openSession_47 rfl (lv_at hl 2 rfl) ?_
      obtain ⟨M13, L14, h1, hD⟩ := g_b2 hD
      refine md_cvV (As := [.int a2]) (rest := []) C hw (tX7_put l G ad fu a2 M11 L12 h1) kc_7 (by decide) tf_275 wd_1552 cwX7_put ⟨Nat.le_of_ble_eq_true rfl, Nat.le_of_ble_eq_true rfl⟩ rfl hl.1 (Nat.le_of_ble_eq_true rfl) dX7_openSession_48 rfl rfl ⟨Nat.zero_le _, Nat.zero_le _⟩ rfl (fun H locs hw => ?_)
      exact mr_vret C hr hlocks hw (Option.some.inj hD) dX7_openSession_51
    · replace hD := g_neg c4 hD
      exact hb10 M L _ _ ls hD hw (lv_sub hl [0] rfl)

theorem dX7_hasDatum_0 : decode cX7_hasDatum 0 = .ok (.iload_n 2, 1) := by decide +kernel
theorem dX7_hasDatum_1 : decode cX7_hasDatum 1 = .ok (.iconst 1, 1) := by decide +kernel
theorem dX7_hasDatum_2 : decode cX7_hasDatum 2 = .ok (.if_icmp .lt 31, 3) := by decide +kernel
theorem dX7_hasDatum_5 : decode cX7_hasDatum 5 = .ok (.iload_n 2, 1) := by decide +kernel
theorem dX7_hasDatum_6 : decode cX7_hasDatum 6 = .ok (.bipush 12, 2) := by decide +kernel
theorem dX7_hasDatum_8 : decode cX7_hasDatum 8 = .ok (.if_icmp .gt 25, 3) := by decide +kernel
theorem dX7_hasDatum_11 : decode cX7_hasDatum 11 = .ok (.aload_n 0, 1) := by decide +kernel
theorem dX7_hasDatum_12 : decode cX7_hasDatum 12 = .ok (.iload_n 2, 1) := by decide +kernel
theorem dX7_hasDatum_13 : decode cX7_hasDatum 13 = .ok (.iconst 1, 1) := by decide +kernel
theorem dX7_hasDatum_14 : decode cX7_hasDatum 14 = .ok (.isub, 1) := by decide +kernel
theorem dX7_hasDatum_15 : decode cX7_hasDatum 15 = .ok (.aaload, 1) := by decide +kernel
theorem dX7_hasDatum_16 : decode cX7_hasDatum 16 = .ok (.getfield 98, 3) := by decide +kernel
theorem dX7_hasDatum_19 : decode cX7_hasDatum 19 = .ok (.iload_n 1, 1) := by decide +kernel
theorem dX7_hasDatum_20 : decode cX7_hasDatum 20 = .ok (.if_icmp .ne 13, 3) := by decide +kernel
theorem dX7_hasDatum_23 : decode cX7_hasDatum 23 = .ok (.iload_n 3, 1) := by decide +kernel
theorem dX7_hasDatum_24 : decode cX7_hasDatum 24 = .ok (.bipush 32, 2) := by decide +kernel
theorem dX7_hasDatum_26 : decode cX7_hasDatum 26 = .ok (.if_icmp .ge 7, 3) := by decide +kernel
theorem dX7_hasDatum_29 : decode cX7_hasDatum 29 = .ok (.iconst 1, 1) := by decide +kernel
theorem dX7_hasDatum_30 : decode cX7_hasDatum 30 = .ok (.goto 4, 3) := by decide +kernel
theorem dX7_hasDatum_33 : decode cX7_hasDatum 33 = .ok (.iconst 0, 1) := by decide +kernel
theorem dX7_hasDatum_34 : decode cX7_hasDatum 34 = .ok (.ireturn, 1) := by decide +kernel
theorem cwX7_hasDatum : mw_cwS yX7_hasDatum cX7_hasDatum 4 ((some .boolean)) 4 := ⟨⟨wd_11, wd_1569, by decide +kernel⟩, wd_1568⟩
set_option maxHeartbeats 4000000 in
set_option maxRecDepth 100000 in
theorem tX7_hasDatum (l : Launch) (G : mwG) (ad : Nat → Nat) (fu : Nat) (a2 : Int32) (a3 : Int32) (a4 : Int32) (M : mwM) (L : mwL) {r0 : Int32} {M0 : mwM} {L0 : mwL} (hD : DX7_hasDatum fu a2 a3 a4 M L = some (r0, M0, L0)) : Met l yX7_hasDatum (Cond.code yX7_hasDatum cX7_hasDatum 4 ((some .boolean)) :: GT) ({ frames := 0, cells := 0, slots := 0, locals := 0 }) (mw_Pre G ad NF TF FF M L [.ref (ad 4), .int a2, .int a3, .int a4]) (mw_Qi G ad NF TF FF (mw_eqI r0 M0 L0)) 0 0 (mw_fr G) := by
  refine mw_enter (by decide) (Nat.le_of_ble_eq_true rfl) ?_
  intro p e s m below meth c ls C hr hlocks hnm hw hl
  have hl : lv_has ls 4 [(0, .ref (ad 4)), (1, .int a2), (2, .int a3), (3, .int a4)] := hl
  have hb34 : ∀ (s0 : Int32) (M : mwM) (L : mwL) (H : Heap) (locs : List Loc) (ls : Array Slot), fX7_hasDatum_b34 fu a2 a3 a4 s0 M L = some (r0, M0, L0) → mw_W G ad NF TF FF M L H locs → lv_has ls 4 [] → W p l e ({ frames := 0, cells := 0, slots := 0, locals := 0 }) s m [.ref (ad 4), .int a2, .int a3, .int a4].toArray below meth c H locs 0 0 (MQ below (mw_Qi G ad NF TF FF (mw_eqI r0 M0 L0)) [.ref (ad 4), .int a2, .int a3, .int a4].toArray s 0 0 (mw_fr G)) (F0 m 34 ls [.int s0]) := by
    intro s0 M L H locs ls hD hw hl
    unfold fX7_hasDatum_b34 at hD
    obtain ⟨z1, hD⟩ := g_zz hD
    exact mr_iret C hr hlocks hw (nz_zz z1) (Option.some.inj hD) dX7_hasDatum_34
  have hb33 : ∀ (M : mwM) (L : mwL) (H : Heap) (locs : List Loc) (ls : Array Slot), fX7_hasDatum_b33 fu a2 a3 a4 M L = some (r0, M0, L0) → mw_W G ad NF TF FF M L H locs → lv_has ls 4 [] → W p l e ({ frames := 0, cells := 0, slots := 0, locals := 0 }) s m [.ref (ad 4), .int a2, .int a3, .int a4].toArray below meth c H locs 0 0 (MQ below (mw_Qi G ad NF TF FF (mw_eqI r0 M0 L0)) [.ref (ad 4), .int a2, .int a3, .int a4].toArray s 0 0 (mw_fr G)) (F0 m 33 ls []) := by
    intro M L H locs ls hD hw hl
    unfold fX7_hasDatum_b33 at hD
    refine lv_iconst (v := 0) C.1.1 C.1.2.1 dX7_hasDatum_33 (by decide) ?_
    exact hb34 0 M L _ _ ls hD hw (lv_sub hl [] rfl)
  unfold DX7_hasDatum at hD
  refine lv_iload_n C.1.1 C.1.2.1 dX7_hasDatum_0 rfl (lv_at hl 2 rfl) ?_
  refine lv_iconst (v := 1) C.1.1 C.1.2.1 dX7_hasDatum_1 (by decide) ?_
  refine lv_icmp_lt (tgt := 33) C.1.1 C.1.2.1 dX7_hasDatum_2 (by decide) (fun c2 => ?_) (fun c2 => ?_)
  · replace hD := g_pos c2 hD
    exact hb33 M L _ _ ls hD hw (lv_sub hl [] rfl)
  · replace hD := g_neg c2 hD
    refine lv_iload_n C.1.1 C.1.2.1 dX7_hasDatum_5 rfl (lv_at hl 2 rfl) ?_
    refine lv_bipush (v := 12) C.1.1 C.1.2.1 dX7_hasDatum_6 (by decide) ?_
    refine lv_icmp_gt (tgt := 33) C.1.1 C.1.2.1 dX7_hasDatum_8 (by decide) (fun c3 => ?_) (fun c3 => ?_)
    · replace hD := g_pos c3 hD
      exact hb33 M L _ _ ls hD hw (lv_sub hl [] rfl)
    · replace hD := g_neg c3 hD
      refine lv_aload_n C.1.1 C.1.2.1 dX7_hasDatum_11 rfl (lv_at hl 0 rfl) ?_
      refine lv_iload_n C.1.1 C.1.2.1 dX7_hasDatum_12 rfl (lv_at hl 2 rfl) ?_
      refine lv_iconst (v := 1) C.1.1 C.1.2.1 dX7_hasDatum_13 (by decide) ?_
      refine lv_isub C.1.1 C.1.2.1 dX7_hasDatum_14 ?_
      obtain ⟨q4, hD⟩ := g_ck hD
      refine mr_aald C hw (by decide) tf_4 (by decide) (by decide) rfl rfl q4 (fr_4 _ (g_lt q4)) dX7_hasDatum_15 ?_
      refine mr_getNI C hw kc_2 5 (Ch_N0 (isCh_of (g_lt q4))) (Ch_T0 (isCh_of (g_lt q4))) nd_455 dX7_hasDatum_16 (by decide) rfl ?_
      refine lv_iload_n C.1.1 C.1.2.1 dX7_hasDatum_19 rfl (lv_at hl 1 rfl) ?_
      refine lv_icmp_ne (tgt := 33) C.1.1 C.1.2.1 dX7_hasDatum_20 (by decide) (fun c5 => ?_) (fun c5 => ?_)
      · replace hD := g_neg c5 hD
        exact hb33 M L _ _ ls hD hw (lv_sub hl [] rfl)
      · replace hD := g_pos c5 hD
        refine lv_iload_n C.1.1 C.1.2.1 dX7_hasDatum_23 rfl (lv_at hl 3 rfl) ?_
        refine lv_bipush (v := 32) C.1.1 C.1.2.1 dX7_hasDatum_24 (by decide) ?_
        refine lv_icmp_ge (tgt := 33) C.1.1 C.1.2.1 dX7_hasDatum_26 (by decide) (fun c6 => ?_) (fun c6 => ?_)
        · replace hD := g_pos c6 hD
          exact hb33 M L _ _ ls hD hw (lv_sub hl [] rfl)
        · replace hD := g_neg c6 hD
          refine lv_iconst (v := 1) C.1.1 C.1.2.1 dX7_hasDatum_29 (by decide) ?_
          refine lv_goto (tgt := 34) C.1.1 C.1.2.1 dX7_hasDatum_30 (by decide) ?_
          exact hb34 1 M L _ _ ls hD hw (lv_sub hl [] rfl)

theorem dX7_readDatum_0 : decode cX7_readDatum 0 = .ok (.aload_n 1, 1) := by decide +kernel
theorem dX7_readDatum_1 : decode cX7_readDatum 1 = .ok (.iload_n 2, 1) := by decide +kernel
theorem dX7_readDatum_2 : decode cX7_readDatum 2 = .ok (.iload_n 3, 1) := by decide +kernel
theorem dX7_readDatum_3 : decode cX7_readDatum 3 = .ok (.iload 4, 2) := by decide +kernel
theorem dX7_readDatum_5 : decode cX7_readDatum 5 = .ok (.invokestatic 103, 3) := by decide +kernel
theorem dX7_readDatum_8 : decode cX7_readDatum 8 = .ok (.ifCond .ne 12, 3) := by decide +kernel
theorem dX7_readDatum_11 : decode cX7_readDatum 11 = .ok (.aload_n 0, 1) := by decide +kernel
theorem dX7_readDatum_12 : decode cX7_readDatum 12 = .ok (.bipush 34, 2) := by decide +kernel
theorem dX7_readDatum_14 : decode cX7_readDatum 14 = .ok (.bipush 49, 2) := by decide +kernel
theorem dX7_readDatum_16 : decode cX7_readDatum 16 = .ok (.invokevirtual 45, 3) := by decide +kernel
theorem dX7_readDatum_19 : decode cX7_readDatum 19 = .ok (.return_, 1) := by decide +kernel
theorem dX7_readDatum_20 : decode cX7_readDatum 20 = .ok (.aload_n 0, 1) := by decide +kernel
theorem dX7_readDatum_21 : decode cX7_readDatum 21 = .ok (.bipush 98, 2) := by decide +kernel
theorem dX7_readDatum_23 : decode cX7_readDatum 23 = .ok (.invokevirtual 95, 3) := by decide +kernel
theorem dX7_readDatum_26 : decode cX7_readDatum 26 = .ok (.aload_n 0, 1) := by decide +kernel
theorem dX7_readDatum_27 : decode cX7_readDatum 27 = .ok (.iload_n 3, 1) := by decide +kernel
theorem dX7_readDatum_28 : decode cX7_readDatum 28 = .ok (.invokevirtual 95, 3) := by decide +kernel
theorem dX7_readDatum_31 : decode cX7_readDatum 31 = .ok (.aload_n 0, 1) := by decide +kernel
theorem dX7_readDatum_32 : decode cX7_readDatum 32 = .ok (.iload 4, 2) := by decide +kernel
theorem dX7_readDatum_34 : decode cX7_readDatum 34 = .ok (.invokevirtual 95, 3) := by decide +kernel
theorem dX7_readDatum_37 : decode cX7_readDatum 37 = .ok (.bipush 56, 2) := by decide +kernel
theorem dX7_readDatum_39 : decode cX7_readDatum 39 = .ok (.istore 5, 2) := by decide +kernel
theorem dX7_readDatum_41 : decode cX7_readDatum 41 = .ok (.iload 5, 2) := by decide +kernel
theorem dX7_readDatum_43 : decode cX7_readDatum 43 = .ok (.ifCond .lt 32, 3) := by decide +kernel
theorem dX7_readDatum_46 : decode cX7_readDatum 46 = .ok (.aload_n 0, 1) := by decide +kernel
theorem dX7_readDatum_47 : decode cX7_readDatum 47 = .ok (.aload_n 1, 1) := by decide +kernel
theorem dX7_readDatum_48 : decode cX7_readDatum 48 = .ok (.iload_n 3, 1) := by decide +kernel
theorem dX7_readDatum_49 : decode cX7_readDatum 49 = .ok (.iconst 1, 1) := by decide +kernel
theorem dX7_readDatum_50 : decode cX7_readDatum 50 = .ok (.isub, 1) := by decide +kernel
theorem dX7_readDatum_51 : decode cX7_readDatum 51 = .ok (.aaload, 1) := by decide +kernel
theorem dX7_readDatum_52 : decode cX7_readDatum 52 = .ok (.getfield 107, 3) := by decide +kernel
theorem dX7_readDatum_55 : decode cX7_readDatum 55 = .ok (.iload 4, 2) := by decide +kernel
theorem dX7_readDatum_57 : decode cX7_readDatum 57 = .ok (.laload, 1) := by decide +kernel
theorem dX7_readDatum_58 : decode cX7_readDatum 58 = .ok (.iload 5, 2) := by decide +kernel
theorem dX7_readDatum_60 : decode cX7_readDatum 60 = .ok (.lushr, 1) := by decide +kernel
theorem dX7_readDatum_61 : decode cX7_readDatum 61 = .ok (.l2i, 1) := by decide +kernel
theorem dX7_readDatum_62 : decode cX7_readDatum 62 = .ok (.sipush 255, 3) := by decide +kernel
theorem dX7_readDatum_65 : decode cX7_readDatum 65 = .ok (.iand, 1) := by decide +kernel
theorem dX7_readDatum_66 : decode cX7_readDatum 66 = .ok (.invokevirtual 95, 3) := by decide +kernel
theorem dX7_readDatum_69 : decode cX7_readDatum 69 = .ok (.iinc 5 (-8), 3) := by decide +kernel
theorem dX7_readDatum_72 : decode cX7_readDatum 72 = .ok (.goto (-31), 3) := by decide +kernel
theorem dX7_readDatum_75 : decode cX7_readDatum 75 = .ok (.return_, 1) := by decide +kernel
theorem cwX7_readDatum : mw_cwV yX7_readDatum cX7_readDatum 6 (none) 4 := ⟨⟨wd_11, wd_1566, by decide +kernel⟩, wd_1565, sl_109⟩
set_option maxHeartbeats 4000000 in
set_option maxRecDepth 100000 in
theorem tX7_readDatum (l : Launch) (G : mwG) (ad : Nat → Nat) (fu : Nat) (a2 : Int32) (a3 : Int32) (a4 : Int32) (M : mwM) (L : mwL) {M0 : mwM} {L0 : mwL} (hD : DX7_readDatum fu a2 a3 a4 M L = some (M0, L0)) : Met l yX7_readDatum (Cond.code yX7_readDatum cX7_readDatum 6 (none) :: GT) ({ frames := 2, cells := 0, slots := 0, locals := 43 }) (mw_Pre G ad NF TF FF M L [.ref (ad 275), .ref (ad 4), .int a2, .int a3, .int a4]) (mw_Qv G ad NF TF FF (mw_eqV M0 L0)) 0 0 (mw_fr G) := by
  refine mw_enter (by decide) (Nat.le_of_ble_eq_true rfl) ?_
  intro p e s m below meth c ls C hr hlocks hnm hw hl
  have hl : lv_has ls 6 [(0, .ref (ad 275)), (1, .ref (ad 4)), (2, .int a2), (3, .int a3), (4, .int a4)] := hl
  have hh41 : ∀ (f : Nat) (v5 : Int32) (M : mwM) (L : mwL) (H : Heap) (locs : List Loc) (ls : Array Slot), fX7_readDatum_h41 fu a2 a3 a4 f (v5, M, L) = some (M0, L0) → mw_W G ad NF TF FF M L H locs → lv_has ls 6 [(0, .ref (ad 275)), (1, .ref (ad 4)), (3, .int a3), (4, .int a4), (5, .int v5)] → W p l e ({ frames := 2, cells := 0, slots := 0, locals := 43 }) s m [.ref (ad 275), .ref (ad 4), .int a2, .int a3, .int a4].toArray below meth c H locs 0 0 (MQ below (mw_Qv G ad NF TF FF (mw_eqV M0 L0)) [.ref (ad 275), .ref (ad 4), .int a2, .int a3, .int a4].toArray s 0 0 (mw_fr G)) (F0 m 41 ls []) := by
    intro f
    induction f with
    | zero => intro v5 M L H locs ls hD; cases hD
    | succ f41 ih41 =>
      intro v5 M L H locs ls hD hw hl
      replace hD : fX7_readDatum_i41 fu a2 a3 a4 (fX7_readDatum_h41 fu a2 a3 a4 f41) v5 M L = some (M0, L0) := hD
      unfold fX7_readDatum_i41 at hD
      refine lv_iload C.1.1 C.1.2.1 dX7_readDatum_41 (lv_at hl 4 rfl) ?_
      refine lv_if_lt (tgt := 75) C.1.1 C.1.2.1 dX7_readDatum_43 (by decide) (fun c1 => ?_) (fun c1 => ?_)
      · replace hD := g_pos c1 hD
        exact mr_vret C hr hlocks hw (Option.some.inj hD) dX7_readDatum_75
      · replace hD := g_neg c1 hD
        refine lv_aload_n C.1.1 C.1.2.1 dX7_readDatum_46 rfl (lv_at hl 0 rfl) ?_
        refine lv_aload_n C.1.1 C.1.2.1 dX7_readDatum_47 rfl (lv_at hl 1 rfl) ?_
        refine lv_iload_n C.1.1 C.1.2.1 dX7_readDatum_48 rfl (lv_at hl 2 rfl) ?_
        refine lv_iconst (v := 1) C.1.1 C.1.2.1 dX7_readDatum_49 (by decide) ?_
        refine lv_isub C.1.1 C.1.2.1 dX7_readDatum_50 ?_
        obtain ⟨q2, hD⟩ := g_ck hD
        refine mr_aald C hw (by decide) tf_4 (by decide) (by decide) rfl rfl q2 (fr_4 _ (g_lt q2)) dX7_readDatum_51 ?_
        refine mr_getNR C hw kc_2 3 (Ch_N0 (isCh_of (g_lt q2))) (Ch_T0 (isCh_of (g_lt q2))) (Ch_F0_3 (isCh_of (g_lt q2))) nd_448 dX7_readDatum_52 (by decide) rfl ?_
        refine lv_iload C.1.1 C.1.2.1 dX7_readDatum_55 (lv_at hl 3 rfl) ?_
        obtain ⟨q3, hD⟩ := g_ck hD
        refine mr_lald C hw (Ch_N34 (isCh_of (g_lt q2))) (Ch_T34 (isCh_of (g_lt q2))) q3 dX7_readDatum_57 ?_
        refine lv_iload C.1.1 C.1.2.1 dX7_readDatum_58 (lv_at hl 4 rfl) ?_
        refine lv_lushr C.1.1 C.1.2.1 dX7_readDatum_60 rfl ?_
        refine lv_l2i C.1.1 C.1.2.1 dX7_readDatum_61 rfl ?_
        refine lv_sipush (v := 255) C.1.1 C.1.2.1 dX7_readDatum_62 (by decide) ?_
        refine lv_iand C.1.1 C.1.2.1 dX7_readDatum_65 ?_
        obtain ⟨M4, L5, h1, hD⟩ := g_b2 hD
        refine md_cvV (As := [.int (((((L ((293 + 36 * (a3 - 1).toNatClampNeg) + 34) a4.toNatClampNeg).toUInt64 >>> (v5.toInt64.toUInt64 &&& Int64.toUInt64 63)).toInt64).toInt32) &&& 255)]) (rest := []) C hw (tX7_put l G ad fu (((((L ((293 + 36 * (a3 - 1).toNatClampNeg) + 34) a4.toNatClampNeg).toUInt64 >>> (v5.toInt64.toUInt64 &&& Int64.toUInt64 63)).toInt64).toInt32) &&& 255) M L h1) kc_7 (by decide) tf_275 wd_1552 cwX7_put ⟨Nat.le_of_ble_eq_true rfl, Nat.le_of_ble_eq_true rfl⟩ rfl hl.1 (Nat.le_of_ble_eq_true rfl) dX7_readDatum_66 rfl rfl ⟨Nat.zero_le _, Nat.zero_le _⟩ rfl (fun H locs hw => ?_)
        obtain ⟨x6, ex6, hD⟩ := g_let hD
        refine lv_iinc (v := x6) (lv' := [(5, .int x6), (0, .ref (ad 275)), (1, .ref (ad 4)), (3, .int a3), (4, .int a4)]) C.1.1 C.1.2.1 dX7_readDatum_69 hl (k := 4) rfl (by rw [ex6]; rfl) (by decide) rfl (fun ls hl => ?_)
        refine lv_goto (tgt := 41) C.1.1 C.1.2.1 dX7_readDatum_72 (by decide) ?_
        exact ih41 x6 M4 L5 _ _ ls hD hw (lv_sub hl [1, 2, 3, 4, 0] rfl)
  unfold DX7_readDatum at hD
  refine lv_aload_n C.1.1 C.1.2.1 dX7_readDatum_0 rfl (lv_at hl 1 rfl) ?_
  refine lv_iload_n C.1.1 C.1.2.1 dX7_readDatum_1 rfl (lv_at hl 2 rfl) ?_
  refine lv_iload_n C.1.1 C.1.2.1 dX7_readDatum_2 rfl (lv_at hl 3 rfl) ?_
  refine lv_iload C.1.1 C.1.2.1 dX7_readDatum_3 (lv_at hl 4 rfl) ?_
  obtain ⟨r9, M7, L8, h1, hD⟩ := g_b3 hD
  refine md_csI (As := [.ref (ad 4), .int a2, .int a3, .int a4]) (rest := []) C hw (tX7_hasDatum l G ad fu a2 a3 a4 M L h1) wd_1567 cwX7_hasDatum ⟨Nat.le_of_ble_eq_true rfl, Nat.le_of_ble_eq_true rfl⟩ rfl hl.1 (Nat.le_of_ble_eq_true rfl) dX7_readDatum_5 rfl rfl ⟨Nat.zero_le _, Nat.zero_le _⟩ rfl (fun H locs hw => ?_)
  refine lv_if_ne (tgt := 20) C.1.1 C.1.2.1 dX7_readDatum_8 (by decide) (fun c10 => ?_) (fun c10 => ?_)
  · replace hD := g_neg c10 hD
    refine lv_aload_n C.1.1 C.1.2.1 dX7_readDatum_20 rfl (lv_at hl 0 rfl) ?_
    refine lv_bipush (v := 98) C.1.1 C.1.2.1 dX7_readDatum_21 (by decide) ?_
    obtain ⟨M11, L12, h1, hD⟩ := g_b2 hD
    refine md_cvV (As := [.int 98]) (rest := []) C hw (tX7_put l G ad fu 98 M7 L8 h1) kc_7 (by decide) tf_275 wd_1552 cwX7_put ⟨Nat.le_of_ble_eq_true rfl, Nat.le_of_ble_eq_true rfl⟩ rfl hl.1 (Nat.le_of_ble_eq_true rfl) dX7_readDatum_23 rfl rfl ⟨Nat.zero_le _, Nat.zero_le _⟩ rfl (fun H locs hw => ?_)
    refine lv_aload_n C.1.1 C.1.2.1 dX7_readDatum_26 rfl (lv_at hl 0 rfl) ?_
    refine lv_iload_n C.1.1 C.1.2.1 dX7_readDatum_27 rfl (lv_at hl 3 rfl) ?_
    obtain ⟨M13, L14, h1, hD⟩ := g_b2 hD
    refine md_cvV (As := [.int a3]) (rest := []) C hw (tX7_put l G ad fu a3 M11 L12 h1) kc_7 (by decide) tf_275 wd_1552 cwX7_put ⟨Nat.le_of_ble_eq_true rfl, Nat.le_of_ble_eq_true rfl⟩ rfl hl.1 (Nat.le_of_ble_eq_true rfl) dX7_readDatum_28 rfl rfl ⟨Nat.zero_le _, Nat.zero_le _⟩ rfl (fun H locs hw => ?_)
    refine lv_aload_n C.1.1 C.1.2.1 dX7_readDatum_31 rfl (lv_at hl 0 rfl) ?_
    refine lv_iload C.1.1 C.1.2.1 dX7_readDatum_32 (lv_at hl 4 rfl) ?_
    obtain ⟨M15, L16, h1, hD⟩ := g_b2 hD
    refine md_cvV (As := [.int a4]) (rest := []) C hw (tX7_put l G ad fu a4 M13 L14 h1) kc_7 (by decide) tf_275 wd_1552 cwX7_put ⟨Nat.le_of_ble_eq_true rfl, Nat.le_of_ble_eq_true rfl⟩ rfl hl.1 (Nat.le_of_ble_eq_true rfl) dX7_readDatum_34 rfl rfl ⟨Nat.zero_le _, Nat.zero_le _⟩ rfl (fun H locs hw => ?_)
    refine lv_bipush (v := 56) C.1.1 C.1.2.1 dX7_readDatum_37 (by decide) ?_
    refine lv_istore (lv' := [(5, .int 56), (0, .ref (ad 275)), (1, .ref (ad 4)), (2, .int a2), (3, .int a3), (4, .int a4)]) C.1.1 C.1.2.1 dX7_readDatum_39 hl (by decide) rfl (fun ls hl => ?_)
    exact hh41 fu 56 M15 L16 _ _ ls hD hw (lv_sub hl [1, 2, 4, 5, 0] rfl)
  · replace hD := g_pos c10 hD
    refine lv_aload_n C.1.1 C.1.2.1 dX7_readDatum_11 rfl (lv_at hl 0 rfl) ?_
    refine lv_bipush (v := 34) C.1.1 C.1.2.1 dX7_readDatum_12 (by decide) ?_
    refine lv_bipush (v := 49) C.1.1 C.1.2.1 dX7_readDatum_14 (by decide) ?_
    obtain ⟨M17, L18, h1, hD⟩ := g_b2 hD
    refine md_cvV (As := [.int 34, .int 49]) (rest := []) C hw (tX7_refuse l G ad fu 34 49 M7 L8 h1) kc_7 (by decide) tf_275 wd_1548 cwX7_refuse ⟨Nat.le_of_ble_eq_true rfl, Nat.le_of_ble_eq_true rfl⟩ rfl hl.1 (Nat.le_of_ble_eq_true rfl) dX7_readDatum_16 rfl rfl ⟨Nat.zero_le _, Nat.zero_le _⟩ rfl (fun H locs hw => ?_)
    exact mr_vret C hr hlocks hw (Option.some.inj hD) dX7_readDatum_19

theorem dX7_writeDatum_0 : decode cX7_writeDatum 0 = .ok (.aload_n 0, 1) := by decide +kernel
theorem dX7_writeDatum_1 : decode cX7_writeDatum 1 = .ok (.getfield 15, 3) := by decide +kernel
theorem dX7_writeDatum_4 : decode cX7_writeDatum 4 = .ok (.iload_n 2, 1) := by decide +kernel
theorem dX7_writeDatum_5 : decode cX7_writeDatum 5 = .ok (.baload, 1) := by decide +kernel
theorem dX7_writeDatum_6 : decode cX7_writeDatum 6 = .ok (.ifCond .ne 12, 3) := by decide +kernel
theorem dX7_writeDatum_9 : decode cX7_writeDatum 9 = .ok (.aload_n 0, 1) := by decide +kernel
theorem dX7_writeDatum_10 : decode cX7_writeDatum 10 = .ok (.bipush 46, 2) := by decide +kernel
theorem dX7_writeDatum_12 : decode cX7_writeDatum 12 = .ok (.bipush 51, 2) := by decide +kernel
theorem dX7_writeDatum_14 : decode cX7_writeDatum 14 = .ok (.invokevirtual 45, 3) := by decide +kernel
theorem dX7_writeDatum_17 : decode cX7_writeDatum 17 = .ok (.return_, 1) := by decide +kernel
theorem dX7_writeDatum_18 : decode cX7_writeDatum 18 = .ok (.aload_n 1, 1) := by decide +kernel
theorem dX7_writeDatum_19 : decode cX7_writeDatum 19 = .ok (.iload_n 2, 1) := by decide +kernel
theorem dX7_writeDatum_20 : decode cX7_writeDatum 20 = .ok (.aload_n 3, 1) := by decide +kernel
theorem dX7_writeDatum_21 : decode cX7_writeDatum 21 = .ok (.iconst 1, 1) := by decide +kernel
theorem dX7_writeDatum_22 : decode cX7_writeDatum 22 = .ok (.iaload, 1) := by decide +kernel
theorem dX7_writeDatum_23 : decode cX7_writeDatum 23 = .ok (.aload_n 3, 1) := by decide +kernel
theorem dX7_writeDatum_24 : decode cX7_writeDatum 24 = .ok (.iconst 2, 1) := by decide +kernel
theorem dX7_writeDatum_25 : decode cX7_writeDatum 25 = .ok (.iaload, 1) := by decide +kernel
theorem dX7_writeDatum_26 : decode cX7_writeDatum 26 = .ok (.invokestatic 103, 3) := by decide +kernel
theorem dX7_writeDatum_29 : decode cX7_writeDatum 29 = .ok (.ifCond .ne 12, 3) := by decide +kernel
theorem dX7_writeDatum_32 : decode cX7_writeDatum 32 = .ok (.aload_n 0, 1) := by decide +kernel
theorem dX7_writeDatum_33 : decode cX7_writeDatum 33 = .ok (.bipush 46, 2) := by decide +kernel
theorem dX7_writeDatum_35 : decode cX7_writeDatum 35 = .ok (.bipush 49, 2) := by decide +kernel
theorem dX7_writeDatum_37 : decode cX7_writeDatum 37 = .ok (.invokevirtual 45, 3) := by decide +kernel
theorem dX7_writeDatum_40 : decode cX7_writeDatum 40 = .ok (.return_, 1) := by decide +kernel
theorem dX7_writeDatum_41 : decode cX7_writeDatum 41 = .ok (.lconst 0, 1) := by decide +kernel
theorem dX7_writeDatum_42 : decode cX7_writeDatum 42 = .ok (.lstore 4, 2) := by decide +kernel
theorem dX7_writeDatum_44 : decode cX7_writeDatum 44 = .ok (.iconst 0, 1) := by decide +kernel
theorem dX7_writeDatum_45 : decode cX7_writeDatum 45 = .ok (.istore 6, 2) := by decide +kernel
theorem dX7_writeDatum_47 : decode cX7_writeDatum 47 = .ok (.iload 6, 2) := by decide +kernel
theorem dX7_writeDatum_49 : decode cX7_writeDatum 49 = .ok (.bipush 8, 2) := by decide +kernel
theorem dX7_writeDatum_51 : decode cX7_writeDatum 51 = .ok (.if_icmp .ge 24, 3) := by decide +kernel
theorem dX7_writeDatum_54 : decode cX7_writeDatum 54 = .ok (.lload 4, 2) := by decide +kernel
theorem dX7_writeDatum_56 : decode cX7_writeDatum 56 = .ok (.bipush 8, 2) := by decide +kernel
theorem dX7_writeDatum_58 : decode cX7_writeDatum 58 = .ok (.lshl, 1) := by decide +kernel
theorem dX7_writeDatum_59 : decode cX7_writeDatum 59 = .ok (.aload_n 3, 1) := by decide +kernel
theorem dX7_writeDatum_60 : decode cX7_writeDatum 60 = .ok (.iconst 3, 1) := by decide +kernel
theorem dX7_writeDatum_61 : decode cX7_writeDatum 61 = .ok (.iload 6, 2) := by decide +kernel
theorem dX7_writeDatum_63 : decode cX7_writeDatum 63 = .ok (.iadd, 1) := by decide +kernel
theorem dX7_writeDatum_64 : decode cX7_writeDatum 64 = .ok (.iaload, 1) := by decide +kernel
theorem dX7_writeDatum_65 : decode cX7_writeDatum 65 = .ok (.i2l, 1) := by decide +kernel
theorem dX7_writeDatum_66 : decode cX7_writeDatum 66 = .ok (.lor, 1) := by decide +kernel
theorem dX7_writeDatum_67 : decode cX7_writeDatum 67 = .ok (.lstore 4, 2) := by decide +kernel
theorem dX7_writeDatum_69 : decode cX7_writeDatum 69 = .ok (.iinc 6 1, 3) := by decide +kernel
theorem dX7_writeDatum_72 : decode cX7_writeDatum 72 = .ok (.goto (-25), 3) := by decide +kernel
theorem dX7_writeDatum_75 : decode cX7_writeDatum 75 = .ok (.aload_n 1, 1) := by decide +kernel
theorem dX7_writeDatum_76 : decode cX7_writeDatum 76 = .ok (.aload_n 3, 1) := by decide +kernel
theorem dX7_writeDatum_77 : decode cX7_writeDatum 77 = .ok (.iconst 1, 1) := by decide +kernel
theorem dX7_writeDatum_78 : decode cX7_writeDatum 78 = .ok (.iaload, 1) := by decide +kernel
theorem dX7_writeDatum_79 : decode cX7_writeDatum 79 = .ok (.iconst 1, 1) := by decide +kernel
theorem dX7_writeDatum_80 : decode cX7_writeDatum 80 = .ok (.isub, 1) := by decide +kernel
theorem dX7_writeDatum_81 : decode cX7_writeDatum 81 = .ok (.aaload, 1) := by decide +kernel
theorem dX7_writeDatum_82 : decode cX7_writeDatum 82 = .ok (.getfield 107, 3) := by decide +kernel
theorem dX7_writeDatum_85 : decode cX7_writeDatum 85 = .ok (.aload_n 3, 1) := by decide +kernel
theorem dX7_writeDatum_86 : decode cX7_writeDatum 86 = .ok (.iconst 2, 1) := by decide +kernel
theorem dX7_writeDatum_87 : decode cX7_writeDatum 87 = .ok (.iaload, 1) := by decide +kernel
theorem dX7_writeDatum_88 : decode cX7_writeDatum 88 = .ok (.lload 4, 2) := by decide +kernel
theorem dX7_writeDatum_90 : decode cX7_writeDatum 90 = .ok (.lastore, 1) := by decide +kernel
theorem dX7_writeDatum_91 : decode cX7_writeDatum 91 = .ok (.aload_n 0, 1) := by decide +kernel
theorem dX7_writeDatum_92 : decode cX7_writeDatum 92 = .ok (.bipush 110, 2) := by decide +kernel
theorem dX7_writeDatum_94 : decode cX7_writeDatum 94 = .ok (.invokevirtual 95, 3) := by decide +kernel
theorem dX7_writeDatum_97 : decode cX7_writeDatum 97 = .ok (.aload_n 0, 1) := by decide +kernel
theorem dX7_writeDatum_98 : decode cX7_writeDatum 98 = .ok (.aload_n 3, 1) := by decide +kernel
theorem dX7_writeDatum_99 : decode cX7_writeDatum 99 = .ok (.iconst 1, 1) := by decide +kernel
theorem dX7_writeDatum_100 : decode cX7_writeDatum 100 = .ok (.iaload, 1) := by decide +kernel
theorem dX7_writeDatum_101 : decode cX7_writeDatum 101 = .ok (.invokevirtual 95, 3) := by decide +kernel
theorem dX7_writeDatum_104 : decode cX7_writeDatum 104 = .ok (.aload_n 0, 1) := by decide +kernel
theorem dX7_writeDatum_105 : decode cX7_writeDatum 105 = .ok (.aload_n 3, 1) := by decide +kernel
theorem dX7_writeDatum_106 : decode cX7_writeDatum 106 = .ok (.iconst 2, 1) := by decide +kernel
theorem dX7_writeDatum_107 : decode cX7_writeDatum 107 = .ok (.iaload, 1) := by decide +kernel
theorem dX7_writeDatum_108 : decode cX7_writeDatum 108 = .ok (.invokevirtual 95, 3) := by decide +kernel
theorem dX7_writeDatum_111 : decode cX7_writeDatum 111 = .ok (.return_, 1) := by decide +kernel
theorem cwX7_writeDatum : mw_cwV yX7_writeDatum cX7_writeDatum 7 (none) 3 := ⟨⟨wd_11, wd_1573, by decide +kernel⟩, wd_1572, sl_110⟩
set_option maxHeartbeats 4000000 in
set_option maxRecDepth 100000 in
theorem tX7_writeDatum (l : Launch) (G : mwG) (ad : Nat → Nat) (fu : Nat) (a2 : Int32) (a3 : Nat) (n3 : Nat) (M : mwM) (L : mwL) {M0 : mwM} {L0 : mwL} (hD : DX7_writeDatum fu a2 a3 n3 M L = some (M0, L0)) (hk3 : a3 < NF) (hT3 : TF a3 = (0, n3)) : Met l yX7_writeDatum (Cond.code yX7_writeDatum cX7_writeDatum 7 (none) :: GT) ({ frames := 2, cells := 0, slots := 0, locals := 43 }) (mw_Pre G ad NF TF FF M L [.ref (ad 275), .ref (ad 4), .int a2, .ref (ad a3)]) (mw_Qv G ad NF TF FF (mw_eqV M0 L0)) 0 0 (mw_fr G) := by
  refine mw_enter (by decide) (Nat.le_of_ble_eq_true rfl) ?_
  intro p e s m below meth c ls C hr hlocks hnm hw hl
  have hl : lv_has ls 7 [(0, .ref (ad 275)), (1, .ref (ad 4)), (2, .int a2), (3, .ref (ad a3))] := hl
  have hh47 : ∀ (f : Nat) (v4 : Int64) (v6 : Int32) (M : mwM) (L : mwL) (H : Heap) (locs : List Loc) (ls : Array Slot), fX7_writeDatum_h47 fu a2 a3 n3 f (v4, v6, M, L) = some (M0, L0) → mw_W G ad NF TF FF M L H locs → lv_has ls 7 [(0, .ref (ad 275)), (1, .ref (ad 4)), (3, .ref (ad a3)), (4, .long v4), (6, .int v6)] → W p l e ({ frames := 2, cells := 0, slots := 0, locals := 43 }) s m [.ref (ad 275), .ref (ad 4), .int a2, .ref (ad a3)].toArray below meth c H locs 0 0 (MQ below (mw_Qv G ad NF TF FF (mw_eqV M0 L0)) [.ref (ad 275), .ref (ad 4), .int a2, .ref (ad a3)].toArray s 0 0 (mw_fr G)) (F0 m 47 ls []) := by
    intro f
    induction f with
    | zero => intro v4 v6 M L H locs ls hD; cases hD
    | succ f47 ih47 =>
      intro v4 v6 M L H locs ls hD hw hl
      replace hD : fX7_writeDatum_i47 fu a2 a3 n3 (fX7_writeDatum_h47 fu a2 a3 n3 f47) v4 v6 M L = some (M0, L0) := hD
      unfold fX7_writeDatum_i47 at hD
      refine lv_iload C.1.1 C.1.2.1 dX7_writeDatum_47 (lv_at hl 4 rfl) ?_
      refine lv_bipush (v := 8) C.1.1 C.1.2.1 dX7_writeDatum_49 (by decide) ?_
      refine lv_icmp_ge (tgt := 75) C.1.1 C.1.2.1 dX7_writeDatum_51 (by decide) (fun c1 => ?_) (fun c1 => ?_)
      · replace hD := g_pos c1 hD
        refine lv_aload_n C.1.1 C.1.2.1 dX7_writeDatum_75 rfl (lv_at hl 1 rfl) ?_
        refine lv_aload_n C.1.1 C.1.2.1 dX7_writeDatum_76 rfl (lv_at hl 2 rfl) ?_
        refine lv_iconst (v := 1) C.1.1 C.1.2.1 dX7_writeDatum_77 (by decide) ?_
        obtain ⟨q2, hD⟩ := g_ck hD
        refine mr_iald C hw hk3 hT3 q2 dX7_writeDatum_78 ?_
        refine lv_iconst (v := 1) C.1.1 C.1.2.1 dX7_writeDatum_79 (by decide) ?_
        refine lv_isub C.1.1 C.1.2.1 dX7_writeDatum_80 ?_
        obtain ⟨q3, hD⟩ := g_ck hD
        refine mr_aald C hw (by decide) tf_4 (by decide) (by decide) rfl rfl q3 (fr_4 _ (g_lt q3)) dX7_writeDatum_81 ?_
        refine mr_getNR C hw kc_2 3 (Ch_N0 (isCh_of (g_lt q3))) (Ch_T0 (isCh_of (g_lt q3))) (Ch_F0_3 (isCh_of (g_lt q3))) nd_448 dX7_writeDatum_82 (by decide) rfl ?_
        refine lv_aload_n C.1.1 C.1.2.1 dX7_writeDatum_85 rfl (lv_at hl 2 rfl) ?_
        refine lv_iconst (v := 2) C.1.1 C.1.2.1 dX7_writeDatum_86 (by decide) ?_
        obtain ⟨q4, hD⟩ := g_ck hD
        refine mr_iald C hw hk3 hT3 q4 dX7_writeDatum_87 ?_
        refine lv_lload C.1.1 C.1.2.1 dX7_writeDatum_88 (lv_at hl 3 rfl) ?_
        obtain ⟨q5, hD⟩ := g_ck hD
        obtain ⟨L6, eL6, hD⟩ := g_let hD
        refine mr_last C hw (Ch_N34 (isCh_of (g_lt q3))) (Ch_T34 (isCh_of (g_lt q3))) q5 dX7_writeDatum_90 (fun H locs hw => ?_)
        replace hw : mw_W G ad NF TF FF M L6 H locs := by rw [eL6]; exact hw
        refine lv_aload_n C.1.1 C.1.2.1 dX7_writeDatum_91 rfl (lv_at hl 0 rfl) ?_
        refine lv_bipush (v := 110) C.1.1 C.1.2.1 dX7_writeDatum_92 (by decide) ?_
        obtain ⟨M7, L8, h1, hD⟩ := g_b2 hD
        refine md_cvV (As := [.int 110]) (rest := []) C hw (tX7_put l G ad fu 110 M L6 h1) kc_7 (by decide) tf_275 wd_1552 cwX7_put ⟨Nat.le_of_ble_eq_true rfl, Nat.le_of_ble_eq_true rfl⟩ rfl hl.1 (Nat.le_of_ble_eq_true rfl) dX7_writeDatum_94 rfl rfl ⟨Nat.zero_le _, Nat.zero_le _⟩ rfl (fun H locs hw => ?_)
        refine lv_aload_n C.1.1 C.1.2.1 dX7_writeDatum_97 rfl (lv_at hl 0 rfl) ?_
        refine lv_aload_n C.1.1 C.1.2.1 dX7_writeDatum_98 rfl (lv_at hl 2 rfl) ?_
        refine lv_iconst (v := 1) C.1.1 C.1.2.1 dX7_writeDatum_99 (by decide) ?_
        obtain ⟨q9, hD⟩ := g_ck hD
        refine mr_iald C hw hk3 hT3 q9 dX7_writeDatum_100 ?_
        obtain ⟨M10, L11, h1, hD⟩ := g_b2 hD
        refine md_cvV (As := [.int (M7 a3 (1 : Int32).toNatClampNeg)]) (rest := []) C hw (tX7_put l G ad fu (M7 a3 (1 : Int32).toNatClampNeg) M7 L8 h1) kc_7 (by decide) tf_275 wd_1552 cwX7_put ⟨Nat.le_of_ble_eq_true rfl, Nat.le_of_ble_eq_true rfl⟩ rfl hl.1 (Nat.le_of_ble_eq_true rfl) dX7_writeDatum_101 rfl rfl ⟨Nat.zero_le _, Nat.zero_le _⟩ rfl (fun H locs hw => ?_)
        refine lv_aload_n C.1.1 C.1.2.1 dX7_writeDatum_104 rfl (lv_at hl 0 rfl) ?_
        refine lv_aload_n C.1.1 C.1.2.1 dX7_writeDatum_105 rfl (lv_at hl 2 rfl) ?_
        refine lv_iconst (v := 2) C.1.1 C.1.2.1 dX7_writeDatum_106 (by decide) ?_
        obtain ⟨q12, hD⟩ := g_ck hD
        refine mr_iald C hw hk3 hT3 q12 dX7_writeDatum_107 ?_
        obtain ⟨M13, L14, h1, hD⟩ := g_b2 hD
        refine md_cvV (As := [.int (M10 a3 (2 : Int32).toNatClampNeg)]) (rest := []) C hw (tX7_put l G ad fu (M10 a3 (2 : Int32).toNatClampNeg) M10 L11 h1) kc_7 (by decide) tf_275 wd_1552 cwX7_put ⟨Nat.le_of_ble_eq_true rfl, Nat.le_of_ble_eq_true rfl⟩ rfl hl.1 (Nat.le_of_ble_eq_true rfl) dX7_writeDatum_108 rfl rfl ⟨Nat.zero_le _, Nat.zero_le _⟩ rfl (fun H locs hw => ?_)
        exact mr_vret C hr hlocks hw (Option.some.inj hD) dX7_writeDatum_111
      · replace hD := g_neg c1 hD
        refine lv_lload C.1.1 C.1.2.1 dX7_writeDatum_54 (lv_at hl 3 rfl) ?_
        refine lv_bipush (v := 8) C.1.1 C.1.2.1 dX7_writeDatum_56 (by decide) ?_
        refine lv_lshl C.1.1 C.1.2.1 dX7_writeDatum_58 rfl ?_
        refine lv_aload_n C.1.1 C.1.2.1 dX7_writeDatum_59 rfl (lv_at hl 2 rfl) ?_
        refine lv_iconst (v := 3) C.1.1 C.1.2.1 dX7_writeDatum_60 (by decide) ?_
        refine lv_iload C.1.1 C.1.2.1 dX7_writeDatum_61 (lv_at hl 4 rfl) ?_
        refine lv_iadd C.1.1 C.1.2.1 dX7_writeDatum_63 ?_
        obtain ⟨q15, hD⟩ := g_ck hD
        refine mr_iald C hw hk3 hT3 q15 dX7_writeDatum_64 ?_
        refine lv_i2l C.1.1 C.1.2.1 dX7_writeDatum_65 rfl ?_
        refine lv_lor C.1.1 C.1.2.1 dX7_writeDatum_66 ?_
        obtain ⟨x16, ex16, hD⟩ := g_let hD
        refine W.eq (g2 := F0 m 67 ls (.long x16 :: [])) (by rw [ex16]) ?_
        refine lv_lstore (lv' := [(4, .long x16), (0, .ref (ad 275)), (1, .ref (ad 4)), (3, .ref (ad a3)), (6, .int v6)]) C.1.1 C.1.2.1 dX7_writeDatum_67 hl (by decide) rfl (fun ls hl => ?_)
        obtain ⟨x17, ex17, hD⟩ := g_let hD
        refine lv_iinc (v := x17) (lv' := [(6, .int x17), (4, .long x16), (0, .ref (ad 275)), (1, .ref (ad 4)), (3, .ref (ad a3))]) C.1.1 C.1.2.1 dX7_writeDatum_69 hl (k := 4) rfl (by rw [ex17]; rfl) (by decide) rfl (fun ls hl => ?_)
        refine lv_goto (tgt := 47) C.1.1 C.1.2.1 dX7_writeDatum_72 (by decide) ?_
        exact ih47 x16 x17 M L _ _ ls hD hw (lv_sub hl [2, 3, 4, 1, 0] rfl)
  unfold DX7_writeDatum at hD
  refine lv_aload_n C.1.1 C.1.2.1 dX7_writeDatum_0 rfl (lv_at hl 0 rfl) ?_
  refine mr_getR C hw kc_7 1 (by decide) tf_275 ff_275_1 wd_408 dX7_writeDatum_1 (by decide) rfl ?_
  refine lv_iload_n C.1.1 C.1.2.1 dX7_writeDatum_4 rfl (lv_at hl 2 rfl) ?_
  obtain ⟨q18, hD⟩ := g_ck hD
  refine mr_zald C hw (by decide) tf_277 q18 dX7_writeDatum_5 ?_
  refine lv_if_ne (tgt := 18) C.1.1 C.1.2.1 dX7_writeDatum_6 (by decide) (fun c19 => ?_) (fun c19 => ?_)
  · replace hD := g_neg c19 hD
    refine lv_aload_n C.1.1 C.1.2.1 dX7_writeDatum_18 rfl (lv_at hl 1 rfl) ?_
    refine lv_iload_n C.1.1 C.1.2.1 dX7_writeDatum_19 rfl (lv_at hl 2 rfl) ?_
    refine lv_aload_n C.1.1 C.1.2.1 dX7_writeDatum_20 rfl (lv_at hl 3 rfl) ?_
    refine lv_iconst (v := 1) C.1.1 C.1.2.1 dX7_writeDatum_21 (by decide) ?_
    obtain ⟨q20, hD⟩ := g_ck hD
    refine mr_iald C hw hk3 hT3 q20 dX7_writeDatum_22 ?_
    refine lv_aload_n C.1.1 C.1.2.1 dX7_writeDatum_23 rfl (lv_at hl 3 rfl) ?_
    refine lv_iconst (v := 2) C.1.1 C.1.2.1 dX7_writeDatum_24 (by decide) ?_
    obtain ⟨q21, hD⟩ := g_ck hD
    refine mr_iald C hw hk3 hT3 q21 dX7_writeDatum_25 ?_
    obtain ⟨r24, M22, L23, h1, hD⟩ := g_b3 hD
    refine md_csI (As := [.ref (ad 4), .int a2, .int (M a3 (1 : Int32).toNatClampNeg), .int (M a3 (2 : Int32).toNatClampNeg)]) (rest := []) C hw (tX7_hasDatum l G ad fu a2 (M a3 (1 : Int32).toNatClampNeg) (M a3 (2 : Int32).toNatClampNeg) M L h1) wd_1567 cwX7_hasDatum ⟨Nat.le_of_ble_eq_true rfl, Nat.le_of_ble_eq_true rfl⟩ rfl hl.1 (Nat.le_of_ble_eq_true rfl) dX7_writeDatum_26 rfl rfl ⟨Nat.zero_le _, Nat.zero_le _⟩ rfl (fun H locs hw => ?_)
    refine lv_if_ne (tgt := 41) C.1.1 C.1.2.1 dX7_writeDatum_29 (by decide) (fun c25 => ?_) (fun c25 => ?_)
    · replace hD := g_neg c25 hD
      refine lv_lconst (v := 0) C.1.1 C.1.2.1 dX7_writeDatum_41 (by decide) ?_
      refine lv_lstore (lv' := [(4, .long 0), (0, .ref (ad 275)), (1, .ref (ad 4)), (2, .int a2), (3, .ref (ad a3))]) C.1.1 C.1.2.1 dX7_writeDatum_42 hl (by decide) rfl (fun ls hl => ?_)
      refine lv_iconst (v := 0) C.1.1 C.1.2.1 dX7_writeDatum_44 (by decide) ?_
      refine lv_istore (lv' := [(6, .int 0), (4, .long 0), (0, .ref (ad 275)), (1, .ref (ad 4)), (2, .int a2), (3, .ref (ad a3))]) C.1.1 C.1.2.1 dX7_writeDatum_45 hl (by decide) rfl (fun ls hl => ?_)
      exact hh47 fu 0 0 M22 L23 _ _ ls hD hw (lv_sub hl [2, 3, 5, 1, 0] rfl)
    · replace hD := g_pos c25 hD
      refine lv_aload_n C.1.1 C.1.2.1 dX7_writeDatum_32 rfl (lv_at hl 0 rfl) ?_
      refine lv_bipush (v := 46) C.1.1 C.1.2.1 dX7_writeDatum_33 (by decide) ?_
      refine lv_bipush (v := 49) C.1.1 C.1.2.1 dX7_writeDatum_35 (by decide) ?_
      obtain ⟨M26, L27, h1, hD⟩ := g_b2 hD
      refine md_cvV (As := [.int 46, .int 49]) (rest := []) C hw (tX7_refuse l G ad fu 46 49 M22 L23 h1) kc_7 (by decide) tf_275 wd_1548 cwX7_refuse ⟨Nat.le_of_ble_eq_true rfl, Nat.le_of_ble_eq_true rfl⟩ rfl hl.1 (Nat.le_of_ble_eq_true rfl) dX7_writeDatum_37 rfl rfl ⟨Nat.zero_le _, Nat.zero_le _⟩ rfl (fun H locs hw => ?_)
      exact mr_vret C hr hlocks hw (Option.some.inj hD) dX7_writeDatum_40
  · replace hD := g_pos c19 hD
    refine lv_aload_n C.1.1 C.1.2.1 dX7_writeDatum_9 rfl (lv_at hl 0 rfl) ?_
    refine lv_bipush (v := 46) C.1.1 C.1.2.1 dX7_writeDatum_10 (by decide) ?_
    refine lv_bipush (v := 51) C.1.1 C.1.2.1 dX7_writeDatum_12 (by decide) ?_
    obtain ⟨M28, L29, h1, hD⟩ := g_b2 hD
    refine md_cvV (As := [.int 46, .int 51]) (rest := []) C hw (tX7_refuse l G ad fu 46 51 M L h1) kc_7 (by decide) tf_275 wd_1548 cwX7_refuse ⟨Nat.le_of_ble_eq_true rfl, Nat.le_of_ble_eq_true rfl⟩ rfl hl.1 (Nat.le_of_ble_eq_true rfl) dX7_writeDatum_14 rfl rfl ⟨Nat.zero_le _, Nat.zero_le _⟩ rfl (fun H locs hw => ?_)
    exact mr_vret C hr hlocks hw (Option.some.inj hD) dX7_writeDatum_17

theorem dX7_listTroubles_0 : decode cX7_listTroubles 0 = .ok (.aload_n 0, 1) := by decide +kernel
theorem dX7_listTroubles_1 : decode cX7_listTroubles 1 = .ok (.bipush 89, 2) := by decide +kernel
theorem dX7_listTroubles_3 : decode cX7_listTroubles 3 = .ok (.invokevirtual 95, 3) := by decide +kernel
theorem dX7_listTroubles_6 : decode cX7_listTroubles 6 = .ok (.aload_n 0, 1) := by decide +kernel
theorem dX7_listTroubles_7 : decode cX7_listTroubles 7 = .ok (.aload_n 1, 1) := by decide +kernel
theorem dX7_listTroubles_8 : decode cX7_listTroubles 8 = .ok (.getfield 111, 3) := by decide +kernel
theorem dX7_listTroubles_11 : decode cX7_listTroubles 11 = .ok (.invokevirtual 95, 3) := by decide +kernel
theorem dX7_listTroubles_14 : decode cX7_listTroubles 14 = .ok (.iconst 0, 1) := by decide +kernel
theorem dX7_listTroubles_15 : decode cX7_listTroubles 15 = .ok (.istore_n 2, 1) := by decide +kernel
theorem dX7_listTroubles_16 : decode cX7_listTroubles 16 = .ok (.iload_n 2, 1) := by decide +kernel
theorem dX7_listTroubles_17 : decode cX7_listTroubles 17 = .ok (.aload_n 1, 1) := by decide +kernel
theorem dX7_listTroubles_18 : decode cX7_listTroubles 18 = .ok (.getfield 111, 3) := by decide +kernel
theorem dX7_listTroubles_21 : decode cX7_listTroubles 21 = .ok (.if_icmp .ge 35, 3) := by decide +kernel
theorem dX7_listTroubles_24 : decode cX7_listTroubles 24 = .ok (.aload_n 0, 1) := by decide +kernel
theorem dX7_listTroubles_25 : decode cX7_listTroubles 25 = .ok (.aload_n 1, 1) := by decide +kernel
theorem dX7_listTroubles_26 : decode cX7_listTroubles 26 = .ok (.getfield 114, 3) := by decide +kernel
theorem dX7_listTroubles_29 : decode cX7_listTroubles 29 = .ok (.iload_n 2, 1) := by decide +kernel
theorem dX7_listTroubles_30 : decode cX7_listTroubles 30 = .ok (.iaload, 1) := by decide +kernel
theorem dX7_listTroubles_31 : decode cX7_listTroubles 31 = .ok (.iconst 1, 1) := by decide +kernel
theorem dX7_listTroubles_32 : decode cX7_listTroubles 32 = .ok (.iadd, 1) := by decide +kernel
theorem dX7_listTroubles_33 : decode cX7_listTroubles 33 = .ok (.invokevirtual 95, 3) := by decide +kernel
theorem dX7_listTroubles_36 : decode cX7_listTroubles 36 = .ok (.aload_n 0, 1) := by decide +kernel
theorem dX7_listTroubles_37 : decode cX7_listTroubles 37 = .ok (.aload_n 1, 1) := by decide +kernel
theorem dX7_listTroubles_38 : decode cX7_listTroubles 38 = .ok (.aload_n 1, 1) := by decide +kernel
theorem dX7_listTroubles_39 : decode cX7_listTroubles 39 = .ok (.getfield 114, 3) := by decide +kernel
theorem dX7_listTroubles_42 : decode cX7_listTroubles 42 = .ok (.iload_n 2, 1) := by decide +kernel
theorem dX7_listTroubles_43 : decode cX7_listTroubles 43 = .ok (.iaload, 1) := by decide +kernel
theorem dX7_listTroubles_44 : decode cX7_listTroubles 44 = .ok (.invokevirtual 117, 3) := by decide +kernel
theorem dX7_listTroubles_47 : decode cX7_listTroubles 47 = .ok (.invokevirtual 95, 3) := by decide +kernel
theorem dX7_listTroubles_50 : decode cX7_listTroubles 50 = .ok (.iinc 2 1, 3) := by decide +kernel
theorem dX7_listTroubles_53 : decode cX7_listTroubles 53 = .ok (.goto (-37), 3) := by decide +kernel
theorem dX7_listTroubles_56 : decode cX7_listTroubles 56 = .ok (.return_, 1) := by decide +kernel
theorem cwX7_listTroubles : mw_cwV yX7_listTroubles cX7_listTroubles 3 (none) 1 := ⟨⟨wd_11, wd_1577, by decide +kernel⟩, wd_1576, sl_111⟩
set_option maxHeartbeats 4000000 in
set_option maxRecDepth 100000 in
theorem tX7_listTroubles (l : Launch) (G : mwG) (ad : Nat → Nat) (fu : Nat) (M : mwM) (L : mwL) {M0 : mwM} {L0 : mwL} (hD : DX7_listTroubles fu M L = some (M0, L0)) : Met l yX7_listTroubles (Cond.code yX7_listTroubles cX7_listTroubles 3 (none) :: GT) ({ frames := 1, cells := 0, slots := 0, locals := 21 }) (mw_Pre G ad NF TF FF M L [.ref (ad 275), .ref (ad 139)]) (mw_Qv G ad NF TF FF (mw_eqV M0 L0)) 0 0 (mw_fr G) := by
  refine mw_enter (by decide) (Nat.le_of_ble_eq_true rfl) ?_
  intro p e s m below meth c ls C hr hlocks hnm hw hl
  have hl : lv_has ls 3 [(0, .ref (ad 275)), (1, .ref (ad 139))] := hl
  have hh16 : ∀ (f : Nat) (v2 : Int32) (M : mwM) (L : mwL) (H : Heap) (locs : List Loc) (ls : Array Slot), fX7_listTroubles_h16 fu f (v2, M, L) = some (M0, L0) → mw_W G ad NF TF FF M L H locs → lv_has ls 3 [(0, .ref (ad 275)), (1, .ref (ad 139)), (2, .int v2)] → W p l e ({ frames := 1, cells := 0, slots := 0, locals := 21 }) s m [.ref (ad 275), .ref (ad 139)].toArray below meth c H locs 0 0 (MQ below (mw_Qv G ad NF TF FF (mw_eqV M0 L0)) [.ref (ad 275), .ref (ad 139)].toArray s 0 0 (mw_fr G)) (F0 m 16 ls []) := by
    intro f
    induction f with
    | zero => intro v2 M L H locs ls hD; cases hD
    | succ f16 ih16 =>
      intro v2 M L H locs ls hD hw hl
      replace hD : fX7_listTroubles_i16 fu (fX7_listTroubles_h16 fu f16) v2 M L = some (M0, L0) := hD
      unfold fX7_listTroubles_i16 at hD
      refine lv_iload_n C.1.1 C.1.2.1 dX7_listTroubles_16 rfl (lv_at hl 2 rfl) ?_
      refine lv_aload_n C.1.1 C.1.2.1 dX7_listTroubles_17 rfl (lv_at hl 1 rfl) ?_
      refine mr_getNI C hw kc_10 3 (by decide) tf_139 nd_335 dX7_listTroubles_18 (by decide) rfl ?_
      refine lv_icmp_ge (tgt := 56) C.1.1 C.1.2.1 dX7_listTroubles_21 (by decide) (fun c1 => ?_) (fun c1 => ?_)
      · replace hD := g_pos c1 hD
        exact mr_vret C hr hlocks hw (Option.some.inj hD) dX7_listTroubles_56
      · replace hD := g_neg c1 hD
        refine lv_aload_n C.1.1 C.1.2.1 dX7_listTroubles_24 rfl (lv_at hl 0 rfl) ?_
        refine lv_aload_n C.1.1 C.1.2.1 dX7_listTroubles_25 rfl (lv_at hl 1 rfl) ?_
        refine mr_getNR C hw kc_10 1 (by decide) tf_139 ff_139_1 nd_330 dX7_listTroubles_26 (by decide) rfl ?_
        refine lv_iload_n C.1.1 C.1.2.1 dX7_listTroubles_29 rfl (lv_at hl 2 rfl) ?_
        obtain ⟨q2, hD⟩ := g_ck hD
        refine mr_iald C hw (by decide) tf_153 q2 dX7_listTroubles_30 ?_
        refine lv_iconst (v := 1) C.1.1 C.1.2.1 dX7_listTroubles_31 (by decide) ?_
        refine lv_iadd C.1.1 C.1.2.1 dX7_listTroubles_32 ?_
        obtain ⟨M3, L4, h1, hD⟩ := g_b2 hD
        refine md_cvV (As := [.int ((M 153 v2.toNatClampNeg) + 1)]) (rest := []) C hw (tX7_put l G ad fu ((M 153 v2.toNatClampNeg) + 1) M L h1) kc_7 (by decide) tf_275 wd_1552 cwX7_put ⟨Nat.le_of_ble_eq_true rfl, Nat.le_of_ble_eq_true rfl⟩ rfl hl.1 (Nat.le_of_ble_eq_true rfl) dX7_listTroubles_33 rfl rfl ⟨Nat.zero_le _, Nat.zero_le _⟩ rfl (fun H locs hw => ?_)
        refine lv_aload_n C.1.1 C.1.2.1 dX7_listTroubles_36 rfl (lv_at hl 0 rfl) ?_
        refine lv_aload_n C.1.1 C.1.2.1 dX7_listTroubles_37 rfl (lv_at hl 1 rfl) ?_
        refine lv_aload_n C.1.1 C.1.2.1 dX7_listTroubles_38 rfl (lv_at hl 1 rfl) ?_
        refine mr_getNR C hw kc_10 1 (by decide) tf_139 ff_139_1 nd_330 dX7_listTroubles_39 (by decide) rfl ?_
        refine lv_iload_n C.1.1 C.1.2.1 dX7_listTroubles_42 rfl (lv_at hl 2 rfl) ?_
        obtain ⟨q5, hD⟩ := g_ck hD
        refine mr_iald C hw (by decide) tf_153 q5 dX7_listTroubles_43 ?_
        obtain ⟨r8, M6, L7, h1, hD⟩ := g_b3 hD
        refine md_cvI (As := [.int (M3 153 v2.toNatClampNeg)]) (rest := [.ref (ad 275)]) C hw (tX10_statusOf l G ad fu (M3 153 v2.toNatClampNeg) M3 L4 h1) kc_10 (by decide) tf_139 wd_1578 cwX10_statusOf ⟨Nat.le_of_ble_eq_true rfl, Nat.le_of_ble_eq_true rfl⟩ rfl hl.1 (Nat.le_of_ble_eq_true rfl) dX7_listTroubles_44 rfl rfl ⟨Nat.zero_le _, Nat.zero_le _⟩ rfl (fun H locs hw => ?_)
        obtain ⟨M9, L10, h1, hD⟩ := g_b2 hD
        refine md_cvV (As := [.int r8]) (rest := []) C hw (tX7_put l G ad fu r8 M6 L7 h1) kc_7 (by decide) tf_275 wd_1552 cwX7_put ⟨Nat.le_of_ble_eq_true rfl, Nat.le_of_ble_eq_true rfl⟩ rfl hl.1 (Nat.le_of_ble_eq_true rfl) dX7_listTroubles_47 rfl rfl ⟨Nat.zero_le _, Nat.zero_le _⟩ rfl (fun H locs hw => ?_)
        obtain ⟨x11, ex11, hD⟩ := g_let hD
        refine lv_iinc (v := x11) (lv' := [(2, .int x11), (0, .ref (ad 275)), (1, .ref (ad 139))]) C.1.1 C.1.2.1 dX7_listTroubles_50 hl (k := 2) rfl (by rw [ex11]; rfl) (by decide) rfl (fun ls hl => ?_)
        refine lv_goto (tgt := 16) C.1.1 C.1.2.1 dX7_listTroubles_53 (by decide) ?_
        exact ih16 x11 M9 L10 _ _ ls hD hw (lv_sub hl [1, 2, 0] rfl)
  unfold DX7_listTroubles at hD
  refine lv_aload_n C.1.1 C.1.2.1 dX7_listTroubles_0 rfl (lv_at hl 0 rfl) ?_
  refine lv_bipush (v := 89) C.1.1 C.1.2.1 dX7_listTroubles_1 (by decide) ?_
  obtain ⟨M12, L13, h1, hD⟩ := g_b2 hD
  refine md_cvV (As := [.int 89]) (rest := []) C hw (tX7_put l G ad fu 89 M L h1) kc_7 (by decide) tf_275 wd_1552 cwX7_put ⟨Nat.le_of_ble_eq_true rfl, Nat.le_of_ble_eq_true rfl⟩ rfl hl.1 (Nat.le_of_ble_eq_true rfl) dX7_listTroubles_3 rfl rfl ⟨Nat.zero_le _, Nat.zero_le _⟩ rfl (fun H locs hw => ?_)
  refine lv_aload_n C.1.1 C.1.2.1 dX7_listTroubles_6 rfl (lv_at hl 0 rfl) ?_
  refine lv_aload_n C.1.1 C.1.2.1 dX7_listTroubles_7 rfl (lv_at hl 1 rfl) ?_
  refine mr_getNI C hw kc_10 3 (by decide) tf_139 nd_335 dX7_listTroubles_8 (by decide) rfl ?_
  obtain ⟨M14, L15, h1, hD⟩ := g_b2 hD
  refine md_cvV (As := [.int (M12 139 3)]) (rest := []) C hw (tX7_put l G ad fu (M12 139 3) M12 L13 h1) kc_7 (by decide) tf_275 wd_1552 cwX7_put ⟨Nat.le_of_ble_eq_true rfl, Nat.le_of_ble_eq_true rfl⟩ rfl hl.1 (Nat.le_of_ble_eq_true rfl) dX7_listTroubles_11 rfl rfl ⟨Nat.zero_le _, Nat.zero_le _⟩ rfl (fun H locs hw => ?_)
  refine lv_iconst (v := 0) C.1.1 C.1.2.1 dX7_listTroubles_14 (by decide) ?_
  refine lv_istore_n (lv' := [(2, .int 0), (0, .ref (ad 275)), (1, .ref (ad 139))]) C.1.1 C.1.2.1 dX7_listTroubles_15 rfl hl (by decide) rfl (fun ls hl => ?_)
  exact hh16 fu 0 M14 L15 _ _ ls hD hw (lv_sub hl [1, 2, 0] rfl)

theorem dX7_openSeed_0 : decode cX7_openSeed 0 = .ok (.aload_n 0, 1) := by decide +kernel
theorem dX7_openSeed_1 : decode cX7_openSeed 1 = .ok (.getfield 9, 3) := by decide +kernel
theorem dX7_openSeed_4 : decode cX7_openSeed 4 = .ok (.iload_n 1, 1) := by decide +kernel
theorem dX7_openSeed_5 : decode cX7_openSeed 5 = .ok (.iaload, 1) := by decide +kernel
theorem dX7_openSeed_6 : decode cX7_openSeed 6 = .ok (.iconst 1, 1) := by decide +kernel
theorem dX7_openSeed_7 : decode cX7_openSeed 7 = .ok (.if_icmp .ne 12, 3) := by decide +kernel
theorem dX7_openSeed_10 : decode cX7_openSeed 10 = .ok (.aload_n 0, 1) := by decide +kernel
theorem dX7_openSeed_11 : decode cX7_openSeed 11 = .ok (.bipush 39, 2) := by decide +kernel
theorem dX7_openSeed_13 : decode cX7_openSeed 13 = .ok (.bipush 34, 2) := by decide +kernel
theorem dX7_openSeed_15 : decode cX7_openSeed 15 = .ok (.invokevirtual 45, 3) := by decide +kernel
theorem dX7_openSeed_18 : decode cX7_openSeed 18 = .ok (.return_, 1) := by decide +kernel
theorem dX7_openSeed_19 : decode cX7_openSeed 19 = .ok (.aload_n 0, 1) := by decide +kernel
theorem dX7_openSeed_20 : decode cX7_openSeed 20 = .ok (.getfield 25, 3) := by decide +kernel
theorem dX7_openSeed_23 : decode cX7_openSeed 23 = .ok (.iload_n 1, 1) := by decide +kernel
theorem dX7_openSeed_24 : decode cX7_openSeed 24 = .ok (.iaload, 1) := by decide +kernel
theorem dX7_openSeed_25 : decode cX7_openSeed 25 = .ok (.iconst 3, 1) := by decide +kernel
theorem dX7_openSeed_26 : decode cX7_openSeed 26 = .ok (.if_icmp .lt 12, 3) := by decide +kernel
theorem dX7_openSeed_29 : decode cX7_openSeed 29 = .ok (.aload_n 0, 1) := by decide +kernel
theorem dX7_openSeed_30 : decode cX7_openSeed 30 = .ok (.bipush 39, 2) := by decide +kernel
theorem dX7_openSeed_32 : decode cX7_openSeed 32 = .ok (.bipush 54, 2) := by decide +kernel
theorem dX7_openSeed_34 : decode cX7_openSeed 34 = .ok (.invokevirtual 45, 3) := by decide +kernel
theorem dX7_openSeed_37 : decode cX7_openSeed 37 = .ok (.return_, 1) := by decide +kernel
theorem dX7_openSeed_38 : decode cX7_openSeed 38 = .ok (.aload_n 0, 1) := by decide +kernel
theorem dX7_openSeed_39 : decode cX7_openSeed 39 = .ok (.dup, 1) := by decide +kernel
theorem dX7_openSeed_40 : decode cX7_openSeed 40 = .ok (.getfield 34, 3) := by decide +kernel
theorem dX7_openSeed_43 : decode cX7_openSeed 43 = .ok (.iconst 1, 1) := by decide +kernel
theorem dX7_openSeed_44 : decode cX7_openSeed 44 = .ok (.iadd, 1) := by decide +kernel
theorem dX7_openSeed_45 : decode cX7_openSeed 45 = .ok (.putfield 34, 3) := by decide +kernel
theorem dX7_openSeed_48 : decode cX7_openSeed 48 = .ok (.aload_n 0, 1) := by decide +kernel
theorem dX7_openSeed_49 : decode cX7_openSeed 49 = .ok (.getfield 22, 3) := by decide +kernel
theorem dX7_openSeed_52 : decode cX7_openSeed 52 = .ok (.iload_n 1, 1) := by decide +kernel
theorem dX7_openSeed_53 : decode cX7_openSeed 53 = .ok (.ldc 121, 2) := by decide +kernel
theorem dX7_openSeed_55 : decode cX7_openSeed 55 = .ok (.aload_n 0, 1) := by decide +kernel
theorem dX7_openSeed_56 : decode cX7_openSeed 56 = .ok (.getfield 34, 3) := by decide +kernel
theorem dX7_openSeed_59 : decode cX7_openSeed 59 = .ok (.imul, 1) := by decide +kernel
theorem dX7_openSeed_60 : decode cX7_openSeed 60 = .ok (.iastore, 1) := by decide +kernel
theorem dX7_openSeed_61 : decode cX7_openSeed 61 = .ok (.aload_n 0, 1) := by decide +kernel
theorem dX7_openSeed_62 : decode cX7_openSeed 62 = .ok (.getfield 19, 3) := by decide +kernel
theorem dX7_openSeed_65 : decode cX7_openSeed 65 = .ok (.iload_n 1, 1) := by decide +kernel
theorem dX7_openSeed_66 : decode cX7_openSeed 66 = .ok (.iconst 1, 1) := by decide +kernel
theorem dX7_openSeed_67 : decode cX7_openSeed 67 = .ok (.bastore, 1) := by decide +kernel
theorem dX7_openSeed_68 : decode cX7_openSeed 68 = .ok (.aload_n 0, 1) := by decide +kernel
theorem dX7_openSeed_69 : decode cX7_openSeed 69 = .ok (.bipush 103, 2) := by decide +kernel
theorem dX7_openSeed_71 : decode cX7_openSeed 71 = .ok (.invokevirtual 95, 3) := by decide +kernel
theorem dX7_openSeed_74 : decode cX7_openSeed 74 = .ok (.aload_n 0, 1) := by decide +kernel
theorem dX7_openSeed_75 : decode cX7_openSeed 75 = .ok (.iconst 1, 1) := by decide +kernel
theorem dX7_openSeed_76 : decode cX7_openSeed 76 = .ok (.invokevirtual 95, 3) := by decide +kernel
theorem dX7_openSeed_79 : decode cX7_openSeed 79 = .ok (.bipush 24, 2) := by decide +kernel
theorem dX7_openSeed_81 : decode cX7_openSeed 81 = .ok (.istore_n 2, 1) := by decide +kernel
theorem dX7_openSeed_82 : decode cX7_openSeed 82 = .ok (.iload_n 2, 1) := by decide +kernel
theorem dX7_openSeed_83 : decode cX7_openSeed 83 = .ok (.ifCond .lt 25, 3) := by decide +kernel
theorem dX7_openSeed_86 : decode cX7_openSeed 86 = .ok (.aload_n 0, 1) := by decide +kernel
theorem dX7_openSeed_87 : decode cX7_openSeed 87 = .ok (.aload_n 0, 1) := by decide +kernel
theorem dX7_openSeed_88 : decode cX7_openSeed 88 = .ok (.getfield 22, 3) := by decide +kernel
theorem dX7_openSeed_91 : decode cX7_openSeed 91 = .ok (.iload_n 1, 1) := by decide +kernel
theorem dX7_openSeed_92 : decode cX7_openSeed 92 = .ok (.iaload, 1) := by decide +kernel
theorem dX7_openSeed_93 : decode cX7_openSeed 93 = .ok (.iload_n 2, 1) := by decide +kernel
theorem dX7_openSeed_94 : decode cX7_openSeed 94 = .ok (.iushr, 1) := by decide +kernel
theorem dX7_openSeed_95 : decode cX7_openSeed 95 = .ok (.sipush 255, 3) := by decide +kernel
theorem dX7_openSeed_98 : decode cX7_openSeed 98 = .ok (.iand, 1) := by decide +kernel
theorem dX7_openSeed_99 : decode cX7_openSeed 99 = .ok (.invokevirtual 95, 3) := by decide +kernel
theorem dX7_openSeed_102 : decode cX7_openSeed 102 = .ok (.iinc 2 (-8), 3) := by decide +kernel
theorem dX7_openSeed_105 : decode cX7_openSeed 105 = .ok (.goto (-23), 3) := by decide +kernel
theorem dX7_openSeed_108 : decode cX7_openSeed 108 = .ok (.return_, 1) := by decide +kernel
theorem cwX7_openSeed : mw_cwV yX7_openSeed cX7_openSeed 3 (none) 1 := ⟨⟨wd_11, wd_1585, by decide +kernel⟩, wd_1584, sl_112⟩
set_option maxHeartbeats 4000000 in
set_option maxRecDepth 100000 in
theorem tX7_openSeed (l : Launch) (G : mwG) (ad : Nat → Nat) (fu : Nat) (a1 : Int32) (M : mwM) (L : mwL) {M0 : mwM} {L0 : mwL} (hD : DX7_openSeed fu a1 M L = some (M0, L0)) : Met l yX7_openSeed (Cond.code yX7_openSeed cX7_openSeed 3 (none) :: GT) ({ frames := 2, cells := 0, slots := 0, locals := 43 }) (mw_Pre G ad NF TF FF M L [.ref (ad 275), .int a1]) (mw_Qv G ad NF TF FF (mw_eqV M0 L0)) 0 0 (mw_fr G) := by
  refine mw_enter (by decide) (Nat.le_of_ble_eq_true rfl) ?_
  intro p e s m below meth c ls C hr hlocks hnm hw hl
  have hl : lv_has ls 3 [(0, .ref (ad 275)), (1, .int a1)] := hl
  have hh82 : ∀ (f : Nat) (v2 : Int32) (M : mwM) (L : mwL) (H : Heap) (locs : List Loc) (ls : Array Slot), fX7_openSeed_h82 fu a1 f (v2, M, L) = some (M0, L0) → mw_W G ad NF TF FF M L H locs → lv_has ls 3 [(0, .ref (ad 275)), (1, .int a1), (2, .int v2)] → W p l e ({ frames := 2, cells := 0, slots := 0, locals := 43 }) s m [.ref (ad 275), .int a1].toArray below meth c H locs 0 0 (MQ below (mw_Qv G ad NF TF FF (mw_eqV M0 L0)) [.ref (ad 275), .int a1].toArray s 0 0 (mw_fr G)) (F0 m 82 ls []) := by
    intro f
    induction f with
    | zero => intro v2 M L H locs ls hD; cases hD
    | succ f82 ih82 =>
      intro v2 M L H locs ls hD hw hl
      replace hD : fX7_openSeed_i82 fu a1 (fX7_openSeed_h82 fu a1 f82) v2 M L = some (M0, L0) := hD
      unfold fX7_openSeed_i82 at hD
      refine lv_iload_n C.1.1 C.1.2.1 dX7_openSeed_82 rfl (lv_at hl 2 rfl) ?_
      refine lv_if_lt (tgt := 108) C.1.1 C.1.2.1 dX7_openSeed_83 (by decide) (fun c1 => ?_) (fun c1 => ?_)
      · replace hD := g_pos c1 hD
        exact mr_vret C hr hlocks hw (Option.some.inj hD) dX7_openSeed_108
      · replace hD := g_neg c1 hD
        refine lv_aload_n C.1.1 C.1.2.1 dX7_openSeed_86 rfl (lv_at hl 0 rfl) ?_
        refine lv_aload_n C.1.1 C.1.2.1 dX7_openSeed_87 rfl (lv_at hl 0 rfl) ?_
        refine mr_getR C hw kc_7 3 (by decide) tf_275 ff_275_3 wd_410 dX7_openSeed_88 (by decide) rfl ?_
        refine lv_iload_n C.1.1 C.1.2.1 dX7_openSeed_91 rfl (lv_at hl 1 rfl) ?_
        obtain ⟨q2, hD⟩ := g_ck hD
        refine mr_iald C hw (by decide) tf_279 q2 dX7_openSeed_92 ?_
        refine lv_iload_n C.1.1 C.1.2.1 dX7_openSeed_93 rfl (lv_at hl 2 rfl) ?_
        refine lv_iushr C.1.1 C.1.2.1 dX7_openSeed_94 rfl ?_
        refine lv_sipush (v := 255) C.1.1 C.1.2.1 dX7_openSeed_95 (by decide) ?_
        refine lv_iand C.1.1 C.1.2.1 dX7_openSeed_98 ?_
        obtain ⟨M3, L4, h1, hD⟩ := g_b2 hD
        refine md_cvV (As := [.int ((((M 279 a1.toNatClampNeg).toUInt32 >>> (v2.toUInt32 &&& Int32.toUInt32 31)).toInt32) &&& 255)]) (rest := []) C hw (tX7_put l G ad fu ((((M 279 a1.toNatClampNeg).toUInt32 >>> (v2.toUInt32 &&& Int32.toUInt32 31)).toInt32) &&& 255) M L h1) kc_7 (by decide) tf_275 wd_1552 cwX7_put ⟨Nat.le_of_ble_eq_true rfl, Nat.le_of_ble_eq_true rfl⟩ rfl hl.1 (Nat.le_of_ble_eq_true rfl) dX7_openSeed_99 rfl rfl ⟨Nat.zero_le _, Nat.zero_le _⟩ rfl (fun H locs hw => ?_)
        obtain ⟨x5, ex5, hD⟩ := g_let hD
        refine lv_iinc (v := x5) (lv' := [(2, .int x5), (0, .ref (ad 275)), (1, .int a1)]) C.1.1 C.1.2.1 dX7_openSeed_102 hl (k := 2) rfl (by rw [ex5]; rfl) (by decide) rfl (fun ls hl => ?_)
        refine lv_goto (tgt := 82) C.1.1 C.1.2.1 dX7_openSeed_105 (by decide) ?_
        exact ih82 x5 M3 L4 _ _ ls hD hw (lv_sub hl [1, 2, 0] rfl)
  unfold DX7_openSeed at hD
  refine lv_aload_n C.1.1 C.1.2.1 dX7_openSeed_0 rfl (lv_at hl 0 rfl) ?_
  refine mr_getR C hw kc_7 0 (by decide) tf_275 ff_275_0 wd_407 dX7_openSeed_1 (by decide) rfl ?_
  refine lv_iload_n C.1.1 C.1.2.1 dX7_openSeed_4 rfl (lv_at hl 1 rfl) ?_
  obtain ⟨q6, hD⟩ := g_ck hD
  refine mr_iald C hw (by decide) tf_276 q6 dX7_openSeed_5 ?_
  refine lv_iconst (v := 1) C.1.1 C.1.2.1 dX7_openSeed_6 (by decide) ?_
  refine lv_icmp_ne (tgt := 19) C.1.1 C.1.2.1 dX7_openSeed_7 (by decide) (fun c7 => ?_) (fun c7 => ?_)
  · replace hD := g_neg c7 hD
    refine lv_aload_n C.1.1 C.1.2.1 dX7_openSeed_19 rfl (lv_at hl 0 rfl) ?_
    refine mr_getR C hw kc_7 4 (by decide) tf_275 ff_275_4 wd_411 dX7_openSeed_20 (by decide) rfl ?_
    refine lv_iload_n C.1.1 C.1.2.1 dX7_openSeed_23 rfl (lv_at hl 1 rfl) ?_
    obtain ⟨q8, hD⟩ := g_ck hD
    refine mr_iald C hw (by decide) tf_280 q8 dX7_openSeed_24 ?_
    refine lv_iconst (v := 3) C.1.1 C.1.2.1 dX7_openSeed_25 (by decide) ?_
    refine lv_icmp_lt (tgt := 38) C.1.1 C.1.2.1 dX7_openSeed_26 (by decide) (fun c9 => ?_) (fun c9 => ?_)
    · replace hD := g_pos c9 hD
      refine lv_aload_n C.1.1 C.1.2.1 dX7_openSeed_38 rfl (lv_at hl 0 rfl) ?_
      refine lv_dup C.1.1 C.1.2.1 dX7_openSeed_39 rfl ?_
      refine mr_getI C hw kc_7 8 (by decide) tf_275 wd_417 dX7_openSeed_40 (by decide) rfl ?_
      refine lv_iconst (v := 1) C.1.1 C.1.2.1 dX7_openSeed_43 (by decide) ?_
      refine lv_iadd C.1.1 C.1.2.1 dX7_openSeed_44 ?_
      obtain ⟨M10, eM10, hD⟩ := g_let hD
      refine mr_putI C hw kc_7 8 (by decide) tf_275 wd_417 dX7_openSeed_45 (by decide) rfl rfl rfl rfl (fun H locs hw => ?_)
      replace hw : mw_W G ad NF TF FF M10 L H locs := by rw [eM10]; exact hw
      refine lv_aload_n C.1.1 C.1.2.1 dX7_openSeed_48 rfl (lv_at hl 0 rfl) ?_
      refine mr_getR C hw kc_7 3 (by decide) tf_275 ff_275_3 wd_410 dX7_openSeed_49 (by decide) rfl ?_
      refine lv_iload_n C.1.1 C.1.2.1 dX7_openSeed_52 rfl (lv_at hl 1 rfl) ?_
      refine lv_ldc (v := (-1640531535)) C.1.1 C.1.2.1 C.1.2.2.2.1 (C.1.2.2.2.2 _ wd_1586) dX7_openSeed_53 ?_
      refine lv_aload_n C.1.1 C.1.2.1 dX7_openSeed_55 rfl (lv_at hl 0 rfl) ?_
      refine mr_getI C hw kc_7 8 (by decide) tf_275 wd_417 dX7_openSeed_56 (by decide) rfl ?_
      refine lv_imul C.1.1 C.1.2.1 dX7_openSeed_59 ?_
      obtain ⟨q11, hD⟩ := g_ck hD
      obtain ⟨M12, eM12, hD⟩ := g_let hD
      refine mr_iast C hw (by decide) tf_279 q11 dX7_openSeed_60 (fun H locs hw => ?_)
      replace hw : mw_W G ad NF TF FF M12 L H locs := by rw [eM12]; exact hw
      refine lv_aload_n C.1.1 C.1.2.1 dX7_openSeed_61 rfl (lv_at hl 0 rfl) ?_
      refine mr_getR C hw kc_7 2 (by decide) tf_275 ff_275_2 wd_409 dX7_openSeed_62 (by decide) rfl ?_
      refine lv_iload_n C.1.1 C.1.2.1 dX7_openSeed_65 rfl (lv_at hl 1 rfl) ?_
      refine lv_iconst (v := 1) C.1.1 C.1.2.1 dX7_openSeed_66 (by decide) ?_
      obtain ⟨q13, hD⟩ := g_ck hD
      obtain ⟨M14, eM14, hD⟩ := g_let hD
      refine mr_zast C hw (by decide) tf_278 q13 dX7_openSeed_67 (fun H locs hw => ?_)
      replace hw : mw_W G ad NF TF FF M14 L H locs := by rw [eM14]; exact hw
      refine lv_aload_n C.1.1 C.1.2.1 dX7_openSeed_68 rfl (lv_at hl 0 rfl) ?_
      refine lv_bipush (v := 103) C.1.1 C.1.2.1 dX7_openSeed_69 (by decide) ?_
      obtain ⟨M15, L16, h1, hD⟩ := g_b2 hD
      refine md_cvV (As := [.int 103]) (rest := []) C hw (tX7_put l G ad fu 103 M14 L h1) kc_7 (by decide) tf_275 wd_1552 cwX7_put ⟨Nat.le_of_ble_eq_true rfl, Nat.le_of_ble_eq_true rfl⟩ rfl hl.1 (Nat.le_of_ble_eq_true rfl) dX7_openSeed_71 rfl rfl ⟨Nat.zero_le _, Nat.zero_le _⟩ rfl (fun H locs hw => ?_)
      refine lv_aload_n C.1.1 C.1.2.1 dX7_openSeed_74 rfl (lv_at hl 0 rfl) ?_
      refine lv_iconst (v := 1) C.1.1 C.1.2.1 dX7_openSeed_75 (by decide) ?_
      obtain ⟨M17, L18, h1, hD⟩ := g_b2 hD
      refine md_cvV (As := [.int 1]) (rest := []) C hw (tX7_put l G ad fu 1 M15 L16 h1) kc_7 (by decide) tf_275 wd_1552 cwX7_put ⟨Nat.le_of_ble_eq_true rfl, Nat.le_of_ble_eq_true rfl⟩ rfl hl.1 (Nat.le_of_ble_eq_true rfl) dX7_openSeed_76 rfl rfl ⟨Nat.zero_le _, Nat.zero_le _⟩ rfl (fun H locs hw => ?_)
      refine lv_bipush (v := 24) C.1.1 C.1.2.1 dX7_openSeed_79 (by decide) ?_
      refine lv_istore_n (lv' := [(2, .int 24), (0, .ref (ad 275)), (1, .int a1)]) C.1.1 C.1.2.1 dX7_openSeed_81 rfl hl (by decide) rfl (fun ls hl => ?_)
      exact hh82 fu 24 M17 L18 _ _ ls hD hw (lv_sub hl [1, 2, 0] rfl)
    · replace hD := g_neg c9 hD
      refine lv_aload_n C.1.1 C.1.2.1 dX7_openSeed_29 rfl (lv_at hl 0 rfl) ?_
      refine lv_bipush (v := 39) C.1.1 C.1.2.1 dX7_openSeed_30 (by decide) ?_
      refine lv_bipush (v := 54) C.1.1 C.1.2.1 dX7_openSeed_32 (by decide) ?_
      obtain ⟨M19, L20, h1, hD⟩ := g_b2 hD
      refine md_cvV (As := [.int 39, .int 54]) (rest := []) C hw (tX7_refuse l G ad fu 39 54 M L h1) kc_7 (by decide) tf_275 wd_1548 cwX7_refuse ⟨Nat.le_of_ble_eq_true rfl, Nat.le_of_ble_eq_true rfl⟩ rfl hl.1 (Nat.le_of_ble_eq_true rfl) dX7_openSeed_34 rfl rfl ⟨Nat.zero_le _, Nat.zero_le _⟩ rfl (fun H locs hw => ?_)
      exact mr_vret C hr hlocks hw (Option.some.inj hD) dX7_openSeed_37
  · replace hD := g_pos c7 hD
    refine lv_aload_n C.1.1 C.1.2.1 dX7_openSeed_10 rfl (lv_at hl 0 rfl) ?_
    refine lv_bipush (v := 39) C.1.1 C.1.2.1 dX7_openSeed_11 (by decide) ?_
    refine lv_bipush (v := 34) C.1.1 C.1.2.1 dX7_openSeed_13 (by decide) ?_
    obtain ⟨M21, L22, h1, hD⟩ := g_b2 hD
    refine md_cvV (As := [.int 39, .int 34]) (rest := []) C hw (tX7_refuse l G ad fu 39 34 M L h1) kc_7 (by decide) tf_275 wd_1548 cwX7_refuse ⟨Nat.le_of_ble_eq_true rfl, Nat.le_of_ble_eq_true rfl⟩ rfl hl.1 (Nat.le_of_ble_eq_true rfl) dX7_openSeed_15 rfl rfl ⟨Nat.zero_le _, Nat.zero_le _⟩ rfl (fun H locs hw => ?_)
    exact mr_vret C hr hlocks hw (Option.some.inj hD) dX7_openSeed_18

theorem dX7_tryKey_0 : decode cX7_tryKey 0 = .ok (.aload_n 0, 1) := by decide +kernel
theorem dX7_tryKey_1 : decode cX7_tryKey 1 = .ok (.getfield 25, 3) := by decide +kernel
theorem dX7_tryKey_4 : decode cX7_tryKey 4 = .ok (.iload_n 2, 1) := by decide +kernel
theorem dX7_tryKey_5 : decode cX7_tryKey 5 = .ok (.iaload, 1) := by decide +kernel
theorem dX7_tryKey_6 : decode cX7_tryKey 6 = .ok (.iconst 3, 1) := by decide +kernel
theorem dX7_tryKey_7 : decode cX7_tryKey 7 = .ok (.if_icmp .lt 12, 3) := by decide +kernel
theorem dX7_tryKey_10 : decode cX7_tryKey 10 = .ok (.aload_n 0, 1) := by decide +kernel
theorem dX7_tryKey_11 : decode cX7_tryKey 11 = .ok (.bipush 39, 2) := by decide +kernel
theorem dX7_tryKey_13 : decode cX7_tryKey 13 = .ok (.bipush 54, 2) := by decide +kernel
theorem dX7_tryKey_15 : decode cX7_tryKey 15 = .ok (.invokevirtual 45, 3) := by decide +kernel
theorem dX7_tryKey_18 : decode cX7_tryKey 18 = .ok (.return_, 1) := by decide +kernel
theorem dX7_tryKey_19 : decode cX7_tryKey 19 = .ok (.aload_n 0, 1) := by decide +kernel
theorem dX7_tryKey_20 : decode cX7_tryKey 20 = .ok (.getfield 19, 3) := by decide +kernel
theorem dX7_tryKey_23 : decode cX7_tryKey 23 = .ok (.iload_n 2, 1) := by decide +kernel
theorem dX7_tryKey_24 : decode cX7_tryKey 24 = .ok (.baload, 1) := by decide +kernel
theorem dX7_tryKey_25 : decode cX7_tryKey 25 = .ok (.ifCond .ne 12, 3) := by decide +kernel
theorem dX7_tryKey_28 : decode cX7_tryKey 28 = .ok (.aload_n 0, 1) := by decide +kernel
theorem dX7_tryKey_29 : decode cX7_tryKey 29 = .ok (.bipush 39, 2) := by decide +kernel
theorem dX7_tryKey_31 : decode cX7_tryKey 31 = .ok (.bipush 36, 2) := by decide +kernel
theorem dX7_tryKey_33 : decode cX7_tryKey 33 = .ok (.invokevirtual 45, 3) := by decide +kernel
theorem dX7_tryKey_36 : decode cX7_tryKey 36 = .ok (.return_, 1) := by decide +kernel
theorem dX7_tryKey_37 : decode cX7_tryKey 37 = .ok (.aload_n 0, 1) := by decide +kernel
theorem dX7_tryKey_38 : decode cX7_tryKey 38 = .ok (.getfield 19, 3) := by decide +kernel
theorem dX7_tryKey_41 : decode cX7_tryKey 41 = .ok (.iload_n 2, 1) := by decide +kernel
theorem dX7_tryKey_42 : decode cX7_tryKey 42 = .ok (.iconst 0, 1) := by decide +kernel
theorem dX7_tryKey_43 : decode cX7_tryKey 43 = .ok (.bastore, 1) := by decide +kernel
theorem dX7_tryKey_44 : decode cX7_tryKey 44 = .ok (.iconst 0, 1) := by decide +kernel
theorem dX7_tryKey_45 : decode cX7_tryKey 45 = .ok (.istore 4, 2) := by decide +kernel
theorem dX7_tryKey_47 : decode cX7_tryKey 47 = .ok (.iload 4, 2) := by decide +kernel
theorem dX7_tryKey_49 : decode cX7_tryKey 49 = .ok (.iconst 4, 1) := by decide +kernel
theorem dX7_tryKey_50 : decode cX7_tryKey 50 = .ok (.if_icmp .ge 35, 3) := by decide +kernel
theorem dX7_tryKey_53 : decode cX7_tryKey 53 = .ok (.aload_n 0, 1) := by decide +kernel
theorem dX7_tryKey_54 : decode cX7_tryKey 54 = .ok (.getfield 28, 3) := by decide +kernel
theorem dX7_tryKey_57 : decode cX7_tryKey 57 = .ok (.iload 4, 2) := by decide +kernel
theorem dX7_tryKey_59 : decode cX7_tryKey 59 = .ok (.aload_n 0, 1) := by decide +kernel
theorem dX7_tryKey_60 : decode cX7_tryKey 60 = .ok (.getfield 22, 3) := by decide +kernel
theorem dX7_tryKey_63 : decode cX7_tryKey 63 = .ok (.iload_n 2, 1) := by decide +kernel
theorem dX7_tryKey_64 : decode cX7_tryKey 64 = .ok (.iaload, 1) := by decide +kernel
theorem dX7_tryKey_65 : decode cX7_tryKey 65 = .ok (.bipush 24, 2) := by decide +kernel
theorem dX7_tryKey_67 : decode cX7_tryKey 67 = .ok (.bipush 8, 2) := by decide +kernel
theorem dX7_tryKey_69 : decode cX7_tryKey 69 = .ok (.iload 4, 2) := by decide +kernel
theorem dX7_tryKey_71 : decode cX7_tryKey 71 = .ok (.imul, 1) := by decide +kernel
theorem dX7_tryKey_72 : decode cX7_tryKey 72 = .ok (.isub, 1) := by decide +kernel
theorem dX7_tryKey_73 : decode cX7_tryKey 73 = .ok (.iushr, 1) := by decide +kernel
theorem dX7_tryKey_74 : decode cX7_tryKey 74 = .ok (.sipush 255, 3) := by decide +kernel
theorem dX7_tryKey_77 : decode cX7_tryKey 77 = .ok (.iand, 1) := by decide +kernel
theorem dX7_tryKey_78 : decode cX7_tryKey 78 = .ok (.iastore, 1) := by decide +kernel
theorem dX7_tryKey_79 : decode cX7_tryKey 79 = .ok (.iinc 4 1, 3) := by decide +kernel
theorem dX7_tryKey_82 : decode cX7_tryKey 82 = .ok (.goto (-35), 3) := by decide +kernel
theorem dX7_tryKey_85 : decode cX7_tryKey 85 = .ok (.aload_n 1, 1) := by decide +kernel
theorem dX7_tryKey_86 : decode cX7_tryKey 86 = .ok (.bipush 16, 2) := by decide +kernel
theorem dX7_tryKey_88 : decode cX7_tryKey 88 = .ok (.aload_n 0, 1) := by decide +kernel
theorem dX7_tryKey_89 : decode cX7_tryKey 89 = .ok (.getfield 28, 3) := by decide +kernel
theorem dX7_tryKey_92 : decode cX7_tryKey 92 = .ok (.iconst 4, 1) := by decide +kernel
theorem dX7_tryKey_93 : decode cX7_tryKey 93 = .ok (.invokevirtual 122, 3) := by decide +kernel
theorem dX7_tryKey_96 : decode cX7_tryKey 96 = .ok (.aload_n 0, 1) := by decide +kernel
theorem dX7_tryKey_97 : decode cX7_tryKey 97 = .ok (.getfield 15, 3) := by decide +kernel
theorem dX7_tryKey_100 : decode cX7_tryKey 100 = .ok (.iload_n 2, 1) := by decide +kernel
theorem dX7_tryKey_101 : decode cX7_tryKey 101 = .ok (.aload_n 1, 1) := by decide +kernel
theorem dX7_tryKey_102 : decode cX7_tryKey 102 = .ok (.aload_n 3, 1) := by decide +kernel
theorem dX7_tryKey_103 : decode cX7_tryKey 103 = .ok (.iconst 2, 1) := by decide +kernel
theorem dX7_tryKey_104 : decode cX7_tryKey 104 = .ok (.invokevirtual 128, 3) := by decide +kernel
theorem dX7_tryKey_107 : decode cX7_tryKey 107 = .ok (.bastore, 1) := by decide +kernel
theorem dX7_tryKey_108 : decode cX7_tryKey 108 = .ok (.aload_n 0, 1) := by decide +kernel
theorem dX7_tryKey_109 : decode cX7_tryKey 109 = .ok (.getfield 15, 3) := by decide +kernel
theorem dX7_tryKey_112 : decode cX7_tryKey 112 = .ok (.iload_n 2, 1) := by decide +kernel
theorem dX7_tryKey_113 : decode cX7_tryKey 113 = .ok (.baload, 1) := by decide +kernel
theorem dX7_tryKey_114 : decode cX7_tryKey 114 = .ok (.ifCond .eq 15, 3) := by decide +kernel
theorem dX7_tryKey_117 : decode cX7_tryKey 117 = .ok (.aload_n 0, 1) := by decide +kernel
theorem dX7_tryKey_118 : decode cX7_tryKey 118 = .ok (.bipush 103, 2) := by decide +kernel
theorem dX7_tryKey_120 : decode cX7_tryKey 120 = .ok (.invokevirtual 95, 3) := by decide +kernel
theorem dX7_tryKey_123 : decode cX7_tryKey 123 = .ok (.aload_n 0, 1) := by decide +kernel
theorem dX7_tryKey_124 : decode cX7_tryKey 124 = .ok (.iconst 2, 1) := by decide +kernel
theorem dX7_tryKey_125 : decode cX7_tryKey 125 = .ok (.invokevirtual 95, 3) := by decide +kernel
theorem dX7_tryKey_128 : decode cX7_tryKey 128 = .ok (.return_, 1) := by decide +kernel
theorem dX7_tryKey_129 : decode cX7_tryKey 129 = .ok (.aload_n 0, 1) := by decide +kernel
theorem dX7_tryKey_130 : decode cX7_tryKey 130 = .ok (.getfield 25, 3) := by decide +kernel
theorem dX7_tryKey_133 : decode cX7_tryKey 133 = .ok (.iload_n 2, 1) := by decide +kernel
theorem dX7_tryKey_134 : decode cX7_tryKey 134 = .ok (.dup2, 1) := by decide +kernel
theorem dX7_tryKey_135 : decode cX7_tryKey 135 = .ok (.iaload, 1) := by decide +kernel
theorem dX7_tryKey_136 : decode cX7_tryKey 136 = .ok (.iconst 1, 1) := by decide +kernel
theorem dX7_tryKey_137 : decode cX7_tryKey 137 = .ok (.iadd, 1) := by decide +kernel
theorem dX7_tryKey_138 : decode cX7_tryKey 138 = .ok (.iastore, 1) := by decide +kernel
theorem dX7_tryKey_139 : decode cX7_tryKey 139 = .ok (.aload_n 0, 1) := by decide +kernel
theorem dX7_tryKey_140 : decode cX7_tryKey 140 = .ok (.bipush 39, 2) := by decide +kernel
theorem dX7_tryKey_142 : decode cX7_tryKey 142 = .ok (.aload_n 0, 1) := by decide +kernel
theorem dX7_tryKey_143 : decode cX7_tryKey 143 = .ok (.getfield 25, 3) := by decide +kernel
theorem dX7_tryKey_146 : decode cX7_tryKey 146 = .ok (.iload_n 2, 1) := by decide +kernel
theorem dX7_tryKey_147 : decode cX7_tryKey 147 = .ok (.iaload, 1) := by decide +kernel
theorem dX7_tryKey_148 : decode cX7_tryKey 148 = .ok (.iconst 3, 1) := by decide +kernel
theorem dX7_tryKey_149 : decode cX7_tryKey 149 = .ok (.if_icmp .lt 8, 3) := by decide +kernel
theorem dX7_tryKey_152 : decode cX7_tryKey 152 = .ok (.bipush 54, 2) := by decide +kernel
theorem dX7_tryKey_154 : decode cX7_tryKey 154 = .ok (.goto 5, 3) := by decide +kernel
theorem dX7_tryKey_157 : decode cX7_tryKey 157 = .ok (.bipush 53, 2) := by decide +kernel
theorem dX7_tryKey_159 : decode cX7_tryKey 159 = .ok (.invokevirtual 45, 3) := by decide +kernel
theorem dX7_tryKey_162 : decode cX7_tryKey 162 = .ok (.return_, 1) := by decide +kernel
theorem cwX7_tryKey : mw_cwV yX7_tryKey cX7_tryKey 5 (none) 3 := ⟨⟨wd_11, wd_1590, by decide +kernel⟩, wd_1589, sl_113⟩
set_option maxHeartbeats 4000000 in
set_option maxRecDepth 100000 in
theorem tX7_tryKey (l : Launch) (G : mwG) (ad : Nat → Nat) (fu : Nat) (a2 : Int32) (a3 : Nat) (n3 : Nat) (M : mwM) (L : mwL) {M0 : mwM} {L0 : mwL} (hD : DX7_tryKey fu a2 a3 n3 M L = some (M0, L0)) (hk3 : a3 < NF) (hT3 : TF a3 = (0, n3)) : Met l yX7_tryKey (Cond.code yX7_tryKey cX7_tryKey 5 (none) :: GT) ({ frames := 2, cells := 0, slots := 0, locals := 54 }) (mw_Pre G ad NF TF FF M L [.ref (ad 275), .ref (ad 97), .int a2, .ref (ad a3)]) (mw_Qv G ad NF TF FF (mw_eqV M0 L0)) 0 0 (mw_fr G) := by
  refine mw_enter (by decide) (Nat.le_of_ble_eq_true rfl) ?_
  intro p e s m below meth c ls C hr hlocks hnm hw hl
  have hl : lv_has ls 5 [(0, .ref (ad 275)), (1, .ref (ad 97)), (2, .int a2), (3, .ref (ad a3))] := hl
  have hb159 : ∀ (s1 : Int32) (s2 : Int32) (M : mwM) (L : mwL) (H : Heap) (locs : List Loc) (ls : Array Slot), fX7_tryKey_b159 fu a2 a3 n3 s1 s2 M L = some (M0, L0) → mw_W G ad NF TF FF M L H locs → lv_has ls 5 [] → W p l e ({ frames := 2, cells := 0, slots := 0, locals := 54 }) s m [.ref (ad 275), .ref (ad 97), .int a2, .ref (ad a3)].toArray below meth c H locs 0 0 (MQ below (mw_Qv G ad NF TF FF (mw_eqV M0 L0)) [.ref (ad 275), .ref (ad 97), .int a2, .ref (ad a3)].toArray s 0 0 (mw_fr G)) (F0 m 159 ls [.int s2, .int s1, .ref (ad 275)]) := by
    intro s1 s2 M L H locs ls hD hw hl
    unfold fX7_tryKey_b159 at hD
    obtain ⟨M24, L25, h1, hD⟩ := g_b2 hD
    refine md_cvV (As := [.int s1, .int s2]) (rest := []) C hw (tX7_refuse l G ad fu s1 s2 M L h1) kc_7 (by decide) tf_275 wd_1548 cwX7_refuse ⟨Nat.le_of_ble_eq_true rfl, Nat.le_of_ble_eq_true rfl⟩ rfl hl.1 (Nat.le_of_ble_eq_true rfl) dX7_tryKey_159 rfl rfl ⟨Nat.zero_le _, Nat.zero_le _⟩ rfl (fun H locs hw => ?_)
    exact mr_vret C hr hlocks hw (Option.some.inj hD) dX7_tryKey_162
  have hh47 : ∀ (f : Nat) (v4 : Int32) (M : mwM) (L : mwL) (H : Heap) (locs : List Loc) (ls : Array Slot), fX7_tryKey_h47 fu a2 a3 n3 f (v4, M, L) = some (M0, L0) → mw_W G ad NF TF FF M L H locs → lv_has ls 5 [(0, .ref (ad 275)), (1, .ref (ad 97)), (2, .int a2), (3, .ref (ad a3)), (4, .int v4)] → W p l e ({ frames := 2, cells := 0, slots := 0, locals := 54 }) s m [.ref (ad 275), .ref (ad 97), .int a2, .ref (ad a3)].toArray below meth c H locs 0 0 (MQ below (mw_Qv G ad NF TF FF (mw_eqV M0 L0)) [.ref (ad 275), .ref (ad 97), .int a2, .ref (ad a3)].toArray s 0 0 (mw_fr G)) (F0 m 47 ls []) := by
    intro f
    induction f with
    | zero => intro v4 M L H locs ls hD; cases hD
    | succ f47 ih47 =>
      intro v4 M L H locs ls hD hw hl
      replace hD : fX7_tryKey_i47 fu a2 a3 n3 (fX7_tryKey_h47 fu a2 a3 n3 f47) v4 M L = some (M0, L0) := hD
      unfold fX7_tryKey_i47 at hD
      refine lv_iload C.1.1 C.1.2.1 dX7_tryKey_47 (lv_at hl 4 rfl) ?_
      refine lv_iconst (v := 4) C.1.1 C.1.2.1 dX7_tryKey_49 (by decide) ?_
      refine lv_icmp_ge (tgt := 85) C.1.1 C.1.2.1 dX7_tryKey_50 (by decide) (fun c1 => ?_) (fun c1 => ?_)
      · replace hD := g_pos c1 hD
        refine lv_aload_n C.1.1 C.1.2.1 dX7_tryKey_85 rfl (lv_at hl 1 rfl) ?_
        refine lv_bipush (v := 16) C.1.1 C.1.2.1 dX7_tryKey_86 (by decide) ?_
        refine lv_aload_n C.1.1 C.1.2.1 dX7_tryKey_88 rfl (lv_at hl 0 rfl) ?_
        refine mr_getR C hw kc_7 5 (by decide) tf_275 ff_275_5 wd_412 dX7_tryKey_89 (by decide) rfl ?_
        refine lv_iconst (v := 4) C.1.1 C.1.2.1 dX7_tryKey_92 (by decide) ?_
        obtain ⟨M2, L3, h1, hD⟩ := g_b2 hD
        refine md_cvV (As := [.int 16, .ref (ad 281), .int 4]) (rest := []) C hw (tX3_make l G ad fu 16 281 4 4 M L h1 (by decide) tf_281) kc_3 (by decide) tf_97 wd_1591 cwX3_make ⟨Nat.le_of_ble_eq_true rfl, Nat.le_of_ble_eq_true rfl⟩ rfl hl.1 (Nat.le_of_ble_eq_true rfl) dX7_tryKey_93 rfl rfl ⟨Nat.zero_le _, Nat.zero_le _⟩ rfl (fun H locs hw => ?_)
        refine lv_aload_n C.1.1 C.1.2.1 dX7_tryKey_96 rfl (lv_at hl 0 rfl) ?_
        refine mr_getR C hw kc_7 1 (by decide) tf_275 ff_275_1 wd_408 dX7_tryKey_97 (by decide) rfl ?_
        refine lv_iload_n C.1.1 C.1.2.1 dX7_tryKey_100 rfl (lv_at hl 2 rfl) ?_
        refine lv_aload_n C.1.1 C.1.2.1 dX7_tryKey_101 rfl (lv_at hl 1 rfl) ?_
        refine lv_aload_n C.1.1 C.1.2.1 dX7_tryKey_102 rfl (lv_at hl 3 rfl) ?_
        refine lv_iconst (v := 2) C.1.1 C.1.2.1 dX7_tryKey_103 (by decide) ?_
        obtain ⟨r6, M4, L5, h1, hD⟩ := g_b3 hD
        refine md_cvI (As := [.ref (ad a3), .int 2]) (rest := [.int a2, .ref (ad 277)]) C hw (tX3_isOut l G ad fu a3 n3 2 M2 L3 h1 hk3 hT3) kc_3 (by decide) tf_97 wd_1592 cwX3_isOut ⟨Nat.le_of_ble_eq_true rfl, Nat.le_of_ble_eq_true rfl⟩ rfl hl.1 (Nat.le_of_ble_eq_true rfl) dX7_tryKey_104 rfl rfl ⟨Nat.zero_le _, Nat.zero_le _⟩ rfl (fun H locs hw => ?_)
        obtain ⟨q7, hD⟩ := g_ck hD
        obtain ⟨M8, eM8, hD⟩ := g_let hD
        refine mr_zast C hw (by decide) tf_277 q7 dX7_tryKey_107 (fun H locs hw => ?_)
        replace hw : mw_W G ad NF TF FF M8 L5 H locs := by rw [eM8]; exact hw
        refine lv_aload_n C.1.1 C.1.2.1 dX7_tryKey_108 rfl (lv_at hl 0 rfl) ?_
        refine mr_getR C hw kc_7 1 (by decide) tf_275 ff_275_1 wd_408 dX7_tryKey_109 (by decide) rfl ?_
        refine lv_iload_n C.1.1 C.1.2.1 dX7_tryKey_112 rfl (lv_at hl 2 rfl) ?_
        obtain ⟨q9, hD⟩ := g_ck hD
        refine mr_zald C hw (by decide) tf_277 q9 dX7_tryKey_113 ?_
        refine lv_if_eq (tgt := 129) C.1.1 C.1.2.1 dX7_tryKey_114 (by decide) (fun c10 => ?_) (fun c10 => ?_)
        · replace hD := g_pos c10 hD
          refine lv_aload_n C.1.1 C.1.2.1 dX7_tryKey_129 rfl (lv_at hl 0 rfl) ?_
          refine mr_getR C hw kc_7 4 (by decide) tf_275 ff_275_4 wd_411 dX7_tryKey_130 (by decide) rfl ?_
          refine lv_iload_n C.1.1 C.1.2.1 dX7_tryKey_133 rfl (lv_at hl 2 rfl) ?_
          refine lv_dup2_11 C.1.1 C.1.2.1 dX7_tryKey_134 rfl rfl ?_
          obtain ⟨q11, hD⟩ := g_ck hD
          refine mr_iald C hw (by decide) tf_280 q11 dX7_tryKey_135 ?_
          refine lv_iconst (v := 1) C.1.1 C.1.2.1 dX7_tryKey_136 (by decide) ?_
          refine lv_iadd C.1.1 C.1.2.1 dX7_tryKey_137 ?_
          obtain ⟨q12, hD⟩ := g_ck hD
          obtain ⟨M13, eM13, hD⟩ := g_let hD
          refine mr_iast C hw (by decide) tf_280 q12 dX7_tryKey_138 (fun H locs hw => ?_)
          replace hw : mw_W G ad NF TF FF M13 L5 H locs := by rw [eM13]; exact hw
          refine lv_aload_n C.1.1 C.1.2.1 dX7_tryKey_139 rfl (lv_at hl 0 rfl) ?_
          refine lv_bipush (v := 39) C.1.1 C.1.2.1 dX7_tryKey_140 (by decide) ?_
          refine lv_aload_n C.1.1 C.1.2.1 dX7_tryKey_142 rfl (lv_at hl 0 rfl) ?_
          refine mr_getR C hw kc_7 4 (by decide) tf_275 ff_275_4 wd_411 dX7_tryKey_143 (by decide) rfl ?_
          refine lv_iload_n C.1.1 C.1.2.1 dX7_tryKey_146 rfl (lv_at hl 2 rfl) ?_
          obtain ⟨q14, hD⟩ := g_ck hD
          refine mr_iald C hw (by decide) tf_280 q14 dX7_tryKey_147 ?_
          refine lv_iconst (v := 3) C.1.1 C.1.2.1 dX7_tryKey_148 (by decide) ?_
          refine lv_icmp_lt (tgt := 157) C.1.1 C.1.2.1 dX7_tryKey_149 (by decide) (fun c15 => ?_) (fun c15 => ?_)
          · replace hD := g_pos c15 hD
            refine lv_bipush (v := 53) C.1.1 C.1.2.1 dX7_tryKey_157 (by decide) ?_
            exact hb159 39 53 M13 L5 _ _ ls hD hw (lv_sub hl [] rfl)
          · replace hD := g_neg c15 hD
            refine lv_bipush (v := 54) C.1.1 C.1.2.1 dX7_tryKey_152 (by decide) ?_
            refine lv_goto (tgt := 159) C.1.1 C.1.2.1 dX7_tryKey_154 (by decide) ?_
            exact hb159 39 54 M13 L5 _ _ ls hD hw (lv_sub hl [] rfl)
        · replace hD := g_neg c10 hD
          refine lv_aload_n C.1.1 C.1.2.1 dX7_tryKey_117 rfl (lv_at hl 0 rfl) ?_
          refine lv_bipush (v := 103) C.1.1 C.1.2.1 dX7_tryKey_118 (by decide) ?_
          obtain ⟨M16, L17, h1, hD⟩ := g_b2 hD
          refine md_cvV (As := [.int 103]) (rest := []) C hw (tX7_put l G ad fu 103 M8 L5 h1) kc_7 (by decide) tf_275 wd_1552 cwX7_put ⟨Nat.le_of_ble_eq_true rfl, Nat.le_of_ble_eq_true rfl⟩ rfl hl.1 (Nat.le_of_ble_eq_true rfl) dX7_tryKey_120 rfl rfl ⟨Nat.zero_le _, Nat.zero_le _⟩ rfl (fun H locs hw => ?_)
          refine lv_aload_n C.1.1 C.1.2.1 dX7_tryKey_123 rfl (lv_at hl 0 rfl) ?_
          refine lv_iconst (v := 2) C.1.1 C.1.2.1 dX7_tryKey_124 (by decide) ?_
          obtain ⟨M18, L19, h1, hD⟩ := g_b2 hD
          refine md_cvV (As := [.int 2]) (rest := []) C hw (tX7_put l G ad fu 2 M16 L17 h1) kc_7 (by decide) tf_275 wd_1552 cwX7_put ⟨Nat.le_of_ble_eq_true rfl, Nat.le_of_ble_eq_true rfl⟩ rfl hl.1 (Nat.le_of_ble_eq_true rfl) dX7_tryKey_125 rfl rfl ⟨Nat.zero_le _, Nat.zero_le _⟩ rfl (fun H locs hw => ?_)
          exact mr_vret C hr hlocks hw (Option.some.inj hD) dX7_tryKey_128
      · replace hD := g_neg c1 hD
        refine lv_aload_n C.1.1 C.1.2.1 dX7_tryKey_53 rfl (lv_at hl 0 rfl) ?_
        refine mr_getR C hw kc_7 5 (by decide) tf_275 ff_275_5 wd_412 dX7_tryKey_54 (by decide) rfl ?_
        refine lv_iload C.1.1 C.1.2.1 dX7_tryKey_57 (lv_at hl 4 rfl) ?_
        refine lv_aload_n C.1.1 C.1.2.1 dX7_tryKey_59 rfl (lv_at hl 0 rfl) ?_
        refine mr_getR C hw kc_7 3 (by decide) tf_275 ff_275_3 wd_410 dX7_tryKey_60 (by decide) rfl ?_
        refine lv_iload_n C.1.1 C.1.2.1 dX7_tryKey_63 rfl (lv_at hl 2 rfl) ?_
        obtain ⟨q20, hD⟩ := g_ck hD
        refine mr_iald C hw (by decide) tf_279 q20 dX7_tryKey_64 ?_
        refine lv_bipush (v := 24) C.1.1 C.1.2.1 dX7_tryKey_65 (by decide) ?_
        refine lv_bipush (v := 8) C.1.1 C.1.2.1 dX7_tryKey_67 (by decide) ?_
        refine lv_iload C.1.1 C.1.2.1 dX7_tryKey_69 (lv_at hl 4 rfl) ?_
        refine lv_imul C.1.1 C.1.2.1 dX7_tryKey_71 ?_
        refine lv_isub C.1.1 C.1.2.1 dX7_tryKey_72 ?_
        refine lv_iushr C.1.1 C.1.2.1 dX7_tryKey_73 rfl ?_
        refine lv_sipush (v := 255) C.1.1 C.1.2.1 dX7_tryKey_74 (by decide) ?_
        refine lv_iand C.1.1 C.1.2.1 dX7_tryKey_77 ?_
        obtain ⟨q21, hD⟩ := g_ck hD
        obtain ⟨M22, eM22, hD⟩ := g_let hD
        refine mr_iast C hw (by decide) tf_281 q21 dX7_tryKey_78 (fun H locs hw => ?_)
        replace hw : mw_W G ad NF TF FF M22 L H locs := by rw [eM22]; exact hw
        obtain ⟨x23, ex23, hD⟩ := g_let hD
        refine lv_iinc (v := x23) (lv' := [(4, .int x23), (0, .ref (ad 275)), (1, .ref (ad 97)), (2, .int a2), (3, .ref (ad a3))]) C.1.1 C.1.2.1 dX7_tryKey_79 hl (k := 4) rfl (by rw [ex23]; rfl) (by decide) rfl (fun ls hl => ?_)
        refine lv_goto (tgt := 47) C.1.1 C.1.2.1 dX7_tryKey_82 (by decide) ?_
        exact ih47 x23 M22 L _ _ ls hD hw (lv_sub hl [1, 2, 3, 4, 0] rfl)
  unfold DX7_tryKey at hD
  refine lv_aload_n C.1.1 C.1.2.1 dX7_tryKey_0 rfl (lv_at hl 0 rfl) ?_
  refine mr_getR C hw kc_7 4 (by decide) tf_275 ff_275_4 wd_411 dX7_tryKey_1 (by decide) rfl ?_
  refine lv_iload_n C.1.1 C.1.2.1 dX7_tryKey_4 rfl (lv_at hl 2 rfl) ?_
  obtain ⟨q26, hD⟩ := g_ck hD
  refine mr_iald C hw (by decide) tf_280 q26 dX7_tryKey_5 ?_
  refine lv_iconst (v := 3) C.1.1 C.1.2.1 dX7_tryKey_6 (by decide) ?_
  refine lv_icmp_lt (tgt := 19) C.1.1 C.1.2.1 dX7_tryKey_7 (by decide) (fun c27 => ?_) (fun c27 => ?_)
  · replace hD := g_pos c27 hD
    refine lv_aload_n C.1.1 C.1.2.1 dX7_tryKey_19 rfl (lv_at hl 0 rfl) ?_
    refine mr_getR C hw kc_7 2 (by decide) tf_275 ff_275_2 wd_409 dX7_tryKey_20 (by decide) rfl ?_
    refine lv_iload_n C.1.1 C.1.2.1 dX7_tryKey_23 rfl (lv_at hl 2 rfl) ?_
    obtain ⟨q28, hD⟩ := g_ck hD
    refine mr_zald C hw (by decide) tf_278 q28 dX7_tryKey_24 ?_
    refine lv_if_ne (tgt := 37) C.1.1 C.1.2.1 dX7_tryKey_25 (by decide) (fun c29 => ?_) (fun c29 => ?_)
    · replace hD := g_neg c29 hD
      refine lv_aload_n C.1.1 C.1.2.1 dX7_tryKey_37 rfl (lv_at hl 0 rfl) ?_
      refine mr_getR C hw kc_7 2 (by decide) tf_275 ff_275_2 wd_409 dX7_tryKey_38 (by decide) rfl ?_
      refine lv_iload_n C.1.1 C.1.2.1 dX7_tryKey_41 rfl (lv_at hl 2 rfl) ?_
      refine lv_iconst (v := 0) C.1.1 C.1.2.1 dX7_tryKey_42 (by decide) ?_
      obtain ⟨q30, hD⟩ := g_ck hD
      obtain ⟨M31, eM31, hD⟩ := g_let hD
      refine mr_zast C hw (by decide) tf_278 q30 dX7_tryKey_43 (fun H locs hw => ?_)
      replace hw : mw_W G ad NF TF FF M31 L H locs := by rw [eM31]; exact hw
      refine lv_iconst (v := 0) C.1.1 C.1.2.1 dX7_tryKey_44 (by decide) ?_
      refine lv_istore (lv' := [(4, .int 0), (0, .ref (ad 275)), (1, .ref (ad 97)), (2, .int a2), (3, .ref (ad a3))]) C.1.1 C.1.2.1 dX7_tryKey_45 hl (by decide) rfl (fun ls hl => ?_)
      exact hh47 fu 0 M31 L _ _ ls hD hw (lv_sub hl [1, 2, 3, 4, 0] rfl)
    · replace hD := g_pos c29 hD
      refine lv_aload_n C.1.1 C.1.2.1 dX7_tryKey_28 rfl (lv_at hl 0 rfl) ?_
      refine lv_bipush (v := 39) C.1.1 C.1.2.1 dX7_tryKey_29 (by decide) ?_
      refine lv_bipush (v := 36) C.1.1 C.1.2.1 dX7_tryKey_31 (by decide) ?_
      obtain ⟨M32, L33, h1, hD⟩ := g_b2 hD
      refine md_cvV (As := [.int 39, .int 36]) (rest := []) C hw (tX7_refuse l G ad fu 39 36 M L h1) kc_7 (by decide) tf_275 wd_1548 cwX7_refuse ⟨Nat.le_of_ble_eq_true rfl, Nat.le_of_ble_eq_true rfl⟩ rfl hl.1 (Nat.le_of_ble_eq_true rfl) dX7_tryKey_33 rfl rfl ⟨Nat.zero_le _, Nat.zero_le _⟩ rfl (fun H locs hw => ?_)
      exact mr_vret C hr hlocks hw (Option.some.inj hD) dX7_tryKey_36
  · replace hD := g_neg c27 hD
    refine lv_aload_n C.1.1 C.1.2.1 dX7_tryKey_10 rfl (lv_at hl 0 rfl) ?_
    refine lv_bipush (v := 39) C.1.1 C.1.2.1 dX7_tryKey_11 (by decide) ?_
    refine lv_bipush (v := 54) C.1.1 C.1.2.1 dX7_tryKey_13 (by decide) ?_
    obtain ⟨M34, L35, h1, hD⟩ := g_b2 hD
    refine md_cvV (As := [.int 39, .int 54]) (rest := []) C hw (tX7_refuse l G ad fu 39 54 M L h1) kc_7 (by decide) tf_275 wd_1548 cwX7_refuse ⟨Nat.le_of_ble_eq_true rfl, Nat.le_of_ble_eq_true rfl⟩ rfl hl.1 (Nat.le_of_ble_eq_true rfl) dX7_tryKey_15 rfl rfl ⟨Nat.zero_le _, Nat.zero_le _⟩ rfl (fun H locs hw => ?_)
    exact mr_vret C hr hlocks hw (Option.some.inj hD) dX7_tryKey_18

theorem dX7_makeReply_0 : decode cX7_makeReply 0 = .ok (.aload_n 0, 1) := by decide +kernel
theorem dX7_makeReply_1 : decode cX7_makeReply 1 = .ok (.iconst 0, 1) := by decide +kernel
theorem dX7_makeReply_2 : decode cX7_makeReply 2 = .ok (.putfield 38, 3) := by decide +kernel
theorem dX7_makeReply_5 : decode cX7_makeReply 5 = .ok (.aload_n 3, 1) := by decide +kernel
theorem dX7_makeReply_6 : decode cX7_makeReply 6 = .ok (.iconst 0, 1) := by decide +kernel
theorem dX7_makeReply_7 : decode cX7_makeReply 7 = .ok (.iaload, 1) := by decide +kernel
theorem dX7_makeReply_8 : decode cX7_makeReply 8 = .ok (.invokestatic 41, 3) := by decide +kernel
theorem dX7_makeReply_11 : decode cX7_makeReply 11 = .ok (.ifCond .ne 15, 3) := by decide +kernel
theorem dX7_makeReply_14 : decode cX7_makeReply 14 = .ok (.aload_n 0, 1) := by decide +kernel
theorem dX7_makeReply_15 : decode cX7_makeReply 15 = .ok (.aload_n 3, 1) := by decide +kernel
theorem dX7_makeReply_16 : decode cX7_makeReply 16 = .ok (.iconst 0, 1) := by decide +kernel
theorem dX7_makeReply_17 : decode cX7_makeReply 17 = .ok (.iaload, 1) := by decide +kernel
theorem dX7_makeReply_18 : decode cX7_makeReply 18 = .ok (.bipush 17, 2) := by decide +kernel
theorem dX7_makeReply_20 : decode cX7_makeReply 20 = .ok (.invokevirtual 45, 3) := by decide +kernel
theorem dX7_makeReply_23 : decode cX7_makeReply 23 = .ok (.goto 166, 3) := by decide +kernel
theorem dX7_makeReply_26 : decode cX7_makeReply 26 = .ok (.aload_n 3, 1) := by decide +kernel
theorem dX7_makeReply_27 : decode cX7_makeReply 27 = .ok (.iload 4, 2) := by decide +kernel
theorem dX7_makeReply_29 : decode cX7_makeReply 29 = .ok (.invokestatic 49, 3) := by decide +kernel
theorem dX7_makeReply_32 : decode cX7_makeReply 32 = .ok (.ifCond .ne 15, 3) := by decide +kernel
theorem dX7_makeReply_35 : decode cX7_makeReply 35 = .ok (.aload_n 0, 1) := by decide +kernel
theorem dX7_makeReply_36 : decode cX7_makeReply 36 = .ok (.aload_n 3, 1) := by decide +kernel
theorem dX7_makeReply_37 : decode cX7_makeReply 37 = .ok (.iconst 0, 1) := by decide +kernel
theorem dX7_makeReply_38 : decode cX7_makeReply 38 = .ok (.iaload, 1) := by decide +kernel
theorem dX7_makeReply_39 : decode cX7_makeReply 39 = .ok (.bipush 19, 2) := by decide +kernel
theorem dX7_makeReply_41 : decode cX7_makeReply 41 = .ok (.invokevirtual 45, 3) := by decide +kernel
theorem dX7_makeReply_44 : decode cX7_makeReply 44 = .ok (.goto 145, 3) := by decide +kernel
theorem dX7_makeReply_47 : decode cX7_makeReply 47 = .ok (.aload_n 3, 1) := by decide +kernel
theorem dX7_makeReply_48 : decode cX7_makeReply 48 = .ok (.iconst 0, 1) := by decide +kernel
theorem dX7_makeReply_49 : decode cX7_makeReply 49 = .ok (.iaload, 1) := by decide +kernel
theorem dX7_makeReply_50 : decode cX7_makeReply 50 = .ok (.bipush 16, 2) := by decide +kernel
theorem dX7_makeReply_52 : decode cX7_makeReply 52 = .ok (.if_icmp .ne 14, 3) := by decide +kernel
theorem dX7_makeReply_55 : decode cX7_makeReply 55 = .ok (.aload_n 0, 1) := by decide +kernel
theorem dX7_makeReply_56 : decode cX7_makeReply 56 = .ok (.iload_n 2, 1) := by decide +kernel
theorem dX7_makeReply_57 : decode cX7_makeReply 57 = .ok (.aload_n 3, 1) := by decide +kernel
theorem dX7_makeReply_58 : decode cX7_makeReply 58 = .ok (.iconst 1, 1) := by decide +kernel
theorem dX7_makeReply_59 : decode cX7_makeReply 59 = .ok (.iaload, 1) := by decide +kernel
theorem dX7_makeReply_60 : decode cX7_makeReply 60 = .ok (.invokevirtual 53, 3) := by decide +kernel
theorem dX7_makeReply_63 : decode cX7_makeReply 63 = .ok (.goto 126, 3) := by decide +kernel
theorem dX7_makeReply_66 : decode cX7_makeReply 66 = .ok (.aload_n 3, 1) := by decide +kernel
theorem dX7_makeReply_67 : decode cX7_makeReply 67 = .ok (.iconst 0, 1) := by decide +kernel
theorem dX7_makeReply_68 : decode cX7_makeReply 68 = .ok (.iaload, 1) := by decide +kernel
theorem dX7_makeReply_69 : decode cX7_makeReply 69 = .ok (.bipush 34, 2) := by decide +kernel
theorem dX7_makeReply_71 : decode cX7_makeReply 71 = .ok (.if_icmp .ne 21, 3) := by decide +kernel
theorem dX7_makeReply_74 : decode cX7_makeReply 74 = .ok (.aload_n 0, 1) := by decide +kernel
theorem dX7_makeReply_75 : decode cX7_makeReply 75 = .ok (.aload_n 1, 1) := by decide +kernel
theorem dX7_makeReply_76 : decode cX7_makeReply 76 = .ok (.getfield 56, 3) := by decide +kernel
theorem dX7_makeReply_79 : decode cX7_makeReply 79 = .ok (.iload_n 2, 1) := by decide +kernel
theorem dX7_makeReply_80 : decode cX7_makeReply 80 = .ok (.aload_n 3, 1) := by decide +kernel
theorem dX7_makeReply_81 : decode cX7_makeReply 81 = .ok (.iconst 1, 1) := by decide +kernel
theorem dX7_makeReply_82 : decode cX7_makeReply 82 = .ok (.iaload, 1) := by decide +kernel
theorem dX7_makeReply_83 : decode cX7_makeReply 83 = .ok (.aload_n 3, 1) := by decide +kernel
theorem dX7_makeReply_84 : decode cX7_makeReply 84 = .ok (.iconst 2, 1) := by decide +kernel
theorem dX7_makeReply_85 : decode cX7_makeReply 85 = .ok (.iaload, 1) := by decide +kernel
theorem dX7_makeReply_86 : decode cX7_makeReply 86 = .ok (.invokevirtual 62, 3) := by decide +kernel
theorem dX7_makeReply_89 : decode cX7_makeReply 89 = .ok (.goto 100, 3) := by decide +kernel
theorem dX7_makeReply_92 : decode cX7_makeReply 92 = .ok (.aload_n 3, 1) := by decide +kernel
theorem dX7_makeReply_93 : decode cX7_makeReply 93 = .ok (.iconst 0, 1) := by decide +kernel
theorem dX7_makeReply_94 : decode cX7_makeReply 94 = .ok (.iaload, 1) := by decide +kernel
theorem dX7_makeReply_95 : decode cX7_makeReply 95 = .ok (.bipush 46, 2) := by decide +kernel
theorem dX7_makeReply_97 : decode cX7_makeReply 97 = .ok (.if_icmp .ne 16, 3) := by decide +kernel
theorem dX7_makeReply_100 : decode cX7_makeReply 100 = .ok (.aload_n 0, 1) := by decide +kernel
theorem dX7_makeReply_101 : decode cX7_makeReply 101 = .ok (.aload_n 1, 1) := by decide +kernel
theorem dX7_makeReply_102 : decode cX7_makeReply 102 = .ok (.getfield 56, 3) := by decide +kernel
theorem dX7_makeReply_105 : decode cX7_makeReply 105 = .ok (.iload_n 2, 1) := by decide +kernel
theorem dX7_makeReply_106 : decode cX7_makeReply 106 = .ok (.aload_n 3, 1) := by decide +kernel
theorem dX7_makeReply_107 : decode cX7_makeReply 107 = .ok (.invokevirtual 66, 3) := by decide +kernel
theorem dX7_makeReply_110 : decode cX7_makeReply 110 = .ok (.goto 79, 3) := by decide +kernel
theorem dX7_makeReply_113 : decode cX7_makeReply 113 = .ok (.aload_n 3, 1) := by decide +kernel
theorem dX7_makeReply_114 : decode cX7_makeReply 114 = .ok (.iconst 0, 1) := by decide +kernel
theorem dX7_makeReply_115 : decode cX7_makeReply 115 = .ok (.iaload, 1) := by decide +kernel
theorem dX7_makeReply_116 : decode cX7_makeReply 116 = .ok (.bipush 25, 2) := by decide +kernel
theorem dX7_makeReply_118 : decode cX7_makeReply 118 = .ok (.if_icmp .ne 14, 3) := by decide +kernel
theorem dX7_makeReply_121 : decode cX7_makeReply 121 = .ok (.aload_n 0, 1) := by decide +kernel
theorem dX7_makeReply_122 : decode cX7_makeReply 122 = .ok (.aload_n 1, 1) := by decide +kernel
theorem dX7_makeReply_123 : decode cX7_makeReply 123 = .ok (.getfield 70, 3) := by decide +kernel
theorem dX7_makeReply_126 : decode cX7_makeReply 126 = .ok (.invokevirtual 74, 3) := by decide +kernel
theorem dX7_makeReply_129 : decode cX7_makeReply 129 = .ok (.goto 60, 3) := by decide +kernel
theorem dX7_makeReply_132 : decode cX7_makeReply 132 = .ok (.aload_n 3, 1) := by decide +kernel
theorem dX7_makeReply_133 : decode cX7_makeReply 133 = .ok (.iconst 0, 1) := by decide +kernel
theorem dX7_makeReply_134 : decode cX7_makeReply 134 = .ok (.iaload, 1) := by decide +kernel
theorem dX7_makeReply_135 : decode cX7_makeReply 135 = .ok (.bipush 39, 2) := by decide +kernel
theorem dX7_makeReply_137 : decode cX7_makeReply 137 = .ok (.if_icmp .ne 18, 3) := by decide +kernel
theorem dX7_makeReply_140 : decode cX7_makeReply 140 = .ok (.aload_n 3, 1) := by decide +kernel
theorem dX7_makeReply_141 : decode cX7_makeReply 141 = .ok (.iconst 1, 1) := by decide +kernel
theorem dX7_makeReply_142 : decode cX7_makeReply 142 = .ok (.iaload, 1) := by decide +kernel
theorem dX7_makeReply_143 : decode cX7_makeReply 143 = .ok (.iconst 1, 1) := by decide +kernel
theorem dX7_makeReply_144 : decode cX7_makeReply 144 = .ok (.if_icmp .ne 11, 3) := by decide +kernel
theorem dX7_makeReply_147 : decode cX7_makeReply 147 = .ok (.aload_n 0, 1) := by decide +kernel
theorem dX7_makeReply_148 : decode cX7_makeReply 148 = .ok (.iload_n 2, 1) := by decide +kernel
theorem dX7_makeReply_149 : decode cX7_makeReply 149 = .ok (.invokevirtual 78, 3) := by decide +kernel
theorem dX7_makeReply_152 : decode cX7_makeReply 152 = .ok (.goto 37, 3) := by decide +kernel
theorem dX7_makeReply_155 : decode cX7_makeReply 155 = .ok (.aload_n 3, 1) := by decide +kernel
theorem dX7_makeReply_156 : decode cX7_makeReply 156 = .ok (.iconst 0, 1) := by decide +kernel
theorem dX7_makeReply_157 : decode cX7_makeReply 157 = .ok (.iaload, 1) := by decide +kernel
theorem dX7_makeReply_158 : decode cX7_makeReply 158 = .ok (.bipush 39, 2) := by decide +kernel
theorem dX7_makeReply_160 : decode cX7_makeReply 160 = .ok (.if_icmp .ne 16, 3) := by decide +kernel
theorem dX7_makeReply_163 : decode cX7_makeReply 163 = .ok (.aload_n 0, 1) := by decide +kernel
theorem dX7_makeReply_164 : decode cX7_makeReply 164 = .ok (.aload_n 1, 1) := by decide +kernel
theorem dX7_makeReply_165 : decode cX7_makeReply 165 = .ok (.getfield 82, 3) := by decide +kernel
theorem dX7_makeReply_168 : decode cX7_makeReply 168 = .ok (.iload_n 2, 1) := by decide +kernel
theorem dX7_makeReply_169 : decode cX7_makeReply 169 = .ok (.aload_n 3, 1) := by decide +kernel
theorem dX7_makeReply_170 : decode cX7_makeReply 170 = .ok (.invokevirtual 86, 3) := by decide +kernel
theorem dX7_makeReply_173 : decode cX7_makeReply 173 = .ok (.goto 16, 3) := by decide +kernel
theorem dX7_makeReply_176 : decode cX7_makeReply 176 = .ok (.aload_n 1, 1) := by decide +kernel
theorem dX7_makeReply_177 : decode cX7_makeReply 177 = .ok (.getfield 70, 3) := by decide +kernel
theorem dX7_makeReply_180 : decode cX7_makeReply 180 = .ok (.invokevirtual 90, 3) := by decide +kernel
theorem dX7_makeReply_183 : decode cX7_makeReply 183 = .ok (.aload_n 0, 1) := by decide +kernel
theorem dX7_makeReply_184 : decode cX7_makeReply 184 = .ok (.bipush 84, 2) := by decide +kernel
theorem dX7_makeReply_186 : decode cX7_makeReply 186 = .ok (.invokevirtual 95, 3) := by decide +kernel
theorem dX7_makeReply_189 : decode cX7_makeReply 189 = .ok (.return_, 1) := by decide +kernel
theorem cwX7_makeReply : mw_cwV yX7_makeReply cX7_makeReply 5 (none) 4 := ⟨⟨wd_11, wd_1544, by decide +kernel⟩, wd_1542, wd_1543⟩
set_option maxHeartbeats 4000000 in
set_option maxRecDepth 100000 in
theorem tX7_makeReply (l : Launch) (G : mwG) (ad : Nat → Nat) (fu : Nat) (a2 : Int32) (a3 : Nat) (n3 : Nat) (a4 : Int32) (M : mwM) (L : mwL) {M0 : mwM} {L0 : mwL} (hD : DX7_makeReply fu a2 a3 n3 a4 M L = some (M0, L0)) (hk3 : a3 < NF) (hT3 : TF a3 = (0, n3)) : Met l yX7_makeReply (Cond.code yX7_makeReply cX7_makeReply 5 (none) :: GT) ({ frames := 3, cells := 0, slots := 0, locals := 78 }) (mw_Pre G ad NF TF FF M L [.ref (ad 275), .ref (ad 3), .int a2, .ref (ad a3), .int a4]) (mw_Qv G ad NF TF FF (mw_eqV M0 L0)) 0 0 (mw_fr G) := by
  refine mw_enter (by decide) (Nat.le_of_ble_eq_true rfl) ?_
  intro p e s m below meth c ls C hr hlocks hnm hw hl
  have hl : lv_has ls 5 [(0, .ref (ad 275)), (1, .ref (ad 3)), (2, .int a2), (3, .ref (ad a3)), (4, .int a4)] := hl
  have hb189 : ∀ (M : mwM) (L : mwL) (H : Heap) (locs : List Loc) (ls : Array Slot), fX7_makeReply_b189 fu a2 a3 n3 a4 M L = some (M0, L0) → mw_W G ad NF TF FF M L H locs → lv_has ls 5 [] → W p l e ({ frames := 3, cells := 0, slots := 0, locals := 78 }) s m [.ref (ad 275), .ref (ad 3), .int a2, .ref (ad a3), .int a4].toArray below meth c H locs 0 0 (MQ below (mw_Qv G ad NF TF FF (mw_eqV M0 L0)) [.ref (ad 275), .ref (ad 3), .int a2, .ref (ad a3), .int a4].toArray s 0 0 (mw_fr G)) (F0 m 189 ls []) := by
    intro M L H locs ls hD hw hl
    unfold fX7_makeReply_b189 at hD
    exact mr_vret C hr hlocks hw (Option.some.inj hD) dX7_makeReply_189
  have hb155 : ∀ (M : mwM) (L : mwL) (H : Heap) (locs : List Loc) (ls : Array Slot), fX7_makeReply_b155 fu a2 a3 n3 a4 M L = some (M0, L0) → mw_W G ad NF TF FF M L H locs → lv_has ls 5 [(0, .ref (ad 275)), (1, .ref (ad 3)), (2, .int a2), (3, .ref (ad a3))] → W p l e ({ frames := 3, cells := 0, slots := 0, locals := 78 }) s m [.ref (ad 275), .ref (ad 3), .int a2, .ref (ad a3), .int a4].toArray below meth c H locs 0 0 (MQ below (mw_Qv G ad NF TF FF (mw_eqV M0 L0)) [.ref (ad 275), .ref (ad 3), .int a2, .ref (ad a3), .int a4].toArray s 0 0 (mw_fr G)) (F0 m 155 ls []) := by
    intro M L H locs ls hD hw hl
    unfold fX7_makeReply_b155 at hD
    refine lv_aload_n C.1.1 C.1.2.1 dX7_makeReply_155 rfl (lv_at hl 3 rfl) ?_
    refine lv_iconst (v := 0) C.1.1 C.1.2.1 dX7_makeReply_156 (by decide) ?_
    obtain ⟨q1, hD⟩ := g_ck hD
    refine mr_iald C hw hk3 hT3 q1 dX7_makeReply_157 ?_
    refine lv_bipush (v := 39) C.1.1 C.1.2.1 dX7_makeReply_158 (by decide) ?_
    refine lv_icmp_ne (tgt := 176) C.1.1 C.1.2.1 dX7_makeReply_160 (by decide) (fun c2 => ?_) (fun c2 => ?_)
    · replace hD := g_neg c2 hD
      refine lv_aload_n C.1.1 C.1.2.1 dX7_makeReply_176 rfl (lv_at hl 1 rfl) ?_
      refine mr_getNR C hw kc_1 5 (by decide) tf_3 ff_3_5 nd_525 dX7_makeReply_177 (by decide) rfl ?_
      obtain ⟨M3, L4, h1, hD⟩ := g_b2 hD
      refine md_cvV (As := []) (rest := []) C hw (tX10_forgetAll l G ad fu M L h1) kc_10 (by decide) tf_139 wd_1596 cwX10_forgetAll ⟨Nat.le_of_ble_eq_true rfl, Nat.le_of_ble_eq_true rfl⟩ rfl hl.1 (Nat.le_of_ble_eq_true rfl) dX7_makeReply_180 rfl rfl ⟨Nat.zero_le _, Nat.zero_le _⟩ rfl (fun H locs hw => ?_)
      refine lv_aload_n C.1.1 C.1.2.1 dX7_makeReply_183 rfl (lv_at hl 0 rfl) ?_
      refine lv_bipush (v := 84) C.1.1 C.1.2.1 dX7_makeReply_184 (by decide) ?_
      obtain ⟨M5, L6, h1, hD⟩ := g_b2 hD
      refine md_cvV (As := [.int 84]) (rest := []) C hw (tX7_put l G ad fu 84 M3 L4 h1) kc_7 (by decide) tf_275 wd_1552 cwX7_put ⟨Nat.le_of_ble_eq_true rfl, Nat.le_of_ble_eq_true rfl⟩ rfl hl.1 (Nat.le_of_ble_eq_true rfl) dX7_makeReply_186 rfl rfl ⟨Nat.zero_le _, Nat.zero_le _⟩ rfl (fun H locs hw => ?_)
      exact hb189 M5 L6 _ _ ls hD hw (lv_sub hl [] rfl)
    · replace hD := g_pos c2 hD
      refine lv_aload_n C.1.1 C.1.2.1 dX7_makeReply_163 rfl (lv_at hl 0 rfl) ?_
      refine lv_aload_n C.1.1 C.1.2.1 dX7_makeReply_164 rfl (lv_at hl 1 rfl) ?_
      refine mr_getNR C hw kc_1 4 (by decide) tf_3 ff_3_4 nd_523 dX7_makeReply_165 (by decide) rfl ?_
      refine lv_iload_n C.1.1 C.1.2.1 dX7_makeReply_168 rfl (lv_at hl 2 rfl) ?_
      refine lv_aload_n C.1.1 C.1.2.1 dX7_makeReply_169 rfl (lv_at hl 3 rfl) ?_
      obtain ⟨M7, L8, h1, hD⟩ := g_b2 hD
      refine md_cvV (As := [.ref (ad 97), .int a2, .ref (ad a3)]) (rest := []) C hw (tX7_tryKey l G ad fu a2 a3 n3 M L h1 hk3 hT3) kc_7 (by decide) tf_275 wd_1587 cwX7_tryKey ⟨Nat.le_of_ble_eq_true rfl, Nat.le_of_ble_eq_true rfl⟩ rfl hl.1 (Nat.le_of_ble_eq_true rfl) dX7_makeReply_170 rfl rfl ⟨Nat.zero_le _, Nat.zero_le _⟩ rfl (fun H locs hw => ?_)
      refine lv_goto (tgt := 189) C.1.1 C.1.2.1 dX7_makeReply_173 (by decide) ?_
      exact hb189 M7 L8 _ _ ls hD hw (lv_sub hl [] rfl)
  unfold DX7_makeReply at hD
  refine lv_aload_n C.1.1 C.1.2.1 dX7_makeReply_0 rfl (lv_at hl 0 rfl) ?_
  refine lv_iconst (v := 0) C.1.1 C.1.2.1 dX7_makeReply_1 (by decide) ?_
  obtain ⟨M9, eM9, hD⟩ := g_let hD
  refine mr_putI C hw kc_7 7 (by decide) tf_275 wd_415 dX7_makeReply_2 (by decide) rfl rfl rfl rfl (fun H locs hw => ?_)
  replace hw : mw_W G ad NF TF FF M9 L H locs := by rw [eM9]; exact hw
  refine lv_aload_n C.1.1 C.1.2.1 dX7_makeReply_5 rfl (lv_at hl 3 rfl) ?_
  refine lv_iconst (v := 0) C.1.1 C.1.2.1 dX7_makeReply_6 (by decide) ?_
  obtain ⟨q10, hD⟩ := g_ck hD
  refine mr_iald C hw hk3 hT3 q10 dX7_makeReply_7 ?_
  obtain ⟨r13, M11, L12, h1, hD⟩ := g_b3 hD
  refine md_csI (As := [.int (M9 a3 (0 : Int32).toNatClampNeg)]) (rest := []) C hw (tX7_isKnown l G ad fu (M9 a3 (0 : Int32).toNatClampNeg) M9 L h1) wd_1545 cwX7_isKnown ⟨Nat.le_of_ble_eq_true rfl, Nat.le_of_ble_eq_true rfl⟩ rfl hl.1 (Nat.le_of_ble_eq_true rfl) dX7_makeReply_8 rfl rfl ⟨Nat.zero_le _, Nat.zero_le _⟩ rfl (fun H locs hw => ?_)
  refine lv_if_ne (tgt := 26) C.1.1 C.1.2.1 dX7_makeReply_11 (by decide) (fun c14 => ?_) (fun c14 => ?_)
  · replace hD := g_neg c14 hD
    refine lv_aload_n C.1.1 C.1.2.1 dX7_makeReply_26 rfl (lv_at hl 3 rfl) ?_
    refine lv_iload C.1.1 C.1.2.1 dX7_makeReply_27 (lv_at hl 4 rfl) ?_
    obtain ⟨r17, M15, L16, h1, hD⟩ := g_b3 hD
    refine md_csI (As := [.ref (ad a3), .int a4]) (rest := []) C hw (tX7_isRightLength l G ad fu a3 n3 a4 M11 L12 h1 hk3 hT3) wd_1556 cwX7_isRightLength ⟨Nat.le_of_ble_eq_true rfl, Nat.le_of_ble_eq_true rfl⟩ rfl hl.1 (Nat.le_of_ble_eq_true rfl) dX7_makeReply_29 rfl rfl ⟨Nat.zero_le _, Nat.zero_le _⟩ rfl (fun H locs hw => ?_)
    refine lv_if_ne (tgt := 47) C.1.1 C.1.2.1 dX7_makeReply_32 (by decide) (fun c18 => ?_) (fun c18 => ?_)
    · replace hD := g_neg c18 hD
      refine lv_aload_n C.1.1 C.1.2.1 dX7_makeReply_47 rfl (lv_at hl 3 rfl) ?_
      refine lv_iconst (v := 0) C.1.1 C.1.2.1 dX7_makeReply_48 (by decide) ?_
      obtain ⟨q19, hD⟩ := g_ck hD
      refine mr_iald C hw hk3 hT3 q19 dX7_makeReply_49 ?_
      refine lv_bipush (v := 16) C.1.1 C.1.2.1 dX7_makeReply_50 (by decide) ?_
      refine lv_icmp_ne (tgt := 66) C.1.1 C.1.2.1 dX7_makeReply_52 (by decide) (fun c20 => ?_) (fun c20 => ?_)
      · replace hD := g_neg c20 hD
        refine lv_aload_n C.1.1 C.1.2.1 dX7_makeReply_66 rfl (lv_at hl 3 rfl) ?_
        refine lv_iconst (v := 0) C.1.1 C.1.2.1 dX7_makeReply_67 (by decide) ?_
        obtain ⟨q21, hD⟩ := g_ck hD
        refine mr_iald C hw hk3 hT3 q21 dX7_makeReply_68 ?_
        refine lv_bipush (v := 34) C.1.1 C.1.2.1 dX7_makeReply_69 (by decide) ?_
        refine lv_icmp_ne (tgt := 92) C.1.1 C.1.2.1 dX7_makeReply_71 (by decide) (fun c22 => ?_) (fun c22 => ?_)
        · replace hD := g_neg c22 hD
          refine lv_aload_n C.1.1 C.1.2.1 dX7_makeReply_92 rfl (lv_at hl 3 rfl) ?_
          refine lv_iconst (v := 0) C.1.1 C.1.2.1 dX7_makeReply_93 (by decide) ?_
          obtain ⟨q23, hD⟩ := g_ck hD
          refine mr_iald C hw hk3 hT3 q23 dX7_makeReply_94 ?_
          refine lv_bipush (v := 46) C.1.1 C.1.2.1 dX7_makeReply_95 (by decide) ?_
          refine lv_icmp_ne (tgt := 113) C.1.1 C.1.2.1 dX7_makeReply_97 (by decide) (fun c24 => ?_) (fun c24 => ?_)
          · replace hD := g_neg c24 hD
            refine lv_aload_n C.1.1 C.1.2.1 dX7_makeReply_113 rfl (lv_at hl 3 rfl) ?_
            refine lv_iconst (v := 0) C.1.1 C.1.2.1 dX7_makeReply_114 (by decide) ?_
            obtain ⟨q25, hD⟩ := g_ck hD
            refine mr_iald C hw hk3 hT3 q25 dX7_makeReply_115 ?_
            refine lv_bipush (v := 25) C.1.1 C.1.2.1 dX7_makeReply_116 (by decide) ?_
            refine lv_icmp_ne (tgt := 132) C.1.1 C.1.2.1 dX7_makeReply_118 (by decide) (fun c26 => ?_) (fun c26 => ?_)
            · replace hD := g_neg c26 hD
              refine lv_aload_n C.1.1 C.1.2.1 dX7_makeReply_132 rfl (lv_at hl 3 rfl) ?_
              refine lv_iconst (v := 0) C.1.1 C.1.2.1 dX7_makeReply_133 (by decide) ?_
              obtain ⟨q27, hD⟩ := g_ck hD
              refine mr_iald C hw hk3 hT3 q27 dX7_makeReply_134 ?_
              refine lv_bipush (v := 39) C.1.1 C.1.2.1 dX7_makeReply_135 (by decide) ?_
              refine lv_icmp_ne (tgt := 155) C.1.1 C.1.2.1 dX7_makeReply_137 (by decide) (fun c28 => ?_) (fun c28 => ?_)
              · replace hD := g_neg c28 hD
                exact hb155 M15 L16 _ _ ls hD hw (lv_sub hl [0, 1, 2, 3] rfl)
              · replace hD := g_pos c28 hD
                refine lv_aload_n C.1.1 C.1.2.1 dX7_makeReply_140 rfl (lv_at hl 3 rfl) ?_
                refine lv_iconst (v := 1) C.1.1 C.1.2.1 dX7_makeReply_141 (by decide) ?_
                obtain ⟨q29, hD⟩ := g_ck hD
                refine mr_iald C hw hk3 hT3 q29 dX7_makeReply_142 ?_
                refine lv_iconst (v := 1) C.1.1 C.1.2.1 dX7_makeReply_143 (by decide) ?_
                refine lv_icmp_ne (tgt := 155) C.1.1 C.1.2.1 dX7_makeReply_144 (by decide) (fun c30 => ?_) (fun c30 => ?_)
                · replace hD := g_neg c30 hD
                  exact hb155 M15 L16 _ _ ls hD hw (lv_sub hl [0, 1, 2, 3] rfl)
                · replace hD := g_pos c30 hD
                  refine lv_aload_n C.1.1 C.1.2.1 dX7_makeReply_147 rfl (lv_at hl 0 rfl) ?_
                  refine lv_iload_n C.1.1 C.1.2.1 dX7_makeReply_148 rfl (lv_at hl 2 rfl) ?_
                  obtain ⟨M31, L32, h1, hD⟩ := g_b2 hD
                  refine md_cvV (As := [.int a2]) (rest := []) C hw (tX7_openSeed l G ad fu a2 M15 L16 h1) kc_7 (by decide) tf_275 wd_1582 cwX7_openSeed ⟨Nat.le_of_ble_eq_true rfl, Nat.le_of_ble_eq_true rfl⟩ rfl hl.1 (Nat.le_of_ble_eq_true rfl) dX7_makeReply_149 rfl rfl ⟨Nat.zero_le _, Nat.zero_le _⟩ rfl (fun H locs hw => ?_)
                  refine lv_goto (tgt := 189) C.1.1 C.1.2.1 dX7_makeReply_152 (by decide) ?_
                  exact hb189 M31 L32 _ _ ls hD hw (lv_sub hl [] rfl)
            · replace hD := g_pos c26 hD
              refine lv_aload_n C.1.1 C.1.2.1 dX7_makeReply_121 rfl (lv_at hl 0 rfl) ?_
              refine lv_aload_n C.1.1 C.1.2.1 dX7_makeReply_122 rfl (lv_at hl 1 rfl) ?_
              refine mr_getNR C hw kc_1 5 (by decide) tf_3 ff_3_5 nd_525 dX7_makeReply_123 (by decide) rfl ?_
              obtain ⟨M33, L34, h1, hD⟩ := g_b2 hD
              refine md_cvV (As := [.ref (ad 139)]) (rest := []) C hw (tX7_listTroubles l G ad fu M15 L16 h1) kc_7 (by decide) tf_275 wd_1574 cwX7_listTroubles ⟨Nat.le_of_ble_eq_true rfl, Nat.le_of_ble_eq_true rfl⟩ rfl hl.1 (Nat.le_of_ble_eq_true rfl) dX7_makeReply_126 rfl rfl ⟨Nat.zero_le _, Nat.zero_le _⟩ rfl (fun H locs hw => ?_)
              refine lv_goto (tgt := 189) C.1.1 C.1.2.1 dX7_makeReply_129 (by decide) ?_
              exact hb189 M33 L34 _ _ ls hD hw (lv_sub hl [] rfl)
          · replace hD := g_pos c24 hD
            refine lv_aload_n C.1.1 C.1.2.1 dX7_makeReply_100 rfl (lv_at hl 0 rfl) ?_
            refine lv_aload_n C.1.1 C.1.2.1 dX7_makeReply_101 rfl (lv_at hl 1 rfl) ?_
            refine mr_getNR C hw kc_1 0 (by decide) tf_3 ff_3_0 nd_511 dX7_makeReply_102 (by decide) rfl ?_
            refine lv_iload_n C.1.1 C.1.2.1 dX7_makeReply_105 rfl (lv_at hl 2 rfl) ?_
            refine lv_aload_n C.1.1 C.1.2.1 dX7_makeReply_106 rfl (lv_at hl 3 rfl) ?_
            obtain ⟨M35, L36, h1, hD⟩ := g_b2 hD
            refine md_cvV (As := [.ref (ad 4), .int a2, .ref (ad a3)]) (rest := []) C hw (tX7_writeDatum l G ad fu a2 a3 n3 M15 L16 h1 hk3 hT3) kc_7 (by decide) tf_275 wd_1570 cwX7_writeDatum ⟨Nat.le_of_ble_eq_true rfl, Nat.le_of_ble_eq_true rfl⟩ rfl hl.1 (Nat.le_of_ble_eq_true rfl) dX7_makeReply_107 rfl rfl ⟨Nat.zero_le _, Nat.zero_le _⟩ rfl (fun H locs hw => ?_)
            refine lv_goto (tgt := 189) C.1.1 C.1.2.1 dX7_makeReply_110 (by decide) ?_
            exact hb189 M35 L36 _ _ ls hD hw (lv_sub hl [] rfl)
        · replace hD := g_pos c22 hD
          refine lv_aload_n C.1.1 C.1.2.1 dX7_makeReply_74 rfl (lv_at hl 0 rfl) ?_
          refine lv_aload_n C.1.1 C.1.2.1 dX7_makeReply_75 rfl (lv_at hl 1 rfl) ?_
          refine mr_getNR C hw kc_1 0 (by decide) tf_3 ff_3_0 nd_511 dX7_makeReply_76 (by decide) rfl ?_
          refine lv_iload_n C.1.1 C.1.2.1 dX7_makeReply_79 rfl (lv_at hl 2 rfl) ?_
          refine lv_aload_n C.1.1 C.1.2.1 dX7_makeReply_80 rfl (lv_at hl 3 rfl) ?_
          refine lv_iconst (v := 1) C.1.1 C.1.2.1 dX7_makeReply_81 (by decide) ?_
          obtain ⟨q37, hD⟩ := g_ck hD
          refine mr_iald C hw hk3 hT3 q37 dX7_makeReply_82 ?_
          refine lv_aload_n C.1.1 C.1.2.1 dX7_makeReply_83 rfl (lv_at hl 3 rfl) ?_
          refine lv_iconst (v := 2) C.1.1 C.1.2.1 dX7_makeReply_84 (by decide) ?_
          obtain ⟨q38, hD⟩ := g_ck hD
          refine mr_iald C hw hk3 hT3 q38 dX7_makeReply_85 ?_
          obtain ⟨M39, L40, h1, hD⟩ := g_b2 hD
          refine md_cvV (As := [.ref (ad 4), .int a2, .int (M15 a3 (1 : Int32).toNatClampNeg), .int (M15 a3 (2 : Int32).toNatClampNeg)]) (rest := []) C hw (tX7_readDatum l G ad fu a2 (M15 a3 (1 : Int32).toNatClampNeg) (M15 a3 (2 : Int32).toNatClampNeg) M15 L16 h1) kc_7 (by decide) tf_275 wd_1563 cwX7_readDatum ⟨Nat.le_of_ble_eq_true rfl, Nat.le_of_ble_eq_true rfl⟩ rfl hl.1 (Nat.le_of_ble_eq_true rfl) dX7_makeReply_86 rfl rfl ⟨Nat.zero_le _, Nat.zero_le _⟩ rfl (fun H locs hw => ?_)
          refine lv_goto (tgt := 189) C.1.1 C.1.2.1 dX7_makeReply_89 (by decide) ?_
          exact hb189 M39 L40 _ _ ls hD hw (lv_sub hl [] rfl)
      · replace hD := g_pos c20 hD
        refine lv_aload_n C.1.1 C.1.2.1 dX7_makeReply_55 rfl (lv_at hl 0 rfl) ?_
        refine lv_iload_n C.1.1 C.1.2.1 dX7_makeReply_56 rfl (lv_at hl 2 rfl) ?_
        refine lv_aload_n C.1.1 C.1.2.1 dX7_makeReply_57 rfl (lv_at hl 3 rfl) ?_
        refine lv_iconst (v := 1) C.1.1 C.1.2.1 dX7_makeReply_58 (by decide) ?_
        obtain ⟨q41, hD⟩ := g_ck hD
        refine mr_iald C hw hk3 hT3 q41 dX7_makeReply_59 ?_
        obtain ⟨M42, L43, h1, hD⟩ := g_b2 hD
        refine md_cvV (As := [.int a2, .int (M15 a3 (1 : Int32).toNatClampNeg)]) (rest := []) C hw (tX7_openSession l G ad fu a2 (M15 a3 (1 : Int32).toNatClampNeg) M15 L16 h1) kc_7 (by decide) tf_275 wd_1559 cwX7_openSession ⟨Nat.le_of_ble_eq_true rfl, Nat.le_of_ble_eq_true rfl⟩ rfl hl.1 (Nat.le_of_ble_eq_true rfl) dX7_makeReply_60 rfl rfl ⟨Nat.zero_le _, Nat.zero_le _⟩ rfl (fun H locs hw => ?_)
        refine lv_goto (tgt := 189) C.1.1 C.1.2.1 dX7_makeReply_63 (by decide) ?_
        exact hb189 M42 L43 _ _ ls hD hw (lv_sub hl [] rfl)
    · replace hD := g_pos c18 hD
      refine lv_aload_n C.1.1 C.1.2.1 dX7_makeReply_35 rfl (lv_at hl 0 rfl) ?_
      refine lv_aload_n C.1.1 C.1.2.1 dX7_makeReply_36 rfl (lv_at hl 3 rfl) ?_
      refine lv_iconst (v := 0) C.1.1 C.1.2.1 dX7_makeReply_37 (by decide) ?_
      obtain ⟨q44, hD⟩ := g_ck hD
      refine mr_iald C hw hk3 hT3 q44 dX7_makeReply_38 ?_
      refine lv_bipush (v := 19) C.1.1 C.1.2.1 dX7_makeReply_39 (by decide) ?_
      obtain ⟨M45, L46, h1, hD⟩ := g_b2 hD
      refine md_cvV (As := [.int (M15 a3 (0 : Int32).toNatClampNeg), .int 19]) (rest := []) C hw (tX7_refuse l G ad fu (M15 a3 (0 : Int32).toNatClampNeg) 19 M15 L16 h1) kc_7 (by decide) tf_275 wd_1548 cwX7_refuse ⟨Nat.le_of_ble_eq_true rfl, Nat.le_of_ble_eq_true rfl⟩ rfl hl.1 (Nat.le_of_ble_eq_true rfl) dX7_makeReply_41 rfl rfl ⟨Nat.zero_le _, Nat.zero_le _⟩ rfl (fun H locs hw => ?_)
      refine lv_goto (tgt := 189) C.1.1 C.1.2.1 dX7_makeReply_44 (by decide) ?_
      exact hb189 M45 L46 _ _ ls hD hw (lv_sub hl [] rfl)
  · replace hD := g_pos c14 hD
    refine lv_aload_n C.1.1 C.1.2.1 dX7_makeReply_14 rfl (lv_at hl 0 rfl) ?_
    refine lv_aload_n C.1.1 C.1.2.1 dX7_makeReply_15 rfl (lv_at hl 3 rfl) ?_
    refine lv_iconst (v := 0) C.1.1 C.1.2.1 dX7_makeReply_16 (by decide) ?_
    obtain ⟨q47, hD⟩ := g_ck hD
    refine mr_iald C hw hk3 hT3 q47 dX7_makeReply_17 ?_
    refine lv_bipush (v := 17) C.1.1 C.1.2.1 dX7_makeReply_18 (by decide) ?_
    obtain ⟨M48, L49, h1, hD⟩ := g_b2 hD
    refine md_cvV (As := [.int (M11 a3 (0 : Int32).toNatClampNeg), .int 17]) (rest := []) C hw (tX7_refuse l G ad fu (M11 a3 (0 : Int32).toNatClampNeg) 17 M11 L12 h1) kc_7 (by decide) tf_275 wd_1548 cwX7_refuse ⟨Nat.le_of_ble_eq_true rfl, Nat.le_of_ble_eq_true rfl⟩ rfl hl.1 (Nat.le_of_ble_eq_true rfl) dX7_makeReply_20 rfl rfl ⟨Nat.zero_le _, Nat.zero_le _⟩ rfl (fun H locs hw => ?_)
    refine lv_goto (tgt := 189) C.1.1 C.1.2.1 dX7_makeReply_23 (by decide) ?_
    exact hb189 M48 L49 _ _ ls hD hw (lv_sub hl [] rfl)
