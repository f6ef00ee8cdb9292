theorem dX14_substitute_0 : decode cX14_substitute 0 = .ok (.aload_n 0, 1) := by decide +kernel
theorem dX14_substitute_1 : decode cX14_substitute 1 = .ok (.getfield 51, 3) := by decide +kernel
theorem dX14_substitute_4 : decode cX14_substitute 4 = .ok (.iload_n 1, 1) := by decide +kernel
theorem dX14_substitute_5 : decode cX14_substitute 5 = .ok (.iaload, 1) := by decide +kernel
theorem dX14_substitute_6 : decode cX14_substitute 6 = .ok (.ireturn, 1) := by decide +kernel
theorem cwX14_substitute : mw_cwV yX14_substitute cX14_substitute 2 ((some .int)) 1 := ⟨⟨wd_16, wd_3601, by decide +kernel⟩, wd_3600, sl_224⟩
set_option maxHeartbeats 4000000 in
set_option maxRecDepth 100000 in
theorem tX14_substitute (l : Launch) (G : mwG) (ad : Nat → Nat) (fu : Nat) (a1 : Int32) (M : mwM) (L : mwL) {r0 : Int32} {M0 : mwM} {L0 : mwL} (hD : DX14_substitute fu a1 M L = some (r0, M0, L0)) : Met l yX14_substitute (Cond.code yX14_substitute cX14_substitute 2 ((some .int)) :: GT) ({ frames := 0, cells := 0, slots := 0, locals := 0 }) (mw_Pre G ad NF TF FF M L [.ref (ad 854), .int a1]) (mw_Qi G ad NF TF FF (mw_eqI r0 M0 L0)) 0 0 (mw_fr G) := by
  refine mw_enter (by decide) (Nat.le_of_ble_eq_true rfl) ?_
  intro p e s m below meth c ls C hr hlocks hnm hw hl
  have hl : lv_has ls 2 [(0, .ref (ad 854)), (1, .int a1)] := hl
  unfold DX14_substitute at hD
  refine lv_aload_n C.1.1 C.1.2.1 dX14_substitute_0 rfl (lv_at hl 0 rfl) ?_
  refine mr_getR C hw kc_14 18 (by decide) tf_854 ff_854_18 wd_2283 dX14_substitute_1 (by decide) rfl ?_
  refine lv_iload_n C.1.1 C.1.2.1 dX14_substitute_4 rfl (lv_at hl 1 rfl) ?_
  obtain ⟨q1, hD⟩ := g_ck hD
  refine mr_iald C hw (by decide) tf_868 q1 dX14_substitute_5 ?_
  exact mr_iret C hr hlocks hw rfl (Option.some.inj hD) dX14_substitute_6

theorem dX14_noKey_0 : decode cX14_noKey 0 = .ok (.aload_n 0, 1) := by decide +kernel
theorem dX14_noKey_1 : decode cX14_noKey 1 = .ok (.iconst 0, 1) := by decide +kernel
theorem dX14_noKey_2 : decode cX14_noKey 2 = .ok (.putfield 58, 3) := by decide +kernel
theorem dX14_noKey_5 : decode cX14_noKey 5 = .ok (.iload_n 1, 1) := by decide +kernel
theorem dX14_noKey_6 : decode cX14_noKey 6 = .ok (.iconst 1, 1) := by decide +kernel
theorem dX14_noKey_7 : decode cX14_noKey 7 = .ok (.if_icmp .lt 11, 3) := by decide +kernel
theorem dX14_noKey_10 : decode cX14_noKey 10 = .ok (.iload_n 1, 1) := by decide +kernel
theorem dX14_noKey_11 : decode cX14_noKey 11 = .ok (.aload_n 0, 1) := by decide +kernel
theorem dX14_noKey_12 : decode cX14_noKey 12 = .ok (.getfield 62, 3) := by decide +kernel
theorem dX14_noKey_15 : decode cX14_noKey 15 = .ok (.if_icmp .le 7, 3) := by decide +kernel
theorem dX14_noKey_18 : decode cX14_noKey 18 = .ok (.iconst 1, 1) := by decide +kernel
theorem dX14_noKey_19 : decode cX14_noKey 19 = .ok (.goto 4, 3) := by decide +kernel
theorem dX14_noKey_22 : decode cX14_noKey 22 = .ok (.iconst 0, 1) := by decide +kernel
theorem dX14_noKey_23 : decode cX14_noKey 23 = .ok (.ireturn, 1) := by decide +kernel
theorem cwX14_noKey : mw_cwV yX14_noKey cX14_noKey 2 ((some .boolean)) 1 := ⟨⟨wd_16, wd_2780, by decide +kernel⟩, wd_2779, sl_147⟩
set_option maxHeartbeats 4000000 in
set_option maxRecDepth 100000 in
theorem tX14_noKey (l : Launch) (G : mwG) (ad : Nat → Nat) (fu : Nat) (a1 : Int32) (M : mwM) (L : mwL) {r0 : Int32} {M0 : mwM} {L0 : mwL} (hD : DX14_noKey fu a1 M L = some (r0, M0, L0)) : Met l yX14_noKey (Cond.code yX14_noKey cX14_noKey 2 ((some .boolean)) :: GT) ({ frames := 0, cells := 0, slots := 0, locals := 0 }) (mw_Pre G ad NF TF FF M L [.ref (ad 854), .int a1]) (mw_Qi G ad NF TF FF (mw_eqI r0 M0 L0)) 0 0 (mw_fr G) := by
  refine mw_enter (by decide) (Nat.le_of_ble_eq_true rfl) ?_
  intro p e s m below meth c ls C hr hlocks hnm hw hl
  have hl : lv_has ls 2 [(0, .ref (ad 854)), (1, .int a1)] := hl
  have hb23 : ∀ (s0 : Int32) (M : mwM) (L : mwL) (H : Heap) (locs : List Loc) (ls : Array Slot), fX14_noKey_b23 fu a1 s0 M L = some (r0, M0, L0) → mw_W G ad NF TF FF M L H locs → lv_has ls 2 [] → W p l e ({ frames := 0, cells := 0, slots := 0, locals := 0 }) s m [.ref (ad 854), .int a1].toArray below meth c H locs 0 0 (MQ below (mw_Qi G ad NF TF FF (mw_eqI r0 M0 L0)) [.ref (ad 854), .int a1].toArray s 0 0 (mw_fr G)) (F0 m 23 ls [.int s0]) := by
    intro s0 M L H locs ls hD hw hl
    unfold fX14_noKey_b23 at hD
    obtain ⟨z1, hD⟩ := g_zz hD
    exact mr_iret C hr hlocks hw (nz_zz z1) (Option.some.inj hD) dX14_noKey_23
  have hb18 : ∀ (M : mwM) (L : mwL) (H : Heap) (locs : List Loc) (ls : Array Slot), fX14_noKey_b18 fu a1 M L = some (r0, M0, L0) → mw_W G ad NF TF FF M L H locs → lv_has ls 2 [] → W p l e ({ frames := 0, cells := 0, slots := 0, locals := 0 }) s m [.ref (ad 854), .int a1].toArray below meth c H locs 0 0 (MQ below (mw_Qi G ad NF TF FF (mw_eqI r0 M0 L0)) [.ref (ad 854), .int a1].toArray s 0 0 (mw_fr G)) (F0 m 18 ls []) := by
    intro M L H locs ls hD hw hl
    unfold fX14_noKey_b18 at hD
    refine lv_iconst (v := 1) C.1.1 C.1.2.1 dX14_noKey_18 (by decide) ?_
    refine lv_goto (tgt := 23) C.1.1 C.1.2.1 dX14_noKey_19 (by decide) ?_
    exact hb23 1 M L _ _ ls hD hw (lv_sub hl [] rfl)
  unfold DX14_noKey at hD
  refine lv_aload_n C.1.1 C.1.2.1 dX14_noKey_0 rfl (lv_at hl 0 rfl) ?_
  refine lv_iconst (v := 0) C.1.1 C.1.2.1 dX14_noKey_1 (by decide) ?_
  obtain ⟨M2, eM2, hD⟩ := g_let hD
  refine mr_putI C hw kc_14 0 (by decide) tf_854 wd_2266 dX14_noKey_2 (by decide) rfl rfl rfl rfl (fun H locs hw => ?_)
  replace hw : mw_W G ad NF TF FF M2 L H locs := by rw [eM2]; exact hw
  refine lv_iload_n C.1.1 C.1.2.1 dX14_noKey_5 rfl (lv_at hl 1 rfl) ?_
  refine lv_iconst (v := 1) C.1.1 C.1.2.1 dX14_noKey_6 (by decide) ?_
  refine lv_icmp_lt (tgt := 18) C.1.1 C.1.2.1 dX14_noKey_7 (by decide) (fun c3 => ?_) (fun c3 => ?_)
  · replace hD := g_pos c3 hD
    exact hb18 M2 L _ _ ls hD hw (lv_sub hl [] rfl)
  · replace hD := g_neg c3 hD
    refine lv_iload_n C.1.1 C.1.2.1 dX14_noKey_10 rfl (lv_at hl 1 rfl) ?_
    refine lv_aload_n C.1.1 C.1.2.1 dX14_noKey_11 rfl (lv_at hl 0 rfl) ?_
    refine mr_getI C hw kc_14 1 (by decide) tf_854 wd_2267 dX14_noKey_12 (by decide) rfl ?_
    refine lv_icmp_le (tgt := 22) C.1.1 C.1.2.1 dX14_noKey_15 (by decide) (fun c4 => ?_) (fun c4 => ?_)
    · replace hD := g_pos c4 hD
      refine lv_iconst (v := 0) C.1.1 C.1.2.1 dX14_noKey_22 (by decide) ?_
      exact hb23 0 M2 L _ _ ls hD hw (lv_sub hl [] rfl)
    · replace hD := g_neg c4 hD
      exact hb18 M2 L _ _ ls hD hw (lv_sub hl [] rfl)

theorem dX14_product_0 : decode cX14_product 0 = .ok (.iconst 0, 1) := by decide +kernel
theorem dX14_product_1 : decode cX14_product 1 = .ok (.istore_n 2, 1) := by decide +kernel
theorem dX14_product_2 : decode cX14_product 2 = .ok (.iload_n 0, 1) := by decide +kernel
theorem dX14_product_3 : decode cX14_product 3 = .ok (.istore_n 3, 1) := by decide +kernel
theorem dX14_product_4 : decode cX14_product 4 = .ok (.iconst 0, 1) := by decide +kernel
theorem dX14_product_5 : decode cX14_product 5 = .ok (.istore 4, 2) := by decide +kernel
theorem dX14_product_7 : decode cX14_product 7 = .ok (.iload 4, 2) := by decide +kernel
theorem dX14_product_9 : decode cX14_product 9 = .ok (.bipush 8, 2) := by decide +kernel
theorem dX14_product_11 : decode cX14_product 11 = .ok (.if_icmp .ge 50, 3) := by decide +kernel
theorem dX14_product_14 : decode cX14_product 14 = .ok (.iload_n 1, 1) := by decide +kernel
theorem dX14_product_15 : decode cX14_product 15 = .ok (.iload 4, 2) := by decide +kernel
theorem dX14_product_17 : decode cX14_product 17 = .ok (.ishr, 1) := by decide +kernel
theorem dX14_product_18 : decode cX14_product 18 = .ok (.iconst 1, 1) := by decide +kernel
theorem dX14_product_19 : decode cX14_product 19 = .ok (.iand, 1) := by decide +kernel
theorem dX14_product_20 : decode cX14_product 20 = .ok (.iconst 1, 1) := by decide +kernel
theorem dX14_product_21 : decode cX14_product 21 = .ok (.if_icmp .ne 9, 3) := by decide +kernel
theorem dX14_product_24 : decode cX14_product 24 = .ok (.iload_n 2, 1) := by decide +kernel
theorem dX14_product_25 : decode cX14_product 25 = .ok (.iload_n 3, 1) := by decide +kernel
theorem dX14_product_26 : decode cX14_product 26 = .ok (.ixor, 1) := by decide +kernel
theorem dX14_product_27 : decode cX14_product 27 = .ok (.goto 4, 3) := by decide +kernel
theorem dX14_product_30 : decode cX14_product 30 = .ok (.iload_n 2, 1) := by decide +kernel
theorem dX14_product_31 : decode cX14_product 31 = .ok (.istore_n 2, 1) := by decide +kernel
theorem dX14_product_32 : decode cX14_product 32 = .ok (.iload_n 3, 1) := by decide +kernel
theorem dX14_product_33 : decode cX14_product 33 = .ok (.bipush 127, 2) := by decide +kernel
theorem dX14_product_35 : decode cX14_product 35 = .ok (.if_icmp .le 16, 3) := by decide +kernel
theorem dX14_product_38 : decode cX14_product 38 = .ok (.iconst 2, 1) := by decide +kernel
theorem dX14_product_39 : decode cX14_product 39 = .ok (.iload_n 3, 1) := by decide +kernel
theorem dX14_product_40 : decode cX14_product 40 = .ok (.imul, 1) := by decide +kernel
theorem dX14_product_41 : decode cX14_product 41 = .ok (.sipush 256, 3) := by decide +kernel
theorem dX14_product_44 : decode cX14_product 44 = .ok (.isub, 1) := by decide +kernel
theorem dX14_product_45 : decode cX14_product 45 = .ok (.bipush 27, 2) := by decide +kernel
theorem dX14_product_47 : decode cX14_product 47 = .ok (.ixor, 1) := by decide +kernel
theorem dX14_product_48 : decode cX14_product 48 = .ok (.goto 6, 3) := by decide +kernel
theorem dX14_product_51 : decode cX14_product 51 = .ok (.iconst 2, 1) := by decide +kernel
theorem dX14_product_52 : decode cX14_product 52 = .ok (.iload_n 3, 1) := by decide +kernel
theorem dX14_product_53 : decode cX14_product 53 = .ok (.imul, 1) := by decide +kernel
theorem dX14_product_54 : decode cX14_product 54 = .ok (.istore_n 3, 1) := by decide +kernel
theorem dX14_product_55 : decode cX14_product 55 = .ok (.iinc 4 1, 3) := by decide +kernel
theorem dX14_product_58 : decode cX14_product 58 = .ok (.goto (-51), 3) := by decide +kernel
theorem dX14_product_61 : decode cX14_product 61 = .ok (.iload_n 2, 1) := by decide +kernel
theorem dX14_product_62 : decode cX14_product 62 = .ok (.ireturn, 1) := by decide +kernel
theorem cwX14_product : mw_cwS yX14_product cX14_product 5 ((some .int)) 2 := ⟨⟨wd_16, wd_2265, by decide +kernel⟩, wd_2264⟩
set_option maxHeartbeats 4000000 in
set_option maxRecDepth 100000 in
theorem tX14_product (l : Launch) (G : mwG) (ad : Nat → Nat) (fu : Nat) (a1 : Int32) (a2 : Int32) (M : mwM) (L : mwL) {r0 : Int32} {M0 : mwM} {L0 : mwL} (hD : DX14_product fu a1 a2 M L = some (r0, M0, L0)) : Met l yX14_product (Cond.code yX14_product cX14_product 5 ((some .int)) :: GT) ({ frames := 0, cells := 0, slots := 0, locals := 0 }) (mw_Pre G ad NF TF FF M L [.int a1, .int a2]) (mw_Qi G ad NF TF FF (mw_eqI r0 M0 L0)) 0 0 (mw_fr G) := by
  refine mw_enter (by decide) (Nat.le_of_ble_eq_true rfl) ?_
  intro p e s m below meth c ls C hr hlocks hnm hw hl
  have hl : lv_has ls 5 [(0, .int a1), (1, .int a2)] := hl
  have hh7 : ∀ (f : Nat) (v2 : Int32) (v3 : Int32) (v4 : Int32) (M : mwM) (L : mwL) (H : Heap) (locs : List Loc) (ls : Array Slot), fX14_product_h7 fu a1 a2 f (v2, v3, v4, M, L) = some (r0, M0, L0) → mw_W G ad NF TF FF M L H locs → lv_has ls 5 [(1, .int a2), (2, .int v2), (3, .int v3), (4, .int v4)] → W p l e ({ frames := 0, cells := 0, slots := 0, locals := 0 }) s m [.int a1, .int a2].toArray below meth c H locs 0 0 (MQ below (mw_Qi G ad NF TF FF (mw_eqI r0 M0 L0)) [.int a1, .int a2].toArray s 0 0 (mw_fr G)) (F0 m 7 ls []) := by
    intro f
    induction f with
    | zero => intro v2 v3 v4 M L H locs ls hD; cases hD
    | succ f7 ih7 =>
      intro v2 v3 v4 M L H locs ls hD hw hl
      replace hD : fX14_product_i7 fu a1 a2 (fX14_product_h7 fu a1 a2 f7) v2 v3 v4 M L = some (r0, M0, L0) := hD
      have hb54 : ∀ (v2 : Int32) (v4 : Int32) (s0 : Int32) (M : mwM) (L : mwL) (H : Heap) (locs : List Loc) (ls : Array Slot), fX14_product_b54 fu a1 a2 (fX14_product_h7 fu a1 a2 f7) v2 v4 s0 M L = some (r0, M0, L0) → mw_W G ad NF TF FF M L H locs → lv_has ls 5 [(1, .int a2), (2, .int v2), (4, .int v4)] → W p l e ({ frames := 0, cells := 0, slots := 0, locals := 0 }) s m [.int a1, .int a2].toArray below meth c H locs 0 0 (MQ below (mw_Qi G ad NF TF FF (mw_eqI r0 M0 L0)) [.int a1, .int a2].toArray s 0 0 (mw_fr G)) (F0 m 54 ls [.int s0]) := by
        intro v2 v4 s0 M L H locs ls hD hw hl
        unfold fX14_product_b54 at hD
        refine lv_istore_n (lv' := [(3, .int s0), (1, .int a2), (2, .int v2), (4, .int v4)]) C.1.1 C.1.2.1 dX14_product_54 rfl hl (by decide) rfl (fun ls hl => ?_)
        obtain ⟨x4, ex4, hD⟩ := g_let hD
        refine lv_iinc (v := x4) (lv' := [(4, .int x4), (3, .int s0), (1, .int a2), (2, .int v2)]) C.1.1 C.1.2.1 dX14_product_55 hl (k := 3) rfl (by rw [ex4]; rfl) (by decide) rfl (fun ls hl => ?_)
        refine lv_goto (tgt := 7) C.1.1 C.1.2.1 dX14_product_58 (by decide) ?_
        exact ih7 v2 s0 x4 M L _ _ ls hD hw (lv_sub hl [2, 3, 1, 0] rfl)
      have hb31 : ∀ (v3 : Int32) (v4 : Int32) (s0 : Int32) (M : mwM) (L : mwL) (H : Heap) (locs : List Loc) (ls : Array Slot), fX14_product_b31 fu a1 a2 (fX14_product_h7 fu a1 a2 f7) v3 v4 s0 M L = some (r0, M0, L0) → mw_W G ad NF TF FF M L H locs → lv_has ls 5 [(1, .int a2), (3, .int v3), (4, .int v4)] → W p l e ({ frames := 0, cells := 0, slots := 0, locals := 0 }) s m [.int a1, .int a2].toArray below meth c H locs 0 0 (MQ below (mw_Qi G ad NF TF FF (mw_eqI r0 M0 L0)) [.int a1, .int a2].toArray s 0 0 (mw_fr G)) (F0 m 31 ls [.int s0]) := by
        intro v3 v4 s0 M L H locs ls hD hw hl
        unfold fX14_product_b31 at hD
        refine lv_istore_n (lv' := [(2, .int s0), (1, .int a2), (3, .int v3), (4, .int v4)]) C.1.1 C.1.2.1 dX14_product_31 rfl hl (by decide) rfl (fun ls hl => ?_)
        refine lv_iload_n C.1.1 C.1.2.1 dX14_product_32 rfl (lv_at hl 2 rfl) ?_
        refine lv_bipush (v := 127) C.1.1 C.1.2.1 dX14_product_33 (by decide) ?_
        refine lv_icmp_le (tgt := 51) C.1.1 C.1.2.1 dX14_product_35 (by decide) (fun c3 => ?_) (fun c3 => ?_)
        · replace hD := g_pos c3 hD
          refine lv_iconst (v := 2) C.1.1 C.1.2.1 dX14_product_51 (by decide) ?_
          refine lv_iload_n C.1.1 C.1.2.1 dX14_product_52 rfl (lv_at hl 2 rfl) ?_
          refine lv_imul C.1.1 C.1.2.1 dX14_product_53 ?_
          exact hb54 s0 v4 (2 * v3) M L _ _ ls hD hw (lv_sub hl [1, 0, 3] rfl)
        · replace hD := g_neg c3 hD
          refine lv_iconst (v := 2) C.1.1 C.1.2.1 dX14_product_38 (by decide) ?_
          refine lv_iload_n C.1.1 C.1.2.1 dX14_product_39 rfl (lv_at hl 2 rfl) ?_
          refine lv_imul C.1.1 C.1.2.1 dX14_product_40 ?_
          refine lv_sipush (v := 256) C.1.1 C.1.2.1 dX14_product_41 (by decide) ?_
          refine lv_isub C.1.1 C.1.2.1 dX14_product_44 ?_
          refine lv_bipush (v := 27) C.1.1 C.1.2.1 dX14_product_45 (by decide) ?_
          refine lv_ixor C.1.1 C.1.2.1 dX14_product_47 ?_
          refine lv_goto (tgt := 54) C.1.1 C.1.2.1 dX14_product_48 (by decide) ?_
          exact hb54 s0 v4 (((2 * v3) - 256) ^^^ 27) M L _ _ ls hD hw (lv_sub hl [1, 0, 3] rfl)
      unfold fX14_product_i7 at hD
      refine lv_iload C.1.1 C.1.2.1 dX14_product_7 (lv_at hl 3 rfl) ?_
      refine lv_bipush (v := 8) C.1.1 C.1.2.1 dX14_product_9 (by decide) ?_
      refine lv_icmp_ge (tgt := 61) C.1.1 C.1.2.1 dX14_product_11 (by decide) (fun c1 => ?_) (fun c1 => ?_)
      · replace hD := g_pos c1 hD
        refine lv_iload_n C.1.1 C.1.2.1 dX14_product_61 rfl (lv_at hl 1 rfl) ?_
        exact mr_iret C hr hlocks hw rfl (Option.some.inj hD) dX14_product_62
      · replace hD := g_neg c1 hD
        refine lv_iload_n C.1.1 C.1.2.1 dX14_product_14 rfl (lv_at hl 0 rfl) ?_
        refine lv_iload C.1.1 C.1.2.1 dX14_product_15 (lv_at hl 3 rfl) ?_
        refine lv_ishr C.1.1 C.1.2.1 dX14_product_17 ?_
        refine lv_iconst (v := 1) C.1.1 C.1.2.1 dX14_product_18 (by decide) ?_
        refine lv_iand C.1.1 C.1.2.1 dX14_product_19 ?_
        refine lv_iconst (v := 1) C.1.1 C.1.2.1 dX14_product_20 (by decide) ?_
        refine lv_icmp_ne (tgt := 30) C.1.1 C.1.2.1 dX14_product_21 (by decide) (fun c2 => ?_) (fun c2 => ?_)
        · replace hD := g_neg c2 hD
          refine lv_iload_n C.1.1 C.1.2.1 dX14_product_30 rfl (lv_at hl 1 rfl) ?_
          exact hb31 v3 v4 v2 M L _ _ ls hD hw (lv_sub hl [0, 2, 3] rfl)
        · replace hD := g_pos c2 hD
          refine lv_iload_n C.1.1 C.1.2.1 dX14_product_24 rfl (lv_at hl 1 rfl) ?_
          refine lv_iload_n C.1.1 C.1.2.1 dX14_product_25 rfl (lv_at hl 2 rfl) ?_
          refine lv_ixor C.1.1 C.1.2.1 dX14_product_26 ?_
          refine lv_goto (tgt := 31) C.1.1 C.1.2.1 dX14_product_27 (by decide) ?_
          exact hb31 v3 v4 (v2 ^^^ v3) M L _ _ ls hD hw (lv_sub hl [0, 2, 3] rfl)
  unfold DX14_product at hD
  refine lv_iconst (v := 0) C.1.1 C.1.2.1 dX14_product_0 (by decide) ?_
  refine lv_istore_n (lv' := [(2, .int 0), (0, .int a1), (1, .int a2)]) C.1.1 C.1.2.1 dX14_product_1 rfl hl (by decide) rfl (fun ls hl => ?_)
  refine lv_iload_n C.1.1 C.1.2.1 dX14_product_2 rfl (lv_at hl 1 rfl) ?_
  refine lv_istore_n (lv' := [(3, .int a1), (2, .int 0), (0, .int a1), (1, .int a2)]) C.1.1 C.1.2.1 dX14_product_3 rfl hl (by decide) rfl (fun ls hl => ?_)
  refine lv_iconst (v := 0) C.1.1 C.1.2.1 dX14_product_4 (by decide) ?_
  refine lv_istore (lv' := [(4, .int 0), (3, .int a1), (2, .int 0), (0, .int a1), (1, .int a2)]) C.1.1 C.1.2.1 dX14_product_5 hl (by decide) rfl (fun ls hl => ?_)
  exact hh7 fu 0 a1 0 M L _ _ ls hD hw (lv_sub hl [4, 2, 1, 0] rfl)

theorem dX14_substituteOf_0 : decode cX14_substituteOf 0 = .ok (.iconst 0, 1) := by decide +kernel
theorem dX14_substituteOf_1 : decode cX14_substituteOf 1 = .ok (.istore_n 1, 1) := by decide +kernel
theorem dX14_substituteOf_2 : decode cX14_substituteOf 2 = .ok (.iload_n 0, 1) := by decide +kernel
theorem dX14_substituteOf_3 : decode cX14_substituteOf 3 = .ok (.ifCond .le 18, 3) := by decide +kernel
theorem dX14_substituteOf_6 : decode cX14_substituteOf 6 = .ok (.iload_n 0, 1) := by decide +kernel
theorem dX14_substituteOf_7 : decode cX14_substituteOf 7 = .ok (.iload_n 1, 1) := by decide +kernel
theorem dX14_substituteOf_8 : decode cX14_substituteOf 8 = .ok (.invokestatic 65, 3) := by decide +kernel
theorem dX14_substituteOf_11 : decode cX14_substituteOf 11 = .ok (.iconst 1, 1) := by decide +kernel
theorem dX14_substituteOf_12 : decode cX14_substituteOf 12 = .ok (.if_icmp .eq 9, 3) := by decide +kernel
theorem dX14_substituteOf_15 : decode cX14_substituteOf 15 = .ok (.iinc 1 1, 3) := by decide +kernel
theorem dX14_substituteOf_18 : decode cX14_substituteOf 18 = .ok (.goto (-16), 3) := by decide +kernel
theorem dX14_substituteOf_21 : decode cX14_substituteOf 21 = .ok (.bipush 99, 2) := by decide +kernel
theorem dX14_substituteOf_23 : decode cX14_substituteOf 23 = .ok (.istore_n 2, 1) := by decide +kernel
theorem dX14_substituteOf_24 : decode cX14_substituteOf 24 = .ok (.iconst 0, 1) := by decide +kernel
theorem dX14_substituteOf_25 : decode cX14_substituteOf 25 = .ok (.istore_n 3, 1) := by decide +kernel
theorem dX14_substituteOf_26 : decode cX14_substituteOf 26 = .ok (.iload_n 3, 1) := by decide +kernel
theorem dX14_substituteOf_27 : decode cX14_substituteOf 27 = .ok (.iconst 5, 1) := by decide +kernel
theorem dX14_substituteOf_28 : decode cX14_substituteOf 28 = .ok (.if_icmp .ge 26, 3) := by decide +kernel
theorem dX14_substituteOf_31 : decode cX14_substituteOf 31 = .ok (.iload_n 2, 1) := by decide +kernel
theorem dX14_substituteOf_32 : decode cX14_substituteOf 32 = .ok (.iload_n 1, 1) := by decide +kernel
theorem dX14_substituteOf_33 : decode cX14_substituteOf 33 = .ok (.iload_n 3, 1) := by decide +kernel
theorem dX14_substituteOf_34 : decode cX14_substituteOf 34 = .ok (.ishl, 1) := by decide +kernel
theorem dX14_substituteOf_35 : decode cX14_substituteOf 35 = .ok (.iload_n 1, 1) := by decide +kernel
theorem dX14_substituteOf_36 : decode cX14_substituteOf 36 = .ok (.bipush 8, 2) := by decide +kernel
theorem dX14_substituteOf_38 : decode cX14_substituteOf 38 = .ok (.iload_n 3, 1) := by decide +kernel
theorem dX14_substituteOf_39 : decode cX14_substituteOf 39 = .ok (.isub, 1) := by decide +kernel
theorem dX14_substituteOf_40 : decode cX14_substituteOf 40 = .ok (.ishr, 1) := by decide +kernel
theorem dX14_substituteOf_41 : decode cX14_substituteOf 41 = .ok (.ior, 1) := by decide +kernel
theorem dX14_substituteOf_42 : decode cX14_substituteOf 42 = .ok (.sipush 255, 3) := by decide +kernel
theorem dX14_substituteOf_45 : decode cX14_substituteOf 45 = .ok (.iand, 1) := by decide +kernel
theorem dX14_substituteOf_46 : decode cX14_substituteOf 46 = .ok (.ixor, 1) := by decide +kernel
theorem dX14_substituteOf_47 : decode cX14_substituteOf 47 = .ok (.istore_n 2, 1) := by decide +kernel
theorem dX14_substituteOf_48 : decode cX14_substituteOf 48 = .ok (.iinc 3 1, 3) := by decide +kernel
theorem dX14_substituteOf_51 : decode cX14_substituteOf 51 = .ok (.goto (-25), 3) := by decide +kernel
theorem dX14_substituteOf_54 : decode cX14_substituteOf 54 = .ok (.iload_n 2, 1) := by decide +kernel
theorem dX14_substituteOf_55 : decode cX14_substituteOf 55 = .ok (.ireturn, 1) := by decide +kernel
theorem cwX14_substituteOf : mw_cwS yX14_substituteOf cX14_substituteOf 4 ((some .int)) 1 := ⟨⟨wd_16, wd_2262, by decide +kernel⟩, wd_2261⟩
set_option maxHeartbeats 4000000 in
set_option maxRecDepth 100000 in
theorem tX14_substituteOf (l : Launch) (G : mwG) (ad : Nat → Nat) (fu : Nat) (a1 : Int32) (M : mwM) (L : mwL) {r0 : Int32} {M0 : mwM} {L0 : mwL} (hD : DX14_substituteOf fu a1 M L = some (r0, M0, L0)) : Met l yX14_substituteOf (Cond.code yX14_substituteOf cX14_substituteOf 4 ((some .int)) :: GT) ({ frames := 1, cells := 0, slots := 0, locals := 24 }) (mw_Pre G ad NF TF FF M L [.int a1]) (mw_Qi G ad NF TF FF (mw_eqI r0 M0 L0)) 0 0 (mw_fr G) := by
  refine mw_enter (by decide) (Nat.le_of_ble_eq_true rfl) ?_
  intro p e s m below meth c ls C hr hlocks hnm hw hl
  have hl : lv_has ls 4 [(0, .int a1)] := hl
  have hh26 : ∀ (f : Nat) (v1 : Int32) (v2 : Int32) (v3 : Int32) (M : mwM) (L : mwL) (H : Heap) (locs : List Loc) (ls : Array Slot), fX14_substituteOf_h26 fu a1 f (v1, v2, v3, M, L) = some (r0, M0, L0) → mw_W G ad NF TF FF M L H locs → lv_has ls 4 [(1, .int v1), (2, .int v2), (3, .int v3)] → W p l e ({ frames := 1, cells := 0, slots := 0, locals := 24 }) s m [.int a1].toArray below meth c H locs 0 0 (MQ below (mw_Qi G ad NF TF FF (mw_eqI r0 M0 L0)) [.int a1].toArray s 0 0 (mw_fr G)) (F0 m 26 ls []) := by
    intro f
    induction f with
    | zero => intro v1 v2 v3 M L H locs ls hD; cases hD
    | succ f26 ih26 =>
      intro v1 v2 v3 M L H locs ls hD hw hl
      replace hD : fX14_substituteOf_i26 fu a1 (fX14_substituteOf_h26 fu a1 f26) v1 v2 v3 M L = some (r0, M0, L0) := hD
      unfold fX14_substituteOf_i26 at hD
      refine lv_iload_n C.1.1 C.1.2.1 dX14_substituteOf_26 rfl (lv_at hl 2 rfl) ?_
      refine lv_iconst (v := 5) C.1.1 C.1.2.1 dX14_substituteOf_27 (by decide) ?_
      refine lv_icmp_ge (tgt := 54) C.1.1 C.1.2.1 dX14_substituteOf_28 (by decide) (fun c7 => ?_) (fun c7 => ?_)
      · replace hD := g_pos c7 hD
        refine lv_iload_n C.1.1 C.1.2.1 dX14_substituteOf_54 rfl (lv_at hl 1 rfl) ?_
        exact mr_iret C hr hlocks hw rfl (Option.some.inj hD) dX14_substituteOf_55
      · replace hD := g_neg c7 hD
        refine lv_iload_n C.1.1 C.1.2.1 dX14_substituteOf_31 rfl (lv_at hl 1 rfl) ?_
        refine lv_iload_n C.1.1 C.1.2.1 dX14_substituteOf_32 rfl (lv_at hl 0 rfl) ?_
        refine lv_iload_n C.1.1 C.1.2.1 dX14_substituteOf_33 rfl (lv_at hl 2 rfl) ?_
        refine lv_ishl C.1.1 C.1.2.1 dX14_substituteOf_34 ?_
        refine lv_iload_n C.1.1 C.1.2.1 dX14_substituteOf_35 rfl (lv_at hl 0 rfl) ?_
        refine lv_bipush (v := 8) C.1.1 C.1.2.1 dX14_substituteOf_36 (by decide) ?_
        refine lv_iload_n C.1.1 C.1.2.1 dX14_substituteOf_38 rfl (lv_at hl 2 rfl) ?_
        refine lv_isub C.1.1 C.1.2.1 dX14_substituteOf_39 ?_
        refine lv_ishr C.1.1 C.1.2.1 dX14_substituteOf_40 ?_
        refine lv_ior C.1.1 C.1.2.1 dX14_substituteOf_41 ?_
        refine lv_sipush (v := 255) C.1.1 C.1.2.1 dX14_substituteOf_42 (by decide) ?_
        refine lv_iand C.1.1 C.1.2.1 dX14_substituteOf_45 ?_
        refine lv_ixor C.1.1 C.1.2.1 dX14_substituteOf_46 ?_
        obtain ⟨x8, ex8, hD⟩ := g_let hD
        refine W.eq (g2 := F0 m 47 ls (.int x8 :: [])) (by rw [ex8]) ?_
        refine lv_istore_n (lv' := [(2, .int x8), (1, .int v1), (3, .int v3)]) C.1.1 C.1.2.1 dX14_substituteOf_47 rfl hl (by decide) rfl (fun ls hl => ?_)
        obtain ⟨x9, ex9, hD⟩ := g_let hD
        refine lv_iinc (v := x9) (lv' := [(3, .int x9), (2, .int x8), (1, .int v1)]) C.1.1 C.1.2.1 dX14_substituteOf_48 hl (k := 2) rfl (by rw [ex9]; rfl) (by decide) rfl (fun ls hl => ?_)
        refine lv_goto (tgt := 26) C.1.1 C.1.2.1 dX14_substituteOf_51 (by decide) ?_
        exact ih26 v1 x8 x9 M L _ _ ls hD hw (lv_sub hl [2, 1, 0] rfl)
  have hb21 : ∀ (v1 : Int32) (M : mwM) (L : mwL) (H : Heap) (locs : List Loc) (ls : Array Slot), fX14_substituteOf_b21 fu a1 v1 M L = some (r0, M0, L0) → mw_W G ad NF TF FF M L H locs → lv_has ls 4 [(1, .int v1)] → W p l e ({ frames := 1, cells := 0, slots := 0, locals := 24 }) s m [.int a1].toArray below meth c H locs 0 0 (MQ below (mw_Qi G ad NF TF FF (mw_eqI r0 M0 L0)) [.int a1].toArray s 0 0 (mw_fr G)) (F0 m 21 ls []) := by
    intro v1 M L H locs ls hD hw hl
    unfold fX14_substituteOf_b21 at hD
    refine lv_bipush (v := 99) C.1.1 C.1.2.1 dX14_substituteOf_21 (by decide) ?_
    refine lv_istore_n (lv' := [(2, .int 99), (1, .int v1)]) C.1.1 C.1.2.1 dX14_substituteOf_23 rfl hl (by decide) rfl (fun ls hl => ?_)
    refine lv_iconst (v := 0) C.1.1 C.1.2.1 dX14_substituteOf_24 (by decide) ?_
    refine lv_istore_n (lv' := [(3, .int 0), (2, .int 99), (1, .int v1)]) C.1.1 C.1.2.1 dX14_substituteOf_25 rfl hl (by decide) rfl (fun ls hl => ?_)
    exact hh26 fu v1 99 0 M L _ _ ls hD hw (lv_sub hl [2, 1, 0] rfl)
  have hh2 : ∀ (f : Nat) (v1 : Int32) (M : mwM) (L : mwL) (H : Heap) (locs : List Loc) (ls : Array Slot), fX14_substituteOf_h2 fu a1 f (v1, M, L) = some (r0, M0, L0) → mw_W G ad NF TF FF M L H locs → lv_has ls 4 [(0, .int a1), (1, .int v1)] → W p l e ({ frames := 1, cells := 0, slots := 0, locals := 24 }) s m [.int a1].toArray below meth c H locs 0 0 (MQ below (mw_Qi G ad NF TF FF (mw_eqI r0 M0 L0)) [.int a1].toArray s 0 0 (mw_fr G)) (F0 m 2 ls []) := by
    intro f
    induction f with
    | zero => intro v1 M L H locs ls hD; cases hD
    | succ f2 ih2 =>
      intro v1 M L H locs ls hD hw hl
      replace hD : fX14_substituteOf_i2 fu a1 (fX14_substituteOf_h2 fu a1 f2) v1 M L = some (r0, M0, L0) := hD
      unfold fX14_substituteOf_i2 at hD
      refine lv_iload_n C.1.1 C.1.2.1 dX14_substituteOf_2 rfl (lv_at hl 0 rfl) ?_
      refine lv_if_le (tgt := 21) C.1.1 C.1.2.1 dX14_substituteOf_3 (by decide) (fun c1 => ?_) (fun c1 => ?_)
      · replace hD := g_pos c1 hD
        exact hb21 v1 M L _ _ ls hD hw (lv_sub hl [1] rfl)
      · replace hD := g_neg c1 hD
        refine lv_iload_n C.1.1 C.1.2.1 dX14_substituteOf_6 rfl (lv_at hl 0 rfl) ?_
        refine lv_iload_n C.1.1 C.1.2.1 dX14_substituteOf_7 rfl (lv_at hl 1 rfl) ?_
        obtain ⟨r4, M2, L3, h1, hD⟩ := g_b3 hD
        refine md_csI (As := [.int a1, .int v1]) (rest := []) C hw (tX14_product l G ad fu a1 v1 M L h1) wd_2263 cwX14_product ⟨Nat.le_of_ble_eq_true rfl, Nat.le_of_ble_eq_true rfl⟩ rfl hl.1 (Nat.le_of_ble_eq_true rfl) dX14_substituteOf_8 rfl rfl ⟨Nat.zero_le _, Nat.zero_le _⟩ rfl (fun H locs hw => ?_)
        refine lv_iconst (v := 1) C.1.1 C.1.2.1 dX14_substituteOf_11 (by decide) ?_
        refine lv_icmp_eq (tgt := 21) C.1.1 C.1.2.1 dX14_substituteOf_12 (by decide) (fun c5 => ?_) (fun c5 => ?_)
        · replace hD := g_pos c5 hD
          exact hb21 v1 M2 L3 _ _ ls hD hw (lv_sub hl [1] rfl)
        · replace hD := g_neg c5 hD
          obtain ⟨x6, ex6, hD⟩ := g_let hD
          refine lv_iinc (v := x6) (lv' := [(1, .int x6), (0, .int a1)]) C.1.1 C.1.2.1 dX14_substituteOf_15 hl (k := 1) rfl (by rw [ex6]; rfl) (by decide) rfl (fun ls hl => ?_)
          refine lv_goto (tgt := 2) C.1.1 C.1.2.1 dX14_substituteOf_18 (by decide) ?_
          exact ih2 x6 M2 L3 _ _ ls hD hw (lv_sub hl [1, 0] rfl)
  unfold DX14_substituteOf at hD
  refine lv_iconst (v := 0) C.1.1 C.1.2.1 dX14_substituteOf_0 (by decide) ?_
  refine lv_istore_n (lv' := [(1, .int 0), (0, .int a1)]) C.1.1 C.1.2.1 dX14_substituteOf_1 rfl hl (by decide) rfl (fun ls hl => ?_)
  exact hh2 fu 0 M L _ _ ls hD hw (lv_sub hl [1, 0] rfl)

theorem dX14_makeRound_0 : decode cX14_makeRound 0 = .ok (.iconst 0, 1) := by decide +kernel
theorem dX14_makeRound_1 : decode cX14_makeRound 1 = .ok (.istore_n 2, 1) := by decide +kernel
theorem dX14_makeRound_2 : decode cX14_makeRound 2 = .ok (.iload_n 2, 1) := by decide +kernel
theorem dX14_makeRound_3 : decode cX14_makeRound 3 = .ok (.bipush 16, 2) := by decide +kernel
theorem dX14_makeRound_5 : decode cX14_makeRound 5 = .ok (.if_icmp .ge 23, 3) := by decide +kernel
theorem dX14_makeRound_8 : decode cX14_makeRound 8 = .ok (.aload_n 0, 1) := by decide +kernel
theorem dX14_makeRound_9 : decode cX14_makeRound 9 = .ok (.getfield 42, 3) := by decide +kernel
theorem dX14_makeRound_12 : decode cX14_makeRound 12 = .ok (.iload_n 2, 1) := by decide +kernel
theorem dX14_makeRound_13 : decode cX14_makeRound 13 = .ok (.aload_n 0, 1) := by decide +kernel
theorem dX14_makeRound_14 : decode cX14_makeRound 14 = .ok (.getfield 7, 3) := by decide +kernel
theorem dX14_makeRound_17 : decode cX14_makeRound 17 = .ok (.iload_n 1, 1) := by decide +kernel
theorem dX14_makeRound_18 : decode cX14_makeRound 18 = .ok (.iload_n 2, 1) := by decide +kernel
theorem dX14_makeRound_19 : decode cX14_makeRound 19 = .ok (.iadd, 1) := by decide +kernel
theorem dX14_makeRound_20 : decode cX14_makeRound 20 = .ok (.iaload, 1) := by decide +kernel
theorem dX14_makeRound_21 : decode cX14_makeRound 21 = .ok (.iastore, 1) := by decide +kernel
theorem dX14_makeRound_22 : decode cX14_makeRound 22 = .ok (.iinc 2 1, 3) := by decide +kernel
theorem dX14_makeRound_25 : decode cX14_makeRound 25 = .ok (.goto (-23), 3) := by decide +kernel
theorem dX14_makeRound_28 : decode cX14_makeRound 28 = .ok (.iconst 1, 1) := by decide +kernel
theorem dX14_makeRound_29 : decode cX14_makeRound 29 = .ok (.istore_n 2, 1) := by decide +kernel
theorem dX14_makeRound_30 : decode cX14_makeRound 30 = .ok (.bipush 16, 2) := by decide +kernel
theorem dX14_makeRound_32 : decode cX14_makeRound 32 = .ok (.istore_n 3, 1) := by decide +kernel
theorem dX14_makeRound_33 : decode cX14_makeRound 33 = .ok (.iload_n 3, 1) := by decide +kernel
theorem dX14_makeRound_34 : decode cX14_makeRound 34 = .ok (.sipush 176, 3) := by decide +kernel
theorem dX14_makeRound_37 : decode cX14_makeRound 37 = .ok (.if_icmp .ge 128, 3) := by decide +kernel
theorem dX14_makeRound_40 : decode cX14_makeRound 40 = .ok (.iload_n 3, 1) := by decide +kernel
theorem dX14_makeRound_41 : decode cX14_makeRound 41 = .ok (.iconst 4, 1) := by decide +kernel
theorem dX14_makeRound_42 : decode cX14_makeRound 42 = .ok (.irem, 1) := by decide +kernel
theorem dX14_makeRound_43 : decode cX14_makeRound 43 = .ok (.istore 4, 2) := by decide +kernel
theorem dX14_makeRound_45 : decode cX14_makeRound 45 = .ok (.iload_n 3, 1) := by decide +kernel
theorem dX14_makeRound_46 : decode cX14_makeRound 46 = .ok (.bipush 16, 2) := by decide +kernel
theorem dX14_makeRound_48 : decode cX14_makeRound 48 = .ok (.irem, 1) := by decide +kernel
theorem dX14_makeRound_49 : decode cX14_makeRound 49 = .ok (.iconst 4, 1) := by decide +kernel
theorem dX14_makeRound_50 : decode cX14_makeRound 50 = .ok (.if_icmp .ge 7, 3) := by decide +kernel
theorem dX14_makeRound_53 : decode cX14_makeRound 53 = .ok (.iconst 1, 1) := by decide +kernel
theorem dX14_makeRound_54 : decode cX14_makeRound 54 = .ok (.goto 4, 3) := by decide +kernel
theorem dX14_makeRound_57 : decode cX14_makeRound 57 = .ok (.iconst 0, 1) := by decide +kernel
theorem dX14_makeRound_58 : decode cX14_makeRound 58 = .ok (.istore 5, 2) := by decide +kernel
theorem dX14_makeRound_60 : decode cX14_makeRound 60 = .ok (.iload 5, 2) := by decide +kernel
theorem dX14_makeRound_62 : decode cX14_makeRound 62 = .ok (.ifCond .eq 28, 3) := by decide +kernel
theorem dX14_makeRound_65 : decode cX14_makeRound 65 = .ok (.aload_n 0, 1) := by decide +kernel
theorem dX14_makeRound_66 : decode cX14_makeRound 66 = .ok (.aload_n 0, 1) := by decide +kernel
theorem dX14_makeRound_67 : decode cX14_makeRound 67 = .ok (.getfield 42, 3) := by decide +kernel
theorem dX14_makeRound_70 : decode cX14_makeRound 70 = .ok (.iload_n 3, 1) := by decide +kernel
theorem dX14_makeRound_71 : decode cX14_makeRound 71 = .ok (.iconst 4, 1) := by decide +kernel
theorem dX14_makeRound_72 : decode cX14_makeRound 72 = .ok (.isub, 1) := by decide +kernel
theorem dX14_makeRound_73 : decode cX14_makeRound 73 = .ok (.iload 4, 2) := by decide +kernel
theorem dX14_makeRound_75 : decode cX14_makeRound 75 = .ok (.isub, 1) := by decide +kernel
theorem dX14_makeRound_76 : decode cX14_makeRound 76 = .ok (.iload 4, 2) := by decide +kernel
theorem dX14_makeRound_78 : decode cX14_makeRound 78 = .ok (.iconst 1, 1) := by decide +kernel
theorem dX14_makeRound_79 : decode cX14_makeRound 79 = .ok (.iadd, 1) := by decide +kernel
theorem dX14_makeRound_80 : decode cX14_makeRound 80 = .ok (.iconst 4, 1) := by decide +kernel
theorem dX14_makeRound_81 : decode cX14_makeRound 81 = .ok (.irem, 1) := by decide +kernel
theorem dX14_makeRound_82 : decode cX14_makeRound 82 = .ok (.iadd, 1) := by decide +kernel
theorem dX14_makeRound_83 : decode cX14_makeRound 83 = .ok (.iaload, 1) := by decide +kernel
theorem dX14_makeRound_84 : decode cX14_makeRound 84 = .ok (.invokevirtual 69, 3) := by decide +kernel
theorem dX14_makeRound_87 : decode cX14_makeRound 87 = .ok (.goto 11, 3) := by decide +kernel
theorem dX14_makeRound_90 : decode cX14_makeRound 90 = .ok (.aload_n 0, 1) := by decide +kernel
theorem dX14_makeRound_91 : decode cX14_makeRound 91 = .ok (.getfield 42, 3) := by decide +kernel
theorem dX14_makeRound_94 : decode cX14_makeRound 94 = .ok (.iload_n 3, 1) := by decide +kernel
theorem dX14_makeRound_95 : decode cX14_makeRound 95 = .ok (.iconst 4, 1) := by decide +kernel
theorem dX14_makeRound_96 : decode cX14_makeRound 96 = .ok (.isub, 1) := by decide +kernel
theorem dX14_makeRound_97 : decode cX14_makeRound 97 = .ok (.iaload, 1) := by decide +kernel
theorem dX14_makeRound_98 : decode cX14_makeRound 98 = .ok (.istore 6, 2) := by decide +kernel
theorem dX14_makeRound_100 : decode cX14_makeRound 100 = .ok (.iload 5, 2) := by decide +kernel
theorem dX14_makeRound_102 : decode cX14_makeRound 102 = .ok (.ifCond .eq 15, 3) := by decide +kernel
theorem dX14_makeRound_105 : decode cX14_makeRound 105 = .ok (.iload 4, 2) := by decide +kernel
theorem dX14_makeRound_107 : decode cX14_makeRound 107 = .ok (.ifCond .ne 10, 3) := by decide +kernel
theorem dX14_makeRound_110 : decode cX14_makeRound 110 = .ok (.iload 6, 2) := by decide +kernel
theorem dX14_makeRound_112 : decode cX14_makeRound 112 = .ok (.iload_n 2, 1) := by decide +kernel
theorem dX14_makeRound_113 : decode cX14_makeRound 113 = .ok (.ixor, 1) := by decide +kernel
theorem dX14_makeRound_114 : decode cX14_makeRound 114 = .ok (.goto 5, 3) := by decide +kernel
theorem dX14_makeRound_117 : decode cX14_makeRound 117 = .ok (.iload 6, 2) := by decide +kernel
theorem dX14_makeRound_119 : decode cX14_makeRound 119 = .ok (.istore 6, 2) := by decide +kernel
theorem dX14_makeRound_121 : decode cX14_makeRound 121 = .ok (.iload 5, 2) := by decide +kernel
theorem dX14_makeRound_123 : decode cX14_makeRound 123 = .ok (.ifCond .eq 16, 3) := by decide +kernel
theorem dX14_makeRound_126 : decode cX14_makeRound 126 = .ok (.iload 4, 2) := by decide +kernel
theorem dX14_makeRound_128 : decode cX14_makeRound 128 = .ok (.ifCond .ne 11, 3) := by decide +kernel
theorem dX14_makeRound_131 : decode cX14_makeRound 131 = .ok (.iload_n 2, 1) := by decide +kernel
theorem dX14_makeRound_132 : decode cX14_makeRound 132 = .ok (.iconst 2, 1) := by decide +kernel
theorem dX14_makeRound_133 : decode cX14_makeRound 133 = .ok (.invokestatic 65, 3) := by decide +kernel
theorem dX14_makeRound_136 : decode cX14_makeRound 136 = .ok (.goto 4, 3) := by decide +kernel
theorem dX14_makeRound_139 : decode cX14_makeRound 139 = .ok (.iload_n 2, 1) := by decide +kernel
theorem dX14_makeRound_140 : decode cX14_makeRound 140 = .ok (.istore_n 2, 1) := by decide +kernel
theorem dX14_makeRound_141 : decode cX14_makeRound 141 = .ok (.aload_n 0, 1) := by decide +kernel
theorem dX14_makeRound_142 : decode cX14_makeRound 142 = .ok (.getfield 42, 3) := by decide +kernel
theorem dX14_makeRound_145 : decode cX14_makeRound 145 = .ok (.iload_n 3, 1) := by decide +kernel
theorem dX14_makeRound_146 : decode cX14_makeRound 146 = .ok (.aload_n 0, 1) := by decide +kernel
theorem dX14_makeRound_147 : decode cX14_makeRound 147 = .ok (.getfield 42, 3) := by decide +kernel
theorem dX14_makeRound_150 : decode cX14_makeRound 150 = .ok (.iload_n 3, 1) := by decide +kernel
theorem dX14_makeRound_151 : decode cX14_makeRound 151 = .ok (.bipush 16, 2) := by decide +kernel
theorem dX14_makeRound_153 : decode cX14_makeRound 153 = .ok (.isub, 1) := by decide +kernel
theorem dX14_makeRound_154 : decode cX14_makeRound 154 = .ok (.iaload, 1) := by decide +kernel
theorem dX14_makeRound_155 : decode cX14_makeRound 155 = .ok (.iload 6, 2) := by decide +kernel
theorem dX14_makeRound_157 : decode cX14_makeRound 157 = .ok (.ixor, 1) := by decide +kernel
theorem dX14_makeRound_158 : decode cX14_makeRound 158 = .ok (.iastore, 1) := by decide +kernel
theorem dX14_makeRound_159 : decode cX14_makeRound 159 = .ok (.iinc 3 1, 3) := by decide +kernel
theorem dX14_makeRound_162 : decode cX14_makeRound 162 = .ok (.goto (-129), 3) := by decide +kernel
theorem dX14_makeRound_165 : decode cX14_makeRound 165 = .ok (.return_, 1) := by decide +kernel
theorem cwX14_makeRound : mw_cwV yX14_makeRound cX14_makeRound 7 (none) 1 := ⟨⟨wd_16, wd_3597, by decide +kernel⟩, wd_3596, sl_223⟩
set_option maxHeartbeats 4000000 in
set_option maxRecDepth 100000 in
theorem tX14_makeRound (l : Launch) (G : mwG) (ad : Nat → Nat) (fu : Nat) (a1 : Int32) (M : mwM) (L : mwL) {M0 : mwM} {L0 : mwL} (hD : DX14_makeRound fu a1 M L = some (M0, L0)) : Met l yX14_makeRound (Cond.code yX14_makeRound cX14_makeRound 7 (none) :: GT) ({ frames := 1, cells := 0, slots := 0, locals := 24 }) (mw_Pre G ad NF TF FF M L [.ref (ad 854), .int a1]) (mw_Qv G ad NF TF FF (mw_eqV M0 L0)) 0 0 (mw_fr G) := by
  refine mw_enter (by decide) (Nat.le_of_ble_eq_true rfl) ?_
  intro p e s m below meth c ls C hr hlocks hnm hw hl
  have hl : lv_has ls 7 [(0, .ref (ad 854)), (1, .int a1)] := hl
  have hh33 : ∀ (f : Nat) (v2 : Int32) (v3 : Int32) (M : mwM) (L : mwL) (H : Heap) (locs : List Loc) (ls : Array Slot), fX14_makeRound_h33 fu a1 f (v2, v3, M, L) = some (M0, L0) → mw_W G ad NF TF FF M L H locs → lv_has ls 7 [(0, .ref (ad 854)), (2, .int v2), (3, .int v3)] → W p l e ({ frames := 1, cells := 0, slots := 0, locals := 24 }) s m [.ref (ad 854), .int a1].toArray below meth c H locs 0 0 (MQ below (mw_Qv G ad NF TF FF (mw_eqV M0 L0)) [.ref (ad 854), .int a1].toArray s 0 0 (mw_fr G)) (F0 m 33 ls []) := by
    intro f
    induction f with
    | zero => intro v2 v3 M L H locs ls hD; cases hD
    | succ f33 ih33 =>
      intro v2 v3 M L H locs ls hD hw hl
      replace hD : fX14_makeRound_i33 fu a1 (fX14_makeRound_h33 fu a1 f33) v2 v3 M L = some (M0, L0) := hD
      have hb140 : ∀ (v3 : Int32) (v6 : Int32) (s0 : Int32) (M : mwM) (L : mwL) (H : Heap) (locs : List Loc) (ls : Array Slot), fX14_makeRound_b140 fu a1 (fX14_makeRound_h33 fu a1 f33) v3 v6 s0 M L = some (M0, L0) → mw_W G ad NF TF FF M L H locs → lv_has ls 7 [(0, .ref (ad 854)), (3, .int v3), (6, .int v6)] → W p l e ({ frames := 1, cells := 0, slots := 0, locals := 24 }) s m [.ref (ad 854), .int a1].toArray below meth c H locs 0 0 (MQ below (mw_Qv G ad NF TF FF (mw_eqV M0 L0)) [.ref (ad 854), .int a1].toArray s 0 0 (mw_fr G)) (F0 m 140 ls [.int s0]) := by
        intro v3 v6 s0 M L H locs ls hD hw hl
        unfold fX14_makeRound_b140 at hD
        refine lv_istore_n (lv' := [(2, .int s0), (0, .ref (ad 854)), (3, .int v3), (6, .int v6)]) C.1.1 C.1.2.1 dX14_makeRound_140 rfl hl (by decide) rfl (fun ls hl => ?_)
        refine lv_aload_n C.1.1 C.1.2.1 dX14_makeRound_141 rfl (lv_at hl 1 rfl) ?_
        refine mr_getR C hw kc_14 15 (by decide) tf_854 ff_854_15 wd_2280 dX14_makeRound_142 (by decide) rfl ?_
        refine lv_iload_n C.1.1 C.1.2.1 dX14_makeRound_145 rfl (lv_at hl 2 rfl) ?_
        refine lv_aload_n C.1.1 C.1.2.1 dX14_makeRound_146 rfl (lv_at hl 1 rfl) ?_
        refine mr_getR C hw kc_14 15 (by decide) tf_854 ff_854_15 wd_2280 dX14_makeRound_147 (by decide) rfl ?_
        refine lv_iload_n C.1.1 C.1.2.1 dX14_makeRound_150 rfl (lv_at hl 2 rfl) ?_
        refine lv_bipush (v := 16) C.1.1 C.1.2.1 dX14_makeRound_151 (by decide) ?_
        refine lv_isub C.1.1 C.1.2.1 dX14_makeRound_153 ?_
        obtain ⟨q25, hD⟩ := g_ck hD
        refine mr_iald C hw (by decide) tf_865 q25 dX14_makeRound_154 ?_
        refine lv_iload C.1.1 C.1.2.1 dX14_makeRound_155 (lv_at hl 3 rfl) ?_
        refine lv_ixor C.1.1 C.1.2.1 dX14_makeRound_157 ?_
        obtain ⟨q26, hD⟩ := g_ck hD
        obtain ⟨M27, eM27, hD⟩ := g_let hD
        refine mr_iast C hw (by decide) tf_865 q26 dX14_makeRound_158 (fun H locs hw => ?_)
        replace hw : mw_W G ad NF TF FF M27 L H locs := by rw [eM27]; exact hw
        obtain ⟨x28, ex28, hD⟩ := g_let hD
        refine lv_iinc (v := x28) (lv' := [(3, .int x28), (2, .int s0), (0, .ref (ad 854)), (6, .int v6)]) C.1.1 C.1.2.1 dX14_makeRound_159 hl (k := 2) rfl (by rw [ex28]; rfl) (by decide) rfl (fun ls hl => ?_)
        refine lv_goto (tgt := 33) C.1.1 C.1.2.1 dX14_makeRound_162 (by decide) ?_
        exact ih33 s0 x28 M27 L _ _ ls hD hw (lv_sub hl [2, 1, 0] rfl)
      have hb139 : ∀ (v2 : Int32) (v3 : Int32) (v6 : Int32) (M : mwM) (L : mwL) (H : Heap) (locs : List Loc) (ls : Array Slot), fX14_makeRound_b139 fu a1 (fX14_makeRound_h33 fu a1 f33) v2 v3 v6 M L = some (M0, L0) → mw_W G ad NF TF FF M L H locs → lv_has ls 7 [(0, .ref (ad 854)), (2, .int v2), (3, .int v3), (6, .int v6)] → W p l e ({ frames := 1, cells := 0, slots := 0, locals := 24 }) s m [.ref (ad 854), .int a1].toArray below meth c H locs 0 0 (MQ below (mw_Qv G ad NF TF FF (mw_eqV M0 L0)) [.ref (ad 854), .int a1].toArray s 0 0 (mw_fr G)) (F0 m 139 ls []) := by
        intro v2 v3 v6 M L H locs ls hD hw hl
        unfold fX14_makeRound_b139 at hD
        refine lv_iload_n C.1.1 C.1.2.1 dX14_makeRound_139 rfl (lv_at hl 1 rfl) ?_
        exact hb140 v3 v6 v2 M L _ _ ls hD hw (lv_sub hl [0, 2, 3] rfl)
      have hb119 : ∀ (v2 : Int32) (v3 : Int32) (v4 : Int32) (v5 : Int32) (s0 : Int32) (M : mwM) (L : mwL) (H : Heap) (locs : List Loc) (ls : Array Slot), fX14_makeRound_b119 fu a1 (fX14_makeRound_h33 fu a1 f33) v2 v3 v4 v5 s0 M L = some (M0, L0) → mw_W G ad NF TF FF M L H locs → lv_has ls 7 [(0, .ref (ad 854)), (2, .int v2), (3, .int v3), (4, .int v4), (5, .int v5)] → W p l e ({ frames := 1, cells := 0, slots := 0, locals := 24 }) s m [.ref (ad 854), .int a1].toArray below meth c H locs 0 0 (MQ below (mw_Qv G ad NF TF FF (mw_eqV M0 L0)) [.ref (ad 854), .int a1].toArray s 0 0 (mw_fr G)) (F0 m 119 ls [.int s0]) := by
        intro v2 v3 v4 v5 s0 M L H locs ls hD hw hl
        unfold fX14_makeRound_b119 at hD
        refine lv_istore (lv' := [(6, .int s0), (0, .ref (ad 854)), (2, .int v2), (3, .int v3), (4, .int v4), (5, .int v5)]) C.1.1 C.1.2.1 dX14_makeRound_119 hl (by decide) rfl (fun ls hl => ?_)
        refine lv_iload C.1.1 C.1.2.1 dX14_makeRound_121 (lv_at hl 5 rfl) ?_
        refine lv_if_eq (tgt := 139) C.1.1 C.1.2.1 dX14_makeRound_123 (by decide) (fun c20 => ?_) (fun c20 => ?_)
        · replace hD := g_pos c20 hD
          exact hb139 v2 v3 s0 M L _ _ ls hD hw (lv_sub hl [1, 2, 3, 0] rfl)
        · replace hD := g_neg c20 hD
          refine lv_iload C.1.1 C.1.2.1 dX14_makeRound_126 (lv_at hl 4 rfl) ?_
          refine lv_if_ne (tgt := 139) C.1.1 C.1.2.1 dX14_makeRound_128 (by decide) (fun c21 => ?_) (fun c21 => ?_)
          · replace hD := g_neg c21 hD
            exact hb139 v2 v3 s0 M L _ _ ls hD hw (lv_sub hl [1, 2, 3, 0] rfl)
          · replace hD := g_pos c21 hD
            refine lv_iload_n C.1.1 C.1.2.1 dX14_makeRound_131 rfl (lv_at hl 2 rfl) ?_
            refine lv_iconst (v := 2) C.1.1 C.1.2.1 dX14_makeRound_132 (by decide) ?_
            obtain ⟨r24, M22, L23, h1, hD⟩ := g_b3 hD
            refine md_csI (As := [.int v2, .int 2]) (rest := []) C hw (tX14_product l G ad fu v2 2 M L h1) wd_2263 cwX14_product ⟨Nat.le_of_ble_eq_true rfl, Nat.le_of_ble_eq_true rfl⟩ rfl hl.1 (Nat.le_of_ble_eq_true rfl) dX14_makeRound_133 rfl rfl ⟨Nat.zero_le _, Nat.zero_le _⟩ rfl (fun H locs hw => ?_)
            refine lv_goto (tgt := 140) C.1.1 C.1.2.1 dX14_makeRound_136 (by decide) ?_
            exact hb140 v3 s0 r24 M22 L23 _ _ ls hD hw (lv_sub hl [1, 3, 0] rfl)
      have hb117 : ∀ (v2 : Int32) (v3 : Int32) (v4 : Int32) (v5 : Int32) (v6 : Int32) (M : mwM) (L : mwL) (H : Heap) (locs : List Loc) (ls : Array Slot), fX14_makeRound_b117 fu a1 (fX14_makeRound_h33 fu a1 f33) v2 v3 v4 v5 v6 M L = some (M0, L0) → mw_W G ad NF TF FF M L H locs → lv_has ls 7 [(0, .ref (ad 854)), (2, .int v2), (3, .int v3), (4, .int v4), (5, .int v5), (6, .int v6)] → W p l e ({ frames := 1, cells := 0, slots := 0, locals := 24 }) s m [.ref (ad 854), .int a1].toArray below meth c H locs 0 0 (MQ below (mw_Qv G ad NF TF FF (mw_eqV M0 L0)) [.ref (ad 854), .int a1].toArray s 0 0 (mw_fr G)) (F0 m 117 ls []) := by
        intro v2 v3 v4 v5 v6 M L H locs ls hD hw hl
        unfold fX14_makeRound_b117 at hD
        refine lv_iload C.1.1 C.1.2.1 dX14_makeRound_117 (lv_at hl 5 rfl) ?_
        exact hb119 v2 v3 v4 v5 v6 M L _ _ ls hD hw (lv_sub hl [0, 1, 2, 3, 4] rfl)
      have hb98 : ∀ (v2 : Int32) (v3 : Int32) (v4 : Int32) (v5 : Int32) (s0 : Int32) (M : mwM) (L : mwL) (H : Heap) (locs : List Loc) (ls : Array Slot), fX14_makeRound_b98 fu a1 (fX14_makeRound_h33 fu a1 f33) v2 v3 v4 v5 s0 M L = some (M0, L0) → mw_W G ad NF TF FF M L H locs → lv_has ls 7 [(0, .ref (ad 854)), (2, .int v2), (3, .int v3), (4, .int v4), (5, .int v5)] → W p l e ({ frames := 1, cells := 0, slots := 0, locals := 24 }) s m [.ref (ad 854), .int a1].toArray below meth c H locs 0 0 (MQ below (mw_Qv G ad NF TF FF (mw_eqV M0 L0)) [.ref (ad 854), .int a1].toArray s 0 0 (mw_fr G)) (F0 m 98 ls [.int s0]) := by
        intro v2 v3 v4 v5 s0 M L H locs ls hD hw hl
        unfold fX14_makeRound_b98 at hD
        refine lv_istore (lv' := [(6, .int s0), (0, .ref (ad 854)), (2, .int v2), (3, .int v3), (4, .int v4), (5, .int v5)]) C.1.1 C.1.2.1 dX14_makeRound_98 hl (by decide) rfl (fun ls hl => ?_)
        refine lv_iload C.1.1 C.1.2.1 dX14_makeRound_100 (lv_at hl 5 rfl) ?_
        refine lv_if_eq (tgt := 117) C.1.1 C.1.2.1 dX14_makeRound_102 (by decide) (fun c18 => ?_) (fun c18 => ?_)
        · replace hD := g_pos c18 hD
          exact hb117 v2 v3 v4 v5 s0 M L _ _ ls hD hw (lv_sub hl [1, 2, 3, 4, 5, 0] rfl)
        · replace hD := g_neg c18 hD
          refine lv_iload C.1.1 C.1.2.1 dX14_makeRound_105 (lv_at hl 4 rfl) ?_
          refine lv_if_ne (tgt := 117) C.1.1 C.1.2.1 dX14_makeRound_107 (by decide) (fun c19 => ?_) (fun c19 => ?_)
          · replace hD := g_neg c19 hD
            exact hb117 v2 v3 v4 v5 s0 M L _ _ ls hD hw (lv_sub hl [1, 2, 3, 4, 5, 0] rfl)
          · replace hD := g_pos c19 hD
            refine lv_iload C.1.1 C.1.2.1 dX14_makeRound_110 (lv_at hl 0 rfl) ?_
            refine lv_iload_n C.1.1 C.1.2.1 dX14_makeRound_112 rfl (lv_at hl 2 rfl) ?_
            refine lv_ixor C.1.1 C.1.2.1 dX14_makeRound_113 ?_
            refine lv_goto (tgt := 119) C.1.1 C.1.2.1 dX14_makeRound_114 (by decide) ?_
            exact hb119 v2 v3 v4 v5 (s0 ^^^ v2) M L _ _ ls hD hw (lv_sub hl [1, 2, 3, 4, 5] rfl)
      have hb58 : ∀ (v2 : Int32) (v3 : Int32) (v4 : Int32) (s0 : Int32) (M : mwM) (L : mwL) (H : Heap) (locs : List Loc) (ls : Array Slot), fX14_makeRound_b58 fu a1 (fX14_makeRound_h33 fu a1 f33) v2 v3 v4 s0 M L = some (M0, L0) → mw_W G ad NF TF FF M L H locs → lv_has ls 7 [(0, .ref (ad 854)), (2, .int v2), (3, .int v3), (4, .int v4)] → W p l e ({ frames := 1, cells := 0, slots := 0, locals := 24 }) s m [.ref (ad 854), .int a1].toArray below meth c H locs 0 0 (MQ below (mw_Qv G ad NF TF FF (mw_eqV M0 L0)) [.ref (ad 854), .int a1].toArray s 0 0 (mw_fr G)) (F0 m 58 ls [.int s0]) := by
        intro v2 v3 v4 s0 M L H locs ls hD hw hl
        unfold fX14_makeRound_b58 at hD
        refine lv_istore (lv' := [(5, .int s0), (0, .ref (ad 854)), (2, .int v2), (3, .int v3), (4, .int v4)]) C.1.1 C.1.2.1 dX14_makeRound_58 hl (by decide) rfl (fun ls hl => ?_)
        refine lv_iload C.1.1 C.1.2.1 dX14_makeRound_60 (lv_at hl 0 rfl) ?_
        refine lv_if_eq (tgt := 90) C.1.1 C.1.2.1 dX14_makeRound_62 (by decide) (fun c11 => ?_) (fun c11 => ?_)
        · replace hD := g_pos c11 hD
          refine lv_aload_n C.1.1 C.1.2.1 dX14_makeRound_90 rfl (lv_at hl 1 rfl) ?_
          refine mr_getR C hw kc_14 15 (by decide) tf_854 ff_854_15 wd_2280 dX14_makeRound_91 (by decide) rfl ?_
          refine lv_iload_n C.1.1 C.1.2.1 dX14_makeRound_94 rfl (lv_at hl 3 rfl) ?_
          refine lv_iconst (v := 4) C.1.1 C.1.2.1 dX14_makeRound_95 (by decide) ?_
          refine lv_isub C.1.1 C.1.2.1 dX14_makeRound_96 ?_
          obtain ⟨q12, hD⟩ := g_ck hD
          refine mr_iald C hw (by decide) tf_865 q12 dX14_makeRound_97 ?_
          exact hb98 v2 v3 v4 s0 (M 865 (v3 - 4).toNatClampNeg) M L _ _ ls hD hw (lv_sub hl [1, 2, 3, 4, 0] rfl)
        · replace hD := g_neg c11 hD
          refine lv_aload_n C.1.1 C.1.2.1 dX14_makeRound_65 rfl (lv_at hl 1 rfl) ?_
          refine lv_aload_n C.1.1 C.1.2.1 dX14_makeRound_66 rfl (lv_at hl 1 rfl) ?_
          refine mr_getR C hw kc_14 15 (by decide) tf_854 ff_854_15 wd_2280 dX14_makeRound_67 (by decide) rfl ?_
          refine lv_iload_n C.1.1 C.1.2.1 dX14_makeRound_70 rfl (lv_at hl 3 rfl) ?_
          refine lv_iconst (v := 4) C.1.1 C.1.2.1 dX14_makeRound_71 (by decide) ?_
          refine lv_isub C.1.1 C.1.2.1 dX14_makeRound_72 ?_
          refine lv_iload C.1.1 C.1.2.1 dX14_makeRound_73 (lv_at hl 4 rfl) ?_
          refine lv_isub C.1.1 C.1.2.1 dX14_makeRound_75 ?_
          refine lv_iload C.1.1 C.1.2.1 dX14_makeRound_76 (lv_at hl 4 rfl) ?_
          refine lv_iconst (v := 1) C.1.1 C.1.2.1 dX14_makeRound_78 (by decide) ?_
          refine lv_iadd C.1.1 C.1.2.1 dX14_makeRound_79 ?_
          refine lv_iconst (v := 4) C.1.1 C.1.2.1 dX14_makeRound_80 (by decide) ?_
          refine lv_irem C.1.1 C.1.2.1 dX14_makeRound_81 (by decide) ?_
          refine lv_iadd C.1.1 C.1.2.1 dX14_makeRound_82 ?_
          obtain ⟨q14, hD⟩ := g_ck hD
          refine mr_iald C hw (by decide) tf_865 q14 dX14_makeRound_83 ?_
          obtain ⟨r17, M15, L16, h1, hD⟩ := g_b3 hD
          refine md_cvI (As := [.int (M 865 (((v3 - 4) - v4) + ((v4 + 1) - (v4 + 1) / 4 * 4)).toNatClampNeg)]) (rest := []) C hw (tX14_substitute l G ad fu (M 865 (((v3 - 4) - v4) + ((v4 + 1) - (v4 + 1) / 4 * 4)).toNatClampNeg) M L h1) kc_14 (by decide) tf_854 wd_3598 cwX14_substitute ⟨Nat.le_of_ble_eq_true rfl, Nat.le_of_ble_eq_true rfl⟩ rfl hl.1 (Nat.le_of_ble_eq_true rfl) dX14_makeRound_84 rfl rfl ⟨Nat.zero_le _, Nat.zero_le _⟩ rfl (fun H locs hw => ?_)
          refine lv_goto (tgt := 98) C.1.1 C.1.2.1 dX14_makeRound_87 (by decide) ?_
          exact hb98 v2 v3 v4 s0 r17 M15 L16 _ _ ls hD hw (lv_sub hl [1, 2, 3, 4, 0] rfl)
      unfold fX14_makeRound_i33 at hD
      refine lv_iload_n C.1.1 C.1.2.1 dX14_makeRound_33 rfl (lv_at hl 2 rfl) ?_
      refine lv_sipush (v := 176) C.1.1 C.1.2.1 dX14_makeRound_34 (by decide) ?_
      refine lv_icmp_ge (tgt := 165) C.1.1 C.1.2.1 dX14_makeRound_37 (by decide) (fun c6 => ?_) (fun c6 => ?_)
      · replace hD := g_pos c6 hD
        exact mr_vret C hr hlocks hw (Option.some.inj hD) dX14_makeRound_165
      · replace hD := g_neg c6 hD
        refine lv_iload_n C.1.1 C.1.2.1 dX14_makeRound_40 rfl (lv_at hl 2 rfl) ?_
        refine lv_iconst (v := 4) C.1.1 C.1.2.1 dX14_makeRound_41 (by decide) ?_
        refine lv_irem C.1.1 C.1.2.1 dX14_makeRound_42 (by decide) ?_
        obtain ⟨x8, ex8, hD⟩ := g_let hD
        refine W.eq (g2 := F0 m 43 ls (.int x8 :: [])) (by rw [ex8]) ?_
        refine lv_istore (lv' := [(4, .int x8), (0, .ref (ad 854)), (2, .int v2), (3, .int v3)]) C.1.1 C.1.2.1 dX14_makeRound_43 hl (by decide) rfl (fun ls hl => ?_)
        refine lv_iload_n C.1.1 C.1.2.1 dX14_makeRound_45 rfl (lv_at hl 3 rfl) ?_
        refine lv_bipush (v := 16) C.1.1 C.1.2.1 dX14_makeRound_46 (by decide) ?_
        refine lv_irem C.1.1 C.1.2.1 dX14_makeRound_48 (by decide) ?_
        refine lv_iconst (v := 4) C.1.1 C.1.2.1 dX14_makeRound_49 (by decide) ?_
        refine lv_icmp_ge (tgt := 57) C.1.1 C.1.2.1 dX14_makeRound_50 (by decide) (fun c10 => ?_) (fun c10 => ?_)
        · replace hD := g_pos c10 hD
          refine lv_iconst (v := 0) C.1.1 C.1.2.1 dX14_makeRound_57 (by decide) ?_
          exact hb58 v2 v3 x8 0 M L _ _ ls hD hw (lv_sub hl [1, 2, 3, 0] rfl)
        · replace hD := g_neg c10 hD
          refine lv_iconst (v := 1) C.1.1 C.1.2.1 dX14_makeRound_53 (by decide) ?_
          refine lv_goto (tgt := 58) C.1.1 C.1.2.1 dX14_makeRound_54 (by decide) ?_
          exact hb58 v2 v3 x8 1 M L _ _ ls hD hw (lv_sub hl [1, 2, 3, 0] rfl)
  have hh2 : ∀ (f : Nat) (v2 : Int32) (M : mwM) (L : mwL) (H : Heap) (locs : List Loc) (ls : Array Slot), fX14_makeRound_h2 fu a1 f (v2, M, L) = some (M0, L0) → mw_W G ad NF TF FF M L H locs → lv_has ls 7 [(0, .ref (ad 854)), (1, .int a1), (2, .int v2)] → W p l e ({ frames := 1, cells := 0, slots := 0, locals := 24 }) s m [.ref (ad 854), .int a1].toArray below meth c H locs 0 0 (MQ below (mw_Qv G ad NF TF FF (mw_eqV M0 L0)) [.ref (ad 854), .int a1].toArray s 0 0 (mw_fr G)) (F0 m 2 ls []) := by
    intro f
    induction f with
    | zero => intro v2 M L H locs ls hD; cases hD
    | succ f2 ih2 =>
      intro v2 M L H locs ls hD hw hl
      replace hD : fX14_makeRound_i2 fu a1 (fX14_makeRound_h2 fu a1 f2) v2 M L = some (M0, L0) := hD
      unfold fX14_makeRound_i2 at hD
      refine lv_iload_n C.1.1 C.1.2.1 dX14_makeRound_2 rfl (lv_at hl 2 rfl) ?_
      refine lv_bipush (v := 16) C.1.1 C.1.2.1 dX14_makeRound_3 (by decide) ?_
      refine lv_icmp_ge (tgt := 28) C.1.1 C.1.2.1 dX14_makeRound_5 (by decide) (fun c1 => ?_) (fun c1 => ?_)
      · replace hD := g_pos c1 hD
        refine lv_iconst (v := 1) C.1.1 C.1.2.1 dX14_makeRound_28 (by decide) ?_
        refine lv_istore_n (lv' := [(2, .int 1), (0, .ref (ad 854)), (1, .int a1)]) C.1.1 C.1.2.1 dX14_makeRound_29 rfl hl (by decide) rfl (fun ls hl => ?_)
        refine lv_bipush (v := 16) C.1.1 C.1.2.1 dX14_makeRound_30 (by decide) ?_
        refine lv_istore_n (lv' := [(3, .int 16), (2, .int 1), (0, .ref (ad 854)), (1, .int a1)]) C.1.1 C.1.2.1 dX14_makeRound_32 rfl hl (by decide) rfl (fun ls hl => ?_)
        exact hh33 fu 1 16 M L _ _ ls hD hw (lv_sub hl [2, 1, 0] rfl)
      · replace hD := g_neg c1 hD
        refine lv_aload_n C.1.1 C.1.2.1 dX14_makeRound_8 rfl (lv_at hl 0 rfl) ?_
        refine mr_getR C hw kc_14 15 (by decide) tf_854 ff_854_15 wd_2280 dX14_makeRound_9 (by decide) rfl ?_
        refine lv_iload_n C.1.1 C.1.2.1 dX14_makeRound_12 rfl (lv_at hl 2 rfl) ?_
        refine lv_aload_n C.1.1 C.1.2.1 dX14_makeRound_13 rfl (lv_at hl 0 rfl) ?_
        refine mr_getR C hw kc_14 2 (by decide) tf_854 ff_854_2 wd_2268 dX14_makeRound_14 (by decide) rfl ?_
        refine lv_iload_n C.1.1 C.1.2.1 dX14_makeRound_17 rfl (lv_at hl 1 rfl) ?_
        refine lv_iload_n C.1.1 C.1.2.1 dX14_makeRound_18 rfl (lv_at hl 2 rfl) ?_
        refine lv_iadd C.1.1 C.1.2.1 dX14_makeRound_19 ?_
        obtain ⟨q2, hD⟩ := g_ck hD
        refine mr_iald C hw (by decide) tf_855 q2 dX14_makeRound_20 ?_
        obtain ⟨q3, hD⟩ := g_ck hD
        obtain ⟨M4, eM4, hD⟩ := g_let hD
        refine mr_iast C hw (by decide) tf_865 q3 dX14_makeRound_21 (fun H locs hw => ?_)
        replace hw : mw_W G ad NF TF FF M4 L H locs := by rw [eM4]; exact hw
        obtain ⟨x5, ex5, hD⟩ := g_let hD
        refine lv_iinc (v := x5) (lv' := [(2, .int x5), (0, .ref (ad 854)), (1, .int a1)]) C.1.1 C.1.2.1 dX14_makeRound_22 hl (k := 2) rfl (by rw [ex5]; rfl) (by decide) rfl (fun ls hl => ?_)
        refine lv_goto (tgt := 2) C.1.1 C.1.2.1 dX14_makeRound_25 (by decide) ?_
        exact ih2 x5 M4 L _ _ ls hD hw (lv_sub hl [1, 2, 0] rfl)
  unfold DX14_makeRound at hD
  refine lv_iconst (v := 0) C.1.1 C.1.2.1 dX14_makeRound_0 (by decide) ?_
  refine lv_istore_n (lv' := [(2, .int 0), (0, .ref (ad 854)), (1, .int a1)]) C.1.1 C.1.2.1 dX14_makeRound_1 rfl hl (by decide) rfl (fun ls hl => ?_)
  exact hh2 fu 0 M L _ _ ls hD hw (lv_sub hl [1, 2, 0] rfl)

theorem dX14_cipher_0 : decode cX14_cipher 0 = .ok (.aload_n 0, 1) := by decide +kernel
theorem dX14_cipher_1 : decode cX14_cipher 1 = .ok (.iload_n 1, 1) := by decide +kernel
theorem dX14_cipher_2 : decode cX14_cipher 2 = .ok (.invokevirtual 72, 3) := by decide +kernel
theorem dX14_cipher_5 : decode cX14_cipher 5 = .ok (.iconst 0, 1) := by decide +kernel
theorem dX14_cipher_6 : decode cX14_cipher 6 = .ok (.istore_n 2, 1) := by decide +kernel
theorem dX14_cipher_7 : decode cX14_cipher 7 = .ok (.iload_n 2, 1) := by decide +kernel
theorem dX14_cipher_8 : decode cX14_cipher 8 = .ok (.bipush 16, 2) := by decide +kernel
theorem dX14_cipher_10 : decode cX14_cipher 10 = .ok (.if_icmp .ge 28, 3) := by decide +kernel
theorem dX14_cipher_13 : decode cX14_cipher 13 = .ok (.aload_n 0, 1) := by decide +kernel
theorem dX14_cipher_14 : decode cX14_cipher 14 = .ok (.getfield 36, 3) := by decide +kernel
theorem dX14_cipher_17 : decode cX14_cipher 17 = .ok (.iload_n 2, 1) := by decide +kernel
theorem dX14_cipher_18 : decode cX14_cipher 18 = .ok (.aload_n 0, 1) := by decide +kernel
theorem dX14_cipher_19 : decode cX14_cipher 19 = .ok (.getfield 36, 3) := by decide +kernel
theorem dX14_cipher_22 : decode cX14_cipher 22 = .ok (.iload_n 2, 1) := by decide +kernel
theorem dX14_cipher_23 : decode cX14_cipher 23 = .ok (.iaload, 1) := by decide +kernel
theorem dX14_cipher_24 : decode cX14_cipher 24 = .ok (.aload_n 0, 1) := by decide +kernel
theorem dX14_cipher_25 : decode cX14_cipher 25 = .ok (.getfield 42, 3) := by decide +kernel
theorem dX14_cipher_28 : decode cX14_cipher 28 = .ok (.iload_n 2, 1) := by decide +kernel
theorem dX14_cipher_29 : decode cX14_cipher 29 = .ok (.iaload, 1) := by decide +kernel
theorem dX14_cipher_30 : decode cX14_cipher 30 = .ok (.ixor, 1) := by decide +kernel
theorem dX14_cipher_31 : decode cX14_cipher 31 = .ok (.iastore, 1) := by decide +kernel
theorem dX14_cipher_32 : decode cX14_cipher 32 = .ok (.iinc 2 1, 3) := by decide +kernel
theorem dX14_cipher_35 : decode cX14_cipher 35 = .ok (.goto (-28), 3) := by decide +kernel
theorem dX14_cipher_38 : decode cX14_cipher 38 = .ok (.iconst 1, 1) := by decide +kernel
theorem dX14_cipher_39 : decode cX14_cipher 39 = .ok (.istore_n 2, 1) := by decide +kernel
theorem dX14_cipher_40 : decode cX14_cipher 40 = .ok (.iload_n 2, 1) := by decide +kernel
theorem dX14_cipher_41 : decode cX14_cipher 41 = .ok (.bipush 11, 2) := by decide +kernel
theorem dX14_cipher_43 : decode cX14_cipher 43 = .ok (.if_icmp .ge 205, 3) := by decide +kernel
theorem dX14_cipher_46 : decode cX14_cipher 46 = .ok (.iconst 0, 1) := by decide +kernel
theorem dX14_cipher_47 : decode cX14_cipher 47 = .ok (.istore_n 3, 1) := by decide +kernel
theorem dX14_cipher_48 : decode cX14_cipher 48 = .ok (.iload_n 3, 1) := by decide +kernel
theorem dX14_cipher_49 : decode cX14_cipher 49 = .ok (.iconst 4, 1) := by decide +kernel
theorem dX14_cipher_50 : decode cX14_cipher 50 = .ok (.if_icmp .ge 55, 3) := by decide +kernel
theorem dX14_cipher_53 : decode cX14_cipher 53 = .ok (.iconst 0, 1) := by decide +kernel
theorem dX14_cipher_54 : decode cX14_cipher 54 = .ok (.istore 4, 2) := by decide +kernel
theorem dX14_cipher_56 : decode cX14_cipher 56 = .ok (.iload 4, 2) := by decide +kernel
theorem dX14_cipher_58 : decode cX14_cipher 58 = .ok (.iconst 4, 1) := by decide +kernel
theorem dX14_cipher_59 : decode cX14_cipher 59 = .ok (.if_icmp .ge 40, 3) := by decide +kernel
theorem dX14_cipher_62 : decode cX14_cipher 62 = .ok (.aload_n 0, 1) := by decide +kernel
theorem dX14_cipher_63 : decode cX14_cipher 63 = .ok (.getfield 39, 3) := by decide +kernel
theorem dX14_cipher_66 : decode cX14_cipher 66 = .ok (.iconst 4, 1) := by decide +kernel
theorem dX14_cipher_67 : decode cX14_cipher 67 = .ok (.iload_n 3, 1) := by decide +kernel
theorem dX14_cipher_68 : decode cX14_cipher 68 = .ok (.imul, 1) := by decide +kernel
theorem dX14_cipher_69 : decode cX14_cipher 69 = .ok (.iload 4, 2) := by decide +kernel
theorem dX14_cipher_71 : decode cX14_cipher 71 = .ok (.iadd, 1) := by decide +kernel
theorem dX14_cipher_72 : decode cX14_cipher 72 = .ok (.aload_n 0, 1) := by decide +kernel
theorem dX14_cipher_73 : decode cX14_cipher 73 = .ok (.aload_n 0, 1) := by decide +kernel
theorem dX14_cipher_74 : decode cX14_cipher 74 = .ok (.getfield 36, 3) := by decide +kernel
theorem dX14_cipher_77 : decode cX14_cipher 77 = .ok (.iconst 4, 1) := by decide +kernel
theorem dX14_cipher_78 : decode cX14_cipher 78 = .ok (.iload_n 3, 1) := by decide +kernel
theorem dX14_cipher_79 : decode cX14_cipher 79 = .ok (.iload 4, 2) := by decide +kernel
theorem dX14_cipher_81 : decode cX14_cipher 81 = .ok (.iadd, 1) := by decide +kernel
theorem dX14_cipher_82 : decode cX14_cipher 82 = .ok (.iconst 4, 1) := by decide +kernel
theorem dX14_cipher_83 : decode cX14_cipher 83 = .ok (.irem, 1) := by decide +kernel
theorem dX14_cipher_84 : decode cX14_cipher 84 = .ok (.imul, 1) := by decide +kernel
theorem dX14_cipher_85 : decode cX14_cipher 85 = .ok (.iload 4, 2) := by decide +kernel
theorem dX14_cipher_87 : decode cX14_cipher 87 = .ok (.iadd, 1) := by decide +kernel
theorem dX14_cipher_88 : decode cX14_cipher 88 = .ok (.iaload, 1) := by decide +kernel
theorem dX14_cipher_89 : decode cX14_cipher 89 = .ok (.invokevirtual 69, 3) := by decide +kernel
theorem dX14_cipher_92 : decode cX14_cipher 92 = .ok (.iastore, 1) := by decide +kernel
theorem dX14_cipher_93 : decode cX14_cipher 93 = .ok (.iinc 4 1, 3) := by decide +kernel
theorem dX14_cipher_96 : decode cX14_cipher 96 = .ok (.goto (-40), 3) := by decide +kernel
theorem dX14_cipher_99 : decode cX14_cipher 99 = .ok (.iinc 3 1, 3) := by decide +kernel
theorem dX14_cipher_102 : decode cX14_cipher 102 = .ok (.goto (-54), 3) := by decide +kernel
theorem dX14_cipher_105 : decode cX14_cipher 105 = .ok (.iconst 0, 1) := by decide +kernel
theorem dX14_cipher_106 : decode cX14_cipher 106 = .ok (.istore_n 3, 1) := by decide +kernel
theorem dX14_cipher_107 : decode cX14_cipher 107 = .ok (.iload_n 3, 1) := by decide +kernel
theorem dX14_cipher_108 : decode cX14_cipher 108 = .ok (.iconst 4, 1) := by decide +kernel
theorem dX14_cipher_109 : decode cX14_cipher 109 = .ok (.if_icmp .ge 133, 3) := by decide +kernel
theorem dX14_cipher_112 : decode cX14_cipher 112 = .ok (.iconst 0, 1) := by decide +kernel
theorem dX14_cipher_113 : decode cX14_cipher 113 = .ok (.istore 4, 2) := by decide +kernel
theorem dX14_cipher_115 : decode cX14_cipher 115 = .ok (.iload 4, 2) := by decide +kernel
theorem dX14_cipher_117 : decode cX14_cipher 117 = .ok (.iconst 4, 1) := by decide +kernel
theorem dX14_cipher_118 : decode cX14_cipher 118 = .ok (.if_icmp .ge 118, 3) := by decide +kernel
theorem dX14_cipher_121 : decode cX14_cipher 121 = .ok (.aload_n 0, 1) := by decide +kernel
theorem dX14_cipher_122 : decode cX14_cipher 122 = .ok (.getfield 39, 3) := by decide +kernel
theorem dX14_cipher_125 : decode cX14_cipher 125 = .ok (.iconst 4, 1) := by decide +kernel
theorem dX14_cipher_126 : decode cX14_cipher 126 = .ok (.iload_n 3, 1) := by decide +kernel
theorem dX14_cipher_127 : decode cX14_cipher 127 = .ok (.imul, 1) := by decide +kernel
theorem dX14_cipher_128 : decode cX14_cipher 128 = .ok (.iload 4, 2) := by decide +kernel
theorem dX14_cipher_130 : decode cX14_cipher 130 = .ok (.iadd, 1) := by decide +kernel
theorem dX14_cipher_131 : decode cX14_cipher 131 = .ok (.iaload, 1) := by decide +kernel
theorem dX14_cipher_132 : decode cX14_cipher 132 = .ok (.istore 5, 2) := by decide +kernel
theorem dX14_cipher_134 : decode cX14_cipher 134 = .ok (.iload_n 2, 1) := by decide +kernel
theorem dX14_cipher_135 : decode cX14_cipher 135 = .ok (.bipush 10, 2) := by decide +kernel
theorem dX14_cipher_137 : decode cX14_cipher 137 = .ok (.if_icmp .ge 63, 3) := by decide +kernel
theorem dX14_cipher_140 : decode cX14_cipher 140 = .ok (.iload 5, 2) := by decide +kernel
theorem dX14_cipher_142 : decode cX14_cipher 142 = .ok (.iconst 2, 1) := by decide +kernel
theorem dX14_cipher_143 : decode cX14_cipher 143 = .ok (.invokestatic 65, 3) := by decide +kernel
theorem dX14_cipher_146 : decode cX14_cipher 146 = .ok (.aload_n 0, 1) := by decide +kernel
theorem dX14_cipher_147 : decode cX14_cipher 147 = .ok (.getfield 39, 3) := by decide +kernel
theorem dX14_cipher_150 : decode cX14_cipher 150 = .ok (.iconst 4, 1) := by decide +kernel
theorem dX14_cipher_151 : decode cX14_cipher 151 = .ok (.iload_n 3, 1) := by decide +kernel
theorem dX14_cipher_152 : decode cX14_cipher 152 = .ok (.imul, 1) := by decide +kernel
theorem dX14_cipher_153 : decode cX14_cipher 153 = .ok (.iload 4, 2) := by decide +kernel
theorem dX14_cipher_155 : decode cX14_cipher 155 = .ok (.iconst 1, 1) := by decide +kernel
theorem dX14_cipher_156 : decode cX14_cipher 156 = .ok (.iadd, 1) := by decide +kernel
theorem dX14_cipher_157 : decode cX14_cipher 157 = .ok (.iconst 4, 1) := by decide +kernel
theorem dX14_cipher_158 : decode cX14_cipher 158 = .ok (.irem, 1) := by decide +kernel
theorem dX14_cipher_159 : decode cX14_cipher 159 = .ok (.iadd, 1) := by decide +kernel
theorem dX14_cipher_160 : decode cX14_cipher 160 = .ok (.iaload, 1) := by decide +kernel
theorem dX14_cipher_161 : decode cX14_cipher 161 = .ok (.iconst 3, 1) := by decide +kernel
theorem dX14_cipher_162 : decode cX14_cipher 162 = .ok (.invokestatic 65, 3) := by decide +kernel
theorem dX14_cipher_165 : decode cX14_cipher 165 = .ok (.ixor, 1) := by decide +kernel
theorem dX14_cipher_166 : decode cX14_cipher 166 = .ok (.aload_n 0, 1) := by decide +kernel
theorem dX14_cipher_167 : decode cX14_cipher 167 = .ok (.getfield 39, 3) := by decide +kernel
theorem dX14_cipher_170 : decode cX14_cipher 170 = .ok (.iconst 4, 1) := by decide +kernel
theorem dX14_cipher_171 : decode cX14_cipher 171 = .ok (.iload_n 3, 1) := by decide +kernel
theorem dX14_cipher_172 : decode cX14_cipher 172 = .ok (.imul, 1) := by decide +kernel
theorem dX14_cipher_173 : decode cX14_cipher 173 = .ok (.iload 4, 2) := by decide +kernel
theorem dX14_cipher_175 : decode cX14_cipher 175 = .ok (.iconst 2, 1) := by decide +kernel
theorem dX14_cipher_176 : decode cX14_cipher 176 = .ok (.iadd, 1) := by decide +kernel
theorem dX14_cipher_177 : decode cX14_cipher 177 = .ok (.iconst 4, 1) := by decide +kernel
theorem dX14_cipher_178 : decode cX14_cipher 178 = .ok (.irem, 1) := by decide +kernel
theorem dX14_cipher_179 : decode cX14_cipher 179 = .ok (.iadd, 1) := by decide +kernel
theorem dX14_cipher_180 : decode cX14_cipher 180 = .ok (.iaload, 1) := by decide +kernel
theorem dX14_cipher_181 : decode cX14_cipher 181 = .ok (.ixor, 1) := by decide +kernel
theorem dX14_cipher_182 : decode cX14_cipher 182 = .ok (.aload_n 0, 1) := by decide +kernel
theorem dX14_cipher_183 : decode cX14_cipher 183 = .ok (.getfield 39, 3) := by decide +kernel
theorem dX14_cipher_186 : decode cX14_cipher 186 = .ok (.iconst 4, 1) := by decide +kernel
theorem dX14_cipher_187 : decode cX14_cipher 187 = .ok (.iload_n 3, 1) := by decide +kernel
theorem dX14_cipher_188 : decode cX14_cipher 188 = .ok (.imul, 1) := by decide +kernel
theorem dX14_cipher_189 : decode cX14_cipher 189 = .ok (.iload 4, 2) := by decide +kernel
theorem dX14_cipher_191 : decode cX14_cipher 191 = .ok (.iconst 3, 1) := by decide +kernel
theorem dX14_cipher_192 : decode cX14_cipher 192 = .ok (.iadd, 1) := by decide +kernel
theorem dX14_cipher_193 : decode cX14_cipher 193 = .ok (.iconst 4, 1) := by decide +kernel
theorem dX14_cipher_194 : decode cX14_cipher 194 = .ok (.irem, 1) := by decide +kernel
theorem dX14_cipher_195 : decode cX14_cipher 195 = .ok (.iadd, 1) := by decide +kernel
theorem dX14_cipher_196 : decode cX14_cipher 196 = .ok (.iaload, 1) := by decide +kernel
theorem dX14_cipher_197 : decode cX14_cipher 197 = .ok (.ixor, 1) := by decide +kernel
theorem dX14_cipher_198 : decode cX14_cipher 198 = .ok (.istore 5, 2) := by decide +kernel
theorem dX14_cipher_200 : decode cX14_cipher 200 = .ok (.aload_n 0, 1) := by decide +kernel
theorem dX14_cipher_201 : decode cX14_cipher 201 = .ok (.getfield 36, 3) := by decide +kernel
theorem dX14_cipher_204 : decode cX14_cipher 204 = .ok (.iconst 4, 1) := by decide +kernel
theorem dX14_cipher_205 : decode cX14_cipher 205 = .ok (.iload_n 3, 1) := by decide +kernel
theorem dX14_cipher_206 : decode cX14_cipher 206 = .ok (.imul, 1) := by decide +kernel
theorem dX14_cipher_207 : decode cX14_cipher 207 = .ok (.iload 4, 2) := by decide +kernel
theorem dX14_cipher_209 : decode cX14_cipher 209 = .ok (.iadd, 1) := by decide +kernel
theorem dX14_cipher_210 : decode cX14_cipher 210 = .ok (.iload 5, 2) := by decide +kernel
theorem dX14_cipher_212 : decode cX14_cipher 212 = .ok (.aload_n 0, 1) := by decide +kernel
theorem dX14_cipher_213 : decode cX14_cipher 213 = .ok (.getfield 42, 3) := by decide +kernel
theorem dX14_cipher_216 : decode cX14_cipher 216 = .ok (.bipush 16, 2) := by decide +kernel
theorem dX14_cipher_218 : decode cX14_cipher 218 = .ok (.iload_n 2, 1) := by decide +kernel
theorem dX14_cipher_219 : decode cX14_cipher 219 = .ok (.imul, 1) := by decide +kernel
theorem dX14_cipher_220 : decode cX14_cipher 220 = .ok (.iconst 4, 1) := by decide +kernel
theorem dX14_cipher_221 : decode cX14_cipher 221 = .ok (.iload_n 3, 1) := by decide +kernel
theorem dX14_cipher_222 : decode cX14_cipher 222 = .ok (.imul, 1) := by decide +kernel
theorem dX14_cipher_223 : decode cX14_cipher 223 = .ok (.iadd, 1) := by decide +kernel
theorem dX14_cipher_224 : decode cX14_cipher 224 = .ok (.iload 4, 2) := by decide +kernel
theorem dX14_cipher_226 : decode cX14_cipher 226 = .ok (.iadd, 1) := by decide +kernel
theorem dX14_cipher_227 : decode cX14_cipher 227 = .ok (.iaload, 1) := by decide +kernel
theorem dX14_cipher_228 : decode cX14_cipher 228 = .ok (.ixor, 1) := by decide +kernel
theorem dX14_cipher_229 : decode cX14_cipher 229 = .ok (.iastore, 1) := by decide +kernel
theorem dX14_cipher_230 : decode cX14_cipher 230 = .ok (.iinc 4 1, 3) := by decide +kernel
theorem dX14_cipher_233 : decode cX14_cipher 233 = .ok (.goto (-118), 3) := by decide +kernel
theorem dX14_cipher_236 : decode cX14_cipher 236 = .ok (.iinc 3 1, 3) := by decide +kernel
theorem dX14_cipher_239 : decode cX14_cipher 239 = .ok (.goto (-132), 3) := by decide +kernel
theorem dX14_cipher_242 : decode cX14_cipher 242 = .ok (.iinc 2 1, 3) := by decide +kernel
theorem dX14_cipher_245 : decode cX14_cipher 245 = .ok (.goto (-205), 3) := by decide +kernel
theorem dX14_cipher_248 : decode cX14_cipher 248 = .ok (.return_, 1) := by decide +kernel
theorem cwX14_cipher : mw_cwV yX14_cipher cX14_cipher 6 (none) 1 := ⟨⟨wd_16, wd_3593, by decide +kernel⟩, wd_3592, sl_222⟩
set_option maxHeartbeats 4000000 in
set_option maxRecDepth 100000 in
theorem tX14_cipher (l : Launch) (G : mwG) (ad : Nat → Nat) (fu : Nat) (a1 : Int32) (M : mwM) (L : mwL) {M0 : mwM} {L0 : mwL} (hD : DX14_cipher fu a1 M L = some (M0, L0)) : Met l yX14_cipher (Cond.code yX14_cipher cX14_cipher 6 (none) :: GT) ({ frames := 2, cells := 0, slots := 0, locals := 50 }) (mw_Pre G ad NF TF FF M L [.ref (ad 854), .int a1]) (mw_Qv G ad NF TF FF (mw_eqV M0 L0)) 0 0 (mw_fr G) := by
  refine mw_enter (by decide) (Nat.le_of_ble_eq_true rfl) ?_
  intro p e s m below meth c ls C hr hlocks hnm hw hl
  have hl : lv_has ls 6 [(0, .ref (ad 854)), (1, .int a1)] := hl
  have hh40 : ∀ (f : Nat) (v2 : Int32) (M : mwM) (L : mwL) (H : Heap) (locs : List Loc) (ls : Array Slot), fX14_cipher_h40 fu a1 f (v2, M, L) = some (M0, L0) → mw_W G ad NF TF FF M L H locs → lv_has ls 6 [(0, .ref (ad 854)), (2, .int v2)] → W p l e ({ frames := 2, cells := 0, slots := 0, locals := 50 }) s m [.ref (ad 854), .int a1].toArray below meth c H locs 0 0 (MQ below (mw_Qv G ad NF TF FF (mw_eqV M0 L0)) [.ref (ad 854), .int a1].toArray s 0 0 (mw_fr G)) (F0 m 40 ls []) := by
    intro f
    induction f with
    | zero => intro v2 M L H locs ls hD; cases hD
    | succ f40 ih40 =>
      intro v2 M L H locs ls hD hw hl
      replace hD : fX14_cipher_i40 fu a1 (fX14_cipher_h40 fu a1 f40) v2 M L = some (M0, L0) := hD
      have hh107 : ∀ (f : Nat) (v2 : Int32) (v3 : Int32) (M : mwM) (L : mwL) (H : Heap) (locs : List Loc) (ls : Array Slot), fX14_cipher_h107 fu a1 (fX14_cipher_h40 fu a1 f40) f (v2, v3, M, L) = some (M0, L0) → mw_W G ad NF TF FF M L H locs → lv_has ls 6 [(0, .ref (ad 854)), (2, .int v2), (3, .int v3)] → W p l e ({ frames := 2, cells := 0, slots := 0, locals := 50 }) s m [.ref (ad 854), .int a1].toArray below meth c H locs 0 0 (MQ below (mw_Qv G ad NF TF FF (mw_eqV M0 L0)) [.ref (ad 854), .int a1].toArray s 0 0 (mw_fr G)) (F0 m 107 ls []) := by
        intro f
        induction f with
        | zero => intro v2 v3 M L H locs ls hD; cases hD
        | succ f107 ih107 =>
          intro v2 v3 M L H locs ls hD hw hl
          replace hD : fX14_cipher_i107 fu a1 (fX14_cipher_h40 fu a1 f40) (fX14_cipher_h107 fu a1 (fX14_cipher_h40 fu a1 f40) f107) v2 v3 M L = some (M0, L0) := hD
          have hh115 : ∀ (f : Nat) (v2 : Int32) (v3 : Int32) (v4 : Int32) (M : mwM) (L : mwL) (H : Heap) (locs : List Loc) (ls : Array Slot), fX14_cipher_h115 fu a1 (fX14_cipher_h40 fu a1 f40) (fX14_cipher_h107 fu a1 (fX14_cipher_h40 fu a1 f40) f107) f (v2, v3, v4, M, L) = some (M0, L0) → mw_W G ad NF TF FF M L H locs → lv_has ls 6 [(0, .ref (ad 854)), (2, .int v2), (3, .int v3), (4, .int v4)] → W p l e ({ frames := 2, cells := 0, slots := 0, locals := 50 }) s m [.ref (ad 854), .int a1].toArray below meth c H locs 0 0 (MQ below (mw_Qv G ad NF TF FF (mw_eqV M0 L0)) [.ref (ad 854), .int a1].toArray s 0 0 (mw_fr G)) (F0 m 115 ls []) := by
            intro f
            induction f with
            | zero => intro v2 v3 v4 M L H locs ls hD; cases hD
            | succ f115 ih115 =>
              intro v2 v3 v4 M L H locs ls hD hw hl
              replace hD : fX14_cipher_i115 fu a1 (fX14_cipher_h40 fu a1 f40) (fX14_cipher_h107 fu a1 (fX14_cipher_h40 fu a1 f40) f107) (fX14_cipher_h115 fu a1 (fX14_cipher_h40 fu a1 f40) (fX14_cipher_h107 fu a1 (fX14_cipher_h40 fu a1 f40) f107) f115) v2 v3 v4 M L = some (M0, L0) := hD
              have hb200 : ∀ (v2 : Int32) (v3 : Int32) (v4 : Int32) (v5 : Int32) (M : mwM) (L : mwL) (H : Heap) (locs : List Loc) (ls : Array Slot), fX14_cipher_b200 fu a1 (fX14_cipher_h40 fu a1 f40) (fX14_cipher_h107 fu a1 (fX14_cipher_h40 fu a1 f40) f107) (fX14_cipher_h115 fu a1 (fX14_cipher_h40 fu a1 f40) (fX14_cipher_h107 fu a1 (fX14_cipher_h40 fu a1 f40) f107) f115) v2 v3 v4 v5 M L = some (M0, L0) → mw_W G ad NF TF FF M L H locs → lv_has ls 6 [(0, .ref (ad 854)), (2, .int v2), (3, .int v3), (4, .int v4), (5, .int v5)] → W p l e ({ frames := 2, cells := 0, slots := 0, locals := 50 }) s m [.ref (ad 854), .int a1].toArray below meth c H locs 0 0 (MQ below (mw_Qv G ad NF TF FF (mw_eqV M0 L0)) [.ref (ad 854), .int a1].toArray s 0 0 (mw_fr G)) (F0 m 200 ls []) := by
                intro v2 v3 v4 v5 M L H locs ls hD hw hl
                unfold fX14_cipher_b200 at hD
                refine lv_aload_n C.1.1 C.1.2.1 dX14_cipher_200 rfl (lv_at hl 0 rfl) ?_
                refine mr_getR C hw kc_14 13 (by decide) tf_854 ff_854_13 wd_2278 dX14_cipher_201 (by decide) rfl ?_
                refine lv_iconst (v := 4) C.1.1 C.1.2.1 dX14_cipher_204 (by decide) ?_
                refine lv_iload_n C.1.1 C.1.2.1 dX14_cipher_205 rfl (lv_at hl 2 rfl) ?_
                refine lv_imul C.1.1 C.1.2.1 dX14_cipher_206 ?_
                refine lv_iload C.1.1 C.1.2.1 dX14_cipher_207 (lv_at hl 3 rfl) ?_
                refine lv_iadd C.1.1 C.1.2.1 dX14_cipher_209 ?_
                refine lv_iload C.1.1 C.1.2.1 dX14_cipher_210 (lv_at hl 4 rfl) ?_
                refine lv_aload_n C.1.1 C.1.2.1 dX14_cipher_212 rfl (lv_at hl 0 rfl) ?_
                refine mr_getR C hw kc_14 15 (by decide) tf_854 ff_854_15 wd_2280 dX14_cipher_213 (by decide) rfl ?_
                refine lv_bipush (v := 16) C.1.1 C.1.2.1 dX14_cipher_216 (by decide) ?_
                refine lv_iload_n C.1.1 C.1.2.1 dX14_cipher_218 rfl (lv_at hl 1 rfl) ?_
                refine lv_imul C.1.1 C.1.2.1 dX14_cipher_219 ?_
                refine lv_iconst (v := 4) C.1.1 C.1.2.1 dX14_cipher_220 (by decide) ?_
                refine lv_iload_n C.1.1 C.1.2.1 dX14_cipher_221 rfl (lv_at hl 2 rfl) ?_
                refine lv_imul C.1.1 C.1.2.1 dX14_cipher_222 ?_
                refine lv_iadd C.1.1 C.1.2.1 dX14_cipher_223 ?_
                refine lv_iload C.1.1 C.1.2.1 dX14_cipher_224 (lv_at hl 3 rfl) ?_
                refine lv_iadd C.1.1 C.1.2.1 dX14_cipher_226 ?_
                obtain ⟨q39, hD⟩ := g_ck hD
                refine mr_iald C hw (by decide) tf_865 q39 dX14_cipher_227 ?_
                refine lv_ixor C.1.1 C.1.2.1 dX14_cipher_228 ?_
                obtain ⟨q40, hD⟩ := g_ck hD
                obtain ⟨M41, eM41, hD⟩ := g_let hD
                refine mr_iast C hw (by decide) tf_863 q40 dX14_cipher_229 (fun H locs hw => ?_)
                replace hw : mw_W G ad NF TF FF M41 L H locs := by rw [eM41]; exact hw
                obtain ⟨x42, ex42, hD⟩ := g_let hD
                refine lv_iinc (v := x42) (lv' := [(4, .int x42), (0, .ref (ad 854)), (2, .int v2), (3, .int v3), (5, .int v5)]) C.1.1 C.1.2.1 dX14_cipher_230 hl (k := 3) rfl (by rw [ex42]; rfl) (by decide) rfl (fun ls hl => ?_)
                refine lv_goto (tgt := 115) C.1.1 C.1.2.1 dX14_cipher_233 (by decide) ?_
                exact ih115 v2 v3 x42 M41 L _ _ ls hD hw (lv_sub hl [1, 2, 3, 0] rfl)
              unfold fX14_cipher_i115 at hD
              refine lv_iload C.1.1 C.1.2.1 dX14_cipher_115 (lv_at hl 3 rfl) ?_
              refine lv_iconst (v := 4) C.1.1 C.1.2.1 dX14_cipher_117 (by decide) ?_
              refine lv_icmp_ge (tgt := 236) C.1.1 C.1.2.1 dX14_cipher_118 (by decide) (fun c21 => ?_) (fun c21 => ?_)
              · replace hD := g_pos c21 hD
                obtain ⟨x22, ex22, hD⟩ := g_let hD
                refine lv_iinc (v := x22) (lv' := [(3, .int x22), (0, .ref (ad 854)), (2, .int v2), (4, .int v4)]) C.1.1 C.1.2.1 dX14_cipher_236 hl (k := 2) rfl (by rw [ex22]; rfl) (by decide) rfl (fun ls hl => ?_)
                refine lv_goto (tgt := 107) C.1.1 C.1.2.1 dX14_cipher_239 (by decide) ?_
                exact ih107 v2 x22 M L _ _ ls hD hw (lv_sub hl [1, 2, 0] rfl)
              · replace hD := g_neg c21 hD
                refine lv_aload_n C.1.1 C.1.2.1 dX14_cipher_121 rfl (lv_at hl 0 rfl) ?_
                refine mr_getR C hw kc_14 14 (by decide) tf_854 ff_854_14 wd_2279 dX14_cipher_122 (by decide) rfl ?_
                refine lv_iconst (v := 4) C.1.1 C.1.2.1 dX14_cipher_125 (by decide) ?_
                refine lv_iload_n C.1.1 C.1.2.1 dX14_cipher_126 rfl (lv_at hl 2 rfl) ?_
                refine lv_imul C.1.1 C.1.2.1 dX14_cipher_127 ?_
                refine lv_iload C.1.1 C.1.2.1 dX14_cipher_128 (lv_at hl 3 rfl) ?_
                refine lv_iadd C.1.1 C.1.2.1 dX14_cipher_130 ?_
                obtain ⟨q23, hD⟩ := g_ck hD
                refine mr_iald C hw (by decide) tf_864 q23 dX14_cipher_131 ?_
                obtain ⟨x24, ex24, hD⟩ := g_let hD
                refine W.eq (g2 := F0 m 132 ls (.int x24 :: [])) (by rw [ex24]) ?_
                refine lv_istore (lv' := [(5, .int x24), (0, .ref (ad 854)), (2, .int v2), (3, .int v3), (4, .int v4)]) C.1.1 C.1.2.1 dX14_cipher_132 hl (by decide) rfl (fun ls hl => ?_)
                refine lv_iload_n C.1.1 C.1.2.1 dX14_cipher_134 rfl (lv_at hl 2 rfl) ?_
                refine lv_bipush (v := 10) C.1.1 C.1.2.1 dX14_cipher_135 (by decide) ?_
                refine lv_icmp_ge (tgt := 200) C.1.1 C.1.2.1 dX14_cipher_137 (by decide) (fun c25 => ?_) (fun c25 => ?_)
                · replace hD := g_pos c25 hD
                  exact hb200 v2 v3 v4 x24 M L _ _ ls hD hw (lv_sub hl [1, 2, 3, 4, 0] rfl)
                · replace hD := g_neg c25 hD
                  refine lv_iload C.1.1 C.1.2.1 dX14_cipher_140 (lv_at hl 0 rfl) ?_
                  refine lv_iconst (v := 2) C.1.1 C.1.2.1 dX14_cipher_142 (by decide) ?_
                  obtain ⟨r28, M26, L27, h1, hD⟩ := g_b3 hD
                  refine md_csI (As := [.int x24, .int 2]) (rest := []) C hw (tX14_product l G ad fu x24 2 M L h1) wd_2263 cwX14_product ⟨Nat.le_of_ble_eq_true rfl, Nat.le_of_ble_eq_true rfl⟩ rfl hl.1 (Nat.le_of_ble_eq_true rfl) dX14_cipher_143 rfl rfl ⟨Nat.zero_le _, Nat.zero_le _⟩ rfl (fun H locs hw => ?_)
                  refine lv_aload_n C.1.1 C.1.2.1 dX14_cipher_146 rfl (lv_at hl 1 rfl) ?_
                  refine mr_getR C hw kc_14 14 (by decide) tf_854 ff_854_14 wd_2279 dX14_cipher_147 (by decide) rfl ?_
                  refine lv_iconst (v := 4) C.1.1 C.1.2.1 dX14_cipher_150 (by decide) ?_
                  refine lv_iload_n C.1.1 C.1.2.1 dX14_cipher_151 rfl (lv_at hl 3 rfl) ?_
                  refine lv_imul C.1.1 C.1.2.1 dX14_cipher_152 ?_
                  refine lv_iload C.1.1 C.1.2.1 dX14_cipher_153 (lv_at hl 4 rfl) ?_
                  refine lv_iconst (v := 1) C.1.1 C.1.2.1 dX14_cipher_155 (by decide) ?_
                  refine lv_iadd C.1.1 C.1.2.1 dX14_cipher_156 ?_
                  refine lv_iconst (v := 4) C.1.1 C.1.2.1 dX14_cipher_157 (by decide) ?_
                  refine lv_irem C.1.1 C.1.2.1 dX14_cipher_158 (by decide) ?_
                  refine lv_iadd C.1.1 C.1.2.1 dX14_cipher_159 ?_
                  obtain ⟨q30, hD⟩ := g_ck hD
                  refine mr_iald C hw (by decide) tf_864 q30 dX14_cipher_160 ?_
                  refine lv_iconst (v := 3) C.1.1 C.1.2.1 dX14_cipher_161 (by decide) ?_
                  obtain ⟨r33, M31, L32, h1, hD⟩ := g_b3 hD
                  refine md_csI (As := [.int (M26 864 ((4 * v3) + ((v4 + 1) - (v4 + 1) / 4 * 4)).toNatClampNeg), .int 3]) (rest := [.int r28]) C hw (tX14_product l G ad fu (M26 864 ((4 * v3) + ((v4 + 1) - (v4 + 1) / 4 * 4)).toNatClampNeg) 3 M26 L27 h1) wd_2263 cwX14_product ⟨Nat.le_of_ble_eq_true rfl, Nat.le_of_ble_eq_true rfl⟩ rfl hl.1 (Nat.le_of_ble_eq_true rfl) dX14_cipher_162 rfl rfl ⟨Nat.zero_le _, Nat.zero_le _⟩ rfl (fun H locs hw => ?_)
                  refine lv_ixor C.1.1 C.1.2.1 dX14_cipher_165 ?_
                  refine lv_aload_n C.1.1 C.1.2.1 dX14_cipher_166 rfl (lv_at hl 1 rfl) ?_
                  refine mr_getR C hw kc_14 14 (by decide) tf_854 ff_854_14 wd_2279 dX14_cipher_167 (by decide) rfl ?_
                  refine lv_iconst (v := 4) C.1.1 C.1.2.1 dX14_cipher_170 (by decide) ?_
                  refine lv_iload_n C.1.1 C.1.2.1 dX14_cipher_171 rfl (lv_at hl 3 rfl) ?_
                  refine lv_imul C.1.1 C.1.2.1 dX14_cipher_172 ?_
                  refine lv_iload C.1.1 C.1.2.1 dX14_cipher_173 (lv_at hl 4 rfl) ?_
                  refine lv_iconst (v := 2) C.1.1 C.1.2.1 dX14_cipher_175 (by decide) ?_
                  refine lv_iadd C.1.1 C.1.2.1 dX14_cipher_176 ?_
                  refine lv_iconst (v := 4) C.1.1 C.1.2.1 dX14_cipher_177 (by decide) ?_
                  refine lv_irem C.1.1 C.1.2.1 dX14_cipher_178 (by decide) ?_
                  refine lv_iadd C.1.1 C.1.2.1 dX14_cipher_179 ?_
                  obtain ⟨q35, hD⟩ := g_ck hD
                  refine mr_iald C hw (by decide) tf_864 q35 dX14_cipher_180 ?_
                  refine lv_ixor C.1.1 C.1.2.1 dX14_cipher_181 ?_
                  refine lv_aload_n C.1.1 C.1.2.1 dX14_cipher_182 rfl (lv_at hl 1 rfl) ?_
                  refine mr_getR C hw kc_14 14 (by decide) tf_854 ff_854_14 wd_2279 dX14_cipher_183 (by decide) rfl ?_
                  refine lv_iconst (v := 4) C.1.1 C.1.2.1 dX14_cipher_186 (by decide) ?_
                  refine lv_iload_n C.1.1 C.1.2.1 dX14_cipher_187 rfl (lv_at hl 3 rfl) ?_
                  refine lv_imul C.1.1 C.1.2.1 dX14_cipher_188 ?_
                  refine lv_iload C.1.1 C.1.2.1 dX14_cipher_189 (lv_at hl 4 rfl) ?_
                  refine lv_iconst (v := 3) C.1.1 C.1.2.1 dX14_cipher_191 (by decide) ?_
                  refine lv_iadd C.1.1 C.1.2.1 dX14_cipher_192 ?_
                  refine lv_iconst (v := 4) C.1.1 C.1.2.1 dX14_cipher_193 (by decide) ?_
                  refine lv_irem C.1.1 C.1.2.1 dX14_cipher_194 (by decide) ?_
                  refine lv_iadd C.1.1 C.1.2.1 dX14_cipher_195 ?_
                  obtain ⟨q37, hD⟩ := g_ck hD
                  refine mr_iald C hw (by decide) tf_864 q37 dX14_cipher_196 ?_
                  refine lv_ixor C.1.1 C.1.2.1 dX14_cipher_197 ?_
                  obtain ⟨x38, ex38, hD⟩ := g_let hD
                  refine W.eq (g2 := F0 m 198 ls (.int x38 :: [])) (by rw [ex38]) ?_
                  refine lv_istore (lv' := [(5, .int x38), (0, .ref (ad 854)), (2, .int v2), (3, .int v3), (4, .int v4)]) C.1.1 C.1.2.1 dX14_cipher_198 hl (by decide) rfl (fun ls hl => ?_)
                  exact hb200 v2 v3 v4 x38 M31 L32 _ _ ls hD hw (lv_sub hl [1, 2, 3, 4, 0] rfl)
          unfold fX14_cipher_i107 at hD
          refine lv_iload_n C.1.1 C.1.2.1 dX14_cipher_107 rfl (lv_at hl 2 rfl) ?_
          refine lv_iconst (v := 4) C.1.1 C.1.2.1 dX14_cipher_108 (by decide) ?_
          refine lv_icmp_ge (tgt := 242) C.1.1 C.1.2.1 dX14_cipher_109 (by decide) (fun c19 => ?_) (fun c19 => ?_)
          · replace hD := g_pos c19 hD
            obtain ⟨x20, ex20, hD⟩ := g_let hD
            refine lv_iinc (v := x20) (lv' := [(2, .int x20), (0, .ref (ad 854)), (3, .int v3)]) C.1.1 C.1.2.1 dX14_cipher_242 hl (k := 1) rfl (by rw [ex20]; rfl) (by decide) rfl (fun ls hl => ?_)
            refine lv_goto (tgt := 40) C.1.1 C.1.2.1 dX14_cipher_245 (by decide) ?_
            exact ih40 x20 M L _ _ ls hD hw (lv_sub hl [1, 0] rfl)
          · replace hD := g_neg c19 hD
            refine lv_iconst (v := 0) C.1.1 C.1.2.1 dX14_cipher_112 (by decide) ?_
            refine lv_istore (lv' := [(4, .int 0), (0, .ref (ad 854)), (2, .int v2), (3, .int v3)]) C.1.1 C.1.2.1 dX14_cipher_113 hl (by decide) rfl (fun ls hl => ?_)
            exact hh115 fu v2 v3 0 M L _ _ ls hD hw (lv_sub hl [1, 2, 3, 0] rfl)
      have hh48 : ∀ (f : Nat) (v2 : Int32) (v3 : Int32) (M : mwM) (L : mwL) (H : Heap) (locs : List Loc) (ls : Array Slot), fX14_cipher_h48 fu a1 (fX14_cipher_h40 fu a1 f40) f (v2, v3, M, L) = some (M0, L0) → mw_W G ad NF TF FF M L H locs → lv_has ls 6 [(0, .ref (ad 854)), (2, .int v2), (3, .int v3)] → W p l e ({ frames := 2, cells := 0, slots := 0, locals := 50 }) s m [.ref (ad 854), .int a1].toArray below meth c H locs 0 0 (MQ below (mw_Qv G ad NF TF FF (mw_eqV M0 L0)) [.ref (ad 854), .int a1].toArray s 0 0 (mw_fr G)) (F0 m 48 ls []) := by
        intro f
        induction f with
        | zero => intro v2 v3 M L H locs ls hD; cases hD
        | succ f48 ih48 =>
          intro v2 v3 M L H locs ls hD hw hl
          replace hD : fX14_cipher_i48 fu a1 (fX14_cipher_h40 fu a1 f40) (fX14_cipher_h48 fu a1 (fX14_cipher_h40 fu a1 f40) f48) v2 v3 M L = some (M0, L0) := hD
          have hh56 : ∀ (f : Nat) (v2 : Int32) (v3 : Int32) (v4 : Int32) (M : mwM) (L : mwL) (H : Heap) (locs : List Loc) (ls : Array Slot), fX14_cipher_h56 fu a1 (fX14_cipher_h40 fu a1 f40) (fX14_cipher_h48 fu a1 (fX14_cipher_h40 fu a1 f40) f48) f (v2, v3, v4, M, L) = some (M0, L0) → mw_W G ad NF TF FF M L H locs → lv_has ls 6 [(0, .ref (ad 854)), (2, .int v2), (3, .int v3), (4, .int v4)] → W p l e ({ frames := 2, cells := 0, slots := 0, locals := 50 }) s m [.ref (ad 854), .int a1].toArray below meth c H locs 0 0 (MQ below (mw_Qv G ad NF TF FF (mw_eqV M0 L0)) [.ref (ad 854), .int a1].toArray s 0 0 (mw_fr G)) (F0 m 56 ls []) := by
            intro f
            induction f with
            | zero => intro v2 v3 v4 M L H locs ls hD; cases hD
            | succ f56 ih56 =>
              intro v2 v3 v4 M L H locs ls hD hw hl
              replace hD : fX14_cipher_i56 fu a1 (fX14_cipher_h40 fu a1 f40) (fX14_cipher_h48 fu a1 (fX14_cipher_h40 fu a1 f40) f48) (fX14_cipher_h56 fu a1 (fX14_cipher_h40 fu a1 f40) (fX14_cipher_h48 fu a1 (fX14_cipher_h40 fu a1 f40) f48) f56) v2 v3 v4 M L = some (M0, L0) := hD
              unfold fX14_cipher_i56 at hD
              refine lv_iload C.1.1 C.1.2.1 dX14_cipher_56 (lv_at hl 3 rfl) ?_
              refine lv_iconst (v := 4) C.1.1 C.1.2.1 dX14_cipher_58 (by decide) ?_
              refine lv_icmp_ge (tgt := 99) C.1.1 C.1.2.1 dX14_cipher_59 (by decide) (fun c9 => ?_) (fun c9 => ?_)
              · replace hD := g_pos c9 hD
                obtain ⟨x10, ex10, hD⟩ := g_let hD
                refine lv_iinc (v := x10) (lv' := [(3, .int x10), (0, .ref (ad 854)), (2, .int v2), (4, .int v4)]) C.1.1 C.1.2.1 dX14_cipher_99 hl (k := 2) rfl (by rw [ex10]; rfl) (by decide) rfl (fun ls hl => ?_)
                refine lv_goto (tgt := 48) C.1.1 C.1.2.1 dX14_cipher_102 (by decide) ?_
                exact ih48 v2 x10 M L _ _ ls hD hw (lv_sub hl [1, 2, 0] rfl)
              · replace hD := g_neg c9 hD
                refine lv_aload_n C.1.1 C.1.2.1 dX14_cipher_62 rfl (lv_at hl 0 rfl) ?_
                refine mr_getR C hw kc_14 14 (by decide) tf_854 ff_854_14 wd_2279 dX14_cipher_63 (by decide) rfl ?_
                refine lv_iconst (v := 4) C.1.1 C.1.2.1 dX14_cipher_66 (by decide) ?_
                refine lv_iload_n C.1.1 C.1.2.1 dX14_cipher_67 rfl (lv_at hl 2 rfl) ?_
                refine lv_imul C.1.1 C.1.2.1 dX14_cipher_68 ?_
                refine lv_iload C.1.1 C.1.2.1 dX14_cipher_69 (lv_at hl 3 rfl) ?_
                refine lv_iadd C.1.1 C.1.2.1 dX14_cipher_71 ?_
                refine lv_aload_n C.1.1 C.1.2.1 dX14_cipher_72 rfl (lv_at hl 0 rfl) ?_
                refine lv_aload_n C.1.1 C.1.2.1 dX14_cipher_73 rfl (lv_at hl 0 rfl) ?_
                refine mr_getR C hw kc_14 13 (by decide) tf_854 ff_854_13 wd_2278 dX14_cipher_74 (by decide) rfl ?_
                refine lv_iconst (v := 4) C.1.1 C.1.2.1 dX14_cipher_77 (by decide) ?_
                refine lv_iload_n C.1.1 C.1.2.1 dX14_cipher_78 rfl (lv_at hl 2 rfl) ?_
                refine lv_iload C.1.1 C.1.2.1 dX14_cipher_79 (lv_at hl 3 rfl) ?_
                refine lv_iadd C.1.1 C.1.2.1 dX14_cipher_81 ?_
                refine lv_iconst (v := 4) C.1.1 C.1.2.1 dX14_cipher_82 (by decide) ?_
                refine lv_irem C.1.1 C.1.2.1 dX14_cipher_83 (by decide) ?_
                refine lv_imul C.1.1 C.1.2.1 dX14_cipher_84 ?_
                refine lv_iload C.1.1 C.1.2.1 dX14_cipher_85 (lv_at hl 3 rfl) ?_
                refine lv_iadd C.1.1 C.1.2.1 dX14_cipher_87 ?_
                obtain ⟨q12, hD⟩ := g_ck hD
                refine mr_iald C hw (by decide) tf_863 q12 dX14_cipher_88 ?_
                obtain ⟨r15, M13, L14, h1, hD⟩ := g_b3 hD
                refine md_cvI (As := [.int (M 863 ((4 * ((v3 + v4) - (v3 + v4) / 4 * 4)) + v4).toNatClampNeg)]) (rest := [.int ((4 * v3) + v4), .ref (ad 864)]) C hw (tX14_substitute l G ad fu (M 863 ((4 * ((v3 + v4) - (v3 + v4) / 4 * 4)) + v4).toNatClampNeg) M L h1) kc_14 (by decide) tf_854 wd_3598 cwX14_substitute ⟨Nat.le_of_ble_eq_true rfl, Nat.le_of_ble_eq_true rfl⟩ rfl hl.1 (Nat.le_of_ble_eq_true rfl) dX14_cipher_89 rfl rfl ⟨Nat.zero_le _, Nat.zero_le _⟩ rfl (fun H locs hw => ?_)
                obtain ⟨q16, hD⟩ := g_ck hD
                obtain ⟨M17, eM17, hD⟩ := g_let hD
                refine mr_iast C hw (by decide) tf_864 q16 dX14_cipher_92 (fun H locs hw => ?_)
                replace hw : mw_W G ad NF TF FF M17 L14 H locs := by rw [eM17]; exact hw
                obtain ⟨x18, ex18, hD⟩ := g_let hD
                refine lv_iinc (v := x18) (lv' := [(4, .int x18), (0, .ref (ad 854)), (2, .int v2), (3, .int v3)]) C.1.1 C.1.2.1 dX14_cipher_93 hl (k := 3) rfl (by rw [ex18]; rfl) (by decide) rfl (fun ls hl => ?_)
                refine lv_goto (tgt := 56) C.1.1 C.1.2.1 dX14_cipher_96 (by decide) ?_
                exact ih56 v2 v3 x18 M17 L14 _ _ ls hD hw (lv_sub hl [1, 2, 3, 0] rfl)
          unfold fX14_cipher_i48 at hD
          refine lv_iload_n C.1.1 C.1.2.1 dX14_cipher_48 rfl (lv_at hl 2 rfl) ?_
          refine lv_iconst (v := 4) C.1.1 C.1.2.1 dX14_cipher_49 (by decide) ?_
          refine lv_icmp_ge (tgt := 105) C.1.1 C.1.2.1 dX14_cipher_50 (by decide) (fun c8 => ?_) (fun c8 => ?_)
          · replace hD := g_pos c8 hD
            refine lv_iconst (v := 0) C.1.1 C.1.2.1 dX14_cipher_105 (by decide) ?_
            refine lv_istore_n (lv' := [(3, .int 0), (0, .ref (ad 854)), (2, .int v2)]) C.1.1 C.1.2.1 dX14_cipher_106 rfl hl (by decide) rfl (fun ls hl => ?_)
            exact hh107 fu v2 0 M L _ _ ls hD hw (lv_sub hl [1, 2, 0] rfl)
          · replace hD := g_neg c8 hD
            refine lv_iconst (v := 0) C.1.1 C.1.2.1 dX14_cipher_53 (by decide) ?_
            refine lv_istore (lv' := [(4, .int 0), (0, .ref (ad 854)), (2, .int v2), (3, .int v3)]) C.1.1 C.1.2.1 dX14_cipher_54 hl (by decide) rfl (fun ls hl => ?_)
            exact hh56 fu v2 v3 0 M L _ _ ls hD hw (lv_sub hl [1, 2, 3, 0] rfl)
      unfold fX14_cipher_i40 at hD
      refine lv_iload_n C.1.1 C.1.2.1 dX14_cipher_40 rfl (lv_at hl 1 rfl) ?_
      refine lv_bipush (v := 11) C.1.1 C.1.2.1 dX14_cipher_41 (by decide) ?_
      refine lv_icmp_ge (tgt := 248) C.1.1 C.1.2.1 dX14_cipher_43 (by decide) (fun c7 => ?_) (fun c7 => ?_)
      · replace hD := g_pos c7 hD
        exact mr_vret C hr hlocks hw (Option.some.inj hD) dX14_cipher_248
      · replace hD := g_neg c7 hD
        refine lv_iconst (v := 0) C.1.1 C.1.2.1 dX14_cipher_46 (by decide) ?_
        refine lv_istore_n (lv' := [(3, .int 0), (0, .ref (ad 854)), (2, .int v2)]) C.1.1 C.1.2.1 dX14_cipher_47 rfl hl (by decide) rfl (fun ls hl => ?_)
        exact hh48 fu v2 0 M L _ _ ls hD hw (lv_sub hl [1, 2, 0] rfl)
  have hh7 : ∀ (f : Nat) (v2 : Int32) (M : mwM) (L : mwL) (H : Heap) (locs : List Loc) (ls : Array Slot), fX14_cipher_h7 fu a1 f (v2, M, L) = some (M0, L0) → mw_W G ad NF TF FF M L H locs → lv_has ls 6 [(0, .ref (ad 854)), (2, .int v2)] → W p l e ({ frames := 2, cells := 0, slots := 0, locals := 50 }) s m [.ref (ad 854), .int a1].toArray below meth c H locs 0 0 (MQ below (mw_Qv G ad NF TF FF (mw_eqV M0 L0)) [.ref (ad 854), .int a1].toArray s 0 0 (mw_fr G)) (F0 m 7 ls []) := by
    intro f
    induction f with
    | zero => intro v2 M L H locs ls hD; cases hD
    | succ f7 ih7 =>
      intro v2 M L H locs ls hD hw hl
      replace hD : fX14_cipher_i7 fu a1 (fX14_cipher_h7 fu a1 f7) v2 M L = some (M0, L0) := hD
      unfold fX14_cipher_i7 at hD
      refine lv_iload_n C.1.1 C.1.2.1 dX14_cipher_7 rfl (lv_at hl 1 rfl) ?_
      refine lv_bipush (v := 16) C.1.1 C.1.2.1 dX14_cipher_8 (by decide) ?_
      refine lv_icmp_ge (tgt := 38) C.1.1 C.1.2.1 dX14_cipher_10 (by decide) (fun c1 => ?_) (fun c1 => ?_)
      · replace hD := g_pos c1 hD
        refine lv_iconst (v := 1) C.1.1 C.1.2.1 dX14_cipher_38 (by decide) ?_
        refine lv_istore_n (lv' := [(2, .int 1), (0, .ref (ad 854))]) C.1.1 C.1.2.1 dX14_cipher_39 rfl hl (by decide) rfl (fun ls hl => ?_)
        exact hh40 fu 1 M L _ _ ls hD hw (lv_sub hl [1, 0] rfl)
      · replace hD := g_neg c1 hD
        refine lv_aload_n C.1.1 C.1.2.1 dX14_cipher_13 rfl (lv_at hl 0 rfl) ?_
        refine mr_getR C hw kc_14 13 (by decide) tf_854 ff_854_13 wd_2278 dX14_cipher_14 (by decide) rfl ?_
        refine lv_iload_n C.1.1 C.1.2.1 dX14_cipher_17 rfl (lv_at hl 1 rfl) ?_
        refine lv_aload_n C.1.1 C.1.2.1 dX14_cipher_18 rfl (lv_at hl 0 rfl) ?_
        refine mr_getR C hw kc_14 13 (by decide) tf_854 ff_854_13 wd_2278 dX14_cipher_19 (by decide) rfl ?_
        refine lv_iload_n C.1.1 C.1.2.1 dX14_cipher_22 rfl (lv_at hl 1 rfl) ?_
        obtain ⟨q2, hD⟩ := g_ck hD
        refine mr_iald C hw (by decide) tf_863 q2 dX14_cipher_23 ?_
        refine lv_aload_n C.1.1 C.1.2.1 dX14_cipher_24 rfl (lv_at hl 0 rfl) ?_
        refine mr_getR C hw kc_14 15 (by decide) tf_854 ff_854_15 wd_2280 dX14_cipher_25 (by decide) rfl ?_
        refine lv_iload_n C.1.1 C.1.2.1 dX14_cipher_28 rfl (lv_at hl 1 rfl) ?_
        obtain ⟨q3, hD⟩ := g_ck hD
        refine mr_iald C hw (by decide) tf_865 q3 dX14_cipher_29 ?_
        refine lv_ixor C.1.1 C.1.2.1 dX14_cipher_30 ?_
        obtain ⟨q4, hD⟩ := g_ck hD
        obtain ⟨M5, eM5, hD⟩ := g_let hD
        refine mr_iast C hw (by decide) tf_863 q4 dX14_cipher_31 (fun H locs hw => ?_)
        replace hw : mw_W G ad NF TF FF M5 L H locs := by rw [eM5]; exact hw
        obtain ⟨x6, ex6, hD⟩ := g_let hD
        refine lv_iinc (v := x6) (lv' := [(2, .int x6), (0, .ref (ad 854))]) C.1.1 C.1.2.1 dX14_cipher_32 hl (k := 1) rfl (by rw [ex6]; rfl) (by decide) rfl (fun ls hl => ?_)
        refine lv_goto (tgt := 7) C.1.1 C.1.2.1 dX14_cipher_35 (by decide) ?_
        exact ih7 x6 M5 L _ _ ls hD hw (lv_sub hl [1, 0] rfl)
  unfold DX14_cipher at hD
  refine lv_aload_n C.1.1 C.1.2.1 dX14_cipher_0 rfl (lv_at hl 0 rfl) ?_
  refine lv_iload_n C.1.1 C.1.2.1 dX14_cipher_1 rfl (lv_at hl 1 rfl) ?_
  obtain ⟨M43, L44, h1, hD⟩ := g_b2 hD
  refine md_cvV (As := [.int a1]) (rest := []) C hw (tX14_makeRound l G ad fu a1 M L h1) kc_14 (by decide) tf_854 wd_3594 cwX14_makeRound ⟨Nat.le_of_ble_eq_true rfl, Nat.le_of_ble_eq_true rfl⟩ rfl hl.1 (Nat.le_of_ble_eq_true rfl) dX14_cipher_2 rfl rfl ⟨Nat.zero_le _, Nat.zero_le _⟩ rfl (fun H locs hw => ?_)
  refine lv_iconst (v := 0) C.1.1 C.1.2.1 dX14_cipher_5 (by decide) ?_
  refine lv_istore_n (lv' := [(2, .int 0), (0, .ref (ad 854)), (1, .int a1)]) C.1.1 C.1.2.1 dX14_cipher_6 rfl hl (by decide) rfl (fun ls hl => ?_)
  exact hh7 fu 0 M43 L44 _ _ ls hD hw (lv_sub hl [1, 0] rfl)

theorem dX14_doubled_0 : decode cX14_doubled 0 = .ok (.iconst 0, 1) := by decide +kernel
theorem dX14_doubled_1 : decode cX14_doubled 1 = .ok (.istore_n 1, 1) := by decide +kernel
theorem dX14_doubled_2 : decode cX14_doubled 2 = .ok (.bipush 15, 2) := by decide +kernel
theorem dX14_doubled_4 : decode cX14_doubled 4 = .ok (.istore_n 2, 1) := by decide +kernel
theorem dX14_doubled_5 : decode cX14_doubled 5 = .ok (.iload_n 2, 1) := by decide +kernel
theorem dX14_doubled_6 : decode cX14_doubled 6 = .ok (.ifCond .lt 36, 3) := by decide +kernel
theorem dX14_doubled_9 : decode cX14_doubled 9 = .ok (.iconst 2, 1) := by decide +kernel
theorem dX14_doubled_10 : decode cX14_doubled 10 = .ok (.aload_n 0, 1) := by decide +kernel
theorem dX14_doubled_11 : decode cX14_doubled 11 = .ok (.getfield 45, 3) := by decide +kernel
theorem dX14_doubled_14 : decode cX14_doubled 14 = .ok (.iload_n 2, 1) := by decide +kernel
theorem dX14_doubled_15 : decode cX14_doubled 15 = .ok (.iaload, 1) := by decide +kernel
theorem dX14_doubled_16 : decode cX14_doubled 16 = .ok (.imul, 1) := by decide +kernel
theorem dX14_doubled_17 : decode cX14_doubled 17 = .ok (.iload_n 1, 1) := by decide +kernel
theorem dX14_doubled_18 : decode cX14_doubled 18 = .ok (.iadd, 1) := by decide +kernel
theorem dX14_doubled_19 : decode cX14_doubled 19 = .ok (.istore_n 3, 1) := by decide +kernel
theorem dX14_doubled_20 : decode cX14_doubled 20 = .ok (.aload_n 0, 1) := by decide +kernel
theorem dX14_doubled_21 : decode cX14_doubled 21 = .ok (.getfield 45, 3) := by decide +kernel
theorem dX14_doubled_24 : decode cX14_doubled 24 = .ok (.iload_n 2, 1) := by decide +kernel
theorem dX14_doubled_25 : decode cX14_doubled 25 = .ok (.iload_n 3, 1) := by decide +kernel
theorem dX14_doubled_26 : decode cX14_doubled 26 = .ok (.sipush 255, 3) := by decide +kernel
theorem dX14_doubled_29 : decode cX14_doubled 29 = .ok (.iand, 1) := by decide +kernel
theorem dX14_doubled_30 : decode cX14_doubled 30 = .ok (.iastore, 1) := by decide +kernel
theorem dX14_doubled_31 : decode cX14_doubled 31 = .ok (.iload_n 3, 1) := by decide +kernel
theorem dX14_doubled_32 : decode cX14_doubled 32 = .ok (.bipush 8, 2) := by decide +kernel
theorem dX14_doubled_34 : decode cX14_doubled 34 = .ok (.ishr, 1) := by decide +kernel
theorem dX14_doubled_35 : decode cX14_doubled 35 = .ok (.istore_n 1, 1) := by decide +kernel
theorem dX14_doubled_36 : decode cX14_doubled 36 = .ok (.iinc 2 (-1), 3) := by decide +kernel
theorem dX14_doubled_39 : decode cX14_doubled 39 = .ok (.goto (-34), 3) := by decide +kernel
theorem dX14_doubled_42 : decode cX14_doubled 42 = .ok (.aload_n 0, 1) := by decide +kernel
theorem dX14_doubled_43 : decode cX14_doubled 43 = .ok (.getfield 45, 3) := by decide +kernel
theorem dX14_doubled_46 : decode cX14_doubled 46 = .ok (.bipush 15, 2) := by decide +kernel
theorem dX14_doubled_48 : decode cX14_doubled 48 = .ok (.aload_n 0, 1) := by decide +kernel
theorem dX14_doubled_49 : decode cX14_doubled 49 = .ok (.getfield 45, 3) := by decide +kernel
theorem dX14_doubled_52 : decode cX14_doubled 52 = .ok (.bipush 15, 2) := by decide +kernel
theorem dX14_doubled_54 : decode cX14_doubled 54 = .ok (.iaload, 1) := by decide +kernel
theorem dX14_doubled_55 : decode cX14_doubled 55 = .ok (.sipush 135, 3) := by decide +kernel
theorem dX14_doubled_58 : decode cX14_doubled 58 = .ok (.iload_n 1, 1) := by decide +kernel
theorem dX14_doubled_59 : decode cX14_doubled 59 = .ok (.imul, 1) := by decide +kernel
theorem dX14_doubled_60 : decode cX14_doubled 60 = .ok (.ixor, 1) := by decide +kernel
theorem dX14_doubled_61 : decode cX14_doubled 61 = .ok (.iastore, 1) := by decide +kernel
theorem dX14_doubled_62 : decode cX14_doubled 62 = .ok (.return_, 1) := by decide +kernel
theorem cwX14_doubled : mw_cwV yX14_doubled cX14_doubled 4 (none) 0 := ⟨⟨wd_16, wd_3605, by decide +kernel⟩, wd_3604, sl_225⟩
set_option maxHeartbeats 4000000 in
set_option maxRecDepth 100000 in
theorem tX14_doubled (l : Launch) (G : mwG) (ad : Nat → Nat) (fu : Nat) (M : mwM) (L : mwL) {M0 : mwM} {L0 : mwL} (hD : DX14_doubled fu M L = some (M0, L0)) : Met l yX14_doubled (Cond.code yX14_doubled cX14_doubled 4 (none) :: GT) ({ frames := 0, cells := 0, slots := 0, locals := 0 }) (mw_Pre G ad NF TF FF M L [.ref (ad 854)]) (mw_Qv G ad NF TF FF (mw_eqV M0 L0)) 0 0 (mw_fr G) := by
  refine mw_enter (by decide) (Nat.le_of_ble_eq_true rfl) ?_
  intro p e s m below meth c ls C hr hlocks hnm hw hl
  have hl : lv_has ls 4 [(0, .ref (ad 854))] := hl
  have hh5 : ∀ (f : Nat) (v1 : Int32) (v2 : Int32) (M : mwM) (L : mwL) (H : Heap) (locs : List Loc) (ls : Array Slot), fX14_doubled_h5 fu f (v1, v2, M, L) = some (M0, L0) → mw_W G ad NF TF FF M L H locs → lv_has ls 4 [(0, .ref (ad 854)), (1, .int v1), (2, .int v2)] → W p l e ({ frames := 0, cells := 0, slots := 0, locals := 0 }) s m [.ref (ad 854)].toArray below meth c H locs 0 0 (MQ below (mw_Qv G ad NF TF FF (mw_eqV M0 L0)) [.ref (ad 854)].toArray s 0 0 (mw_fr G)) (F0 m 5 ls []) := by
    intro f
    induction f with
    | zero => intro v1 v2 M L H locs ls hD; cases hD
    | succ f5 ih5 =>
      intro v1 v2 M L H locs ls hD hw hl
      replace hD : fX14_doubled_i5 fu (fX14_doubled_h5 fu f5) v1 v2 M L = some (M0, L0) := hD
      unfold fX14_doubled_i5 at hD
      refine lv_iload_n C.1.1 C.1.2.1 dX14_doubled_5 rfl (lv_at hl 2 rfl) ?_
      refine lv_if_lt (tgt := 42) C.1.1 C.1.2.1 dX14_doubled_6 (by decide) (fun c1 => ?_) (fun c1 => ?_)
      · replace hD := g_pos c1 hD
        refine lv_aload_n C.1.1 C.1.2.1 dX14_doubled_42 rfl (lv_at hl 0 rfl) ?_
        refine mr_getR C hw kc_14 16 (by decide) tf_854 ff_854_16 wd_2281 dX14_doubled_43 (by decide) rfl ?_
        refine lv_bipush (v := 15) C.1.1 C.1.2.1 dX14_doubled_46 (by decide) ?_
        refine lv_aload_n C.1.1 C.1.2.1 dX14_doubled_48 rfl (lv_at hl 0 rfl) ?_
        refine mr_getR C hw kc_14 16 (by decide) tf_854 ff_854_16 wd_2281 dX14_doubled_49 (by decide) rfl ?_
        refine lv_bipush (v := 15) C.1.1 C.1.2.1 dX14_doubled_52 (by decide) ?_
        refine mr_iald C hw (by decide) tf_866 (show vp_in 15 16 from by unfold vp_in; decide) dX14_doubled_54 ?_
        refine lv_sipush (v := 135) C.1.1 C.1.2.1 dX14_doubled_55 (by decide) ?_
        refine lv_iload_n C.1.1 C.1.2.1 dX14_doubled_58 rfl (lv_at hl 1 rfl) ?_
        refine lv_imul C.1.1 C.1.2.1 dX14_doubled_59 ?_
        refine lv_ixor C.1.1 C.1.2.1 dX14_doubled_60 ?_
        obtain ⟨M4, eM4, hD⟩ := g_let hD
        refine mr_iast C hw (by decide) tf_866 (show vp_in 15 16 from by unfold vp_in; decide) dX14_doubled_61 (fun H locs hw => ?_)
        replace hw : mw_W G ad NF TF FF M4 L H locs := by rw [eM4]; exact hw
        exact mr_vret C hr hlocks hw (Option.some.inj hD) dX14_doubled_62
      · replace hD := g_neg c1 hD
        refine lv_iconst (v := 2) C.1.1 C.1.2.1 dX14_doubled_9 (by decide) ?_
        refine lv_aload_n C.1.1 C.1.2.1 dX14_doubled_10 rfl (lv_at hl 0 rfl) ?_
        refine mr_getR C hw kc_14 16 (by decide) tf_854 ff_854_16 wd_2281 dX14_doubled_11 (by decide) rfl ?_
        refine lv_iload_n C.1.1 C.1.2.1 dX14_doubled_14 rfl (lv_at hl 2 rfl) ?_
        obtain ⟨q5, hD⟩ := g_ck hD
        refine mr_iald C hw (by decide) tf_866 q5 dX14_doubled_15 ?_
        refine lv_imul C.1.1 C.1.2.1 dX14_doubled_16 ?_
        refine lv_iload_n C.1.1 C.1.2.1 dX14_doubled_17 rfl (lv_at hl 1 rfl) ?_
        refine lv_iadd C.1.1 C.1.2.1 dX14_doubled_18 ?_
        obtain ⟨x6, ex6, hD⟩ := g_let hD
        refine W.eq (g2 := F0 m 19 ls (.int x6 :: [])) (by rw [ex6]) ?_
        refine lv_istore_n (lv' := [(3, .int x6), (0, .ref (ad 854)), (1, .int v1), (2, .int v2)]) C.1.1 C.1.2.1 dX14_doubled_19 rfl hl (by decide) rfl (fun ls hl => ?_)
        refine lv_aload_n C.1.1 C.1.2.1 dX14_doubled_20 rfl (lv_at hl 1 rfl) ?_
        refine mr_getR C hw kc_14 16 (by decide) tf_854 ff_854_16 wd_2281 dX14_doubled_21 (by decide) rfl ?_
        refine lv_iload_n C.1.1 C.1.2.1 dX14_doubled_24 rfl (lv_at hl 3 rfl) ?_
        refine lv_iload_n C.1.1 C.1.2.1 dX14_doubled_25 rfl (lv_at hl 0 rfl) ?_
        refine lv_sipush (v := 255) C.1.1 C.1.2.1 dX14_doubled_26 (by decide) ?_
        refine lv_iand C.1.1 C.1.2.1 dX14_doubled_29 ?_
        obtain ⟨q7, hD⟩ := g_ck hD
        obtain ⟨M8, eM8, hD⟩ := g_let hD
        refine mr_iast C hw (by decide) tf_866 q7 dX14_doubled_30 (fun H locs hw => ?_)
        replace hw : mw_W G ad NF TF FF M8 L H locs := by rw [eM8]; exact hw
        refine lv_iload_n C.1.1 C.1.2.1 dX14_doubled_31 rfl (lv_at hl 0 rfl) ?_
        refine lv_bipush (v := 8) C.1.1 C.1.2.1 dX14_doubled_32 (by decide) ?_
        refine lv_ishr C.1.1 C.1.2.1 dX14_doubled_34 ?_
        obtain ⟨x9, ex9, hD⟩ := g_let hD
        refine W.eq (g2 := F0 m 35 ls (.int x9 :: [])) (by rw [ex9]) ?_
        refine lv_istore_n (lv' := [(1, .int x9), (3, .int x6), (0, .ref (ad 854)), (2, .int v2)]) C.1.1 C.1.2.1 dX14_doubled_35 rfl hl (by decide) rfl (fun ls hl => ?_)
        obtain ⟨x10, ex10, hD⟩ := g_let hD
        refine lv_iinc (v := x10) (lv' := [(2, .int x10), (1, .int x9), (3, .int x6), (0, .ref (ad 854))]) C.1.1 C.1.2.1 dX14_doubled_36 hl (k := 3) rfl (by rw [ex10]; rfl) (by decide) rfl (fun ls hl => ?_)
        refine lv_goto (tgt := 5) C.1.1 C.1.2.1 dX14_doubled_39 (by decide) ?_
        exact ih5 x9 x10 M8 L _ _ ls hD hw (lv_sub hl [3, 1, 0] rfl)
  unfold DX14_doubled at hD
  refine lv_iconst (v := 0) C.1.1 C.1.2.1 dX14_doubled_0 (by decide) ?_
  refine lv_istore_n (lv' := [(1, .int 0), (0, .ref (ad 854))]) C.1.1 C.1.2.1 dX14_doubled_1 rfl hl (by decide) rfl (fun ls hl => ?_)
  refine lv_bipush (v := 15) C.1.1 C.1.2.1 dX14_doubled_2 (by decide) ?_
  refine lv_istore_n (lv' := [(2, .int 15), (1, .int 0), (0, .ref (ad 854))]) C.1.1 C.1.2.1 dX14_doubled_4 rfl hl (by decide) rfl (fun ls hl => ?_)
  exact hh5 fu 0 15 M L _ _ ls hD hw (lv_sub hl [2, 1, 0] rfl)

theorem dX14_codeOf_0 : decode cX14_codeOf 0 = .ok (.iconst 0, 1) := by decide +kernel
theorem dX14_codeOf_1 : decode cX14_codeOf 1 = .ok (.istore_n 3, 1) := by decide +kernel
theorem dX14_codeOf_2 : decode cX14_codeOf 2 = .ok (.iload_n 3, 1) := by decide +kernel
theorem dX14_codeOf_3 : decode cX14_codeOf 3 = .ok (.bipush 16, 2) := by decide +kernel
theorem dX14_codeOf_5 : decode cX14_codeOf 5 = .ok (.if_icmp .ge 16, 3) := by decide +kernel
theorem dX14_codeOf_8 : decode cX14_codeOf 8 = .ok (.aload_n 0, 1) := by decide +kernel
theorem dX14_codeOf_9 : decode cX14_codeOf 9 = .ok (.getfield 36, 3) := by decide +kernel
theorem dX14_codeOf_12 : decode cX14_codeOf 12 = .ok (.iload_n 3, 1) := by decide +kernel
theorem dX14_codeOf_13 : decode cX14_codeOf 13 = .ok (.iconst 0, 1) := by decide +kernel
theorem dX14_codeOf_14 : decode cX14_codeOf 14 = .ok (.iastore, 1) := by decide +kernel
theorem dX14_codeOf_15 : decode cX14_codeOf 15 = .ok (.iinc 3 1, 3) := by decide +kernel
theorem dX14_codeOf_18 : decode cX14_codeOf 18 = .ok (.goto (-16), 3) := by decide +kernel
theorem dX14_codeOf_21 : decode cX14_codeOf 21 = .ok (.aload_n 0, 1) := by decide +kernel
theorem dX14_codeOf_22 : decode cX14_codeOf 22 = .ok (.iload_n 1, 1) := by decide +kernel
theorem dX14_codeOf_23 : decode cX14_codeOf 23 = .ok (.invokevirtual 76, 3) := by decide +kernel
theorem dX14_codeOf_26 : decode cX14_codeOf 26 = .ok (.iconst 0, 1) := by decide +kernel
theorem dX14_codeOf_27 : decode cX14_codeOf 27 = .ok (.istore_n 3, 1) := by decide +kernel
theorem dX14_codeOf_28 : decode cX14_codeOf 28 = .ok (.iload_n 3, 1) := by decide +kernel
theorem dX14_codeOf_29 : decode cX14_codeOf 29 = .ok (.bipush 16, 2) := by decide +kernel
theorem dX14_codeOf_31 : decode cX14_codeOf 31 = .ok (.if_icmp .ge 21, 3) := by decide +kernel
theorem dX14_codeOf_34 : decode cX14_codeOf 34 = .ok (.aload_n 0, 1) := by decide +kernel
theorem dX14_codeOf_35 : decode cX14_codeOf 35 = .ok (.getfield 45, 3) := by decide +kernel
theorem dX14_codeOf_38 : decode cX14_codeOf 38 = .ok (.iload_n 3, 1) := by decide +kernel
theorem dX14_codeOf_39 : decode cX14_codeOf 39 = .ok (.aload_n 0, 1) := by decide +kernel
theorem dX14_codeOf_40 : decode cX14_codeOf 40 = .ok (.getfield 36, 3) := by decide +kernel
theorem dX14_codeOf_43 : decode cX14_codeOf 43 = .ok (.iload_n 3, 1) := by decide +kernel
theorem dX14_codeOf_44 : decode cX14_codeOf 44 = .ok (.iaload, 1) := by decide +kernel
theorem dX14_codeOf_45 : decode cX14_codeOf 45 = .ok (.iastore, 1) := by decide +kernel
theorem dX14_codeOf_46 : decode cX14_codeOf 46 = .ok (.iinc 3 1, 3) := by decide +kernel
theorem dX14_codeOf_49 : decode cX14_codeOf 49 = .ok (.goto (-21), 3) := by decide +kernel
theorem dX14_codeOf_52 : decode cX14_codeOf 52 = .ok (.aload_n 0, 1) := by decide +kernel
theorem dX14_codeOf_53 : decode cX14_codeOf 53 = .ok (.invokevirtual 79, 3) := by decide +kernel
theorem dX14_codeOf_56 : decode cX14_codeOf 56 = .ok (.iload_n 2, 1) := by decide +kernel
theorem dX14_codeOf_57 : decode cX14_codeOf 57 = .ok (.ifCond .le 14, 3) := by decide +kernel
theorem dX14_codeOf_60 : decode cX14_codeOf 60 = .ok (.iload_n 2, 1) := by decide +kernel
theorem dX14_codeOf_61 : decode cX14_codeOf 61 = .ok (.bipush 16, 2) := by decide +kernel
theorem dX14_codeOf_63 : decode cX14_codeOf 63 = .ok (.irem, 1) := by decide +kernel
theorem dX14_codeOf_64 : decode cX14_codeOf 64 = .ok (.ifCond .ne 7, 3) := by decide +kernel
theorem dX14_codeOf_67 : decode cX14_codeOf 67 = .ok (.iconst 1, 1) := by decide +kernel
theorem dX14_codeOf_68 : decode cX14_codeOf 68 = .ok (.goto 4, 3) := by decide +kernel
theorem dX14_codeOf_71 : decode cX14_codeOf 71 = .ok (.iconst 0, 1) := by decide +kernel
theorem dX14_codeOf_72 : decode cX14_codeOf 72 = .ok (.istore_n 3, 1) := by decide +kernel
theorem dX14_codeOf_73 : decode cX14_codeOf 73 = .ok (.iload_n 3, 1) := by decide +kernel
theorem dX14_codeOf_74 : decode cX14_codeOf 74 = .ok (.ifCond .ne 7, 3) := by decide +kernel
theorem dX14_codeOf_77 : decode cX14_codeOf 77 = .ok (.aload_n 0, 1) := by decide +kernel
theorem dX14_codeOf_78 : decode cX14_codeOf 78 = .ok (.invokevirtual 79, 3) := by decide +kernel
theorem dX14_codeOf_81 : decode cX14_codeOf 81 = .ok (.iload_n 3, 1) := by decide +kernel
theorem dX14_codeOf_82 : decode cX14_codeOf 82 = .ok (.ifCond .eq 7, 3) := by decide +kernel
theorem dX14_codeOf_85 : decode cX14_codeOf 85 = .ok (.iload_n 2, 1) := by decide +kernel
theorem dX14_codeOf_86 : decode cX14_codeOf 86 = .ok (.goto 13, 3) := by decide +kernel
theorem dX14_codeOf_89 : decode cX14_codeOf 89 = .ok (.iload_n 2, 1) := by decide +kernel
theorem dX14_codeOf_90 : decode cX14_codeOf 90 = .ok (.bipush 16, 2) := by decide +kernel
theorem dX14_codeOf_92 : decode cX14_codeOf 92 = .ok (.idiv, 1) := by decide +kernel
theorem dX14_codeOf_93 : decode cX14_codeOf 93 = .ok (.bipush 16, 2) := by decide +kernel
theorem dX14_codeOf_95 : decode cX14_codeOf 95 = .ok (.imul, 1) := by decide +kernel
theorem dX14_codeOf_96 : decode cX14_codeOf 96 = .ok (.bipush 16, 2) := by decide +kernel
theorem dX14_codeOf_98 : decode cX14_codeOf 98 = .ok (.iadd, 1) := by decide +kernel
theorem dX14_codeOf_99 : decode cX14_codeOf 99 = .ok (.istore 4, 2) := by decide +kernel
theorem dX14_codeOf_101 : decode cX14_codeOf 101 = .ok (.iconst 0, 1) := by decide +kernel
theorem dX14_codeOf_102 : decode cX14_codeOf 102 = .ok (.istore 5, 2) := by decide +kernel
theorem dX14_codeOf_104 : decode cX14_codeOf 104 = .ok (.iload 5, 2) := by decide +kernel
theorem dX14_codeOf_106 : decode cX14_codeOf 106 = .ok (.bipush 16, 2) := by decide +kernel
theorem dX14_codeOf_108 : decode cX14_codeOf 108 = .ok (.if_icmp .ge 17, 3) := by decide +kernel
theorem dX14_codeOf_111 : decode cX14_codeOf 111 = .ok (.aload_n 0, 1) := by decide +kernel
theorem dX14_codeOf_112 : decode cX14_codeOf 112 = .ok (.getfield 36, 3) := by decide +kernel
theorem dX14_codeOf_115 : decode cX14_codeOf 115 = .ok (.iload 5, 2) := by decide +kernel
theorem dX14_codeOf_117 : decode cX14_codeOf 117 = .ok (.iconst 0, 1) := by decide +kernel
theorem dX14_codeOf_118 : decode cX14_codeOf 118 = .ok (.iastore, 1) := by decide +kernel
theorem dX14_codeOf_119 : decode cX14_codeOf 119 = .ok (.iinc 5 1, 3) := by decide +kernel
theorem dX14_codeOf_122 : decode cX14_codeOf 122 = .ok (.goto (-18), 3) := by decide +kernel
theorem dX14_codeOf_125 : decode cX14_codeOf 125 = .ok (.iconst 0, 1) := by decide +kernel
theorem dX14_codeOf_126 : decode cX14_codeOf 126 = .ok (.istore 5, 2) := by decide +kernel
theorem dX14_codeOf_128 : decode cX14_codeOf 128 = .ok (.iload 5, 2) := by decide +kernel
theorem dX14_codeOf_130 : decode cX14_codeOf 130 = .ok (.iload 4, 2) := by decide +kernel
theorem dX14_codeOf_132 : decode cX14_codeOf 132 = .ok (.if_icmp .ge 119, 3) := by decide +kernel
theorem dX14_codeOf_135 : decode cX14_codeOf 135 = .ok (.iconst 0, 1) := by decide +kernel
theorem dX14_codeOf_136 : decode cX14_codeOf 136 = .ok (.istore 6, 2) := by decide +kernel
theorem dX14_codeOf_138 : decode cX14_codeOf 138 = .ok (.iload 6, 2) := by decide +kernel
theorem dX14_codeOf_140 : decode cX14_codeOf 140 = .ok (.bipush 16, 2) := by decide +kernel
theorem dX14_codeOf_142 : decode cX14_codeOf 142 = .ok (.if_icmp .ge 98, 3) := by decide +kernel
theorem dX14_codeOf_145 : decode cX14_codeOf 145 = .ok (.iload 5, 2) := by decide +kernel
theorem dX14_codeOf_147 : decode cX14_codeOf 147 = .ok (.iload 6, 2) := by decide +kernel
theorem dX14_codeOf_149 : decode cX14_codeOf 149 = .ok (.iadd, 1) := by decide +kernel
theorem dX14_codeOf_150 : decode cX14_codeOf 150 = .ok (.iload_n 2, 1) := by decide +kernel
theorem dX14_codeOf_151 : decode cX14_codeOf 151 = .ok (.if_icmp .ge 16, 3) := by decide +kernel
theorem dX14_codeOf_154 : decode cX14_codeOf 154 = .ok (.aload_n 0, 1) := by decide +kernel
theorem dX14_codeOf_155 : decode cX14_codeOf 155 = .ok (.getfield 48, 3) := by decide +kernel
theorem dX14_codeOf_158 : decode cX14_codeOf 158 = .ok (.iload 5, 2) := by decide +kernel
theorem dX14_codeOf_160 : decode cX14_codeOf 160 = .ok (.iload 6, 2) := by decide +kernel
theorem dX14_codeOf_162 : decode cX14_codeOf 162 = .ok (.iadd, 1) := by decide +kernel
theorem dX14_codeOf_163 : decode cX14_codeOf 163 = .ok (.iaload, 1) := by decide +kernel
theorem dX14_codeOf_164 : decode cX14_codeOf 164 = .ok (.goto 19, 3) := by decide +kernel
theorem dX14_codeOf_167 : decode cX14_codeOf 167 = .ok (.iload 5, 2) := by decide +kernel
theorem dX14_codeOf_169 : decode cX14_codeOf 169 = .ok (.iload 6, 2) := by decide +kernel
theorem dX14_codeOf_171 : decode cX14_codeOf 171 = .ok (.iadd, 1) := by decide +kernel
theorem dX14_codeOf_172 : decode cX14_codeOf 172 = .ok (.iload_n 2, 1) := by decide +kernel
theorem dX14_codeOf_173 : decode cX14_codeOf 173 = .ok (.if_icmp .ne 9, 3) := by decide +kernel
theorem dX14_codeOf_176 : decode cX14_codeOf 176 = .ok (.sipush 128, 3) := by decide +kernel
theorem dX14_codeOf_179 : decode cX14_codeOf 179 = .ok (.goto 4, 3) := by decide +kernel
theorem dX14_codeOf_182 : decode cX14_codeOf 182 = .ok (.iconst 0, 1) := by decide +kernel
theorem dX14_codeOf_183 : decode cX14_codeOf 183 = .ok (.istore 7, 2) := by decide +kernel
theorem dX14_codeOf_185 : decode cX14_codeOf 185 = .ok (.aload_n 0, 1) := by decide +kernel
theorem dX14_codeOf_186 : decode cX14_codeOf 186 = .ok (.getfield 36, 3) := by decide +kernel
theorem dX14_codeOf_189 : decode cX14_codeOf 189 = .ok (.iload 6, 2) := by decide +kernel
theorem dX14_codeOf_191 : decode cX14_codeOf 191 = .ok (.aload_n 0, 1) := by decide +kernel
theorem dX14_codeOf_192 : decode cX14_codeOf 192 = .ok (.getfield 36, 3) := by decide +kernel
theorem dX14_codeOf_195 : decode cX14_codeOf 195 = .ok (.iload 6, 2) := by decide +kernel
theorem dX14_codeOf_197 : decode cX14_codeOf 197 = .ok (.iaload, 1) := by decide +kernel
theorem dX14_codeOf_198 : decode cX14_codeOf 198 = .ok (.iload 7, 2) := by decide +kernel
theorem dX14_codeOf_200 : decode cX14_codeOf 200 = .ok (.ixor, 1) := by decide +kernel
theorem dX14_codeOf_201 : decode cX14_codeOf 201 = .ok (.iastore, 1) := by decide +kernel
theorem dX14_codeOf_202 : decode cX14_codeOf 202 = .ok (.iload 5, 2) := by decide +kernel
theorem dX14_codeOf_204 : decode cX14_codeOf 204 = .ok (.bipush 16, 2) := by decide +kernel
theorem dX14_codeOf_206 : decode cX14_codeOf 206 = .ok (.iadd, 1) := by decide +kernel
theorem dX14_codeOf_207 : decode cX14_codeOf 207 = .ok (.iload 4, 2) := by decide +kernel
theorem dX14_codeOf_209 : decode cX14_codeOf 209 = .ok (.if_icmp .ne 25, 3) := by decide +kernel
theorem dX14_codeOf_212 : decode cX14_codeOf 212 = .ok (.aload_n 0, 1) := by decide +kernel
theorem dX14_codeOf_213 : decode cX14_codeOf 213 = .ok (.getfield 36, 3) := by decide +kernel
theorem dX14_codeOf_216 : decode cX14_codeOf 216 = .ok (.iload 6, 2) := by decide +kernel
theorem dX14_codeOf_218 : decode cX14_codeOf 218 = .ok (.aload_n 0, 1) := by decide +kernel
theorem dX14_codeOf_219 : decode cX14_codeOf 219 = .ok (.getfield 36, 3) := by decide +kernel
theorem dX14_codeOf_222 : decode cX14_codeOf 222 = .ok (.iload 6, 2) := by decide +kernel
theorem dX14_codeOf_224 : decode cX14_codeOf 224 = .ok (.iaload, 1) := by decide +kernel
theorem dX14_codeOf_225 : decode cX14_codeOf 225 = .ok (.aload_n 0, 1) := by decide +kernel
theorem dX14_codeOf_226 : decode cX14_codeOf 226 = .ok (.getfield 45, 3) := by decide +kernel
theorem dX14_codeOf_229 : decode cX14_codeOf 229 = .ok (.iload 6, 2) := by decide +kernel
theorem dX14_codeOf_231 : decode cX14_codeOf 231 = .ok (.iaload, 1) := by decide +kernel
theorem dX14_codeOf_232 : decode cX14_codeOf 232 = .ok (.ixor, 1) := by decide +kernel
theorem dX14_codeOf_233 : decode cX14_codeOf 233 = .ok (.iastore, 1) := by decide +kernel
theorem dX14_codeOf_234 : decode cX14_codeOf 234 = .ok (.iinc 6 1, 3) := by decide +kernel
theorem dX14_codeOf_237 : decode cX14_codeOf 237 = .ok (.goto (-99), 3) := by decide +kernel
theorem dX14_codeOf_240 : decode cX14_codeOf 240 = .ok (.aload_n 0, 1) := by decide +kernel
theorem dX14_codeOf_241 : decode cX14_codeOf 241 = .ok (.iload_n 1, 1) := by decide +kernel
theorem dX14_codeOf_242 : decode cX14_codeOf 242 = .ok (.invokevirtual 76, 3) := by decide +kernel
theorem dX14_codeOf_245 : decode cX14_codeOf 245 = .ok (.iinc 5 16, 3) := by decide +kernel
theorem dX14_codeOf_248 : decode cX14_codeOf 248 = .ok (.goto (-120), 3) := by decide +kernel
theorem dX14_codeOf_251 : decode cX14_codeOf 251 = .ok (.return_, 1) := by decide +kernel
theorem cwX14_codeOf : mw_cwV yX14_codeOf cX14_codeOf 8 (none) 2 := ⟨⟨wd_16, wd_3589, by decide +kernel⟩, wd_3588, sl_221⟩
set_option maxHeartbeats 4000000 in
set_option maxRecDepth 100000 in
theorem tX14_codeOf (l : Launch) (G : mwG) (ad : Nat → Nat) (fu : Nat) (a1 : Int32) (a2 : Int32) (M : mwM) (L : mwL) {M0 : mwM} {L0 : mwL} (hD : DX14_codeOf fu a1 a2 M L = some (M0, L0)) : Met l yX14_codeOf (Cond.code yX14_codeOf cX14_codeOf 8 (none) :: GT) ({ frames := 3, cells := 0, slots := 0, locals := 75 }) (mw_Pre G ad NF TF FF M L [.ref (ad 854), .int a1, .int a2]) (mw_Qv G ad NF TF FF (mw_eqV M0 L0)) 0 0 (mw_fr G) := by
  refine mw_enter (by decide) (Nat.le_of_ble_eq_true rfl) ?_
  intro p e s m below meth c ls C hr hlocks hnm hw hl
  have hl : lv_has ls 8 [(0, .ref (ad 854)), (1, .int a1), (2, .int a2)] := hl
  have hh128 : ∀ (f : Nat) (v4 : Int32) (v5 : Int32) (M : mwM) (L : mwL) (H : Heap) (locs : List Loc) (ls : Array Slot), fX14_codeOf_h128 fu a1 a2 f (v4, v5, M, L) = some (M0, L0) → mw_W G ad NF TF FF M L H locs → lv_has ls 8 [(0, .ref (ad 854)), (1, .int a1), (2, .int a2), (4, .int v4), (5, .int v5)] → W p l e ({ frames := 3, cells := 0, slots := 0, locals := 75 }) s m [.ref (ad 854), .int a1, .int a2].toArray below meth c H locs 0 0 (MQ below (mw_Qv G ad NF TF FF (mw_eqV M0 L0)) [.ref (ad 854), .int a1, .int a2].toArray s 0 0 (mw_fr G)) (F0 m 128 ls []) := by
    intro f
    induction f with
    | zero => intro v4 v5 M L H locs ls hD; cases hD
    | succ f128 ih128 =>
      intro v4 v5 M L H locs ls hD hw hl
      replace hD : fX14_codeOf_i128 fu a1 a2 (fX14_codeOf_h128 fu a1 a2 f128) v4 v5 M L = some (M0, L0) := hD
      have hh138 : ∀ (f : Nat) (v4 : Int32) (v5 : Int32) (v6 : Int32) (M : mwM) (L : mwL) (H : Heap) (locs : List Loc) (ls : Array Slot), fX14_codeOf_h138 fu a1 a2 (fX14_codeOf_h128 fu a1 a2 f128) f (v4, v5, v6, M, L) = some (M0, L0) → mw_W G ad NF TF FF M L H locs → lv_has ls 8 [(0, .ref (ad 854)), (1, .int a1), (2, .int a2), (4, .int v4), (5, .int v5), (6, .int v6)] → W p l e ({ frames := 3, cells := 0, slots := 0, locals := 75 }) s m [.ref (ad 854), .int a1, .int a2].toArray below meth c H locs 0 0 (MQ below (mw_Qv G ad NF TF FF (mw_eqV M0 L0)) [.ref (ad 854), .int a1, .int a2].toArray s 0 0 (mw_fr G)) (F0 m 138 ls []) := by
        intro f
        induction f with
        | zero => intro v4 v5 v6 M L H locs ls hD; cases hD
        | succ f138 ih138 =>
          intro v4 v5 v6 M L H locs ls hD hw hl
          replace hD : fX14_codeOf_i138 fu a1 a2 (fX14_codeOf_h128 fu a1 a2 f128) (fX14_codeOf_h138 fu a1 a2 (fX14_codeOf_h128 fu a1 a2 f128) f138) v4 v5 v6 M L = some (M0, L0) := hD
          have hb234 : ∀ (v4 : Int32) (v5 : Int32) (v6 : Int32) (M : mwM) (L : mwL) (H : Heap) (locs : List Loc) (ls : Array Slot), fX14_codeOf_b234 fu a1 a2 (fX14_codeOf_h128 fu a1 a2 f128) (fX14_codeOf_h138 fu a1 a2 (fX14_codeOf_h128 fu a1 a2 f128) f138) v4 v5 v6 M L = some (M0, L0) → mw_W G ad NF TF FF M L H locs → lv_has ls 8 [(0, .ref (ad 854)), (1, .int a1), (2, .int a2), (4, .int v4), (5, .int v5), (6, .int v6)] → W p l e ({ frames := 3, cells := 0, slots := 0, locals := 75 }) s m [.ref (ad 854), .int a1, .int a2].toArray below meth c H locs 0 0 (MQ below (mw_Qv G ad NF TF FF (mw_eqV M0 L0)) [.ref (ad 854), .int a1, .int a2].toArray s 0 0 (mw_fr G)) (F0 m 234 ls []) := by
            intro v4 v5 v6 M L H locs ls hD hw hl
            unfold fX14_codeOf_b234 at hD
            obtain ⟨x42, ex42, hD⟩ := g_let hD
            refine lv_iinc (v := x42) (lv' := [(6, .int x42), (0, .ref (ad 854)), (1, .int a1), (2, .int a2), (4, .int v4), (5, .int v5)]) C.1.1 C.1.2.1 dX14_codeOf_234 hl (k := 5) rfl (by rw [ex42]; rfl) (by decide) rfl (fun ls hl => ?_)
            refine lv_goto (tgt := 138) C.1.1 C.1.2.1 dX14_codeOf_237 (by decide) ?_
            exact ih138 v4 v5 x42 M L _ _ ls hD hw (lv_sub hl [1, 2, 3, 4, 5, 0] rfl)
          have hb183 : ∀ (v4 : Int32) (v5 : Int32) (v6 : Int32) (s0 : Int32) (M : mwM) (L : mwL) (H : Heap) (locs : List Loc) (ls : Array Slot), fX14_codeOf_b183 fu a1 a2 (fX14_codeOf_h128 fu a1 a2 f128) (fX14_codeOf_h138 fu a1 a2 (fX14_codeOf_h128 fu a1 a2 f128) f138) v4 v5 v6 s0 M L = some (M0, L0) → mw_W G ad NF TF FF M L H locs → lv_has ls 8 [(0, .ref (ad 854)), (1, .int a1), (2, .int a2), (4, .int v4), (5, .int v5), (6, .int v6)] → W p l e ({ frames := 3, cells := 0, slots := 0, locals := 75 }) s m [.ref (ad 854), .int a1, .int a2].toArray below meth c H locs 0 0 (MQ below (mw_Qv G ad NF TF FF (mw_eqV M0 L0)) [.ref (ad 854), .int a1, .int a2].toArray s 0 0 (mw_fr G)) (F0 m 183 ls [.int s0]) := by
            intro v4 v5 v6 s0 M L H locs ls hD hw hl
            unfold fX14_codeOf_b183 at hD
            refine lv_istore (lv' := [(7, .int s0), (0, .ref (ad 854)), (1, .int a1), (2, .int a2), (4, .int v4), (5, .int v5), (6, .int v6)]) C.1.1 C.1.2.1 dX14_codeOf_183 hl (by decide) rfl (fun ls hl => ?_)
            refine lv_aload_n C.1.1 C.1.2.1 dX14_codeOf_185 rfl (lv_at hl 1 rfl) ?_
            refine mr_getR C hw kc_14 13 (by decide) tf_854 ff_854_13 wd_2278 dX14_codeOf_186 (by decide) rfl ?_
            refine lv_iload C.1.1 C.1.2.1 dX14_codeOf_189 (lv_at hl 6 rfl) ?_
            refine lv_aload_n C.1.1 C.1.2.1 dX14_codeOf_191 rfl (lv_at hl 1 rfl) ?_
            refine mr_getR C hw kc_14 13 (by decide) tf_854 ff_854_13 wd_2278 dX14_codeOf_192 (by decide) rfl ?_
            refine lv_iload C.1.1 C.1.2.1 dX14_codeOf_195 (lv_at hl 6 rfl) ?_
            obtain ⟨q34, hD⟩ := g_ck hD
            refine mr_iald C hw (by decide) tf_863 q34 dX14_codeOf_197 ?_
            refine lv_iload C.1.1 C.1.2.1 dX14_codeOf_198 (lv_at hl 0 rfl) ?_
            refine lv_ixor C.1.1 C.1.2.1 dX14_codeOf_200 ?_
            obtain ⟨q35, hD⟩ := g_ck hD
            obtain ⟨M36, eM36, hD⟩ := g_let hD
            refine mr_iast C hw (by decide) tf_863 q35 dX14_codeOf_201 (fun H locs hw => ?_)
            replace hw : mw_W G ad NF TF FF M36 L H locs := by rw [eM36]; exact hw
            refine lv_iload C.1.1 C.1.2.1 dX14_codeOf_202 (lv_at hl 5 rfl) ?_
            refine lv_bipush (v := 16) C.1.1 C.1.2.1 dX14_codeOf_204 (by decide) ?_
            refine lv_iadd C.1.1 C.1.2.1 dX14_codeOf_206 ?_
            refine lv_iload C.1.1 C.1.2.1 dX14_codeOf_207 (lv_at hl 4 rfl) ?_
            refine lv_icmp_ne (tgt := 234) C.1.1 C.1.2.1 dX14_codeOf_209 (by decide) (fun c37 => ?_) (fun c37 => ?_)
            · replace hD := g_neg c37 hD
              exact hb234 v4 v5 v6 M36 L _ _ ls hD hw (lv_sub hl [1, 2, 3, 4, 5, 6] rfl)
            · replace hD := g_pos c37 hD
              refine lv_aload_n C.1.1 C.1.2.1 dX14_codeOf_212 rfl (lv_at hl 1 rfl) ?_
              refine mr_getR C hw kc_14 13 (by decide) tf_854 ff_854_13 wd_2278 dX14_codeOf_213 (by decide) rfl ?_
              refine lv_iload C.1.1 C.1.2.1 dX14_codeOf_216 (lv_at hl 6 rfl) ?_
              refine lv_aload_n C.1.1 C.1.2.1 dX14_codeOf_218 rfl (lv_at hl 1 rfl) ?_
              refine mr_getR C hw kc_14 13 (by decide) tf_854 ff_854_13 wd_2278 dX14_codeOf_219 (by decide) rfl ?_
              refine lv_iload C.1.1 C.1.2.1 dX14_codeOf_222 (lv_at hl 6 rfl) ?_
              obtain ⟨q38, hD⟩ := g_ck hD
              refine mr_iald C hw (by decide) tf_863 q38 dX14_codeOf_224 ?_
              refine lv_aload_n C.1.1 C.1.2.1 dX14_codeOf_225 rfl (lv_at hl 1 rfl) ?_
              refine mr_getR C hw kc_14 16 (by decide) tf_854 ff_854_16 wd_2281 dX14_codeOf_226 (by decide) rfl ?_
              refine lv_iload C.1.1 C.1.2.1 dX14_codeOf_229 (lv_at hl 6 rfl) ?_
              obtain ⟨q39, hD⟩ := g_ck hD
              refine mr_iald C hw (by decide) tf_866 q39 dX14_codeOf_231 ?_
              refine lv_ixor C.1.1 C.1.2.1 dX14_codeOf_232 ?_
              obtain ⟨q40, hD⟩ := g_ck hD
              obtain ⟨M41, eM41, hD⟩ := g_let hD
              refine mr_iast C hw (by decide) tf_863 q40 dX14_codeOf_233 (fun H locs hw => ?_)
              replace hw : mw_W G ad NF TF FF M41 L H locs := by rw [eM41]; exact hw
              exact hb234 v4 v5 v6 M41 L _ _ ls hD hw (lv_sub hl [1, 2, 3, 4, 5, 6] rfl)
          unfold fX14_codeOf_i138 at hD
          refine lv_iload C.1.1 C.1.2.1 dX14_codeOf_138 (lv_at hl 5 rfl) ?_
          refine lv_bipush (v := 16) C.1.1 C.1.2.1 dX14_codeOf_140 (by decide) ?_
          refine lv_icmp_ge (tgt := 240) C.1.1 C.1.2.1 dX14_codeOf_142 (by decide) (fun c27 => ?_) (fun c27 => ?_)
          · replace hD := g_pos c27 hD
            refine lv_aload_n C.1.1 C.1.2.1 dX14_codeOf_240 rfl (lv_at hl 0 rfl) ?_
            refine lv_iload_n C.1.1 C.1.2.1 dX14_codeOf_241 rfl (lv_at hl 1 rfl) ?_
            obtain ⟨M28, L29, h1, hD⟩ := g_b2 hD
            refine md_cvV (As := [.int a1]) (rest := []) C hw (tX14_cipher l G ad fu a1 M L h1) kc_14 (by decide) tf_854 wd_3590 cwX14_cipher ⟨Nat.le_of_ble_eq_true rfl, Nat.le_of_ble_eq_true rfl⟩ rfl hl.1 (Nat.le_of_ble_eq_true rfl) dX14_codeOf_242 rfl rfl ⟨Nat.zero_le _, Nat.zero_le _⟩ rfl (fun H locs hw => ?_)
            obtain ⟨x30, ex30, hD⟩ := g_let hD
            refine lv_iinc (v := x30) (lv' := [(5, .int x30), (0, .ref (ad 854)), (1, .int a1), (2, .int a2), (4, .int v4), (6, .int v6)]) C.1.1 C.1.2.1 dX14_codeOf_245 hl (k := 4) rfl (by rw [ex30]; rfl) (by decide) rfl (fun ls hl => ?_)
            refine lv_goto (tgt := 128) C.1.1 C.1.2.1 dX14_codeOf_248 (by decide) ?_
            exact ih128 v4 x30 M28 L29 _ _ ls hD hw (lv_sub hl [1, 2, 3, 4, 0] rfl)
          · replace hD := g_neg c27 hD
            refine lv_iload C.1.1 C.1.2.1 dX14_codeOf_145 (lv_at hl 4 rfl) ?_
            refine lv_iload C.1.1 C.1.2.1 dX14_codeOf_147 (lv_at hl 5 rfl) ?_
            refine lv_iadd C.1.1 C.1.2.1 dX14_codeOf_149 ?_
            refine lv_iload_n C.1.1 C.1.2.1 dX14_codeOf_150 rfl (lv_at hl 2 rfl) ?_
            refine lv_icmp_ge (tgt := 167) C.1.1 C.1.2.1 dX14_codeOf_151 (by decide) (fun c31 => ?_) (fun c31 => ?_)
            · replace hD := g_pos c31 hD
              refine lv_iload C.1.1 C.1.2.1 dX14_codeOf_167 (lv_at hl 4 rfl) ?_
              refine lv_iload C.1.1 C.1.2.1 dX14_codeOf_169 (lv_at hl 5 rfl) ?_
              refine lv_iadd C.1.1 C.1.2.1 dX14_codeOf_171 ?_
              refine lv_iload_n C.1.1 C.1.2.1 dX14_codeOf_172 rfl (lv_at hl 2 rfl) ?_
              refine lv_icmp_ne (tgt := 182) C.1.1 C.1.2.1 dX14_codeOf_173 (by decide) (fun c32 => ?_) (fun c32 => ?_)
              · replace hD := g_neg c32 hD
                refine lv_iconst (v := 0) C.1.1 C.1.2.1 dX14_codeOf_182 (by decide) ?_
                exact hb183 v4 v5 v6 0 M L _ _ ls hD hw (lv_sub hl [0, 1, 2, 3, 4, 5] rfl)
              · replace hD := g_pos c32 hD
                refine lv_sipush (v := 128) C.1.1 C.1.2.1 dX14_codeOf_176 (by decide) ?_
                refine lv_goto (tgt := 183) C.1.1 C.1.2.1 dX14_codeOf_179 (by decide) ?_
                exact hb183 v4 v5 v6 128 M L _ _ ls hD hw (lv_sub hl [0, 1, 2, 3, 4, 5] rfl)
            · replace hD := g_neg c31 hD
              refine lv_aload_n C.1.1 C.1.2.1 dX14_codeOf_154 rfl (lv_at hl 0 rfl) ?_
              refine mr_getR C hw kc_14 17 (by decide) tf_854 ff_854_17 wd_2282 dX14_codeOf_155 (by decide) rfl ?_
              refine lv_iload C.1.1 C.1.2.1 dX14_codeOf_158 (lv_at hl 4 rfl) ?_
              refine lv_iload C.1.1 C.1.2.1 dX14_codeOf_160 (lv_at hl 5 rfl) ?_
              refine lv_iadd C.1.1 C.1.2.1 dX14_codeOf_162 ?_
              obtain ⟨q33, hD⟩ := g_ck hD
              refine mr_iald C hw (by decide) tf_867 q33 dX14_codeOf_163 ?_
              refine lv_goto (tgt := 183) C.1.1 C.1.2.1 dX14_codeOf_164 (by decide) ?_
              exact hb183 v4 v5 v6 (M 867 (v5 + v6).toNatClampNeg) M L _ _ ls hD hw (lv_sub hl [0, 1, 2, 3, 4, 5] rfl)
      unfold fX14_codeOf_i128 at hD
      refine lv_iload C.1.1 C.1.2.1 dX14_codeOf_128 (lv_at hl 4 rfl) ?_
      refine lv_iload C.1.1 C.1.2.1 dX14_codeOf_130 (lv_at hl 3 rfl) ?_
      refine lv_icmp_ge (tgt := 251) C.1.1 C.1.2.1 dX14_codeOf_132 (by decide) (fun c26 => ?_) (fun c26 => ?_)
      · replace hD := g_pos c26 hD
        exact mr_vret C hr hlocks hw (Option.some.inj hD) dX14_codeOf_251
      · replace hD := g_neg c26 hD
        refine lv_iconst (v := 0) C.1.1 C.1.2.1 dX14_codeOf_135 (by decide) ?_
        refine lv_istore (lv' := [(6, .int 0), (0, .ref (ad 854)), (1, .int a1), (2, .int a2), (4, .int v4), (5, .int v5)]) C.1.1 C.1.2.1 dX14_codeOf_136 hl (by decide) rfl (fun ls hl => ?_)
        exact hh138 fu v4 v5 0 M L _ _ ls hD hw (lv_sub hl [1, 2, 3, 4, 5, 0] rfl)
  have hh104 : ∀ (f : Nat) (v4 : Int32) (v5 : Int32) (M : mwM) (L : mwL) (H : Heap) (locs : List Loc) (ls : Array Slot), fX14_codeOf_h104 fu a1 a2 f (v4, v5, M, L) = some (M0, L0) → mw_W G ad NF TF FF M L H locs → lv_has ls 8 [(0, .ref (ad 854)), (1, .int a1), (2, .int a2), (4, .int v4), (5, .int v5)] → W p l e ({ frames := 3, cells := 0, slots := 0, locals := 75 }) s m [.ref (ad 854), .int a1, .int a2].toArray below meth c H locs 0 0 (MQ below (mw_Qv G ad NF TF FF (mw_eqV M0 L0)) [.ref (ad 854), .int a1, .int a2].toArray s 0 0 (mw_fr G)) (F0 m 104 ls []) := by
    intro f
    induction f with
    | zero => intro v4 v5 M L H locs ls hD; cases hD
    | succ f104 ih104 =>
      intro v4 v5 M L H locs ls hD hw hl
      replace hD : fX14_codeOf_i104 fu a1 a2 (fX14_codeOf_h104 fu a1 a2 f104) v4 v5 M L = some (M0, L0) := hD
      unfold fX14_codeOf_i104 at hD
      refine lv_iload C.1.1 C.1.2.1 dX14_codeOf_104 (lv_at hl 4 rfl) ?_
      refine lv_bipush (v := 16) C.1.1 C.1.2.1 dX14_codeOf_106 (by decide) ?_
      refine lv_icmp_ge (tgt := 125) C.1.1 C.1.2.1 dX14_codeOf_108 (by decide) (fun c22 => ?_) (fun c22 => ?_)
      · replace hD := g_pos c22 hD
        refine lv_iconst (v := 0) C.1.1 C.1.2.1 dX14_codeOf_125 (by decide) ?_
        refine lv_istore (lv' := [(5, .int 0), (0, .ref (ad 854)), (1, .int a1), (2, .int a2), (4, .int v4)]) C.1.1 C.1.2.1 dX14_codeOf_126 hl (by decide) rfl (fun ls hl => ?_)
        exact hh128 fu v4 0 M L _ _ ls hD hw (lv_sub hl [1, 2, 3, 4, 0] rfl)
      · replace hD := g_neg c22 hD
        refine lv_aload_n C.1.1 C.1.2.1 dX14_codeOf_111 rfl (lv_at hl 0 rfl) ?_
        refine mr_getR C hw kc_14 13 (by decide) tf_854 ff_854_13 wd_2278 dX14_codeOf_112 (by decide) rfl ?_
        refine lv_iload C.1.1 C.1.2.1 dX14_codeOf_115 (lv_at hl 4 rfl) ?_
        refine lv_iconst (v := 0) C.1.1 C.1.2.1 dX14_codeOf_117 (by decide) ?_
        obtain ⟨q23, hD⟩ := g_ck hD
        obtain ⟨M24, eM24, hD⟩ := g_let hD
        refine mr_iast C hw (by decide) tf_863 q23 dX14_codeOf_118 (fun H locs hw => ?_)
        replace hw : mw_W G ad NF TF FF M24 L H locs := by rw [eM24]; exact hw
        obtain ⟨x25, ex25, hD⟩ := g_let hD
        refine lv_iinc (v := x25) (lv' := [(5, .int x25), (0, .ref (ad 854)), (1, .int a1), (2, .int a2), (4, .int v4)]) C.1.1 C.1.2.1 dX14_codeOf_119 hl (k := 4) rfl (by rw [ex25]; rfl) (by decide) rfl (fun ls hl => ?_)
        refine lv_goto (tgt := 104) C.1.1 C.1.2.1 dX14_codeOf_122 (by decide) ?_
        exact ih104 v4 x25 M24 L _ _ ls hD hw (lv_sub hl [1, 2, 3, 4, 0] rfl)
  have hb99 : ∀ (s0 : Int32) (M : mwM) (L : mwL) (H : Heap) (locs : List Loc) (ls : Array Slot), fX14_codeOf_b99 fu a1 a2 s0 M L = some (M0, L0) → mw_W G ad NF TF FF M L H locs → lv_has ls 8 [(0, .ref (ad 854)), (1, .int a1), (2, .int a2)] → W p l e ({ frames := 3, cells := 0, slots := 0, locals := 75 }) s m [.ref (ad 854), .int a1, .int a2].toArray below meth c H locs 0 0 (MQ below (mw_Qv G ad NF TF FF (mw_eqV M0 L0)) [.ref (ad 854), .int a1, .int a2].toArray s 0 0 (mw_fr G)) (F0 m 99 ls [.int s0]) := by
    intro s0 M L H locs ls hD hw hl
    unfold fX14_codeOf_b99 at hD
    refine lv_istore (lv' := [(4, .int s0), (0, .ref (ad 854)), (1, .int a1), (2, .int a2)]) C.1.1 C.1.2.1 dX14_codeOf_99 hl (by decide) rfl (fun ls hl => ?_)
    refine lv_iconst (v := 0) C.1.1 C.1.2.1 dX14_codeOf_101 (by decide) ?_
    refine lv_istore (lv' := [(5, .int 0), (4, .int s0), (0, .ref (ad 854)), (1, .int a1), (2, .int a2)]) C.1.1 C.1.2.1 dX14_codeOf_102 hl (by decide) rfl (fun ls hl => ?_)
    exact hh104 fu s0 0 M L _ _ ls hD hw (lv_sub hl [2, 3, 4, 1, 0] rfl)
  have hb81 : ∀ (v3 : Int32) (M : mwM) (L : mwL) (H : Heap) (locs : List Loc) (ls : Array Slot), fX14_codeOf_b81 fu a1 a2 v3 M L = some (M0, L0) → mw_W G ad NF TF FF M L H locs → lv_has ls 8 [(0, .ref (ad 854)), (1, .int a1), (2, .int a2), (3, .int v3)] → W p l e ({ frames := 3, cells := 0, slots := 0, locals := 75 }) s m [.ref (ad 854), .int a1, .int a2].toArray below meth c H locs 0 0 (MQ below (mw_Qv G ad NF TF FF (mw_eqV M0 L0)) [.ref (ad 854), .int a1, .int a2].toArray s 0 0 (mw_fr G)) (F0 m 81 ls []) := by
    intro v3 M L H locs ls hD hw hl
    unfold fX14_codeOf_b81 at hD
    refine lv_iload_n C.1.1 C.1.2.1 dX14_codeOf_81 rfl (lv_at hl 3 rfl) ?_
    refine lv_if_eq (tgt := 89) C.1.1 C.1.2.1 dX14_codeOf_82 (by decide) (fun c20 => ?_) (fun c20 => ?_)
    · replace hD := g_pos c20 hD
      refine lv_iload_n C.1.1 C.1.2.1 dX14_codeOf_89 rfl (lv_at hl 2 rfl) ?_
      refine lv_bipush (v := 16) C.1.1 C.1.2.1 dX14_codeOf_90 (by decide) ?_
      refine lv_idiv C.1.1 C.1.2.1 dX14_codeOf_92 (by decide) ?_
      refine lv_bipush (v := 16) C.1.1 C.1.2.1 dX14_codeOf_93 (by decide) ?_
      refine lv_imul C.1.1 C.1.2.1 dX14_codeOf_95 ?_
      refine lv_bipush (v := 16) C.1.1 C.1.2.1 dX14_codeOf_96 (by decide) ?_
      refine lv_iadd C.1.1 C.1.2.1 dX14_codeOf_98 ?_
      exact hb99 (((a2 / 16) * 16) + 16) M L _ _ ls hD hw (lv_sub hl [0, 1, 2] rfl)
    · replace hD := g_neg c20 hD
      refine lv_iload_n C.1.1 C.1.2.1 dX14_codeOf_85 rfl (lv_at hl 2 rfl) ?_
      refine lv_goto (tgt := 99) C.1.1 C.1.2.1 dX14_codeOf_86 (by decide) ?_
      exact hb99 a2 M L _ _ ls hD hw (lv_sub hl [0, 1, 2] rfl)
  have hb72 : ∀ (s0 : Int32) (M : mwM) (L : mwL) (H : Heap) (locs : List Loc) (ls : Array Slot), fX14_codeOf_b72 fu a1 a2 s0 M L = some (M0, L0) → mw_W G ad NF TF FF M L H locs → lv_has ls 8 [(0, .ref (ad 854)), (1, .int a1), (2, .int a2)] → W p l e ({ frames := 3, cells := 0, slots := 0, locals := 75 }) s m [.ref (ad 854), .int a1, .int a2].toArray below meth c H locs 0 0 (MQ below (mw_Qv G ad NF TF FF (mw_eqV M0 L0)) [.ref (ad 854), .int a1, .int a2].toArray s 0 0 (mw_fr G)) (F0 m 72 ls [.int s0]) := by
    intro s0 M L H locs ls hD hw hl
    unfold fX14_codeOf_b72 at hD
    refine lv_istore_n (lv' := [(3, .int s0), (0, .ref (ad 854)), (1, .int a1), (2, .int a2)]) C.1.1 C.1.2.1 dX14_codeOf_72 rfl hl (by decide) rfl (fun ls hl => ?_)
    refine lv_iload_n C.1.1 C.1.2.1 dX14_codeOf_73 rfl (lv_at hl 0 rfl) ?_
    refine lv_if_ne (tgt := 81) C.1.1 C.1.2.1 dX14_codeOf_74 (by decide) (fun c17 => ?_) (fun c17 => ?_)
    · replace hD := g_neg c17 hD
      exact hb81 s0 M L _ _ ls hD hw (lv_sub hl [1, 2, 3, 0] rfl)
    · replace hD := g_pos c17 hD
      refine lv_aload_n C.1.1 C.1.2.1 dX14_codeOf_77 rfl (lv_at hl 1 rfl) ?_
      obtain ⟨M18, L19, h1, hD⟩ := g_b2 hD
      refine md_cvV (As := []) (rest := []) C hw (tX14_doubled l G ad fu M L h1) kc_14 (by decide) tf_854 wd_3602 cwX14_doubled ⟨Nat.le_of_ble_eq_true rfl, Nat.le_of_ble_eq_true rfl⟩ rfl hl.1 (Nat.le_of_ble_eq_true rfl) dX14_codeOf_78 rfl rfl ⟨Nat.zero_le _, Nat.zero_le _⟩ rfl (fun H locs hw => ?_)
      exact hb81 s0 M18 L19 _ _ ls hD hw (lv_sub hl [1, 2, 3, 0] rfl)
  have hb71 : ∀ (M : mwM) (L : mwL) (H : Heap) (locs : List Loc) (ls : Array Slot), fX14_codeOf_b71 fu a1 a2 M L = some (M0, L0) → mw_W G ad NF TF FF M L H locs → lv_has ls 8 [(0, .ref (ad 854)), (1, .int a1), (2, .int a2)] → W p l e ({ frames := 3, cells := 0, slots := 0, locals := 75 }) s m [.ref (ad 854), .int a1, .int a2].toArray below meth c H locs 0 0 (MQ below (mw_Qv G ad NF TF FF (mw_eqV M0 L0)) [.ref (ad 854), .int a1, .int a2].toArray s 0 0 (mw_fr G)) (F0 m 71 ls []) := by
    intro M L H locs ls hD hw hl
    unfold fX14_codeOf_b71 at hD
    refine lv_iconst (v := 0) C.1.1 C.1.2.1 dX14_codeOf_71 (by decide) ?_
    exact hb72 0 M L _ _ ls hD hw (lv_sub hl [0, 1, 2] rfl)
  have hh28 : ∀ (f : Nat) (v3 : Int32) (M : mwM) (L : mwL) (H : Heap) (locs : List Loc) (ls : Array Slot), fX14_codeOf_h28 fu a1 a2 f (v3, M, L) = some (M0, L0) → mw_W G ad NF TF FF M L H locs → lv_has ls 8 [(0, .ref (ad 854)), (1, .int a1), (2, .int a2), (3, .int v3)] → W p l e ({ frames := 3, cells := 0, slots := 0, locals := 75 }) s m [.ref (ad 854), .int a1, .int a2].toArray below meth c H locs 0 0 (MQ below (mw_Qv G ad NF TF FF (mw_eqV M0 L0)) [.ref (ad 854), .int a1, .int a2].toArray s 0 0 (mw_fr G)) (F0 m 28 ls []) := by
    intro f
    induction f with
    | zero => intro v3 M L H locs ls hD; cases hD
    | succ f28 ih28 =>
      intro v3 M L H locs ls hD hw hl
      replace hD : fX14_codeOf_i28 fu a1 a2 (fX14_codeOf_h28 fu a1 a2 f28) v3 M L = some (M0, L0) := hD
      unfold fX14_codeOf_i28 at hD
      refine lv_iload_n C.1.1 C.1.2.1 dX14_codeOf_28 rfl (lv_at hl 3 rfl) ?_
      refine lv_bipush (v := 16) C.1.1 C.1.2.1 dX14_codeOf_29 (by decide) ?_
      refine lv_icmp_ge (tgt := 52) C.1.1 C.1.2.1 dX14_codeOf_31 (by decide) (fun c7 => ?_) (fun c7 => ?_)
      · replace hD := g_pos c7 hD
        refine lv_aload_n C.1.1 C.1.2.1 dX14_codeOf_52 rfl (lv_at hl 0 rfl) ?_
        obtain ⟨M8, L9, h1, hD⟩ := g_b2 hD
        refine md_cvV (As := []) (rest := []) C hw (tX14_doubled l G ad fu M L h1) kc_14 (by decide) tf_854 wd_3602 cwX14_doubled ⟨Nat.le_of_ble_eq_true rfl, Nat.le_of_ble_eq_true rfl⟩ rfl hl.1 (Nat.le_of_ble_eq_true rfl) dX14_codeOf_53 rfl rfl ⟨Nat.zero_le _, Nat.zero_le _⟩ rfl (fun H locs hw => ?_)
        refine lv_iload_n C.1.1 C.1.2.1 dX14_codeOf_56 rfl (lv_at hl 2 rfl) ?_
        refine lv_if_le (tgt := 71) C.1.1 C.1.2.1 dX14_codeOf_57 (by decide) (fun c10 => ?_) (fun c10 => ?_)
        · replace hD := g_pos c10 hD
          exact hb71 M8 L9 _ _ ls hD hw (lv_sub hl [0, 1, 2] rfl)
        · replace hD := g_neg c10 hD
          refine lv_iload_n C.1.1 C.1.2.1 dX14_codeOf_60 rfl (lv_at hl 2 rfl) ?_
          refine lv_bipush (v := 16) C.1.1 C.1.2.1 dX14_codeOf_61 (by decide) ?_
          refine lv_irem C.1.1 C.1.2.1 dX14_codeOf_63 (by decide) ?_
          refine lv_if_ne (tgt := 71) C.1.1 C.1.2.1 dX14_codeOf_64 (by decide) (fun c12 => ?_) (fun c12 => ?_)
          · replace hD := g_neg c12 hD
            exact hb71 M8 L9 _ _ ls hD hw (lv_sub hl [0, 1, 2] rfl)
          · replace hD := g_pos c12 hD
            refine lv_iconst (v := 1) C.1.1 C.1.2.1 dX14_codeOf_67 (by decide) ?_
            refine lv_goto (tgt := 72) C.1.1 C.1.2.1 dX14_codeOf_68 (by decide) ?_
            exact hb72 1 M8 L9 _ _ ls hD hw (lv_sub hl [0, 1, 2] rfl)
      · replace hD := g_neg c7 hD
        refine lv_aload_n C.1.1 C.1.2.1 dX14_codeOf_34 rfl (lv_at hl 0 rfl) ?_
        refine mr_getR C hw kc_14 16 (by decide) tf_854 ff_854_16 wd_2281 dX14_codeOf_35 (by decide) rfl ?_
        refine lv_iload_n C.1.1 C.1.2.1 dX14_codeOf_38 rfl (lv_at hl 3 rfl) ?_
        refine lv_aload_n C.1.1 C.1.2.1 dX14_codeOf_39 rfl (lv_at hl 0 rfl) ?_
        refine mr_getR C hw kc_14 13 (by decide) tf_854 ff_854_13 wd_2278 dX14_codeOf_40 (by decide) rfl ?_
        refine lv_iload_n C.1.1 C.1.2.1 dX14_codeOf_43 rfl (lv_at hl 3 rfl) ?_
        obtain ⟨q13, hD⟩ := g_ck hD
        refine mr_iald C hw (by decide) tf_863 q13 dX14_codeOf_44 ?_
        obtain ⟨q14, hD⟩ := g_ck hD
        obtain ⟨M15, eM15, hD⟩ := g_let hD
        refine mr_iast C hw (by decide) tf_866 q14 dX14_codeOf_45 (fun H locs hw => ?_)
        replace hw : mw_W G ad NF TF FF M15 L H locs := by rw [eM15]; exact hw
        obtain ⟨x16, ex16, hD⟩ := g_let hD
        refine lv_iinc (v := x16) (lv' := [(3, .int x16), (0, .ref (ad 854)), (1, .int a1), (2, .int a2)]) C.1.1 C.1.2.1 dX14_codeOf_46 hl (k := 3) rfl (by rw [ex16]; rfl) (by decide) rfl (fun ls hl => ?_)
        refine lv_goto (tgt := 28) C.1.1 C.1.2.1 dX14_codeOf_49 (by decide) ?_
        exact ih28 x16 M15 L _ _ ls hD hw (lv_sub hl [1, 2, 3, 0] rfl)
  have hh2 : ∀ (f : Nat) (v3 : Int32) (M : mwM) (L : mwL) (H : Heap) (locs : List Loc) (ls : Array Slot), fX14_codeOf_h2 fu a1 a2 f (v3, M, L) = some (M0, L0) → mw_W G ad NF TF FF M L H locs → lv_has ls 8 [(0, .ref (ad 854)), (1, .int a1), (2, .int a2), (3, .int v3)] → W p l e ({ frames := 3, cells := 0, slots := 0, locals := 75 }) s m [.ref (ad 854), .int a1, .int a2].toArray below meth c H locs 0 0 (MQ below (mw_Qv G ad NF TF FF (mw_eqV M0 L0)) [.ref (ad 854), .int a1, .int a2].toArray s 0 0 (mw_fr G)) (F0 m 2 ls []) := by
    intro f
    induction f with
    | zero => intro v3 M L H locs ls hD; cases hD
    | succ f2 ih2 =>
      intro v3 M L H locs ls hD hw hl
      replace hD : fX14_codeOf_i2 fu a1 a2 (fX14_codeOf_h2 fu a1 a2 f2) v3 M L = some (M0, L0) := hD
      unfold fX14_codeOf_i2 at hD
      refine lv_iload_n C.1.1 C.1.2.1 dX14_codeOf_2 rfl (lv_at hl 3 rfl) ?_
      refine lv_bipush (v := 16) C.1.1 C.1.2.1 dX14_codeOf_3 (by decide) ?_
      refine lv_icmp_ge (tgt := 21) C.1.1 C.1.2.1 dX14_codeOf_5 (by decide) (fun c1 => ?_) (fun c1 => ?_)
      · replace hD := g_pos c1 hD
        refine lv_aload_n C.1.1 C.1.2.1 dX14_codeOf_21 rfl (lv_at hl 0 rfl) ?_
        refine lv_iload_n C.1.1 C.1.2.1 dX14_codeOf_22 rfl (lv_at hl 1 rfl) ?_
        obtain ⟨M2, L3, h1, hD⟩ := g_b2 hD
        refine md_cvV (As := [.int a1]) (rest := []) C hw (tX14_cipher l G ad fu a1 M L h1) kc_14 (by decide) tf_854 wd_3590 cwX14_cipher ⟨Nat.le_of_ble_eq_true rfl, Nat.le_of_ble_eq_true rfl⟩ rfl hl.1 (Nat.le_of_ble_eq_true rfl) dX14_codeOf_23 rfl rfl ⟨Nat.zero_le _, Nat.zero_le _⟩ rfl (fun H locs hw => ?_)
        refine lv_iconst (v := 0) C.1.1 C.1.2.1 dX14_codeOf_26 (by decide) ?_
        refine lv_istore_n (lv' := [(3, .int 0), (0, .ref (ad 854)), (1, .int a1), (2, .int a2)]) C.1.1 C.1.2.1 dX14_codeOf_27 rfl hl (by decide) rfl (fun ls hl => ?_)
        exact hh28 fu 0 M2 L3 _ _ ls hD hw (lv_sub hl [1, 2, 3, 0] rfl)
      · replace hD := g_neg c1 hD
        refine lv_aload_n C.1.1 C.1.2.1 dX14_codeOf_8 rfl (lv_at hl 0 rfl) ?_
        refine mr_getR C hw kc_14 13 (by decide) tf_854 ff_854_13 wd_2278 dX14_codeOf_9 (by decide) rfl ?_
        refine lv_iload_n C.1.1 C.1.2.1 dX14_codeOf_12 rfl (lv_at hl 3 rfl) ?_
        refine lv_iconst (v := 0) C.1.1 C.1.2.1 dX14_codeOf_13 (by decide) ?_
        obtain ⟨q4, hD⟩ := g_ck hD
        obtain ⟨M5, eM5, hD⟩ := g_let hD
        refine mr_iast C hw (by decide) tf_863 q4 dX14_codeOf_14 (fun H locs hw => ?_)
        replace hw : mw_W G ad NF TF FF M5 L H locs := by rw [eM5]; exact hw
        obtain ⟨x6, ex6, hD⟩ := g_let hD
        refine lv_iinc (v := x6) (lv' := [(3, .int x6), (0, .ref (ad 854)), (1, .int a1), (2, .int a2)]) C.1.1 C.1.2.1 dX14_codeOf_15 hl (k := 3) rfl (by rw [ex6]; rfl) (by decide) rfl (fun ls hl => ?_)
        refine lv_goto (tgt := 2) C.1.1 C.1.2.1 dX14_codeOf_18 (by decide) ?_
        exact ih2 x6 M5 L _ _ ls hD hw (lv_sub hl [1, 2, 3, 0] rfl)
  unfold DX14_codeOf at hD
  refine lv_iconst (v := 0) C.1.1 C.1.2.1 dX14_codeOf_0 (by decide) ?_
  refine lv_istore_n (lv' := [(3, .int 0), (0, .ref (ad 854)), (1, .int a1), (2, .int a2)]) C.1.1 C.1.2.1 dX14_codeOf_1 rfl hl (by decide) rfl (fun ls hl => ?_)
  exact hh2 fu 0 M L _ _ ls hD hw (lv_sub hl [1, 2, 3, 0] rfl)

theorem dX14_key_0 : decode cX14_key 0 = .ok (.aload_n 0, 1) := by decide +kernel
theorem dX14_key_1 : decode cX14_key 1 = .ok (.iconst 0, 1) := by decide +kernel
theorem dX14_key_2 : decode cX14_key 2 = .ok (.putfield 58, 3) := by decide +kernel
theorem dX14_key_5 : decode cX14_key 5 = .ok (.aload_n 0, 1) := by decide +kernel
theorem dX14_key_6 : decode cX14_key 6 = .ok (.getfield 62, 3) := by decide +kernel
theorem dX14_key_9 : decode cX14_key 9 = .ok (.bipush 16, 2) := by decide +kernel
theorem dX14_key_11 : decode cX14_key 11 = .ok (.if_icmp .ne 6, 3) := by decide +kernel
theorem dX14_key_14 : decode cX14_key 14 = .ok (.bipush (-4), 2) := by decide +kernel
theorem dX14_key_16 : decode cX14_key 16 = .ok (.ireturn, 1) := by decide +kernel
theorem dX14_key_17 : decode cX14_key 17 = .ok (.aload_n 0, 1) := by decide +kernel
theorem dX14_key_18 : decode cX14_key 18 = .ok (.dup, 1) := by decide +kernel
theorem dX14_key_19 : decode cX14_key 19 = .ok (.getfield 62, 3) := by decide +kernel
theorem dX14_key_22 : decode cX14_key 22 = .ok (.iconst 1, 1) := by decide +kernel
theorem dX14_key_23 : decode cX14_key 23 = .ok (.iadd, 1) := by decide +kernel
theorem dX14_key_24 : decode cX14_key 24 = .ok (.putfield 62, 3) := by decide +kernel
theorem dX14_key_27 : decode cX14_key 27 = .ok (.aload_n 0, 1) := by decide +kernel
theorem dX14_key_28 : decode cX14_key 28 = .ok (.getfield 62, 3) := by decide +kernel
theorem dX14_key_31 : decode cX14_key 31 = .ok (.ireturn, 1) := by decide +kernel
theorem cwX14_key : mw_cwV yX14_key cX14_key 1 ((some .int)) 0 := ⟨⟨wd_16, wd_2772, by decide +kernel⟩, wd_2770, wd_2771⟩
set_option maxHeartbeats 4000000 in
set_option maxRecDepth 100000 in
theorem tX14_key (l : Launch) (G : mwG) (ad : Nat → Nat) (fu : Nat) (M : mwM) (L : mwL) {r0 : Int32} {M0 : mwM} {L0 : mwL} (hD : DX14_key fu M L = some (r0, M0, L0)) : Met l yX14_key (Cond.code yX14_key cX14_key 1 ((some .int)) :: GT) ({ frames := 0, cells := 0, slots := 0, locals := 0 }) (mw_Pre G ad NF TF FF M L [.ref (ad 854)]) (mw_Qi G ad NF TF FF (mw_eqI r0 M0 L0)) 0 0 (mw_fr G) := by
  refine mw_enter (by decide) (Nat.le_of_ble_eq_true rfl) ?_
  intro p e s m below meth c ls C hr hlocks hnm hw hl
  have hl : lv_has ls 1 [(0, .ref (ad 854))] := hl
  unfold DX14_key at hD
  refine lv_aload_n C.1.1 C.1.2.1 dX14_key_0 rfl (lv_at hl 0 rfl) ?_
  refine lv_iconst (v := 0) C.1.1 C.1.2.1 dX14_key_1 (by decide) ?_
  obtain ⟨M1, eM1, hD⟩ := g_let hD
  refine mr_putI C hw kc_14 0 (by decide) tf_854 wd_2266 dX14_key_2 (by decide) rfl rfl rfl rfl (fun H locs hw => ?_)
  replace hw : mw_W G ad NF TF FF M1 L H locs := by rw [eM1]; exact hw
  refine lv_aload_n C.1.1 C.1.2.1 dX14_key_5 rfl (lv_at hl 0 rfl) ?_
  refine mr_getI C hw kc_14 1 (by decide) tf_854 wd_2267 dX14_key_6 (by decide) rfl ?_
  refine lv_bipush (v := 16) C.1.1 C.1.2.1 dX14_key_9 (by decide) ?_
  refine lv_icmp_ne (tgt := 17) C.1.1 C.1.2.1 dX14_key_11 (by decide) (fun c2 => ?_) (fun c2 => ?_)
  · replace hD := g_neg c2 hD
    refine lv_aload_n C.1.1 C.1.2.1 dX14_key_17 rfl (lv_at hl 0 rfl) ?_
    refine lv_dup C.1.1 C.1.2.1 dX14_key_18 rfl ?_
    refine mr_getI C hw kc_14 1 (by decide) tf_854 wd_2267 dX14_key_19 (by decide) rfl ?_
    refine lv_iconst (v := 1) C.1.1 C.1.2.1 dX14_key_22 (by decide) ?_
    refine lv_iadd C.1.1 C.1.2.1 dX14_key_23 ?_
    obtain ⟨M3, eM3, hD⟩ := g_let hD
    refine mr_putI C hw kc_14 1 (by decide) tf_854 wd_2267 dX14_key_24 (by decide) rfl rfl rfl rfl (fun H locs hw => ?_)
    replace hw : mw_W G ad NF TF FF M3 L H locs := by rw [eM3]; exact hw
    refine lv_aload_n C.1.1 C.1.2.1 dX14_key_27 rfl (lv_at hl 0 rfl) ?_
    refine mr_getI C hw kc_14 1 (by decide) tf_854 wd_2267 dX14_key_28 (by decide) rfl ?_
    exact mr_iret C hr hlocks hw rfl (Option.some.inj hD) dX14_key_31
  · replace hD := g_pos c2 hD
    refine lv_bipush (v := (-4)) C.1.1 C.1.2.1 dX14_key_14 (by decide) ?_
    exact mr_iret C hr hlocks hw rfl (Option.some.inj hD) dX14_key_16

theorem dX14_keyByte_0 : decode cX14_keyByte 0 = .ok (.aload_n 0, 1) := by decide +kernel
theorem dX14_keyByte_1 : decode cX14_keyByte 1 = .ok (.iload_n 1, 1) := by decide +kernel
theorem dX14_keyByte_2 : decode cX14_keyByte 2 = .ok (.invokevirtual 82, 3) := by decide +kernel
theorem dX14_keyByte_5 : decode cX14_keyByte 5 = .ok (.ifCond .eq 4, 3) := by decide +kernel
theorem dX14_keyByte_8 : decode cX14_keyByte 8 = .ok (.return_, 1) := by decide +kernel
theorem dX14_keyByte_9 : decode cX14_keyByte 9 = .ok (.aload_n 0, 1) := by decide +kernel
theorem dX14_keyByte_10 : decode cX14_keyByte 10 = .ok (.getfield 7, 3) := by decide +kernel
theorem dX14_keyByte_13 : decode cX14_keyByte 13 = .ok (.bipush 16, 2) := by decide +kernel
theorem dX14_keyByte_15 : decode cX14_keyByte 15 = .ok (.iload_n 1, 1) := by decide +kernel
theorem dX14_keyByte_16 : decode cX14_keyByte 16 = .ok (.imul, 1) := by decide +kernel
theorem dX14_keyByte_17 : decode cX14_keyByte 17 = .ok (.aload_n 0, 1) := by decide +kernel
theorem dX14_keyByte_18 : decode cX14_keyByte 18 = .ok (.getfield 13, 3) := by decide +kernel
theorem dX14_keyByte_21 : decode cX14_keyByte 21 = .ok (.iload_n 1, 1) := by decide +kernel
theorem dX14_keyByte_22 : decode cX14_keyByte 22 = .ok (.iaload, 1) := by decide +kernel
theorem dX14_keyByte_23 : decode cX14_keyByte 23 = .ok (.iadd, 1) := by decide +kernel
theorem dX14_keyByte_24 : decode cX14_keyByte 24 = .ok (.iload_n 2, 1) := by decide +kernel
theorem dX14_keyByte_25 : decode cX14_keyByte 25 = .ok (.sipush 255, 3) := by decide +kernel
theorem dX14_keyByte_28 : decode cX14_keyByte 28 = .ok (.iand, 1) := by decide +kernel
theorem dX14_keyByte_29 : decode cX14_keyByte 29 = .ok (.iastore, 1) := by decide +kernel
theorem dX14_keyByte_30 : decode cX14_keyByte 30 = .ok (.aload_n 0, 1) := by decide +kernel
theorem dX14_keyByte_31 : decode cX14_keyByte 31 = .ok (.getfield 13, 3) := by decide +kernel
theorem dX14_keyByte_34 : decode cX14_keyByte 34 = .ok (.iload_n 1, 1) := by decide +kernel
theorem dX14_keyByte_35 : decode cX14_keyByte 35 = .ok (.aload_n 0, 1) := by decide +kernel
theorem dX14_keyByte_36 : decode cX14_keyByte 36 = .ok (.getfield 13, 3) := by decide +kernel
theorem dX14_keyByte_39 : decode cX14_keyByte 39 = .ok (.iload_n 1, 1) := by decide +kernel
theorem dX14_keyByte_40 : decode cX14_keyByte 40 = .ok (.iaload, 1) := by decide +kernel
theorem dX14_keyByte_41 : decode cX14_keyByte 41 = .ok (.iconst 1, 1) := by decide +kernel
theorem dX14_keyByte_42 : decode cX14_keyByte 42 = .ok (.iadd, 1) := by decide +kernel
theorem dX14_keyByte_43 : decode cX14_keyByte 43 = .ok (.bipush 16, 2) := by decide +kernel
theorem dX14_keyByte_45 : decode cX14_keyByte 45 = .ok (.irem, 1) := by decide +kernel
theorem dX14_keyByte_46 : decode cX14_keyByte 46 = .ok (.iastore, 1) := by decide +kernel
theorem dX14_keyByte_47 : decode cX14_keyByte 47 = .ok (.return_, 1) := by decide +kernel
theorem cwX14_keyByte : mw_cwV yX14_keyByte cX14_keyByte 3 (none) 2 := ⟨⟨wd_16, wd_2776, by decide +kernel⟩, wd_2774, wd_2775⟩
set_option maxHeartbeats 4000000 in
set_option maxRecDepth 100000 in
theorem tX14_keyByte (l : Launch) (G : mwG) (ad : Nat → Nat) (fu : Nat) (a1 : Int32) (a2 : Int32) (M : mwM) (L : mwL) {M0 : mwM} {L0 : mwL} (hD : DX14_keyByte fu a1 a2 M L = some (M0, L0)) : Met l yX14_keyByte (Cond.code yX14_keyByte cX14_keyByte 3 (none) :: GT) ({ frames := 1, cells := 0, slots := 0, locals := 21 }) (mw_Pre G ad NF TF FF M L [.ref (ad 854), .int a1, .int a2]) (mw_Qv G ad NF TF FF (mw_eqV M0 L0)) 0 0 (mw_fr G) := by
  refine mw_enter (by decide) (Nat.le_of_ble_eq_true rfl) ?_
  intro p e s m below meth c ls C hr hlocks hnm hw hl
  have hl : lv_has ls 3 [(0, .ref (ad 854)), (1, .int a1), (2, .int a2)] := hl
  unfold DX14_keyByte at hD
  refine lv_aload_n C.1.1 C.1.2.1 dX14_keyByte_0 rfl (lv_at hl 0 rfl) ?_
  refine lv_iload_n C.1.1 C.1.2.1 dX14_keyByte_1 rfl (lv_at hl 1 rfl) ?_
  obtain ⟨r3, M1, L2, h1, hD⟩ := g_b3 hD
  refine md_cvI (As := [.int a1]) (rest := []) C hw (tX14_noKey l G ad fu a1 M L h1) kc_14 (by decide) tf_854 wd_2777 cwX14_noKey ⟨Nat.le_of_ble_eq_true rfl, Nat.le_of_ble_eq_true rfl⟩ rfl hl.1 (Nat.le_of_ble_eq_true rfl) dX14_keyByte_2 rfl rfl ⟨Nat.zero_le _, Nat.zero_le _⟩ rfl (fun H locs hw => ?_)
  refine lv_if_eq (tgt := 9) C.1.1 C.1.2.1 dX14_keyByte_5 (by decide) (fun c4 => ?_) (fun c4 => ?_)
  · replace hD := g_pos c4 hD
    refine lv_aload_n C.1.1 C.1.2.1 dX14_keyByte_9 rfl (lv_at hl 0 rfl) ?_
    refine mr_getR C hw kc_14 2 (by decide) tf_854 ff_854_2 wd_2268 dX14_keyByte_10 (by decide) rfl ?_
    refine lv_bipush (v := 16) C.1.1 C.1.2.1 dX14_keyByte_13 (by decide) ?_
    refine lv_iload_n C.1.1 C.1.2.1 dX14_keyByte_15 rfl (lv_at hl 1 rfl) ?_
    refine lv_imul C.1.1 C.1.2.1 dX14_keyByte_16 ?_
    refine lv_aload_n C.1.1 C.1.2.1 dX14_keyByte_17 rfl (lv_at hl 0 rfl) ?_
    refine mr_getR C hw kc_14 3 (by decide) tf_854 ff_854_3 wd_2269 dX14_keyByte_18 (by decide) rfl ?_
    refine lv_iload_n C.1.1 C.1.2.1 dX14_keyByte_21 rfl (lv_at hl 1 rfl) ?_
    obtain ⟨q5, hD⟩ := g_ck hD
    refine mr_iald C hw (by decide) tf_856 q5 dX14_keyByte_22 ?_
    refine lv_iadd C.1.1 C.1.2.1 dX14_keyByte_23 ?_
    refine lv_iload_n C.1.1 C.1.2.1 dX14_keyByte_24 rfl (lv_at hl 2 rfl) ?_
    refine lv_sipush (v := 255) C.1.1 C.1.2.1 dX14_keyByte_25 (by decide) ?_
    refine lv_iand C.1.1 C.1.2.1 dX14_keyByte_28 ?_
    obtain ⟨q6, hD⟩ := g_ck hD
    obtain ⟨M7, eM7, hD⟩ := g_let hD
    refine mr_iast C hw (by decide) tf_855 q6 dX14_keyByte_29 (fun H locs hw => ?_)
    replace hw : mw_W G ad NF TF FF M7 L2 H locs := by rw [eM7]; exact hw
    refine lv_aload_n C.1.1 C.1.2.1 dX14_keyByte_30 rfl (lv_at hl 0 rfl) ?_
    refine mr_getR C hw kc_14 3 (by decide) tf_854 ff_854_3 wd_2269 dX14_keyByte_31 (by decide) rfl ?_
    refine lv_iload_n C.1.1 C.1.2.1 dX14_keyByte_34 rfl (lv_at hl 1 rfl) ?_
    refine lv_aload_n C.1.1 C.1.2.1 dX14_keyByte_35 rfl (lv_at hl 0 rfl) ?_
    refine mr_getR C hw kc_14 3 (by decide) tf_854 ff_854_3 wd_2269 dX14_keyByte_36 (by decide) rfl ?_
    refine lv_iload_n C.1.1 C.1.2.1 dX14_keyByte_39 rfl (lv_at hl 1 rfl) ?_
    obtain ⟨q8, hD⟩ := g_ck hD
    refine mr_iald C hw (by decide) tf_856 q8 dX14_keyByte_40 ?_
    refine lv_iconst (v := 1) C.1.1 C.1.2.1 dX14_keyByte_41 (by decide) ?_
    refine lv_iadd C.1.1 C.1.2.1 dX14_keyByte_42 ?_
    refine lv_bipush (v := 16) C.1.1 C.1.2.1 dX14_keyByte_43 (by decide) ?_
    refine lv_irem C.1.1 C.1.2.1 dX14_keyByte_45 (by decide) ?_
    obtain ⟨q10, hD⟩ := g_ck hD
    obtain ⟨M11, eM11, hD⟩ := g_let hD
    refine mr_iast C hw (by decide) tf_856 q10 dX14_keyByte_46 (fun H locs hw => ?_)
    replace hw : mw_W G ad NF TF FF M11 L2 H locs := by rw [eM11]; exact hw
    exact mr_vret C hr hlocks hw (Option.some.inj hD) dX14_keyByte_47
  · replace hD := g_neg c4 hD
    exact mr_vret C hr hlocks hw (Option.some.inj hD) dX14_keyByte_8

theorem dX14_octet_0 : decode cX14_octet 0 = .ok (.aload_n 0, 1) := by decide +kernel
theorem dX14_octet_1 : decode cX14_octet 1 = .ok (.iconst 0, 1) := by decide +kernel
theorem dX14_octet_2 : decode cX14_octet 2 = .ok (.putfield 58, 3) := by decide +kernel
theorem dX14_octet_5 : decode cX14_octet 5 = .ok (.aload_n 0, 1) := by decide +kernel
theorem dX14_octet_6 : decode cX14_octet 6 = .ok (.getfield 86, 3) := by decide +kernel
theorem dX14_octet_9 : decode cX14_octet 9 = .ok (.sipush 300, 3) := by decide +kernel
theorem dX14_octet_12 : decode cX14_octet 12 = .ok (.if_icmp .ne 4, 3) := by decide +kernel
theorem dX14_octet_15 : decode cX14_octet 15 = .ok (.return_, 1) := by decide +kernel
theorem dX14_octet_16 : decode cX14_octet 16 = .ok (.aload_n 0, 1) := by decide +kernel
theorem dX14_octet_17 : decode cX14_octet 17 = .ok (.getfield 20, 3) := by decide +kernel
theorem dX14_octet_20 : decode cX14_octet 20 = .ok (.aload_n 0, 1) := by decide +kernel
theorem dX14_octet_21 : decode cX14_octet 21 = .ok (.getfield 86, 3) := by decide +kernel
theorem dX14_octet_24 : decode cX14_octet 24 = .ok (.iload_n 1, 1) := by decide +kernel
theorem dX14_octet_25 : decode cX14_octet 25 = .ok (.sipush 255, 3) := by decide +kernel
theorem dX14_octet_28 : decode cX14_octet 28 = .ok (.iand, 1) := by decide +kernel
theorem dX14_octet_29 : decode cX14_octet 29 = .ok (.iastore, 1) := by decide +kernel
theorem dX14_octet_30 : decode cX14_octet 30 = .ok (.aload_n 0, 1) := by decide +kernel
theorem dX14_octet_31 : decode cX14_octet 31 = .ok (.dup, 1) := by decide +kernel
theorem dX14_octet_32 : decode cX14_octet 32 = .ok (.getfield 86, 3) := by decide +kernel
theorem dX14_octet_35 : decode cX14_octet 35 = .ok (.iconst 1, 1) := by decide +kernel
theorem dX14_octet_36 : decode cX14_octet 36 = .ok (.iadd, 1) := by decide +kernel
theorem dX14_octet_37 : decode cX14_octet 37 = .ok (.putfield 86, 3) := by decide +kernel
theorem dX14_octet_40 : decode cX14_octet 40 = .ok (.return_, 1) := by decide +kernel
theorem cwX14_octet : mw_cwV yX14_octet cX14_octet 2 (none) 1 := ⟨⟨wd_16, wd_3581, by decide +kernel⟩, wd_3579, wd_3580⟩
set_option maxHeartbeats 4000000 in
set_option maxRecDepth 100000 in
theorem tX14_octet (l : Launch) (G : mwG) (ad : Nat → Nat) (fu : Nat) (a1 : Int32) (M : mwM) (L : mwL) {M0 : mwM} {L0 : mwL} (hD : DX14_octet fu a1 M L = some (M0, L0)) : Met l yX14_octet (Cond.code yX14_octet cX14_octet 2 (none) :: GT) ({ frames := 0, cells := 0, slots := 0, locals := 0 }) (mw_Pre G ad NF TF FF M L [.ref (ad 854), .int a1]) (mw_Qv G ad NF TF FF (mw_eqV M0 L0)) 0 0 (mw_fr G) := by
  refine mw_enter (by decide) (Nat.le_of_ble_eq_true rfl) ?_
  intro p e s m below meth c ls C hr hlocks hnm hw hl
  have hl : lv_has ls 2 [(0, .ref (ad 854)), (1, .int a1)] := hl
  unfold DX14_octet at hD
  refine lv_aload_n C.1.1 C.1.2.1 dX14_octet_0 rfl (lv_at hl 0 rfl) ?_
  refine lv_iconst (v := 0) C.1.1 C.1.2.1 dX14_octet_1 (by decide) ?_
  obtain ⟨M1, eM1, hD⟩ := g_let hD
  refine mr_putI C hw kc_14 0 (by decide) tf_854 wd_2266 dX14_octet_2 (by decide) rfl rfl rfl rfl (fun H locs hw => ?_)
  replace hw : mw_W G ad NF TF FF M1 L H locs := by rw [eM1]; exact hw
  refine lv_aload_n C.1.1 C.1.2.1 dX14_octet_5 rfl (lv_at hl 0 rfl) ?_
  refine mr_getI C hw kc_14 6 (by decide) tf_854 wd_2272 dX14_octet_6 (by decide) rfl ?_
  refine lv_sipush (v := 300) C.1.1 C.1.2.1 dX14_octet_9 (by decide) ?_
  refine lv_icmp_ne (tgt := 16) C.1.1 C.1.2.1 dX14_octet_12 (by decide) (fun c2 => ?_) (fun c2 => ?_)
  · replace hD := g_neg c2 hD
    refine lv_aload_n C.1.1 C.1.2.1 dX14_octet_16 rfl (lv_at hl 0 rfl) ?_
    refine mr_getR C hw kc_14 5 (by decide) tf_854 ff_854_5 wd_2271 dX14_octet_17 (by decide) rfl ?_
    refine lv_aload_n C.1.1 C.1.2.1 dX14_octet_20 rfl (lv_at hl 0 rfl) ?_
    refine mr_getI C hw kc_14 6 (by decide) tf_854 wd_2272 dX14_octet_21 (by decide) rfl ?_
    refine lv_iload_n C.1.1 C.1.2.1 dX14_octet_24 rfl (lv_at hl 1 rfl) ?_
    refine lv_sipush (v := 255) C.1.1 C.1.2.1 dX14_octet_25 (by decide) ?_
    refine lv_iand C.1.1 C.1.2.1 dX14_octet_28 ?_
    obtain ⟨q3, hD⟩ := g_ck hD
    obtain ⟨M4, eM4, hD⟩ := g_let hD
    refine mr_iast C hw (by decide) tf_858 q3 dX14_octet_29 (fun H locs hw => ?_)
    replace hw : mw_W G ad NF TF FF M4 L H locs := by rw [eM4]; exact hw
    refine lv_aload_n C.1.1 C.1.2.1 dX14_octet_30 rfl (lv_at hl 0 rfl) ?_
    refine lv_dup C.1.1 C.1.2.1 dX14_octet_31 rfl ?_
    refine mr_getI C hw kc_14 6 (by decide) tf_854 wd_2272 dX14_octet_32 (by decide) rfl ?_
    refine lv_iconst (v := 1) C.1.1 C.1.2.1 dX14_octet_35 (by decide) ?_
    refine lv_iadd C.1.1 C.1.2.1 dX14_octet_36 ?_
    obtain ⟨M5, eM5, hD⟩ := g_let hD
    refine mr_putI C hw kc_14 6 (by decide) tf_854 wd_2272 dX14_octet_37 (by decide) rfl rfl rfl rfl (fun H locs hw => ?_)
    replace hw : mw_W G ad NF TF FF M5 L H locs := by rw [eM5]; exact hw
    exact mr_vret C hr hlocks hw (Option.some.inj hD) dX14_octet_40
  · replace hD := g_pos c2 hD
    exact mr_vret C hr hlocks hw (Option.some.inj hD) dX14_octet_15

theorem dX14_tell_0 : decode cX14_tell 0 = .ok (.iconst 0, 1) := by decide +kernel
theorem dX14_tell_1 : decode cX14_tell 1 = .ok (.istore_n 2, 1) := by decide +kernel
theorem dX14_tell_2 : decode cX14_tell 2 = .ok (.iload_n 2, 1) := by decide +kernel
theorem dX14_tell_3 : decode cX14_tell 3 = .ok (.iload_n 1, 1) := by decide +kernel
theorem dX14_tell_4 : decode cX14_tell 4 = .ok (.if_icmp .ge 21, 3) := by decide +kernel
theorem dX14_tell_7 : decode cX14_tell 7 = .ok (.aload_n 0, 1) := by decide +kernel
theorem dX14_tell_8 : decode cX14_tell 8 = .ok (.getfield 23, 3) := by decide +kernel
theorem dX14_tell_11 : decode cX14_tell 11 = .ok (.iload_n 2, 1) := by decide +kernel
theorem dX14_tell_12 : decode cX14_tell 12 = .ok (.aload_n 0, 1) := by decide +kernel
theorem dX14_tell_13 : decode cX14_tell 13 = .ok (.getfield 36, 3) := by decide +kernel
theorem dX14_tell_16 : decode cX14_tell 16 = .ok (.iload_n 2, 1) := by decide +kernel
theorem dX14_tell_17 : decode cX14_tell 17 = .ok (.iaload, 1) := by decide +kernel
theorem dX14_tell_18 : decode cX14_tell 18 = .ok (.iastore, 1) := by decide +kernel
theorem dX14_tell_19 : decode cX14_tell 19 = .ok (.iinc 2 1, 3) := by decide +kernel
theorem dX14_tell_22 : decode cX14_tell 22 = .ok (.goto (-20), 3) := by decide +kernel
theorem dX14_tell_25 : decode cX14_tell 25 = .ok (.aload_n 0, 1) := by decide +kernel
theorem dX14_tell_26 : decode cX14_tell 26 = .ok (.iload_n 1, 1) := by decide +kernel
theorem dX14_tell_27 : decode cX14_tell 27 = .ok (.putfield 89, 3) := by decide +kernel
theorem dX14_tell_30 : decode cX14_tell 30 = .ok (.aload_n 0, 1) := by decide +kernel
theorem dX14_tell_31 : decode cX14_tell 31 = .ok (.iconst 0, 1) := by decide +kernel
theorem dX14_tell_32 : decode cX14_tell 32 = .ok (.putfield 86, 3) := by decide +kernel
theorem dX14_tell_35 : decode cX14_tell 35 = .ok (.iload_n 1, 1) := by decide +kernel
theorem dX14_tell_36 : decode cX14_tell 36 = .ok (.ireturn, 1) := by decide +kernel
theorem cwX14_tell : mw_cwV yX14_tell cX14_tell 3 ((some .int)) 1 := ⟨⟨wd_16, wd_3609, by decide +kernel⟩, wd_3608, sl_226⟩
set_option maxHeartbeats 4000000 in
set_option maxRecDepth 100000 in
theorem tX14_tell (l : Launch) (G : mwG) (ad : Nat → Nat) (fu : Nat) (a1 : Int32) (M : mwM) (L : mwL) {r0 : Int32} {M0 : mwM} {L0 : mwL} (hD : DX14_tell fu a1 M L = some (r0, M0, L0)) : Met l yX14_tell (Cond.code yX14_tell cX14_tell 3 ((some .int)) :: GT) ({ frames := 0, cells := 0, slots := 0, locals := 0 }) (mw_Pre G ad NF TF FF M L [.ref (ad 854), .int a1]) (mw_Qi G ad NF TF FF (mw_eqI r0 M0 L0)) 0 0 (mw_fr G) := by
  refine mw_enter (by decide) (Nat.le_of_ble_eq_true rfl) ?_
  intro p e s m below meth c ls C hr hlocks hnm hw hl
  have hl : lv_has ls 3 [(0, .ref (ad 854)), (1, .int a1)] := hl
  have hh2 : ∀ (f : Nat) (v2 : Int32) (M : mwM) (L : mwL) (H : Heap) (locs : List Loc) (ls : Array Slot), fX14_tell_h2 fu a1 f (v2, M, L) = some (r0, M0, L0) → mw_W G ad NF TF FF M L H locs → lv_has ls 3 [(0, .ref (ad 854)), (1, .int a1), (2, .int v2)] → W p l e ({ frames := 0, cells := 0, slots := 0, locals := 0 }) s m [.ref (ad 854), .int a1].toArray below meth c H locs 0 0 (MQ below (mw_Qi G ad NF TF FF (mw_eqI r0 M0 L0)) [.ref (ad 854), .int a1].toArray s 0 0 (mw_fr G)) (F0 m 2 ls []) := by
    intro f
    induction f with
    | zero => intro v2 M L H locs ls hD; cases hD
    | succ f2 ih2 =>
      intro v2 M L H locs ls hD hw hl
      replace hD : fX14_tell_i2 fu a1 (fX14_tell_h2 fu a1 f2) v2 M L = some (r0, M0, L0) := hD
      unfold fX14_tell_i2 at hD
      refine lv_iload_n C.1.1 C.1.2.1 dX14_tell_2 rfl (lv_at hl 2 rfl) ?_
      refine lv_iload_n C.1.1 C.1.2.1 dX14_tell_3 rfl (lv_at hl 1 rfl) ?_
      refine lv_icmp_ge (tgt := 25) C.1.1 C.1.2.1 dX14_tell_4 (by decide) (fun c1 => ?_) (fun c1 => ?_)
      · replace hD := g_pos c1 hD
        refine lv_aload_n C.1.1 C.1.2.1 dX14_tell_25 rfl (lv_at hl 0 rfl) ?_
        refine lv_iload_n C.1.1 C.1.2.1 dX14_tell_26 rfl (lv_at hl 1 rfl) ?_
        obtain ⟨M2, eM2, hD⟩ := g_let hD
        refine mr_putI C hw kc_14 7 (by decide) tf_854 wd_2273 dX14_tell_27 (by decide) rfl rfl rfl rfl (fun H locs hw => ?_)
        replace hw : mw_W G ad NF TF FF M2 L H locs := by rw [eM2]; exact hw
        refine lv_aload_n C.1.1 C.1.2.1 dX14_tell_30 rfl (lv_at hl 0 rfl) ?_
        refine lv_iconst (v := 0) C.1.1 C.1.2.1 dX14_tell_31 (by decide) ?_
        obtain ⟨M3, eM3, hD⟩ := g_let hD
        refine mr_putI C hw kc_14 6 (by decide) tf_854 wd_2272 dX14_tell_32 (by decide) rfl rfl rfl rfl (fun H locs hw => ?_)
        replace hw : mw_W G ad NF TF FF M3 L H locs := by rw [eM3]; exact hw
        refine lv_iload_n C.1.1 C.1.2.1 dX14_tell_35 rfl (lv_at hl 1 rfl) ?_
        exact mr_iret C hr hlocks hw rfl (Option.some.inj hD) dX14_tell_36
      · replace hD := g_neg c1 hD
        refine lv_aload_n C.1.1 C.1.2.1 dX14_tell_7 rfl (lv_at hl 0 rfl) ?_
        refine mr_getR C hw kc_14 8 (by decide) tf_854 ff_854_8 wd_2274 dX14_tell_8 (by decide) rfl ?_
        refine lv_iload_n C.1.1 C.1.2.1 dX14_tell_11 rfl (lv_at hl 2 rfl) ?_
        refine lv_aload_n C.1.1 C.1.2.1 dX14_tell_12 rfl (lv_at hl 0 rfl) ?_
        refine mr_getR C hw kc_14 13 (by decide) tf_854 ff_854_13 wd_2278 dX14_tell_13 (by decide) rfl ?_
        refine lv_iload_n C.1.1 C.1.2.1 dX14_tell_16 rfl (lv_at hl 2 rfl) ?_
        obtain ⟨q4, hD⟩ := g_ck hD
        refine mr_iald C hw (by decide) tf_863 q4 dX14_tell_17 ?_
        obtain ⟨q5, hD⟩ := g_ck hD
        obtain ⟨M6, eM6, hD⟩ := g_let hD
        refine mr_iast C hw (by decide) tf_859 q5 dX14_tell_18 (fun H locs hw => ?_)
        replace hw : mw_W G ad NF TF FF M6 L H locs := by rw [eM6]; exact hw
        obtain ⟨x7, ex7, hD⟩ := g_let hD
        refine lv_iinc (v := x7) (lv' := [(2, .int x7), (0, .ref (ad 854)), (1, .int a1)]) C.1.1 C.1.2.1 dX14_tell_19 hl (k := 2) rfl (by rw [ex7]; rfl) (by decide) rfl (fun ls hl => ?_)
        refine lv_goto (tgt := 2) C.1.1 C.1.2.1 dX14_tell_22 (by decide) ?_
        exact ih2 x7 M6 L _ _ ls hD hw (lv_sub hl [1, 2, 0] rfl)
  unfold DX14_tell at hD
  refine lv_iconst (v := 0) C.1.1 C.1.2.1 dX14_tell_0 (by decide) ?_
  refine lv_istore_n (lv' := [(2, .int 0), (0, .ref (ad 854)), (1, .int a1)]) C.1.1 C.1.2.1 dX14_tell_1 rfl hl (by decide) rfl (fun ls hl => ?_)
  exact hh2 fu 0 M L _ _ ls hD hw (lv_sub hl [1, 2, 0] rfl)

theorem dX14_code_0 : decode cX14_code 0 = .ok (.aload_n 0, 1) := by decide +kernel
theorem dX14_code_1 : decode cX14_code 1 = .ok (.iload_n 1, 1) := by decide +kernel
theorem dX14_code_2 : decode cX14_code 2 = .ok (.invokevirtual 82, 3) := by decide +kernel
theorem dX14_code_5 : decode cX14_code 5 = .ok (.ifCond .eq 5, 3) := by decide +kernel
theorem dX14_code_8 : decode cX14_code 8 = .ok (.iconst (-1), 1) := by decide +kernel
theorem dX14_code_9 : decode cX14_code 9 = .ok (.ireturn, 1) := by decide +kernel
theorem dX14_code_10 : decode cX14_code 10 = .ok (.iload_n 2, 1) := by decide +kernel
theorem dX14_code_11 : decode cX14_code 11 = .ok (.bipush 32, 2) := by decide +kernel
theorem dX14_code_13 : decode cX14_code 13 = .ok (.if_icmp .lt 10, 3) := by decide +kernel
theorem dX14_code_16 : decode cX14_code 16 = .ok (.iload_n 2, 1) := by decide +kernel
theorem dX14_code_17 : decode cX14_code 17 = .ok (.sipush 128, 3) := by decide +kernel
theorem dX14_code_20 : decode cX14_code 20 = .ok (.if_icmp .le 6, 3) := by decide +kernel
theorem dX14_code_23 : decode cX14_code 23 = .ok (.bipush (-2), 2) := by decide +kernel
theorem dX14_code_25 : decode cX14_code 25 = .ok (.ireturn, 1) := by decide +kernel
theorem dX14_code_26 : decode cX14_code 26 = .ok (.iconst 0, 1) := by decide +kernel
theorem dX14_code_27 : decode cX14_code 27 = .ok (.istore_n 3, 1) := by decide +kernel
theorem dX14_code_28 : decode cX14_code 28 = .ok (.iload_n 3, 1) := by decide +kernel
theorem dX14_code_29 : decode cX14_code 29 = .ok (.aload_n 0, 1) := by decide +kernel
theorem dX14_code_30 : decode cX14_code 30 = .ok (.getfield 86, 3) := by decide +kernel
theorem dX14_code_33 : decode cX14_code 33 = .ok (.if_icmp .ge 21, 3) := by decide +kernel
theorem dX14_code_36 : decode cX14_code 36 = .ok (.aload_n 0, 1) := by decide +kernel
theorem dX14_code_37 : decode cX14_code 37 = .ok (.getfield 48, 3) := by decide +kernel
theorem dX14_code_40 : decode cX14_code 40 = .ok (.iload_n 3, 1) := by decide +kernel
theorem dX14_code_41 : decode cX14_code 41 = .ok (.aload_n 0, 1) := by decide +kernel
theorem dX14_code_42 : decode cX14_code 42 = .ok (.getfield 20, 3) := by decide +kernel
theorem dX14_code_45 : decode cX14_code 45 = .ok (.iload_n 3, 1) := by decide +kernel
theorem dX14_code_46 : decode cX14_code 46 = .ok (.iaload, 1) := by decide +kernel
theorem dX14_code_47 : decode cX14_code 47 = .ok (.iastore, 1) := by decide +kernel
theorem dX14_code_48 : decode cX14_code 48 = .ok (.iinc 3 1, 3) := by decide +kernel
theorem dX14_code_51 : decode cX14_code 51 = .ok (.goto (-23), 3) := by decide +kernel
theorem dX14_code_54 : decode cX14_code 54 = .ok (.aload_n 0, 1) := by decide +kernel
theorem dX14_code_55 : decode cX14_code 55 = .ok (.bipush 16, 2) := by decide +kernel
theorem dX14_code_57 : decode cX14_code 57 = .ok (.iload_n 1, 1) := by decide +kernel
theorem dX14_code_58 : decode cX14_code 58 = .ok (.imul, 1) := by decide +kernel
theorem dX14_code_59 : decode cX14_code 59 = .ok (.aload_n 0, 1) := by decide +kernel
theorem dX14_code_60 : decode cX14_code 60 = .ok (.getfield 86, 3) := by decide +kernel
theorem dX14_code_63 : decode cX14_code 63 = .ok (.invokevirtual 92, 3) := by decide +kernel
theorem dX14_code_66 : decode cX14_code 66 = .ok (.aload_n 0, 1) := by decide +kernel
theorem dX14_code_67 : decode cX14_code 67 = .ok (.iload_n 2, 1) := by decide +kernel
theorem dX14_code_68 : decode cX14_code 68 = .ok (.bipush 7, 2) := by decide +kernel
theorem dX14_code_70 : decode cX14_code 70 = .ok (.iadd, 1) := by decide +kernel
theorem dX14_code_71 : decode cX14_code 71 = .ok (.bipush 8, 2) := by decide +kernel
theorem dX14_code_73 : decode cX14_code 73 = .ok (.idiv, 1) := by decide +kernel
theorem dX14_code_74 : decode cX14_code 74 = .ok (.invokevirtual 96, 3) := by decide +kernel
theorem dX14_code_77 : decode cX14_code 77 = .ok (.istore_n 3, 1) := by decide +kernel
theorem dX14_code_78 : decode cX14_code 78 = .ok (.iload_n 2, 1) := by decide +kernel
theorem dX14_code_79 : decode cX14_code 79 = .ok (.istore 4, 2) := by decide +kernel
theorem dX14_code_81 : decode cX14_code 81 = .ok (.iload 4, 2) := by decide +kernel
theorem dX14_code_83 : decode cX14_code 83 = .ok (.bipush 8, 2) := by decide +kernel
theorem dX14_code_85 : decode cX14_code 85 = .ok (.iload_n 3, 1) := by decide +kernel
theorem dX14_code_86 : decode cX14_code 86 = .ok (.imul, 1) := by decide +kernel
theorem dX14_code_87 : decode cX14_code 87 = .ok (.if_icmp .ge 37, 3) := by decide +kernel
theorem dX14_code_90 : decode cX14_code 90 = .ok (.aload_n 0, 1) := by decide +kernel
theorem dX14_code_91 : decode cX14_code 91 = .ok (.getfield 23, 3) := by decide +kernel
theorem dX14_code_94 : decode cX14_code 94 = .ok (.iload_n 3, 1) := by decide +kernel
theorem dX14_code_95 : decode cX14_code 95 = .ok (.iconst 1, 1) := by decide +kernel
theorem dX14_code_96 : decode cX14_code 96 = .ok (.isub, 1) := by decide +kernel
theorem dX14_code_97 : decode cX14_code 97 = .ok (.aload_n 0, 1) := by decide +kernel
theorem dX14_code_98 : decode cX14_code 98 = .ok (.getfield 23, 3) := by decide +kernel
theorem dX14_code_101 : decode cX14_code 101 = .ok (.iload_n 3, 1) := by decide +kernel
theorem dX14_code_102 : decode cX14_code 102 = .ok (.iconst 1, 1) := by decide +kernel
theorem dX14_code_103 : decode cX14_code 103 = .ok (.isub, 1) := by decide +kernel
theorem dX14_code_104 : decode cX14_code 104 = .ok (.iaload, 1) := by decide +kernel
theorem dX14_code_105 : decode cX14_code 105 = .ok (.sipush 128, 3) := by decide +kernel
theorem dX14_code_108 : decode cX14_code 108 = .ok (.iload 4, 2) := by decide +kernel
theorem dX14_code_110 : decode cX14_code 110 = .ok (.bipush 8, 2) := by decide +kernel
theorem dX14_code_112 : decode cX14_code 112 = .ok (.irem, 1) := by decide +kernel
theorem dX14_code_113 : decode cX14_code 113 = .ok (.ishr, 1) := by decide +kernel
theorem dX14_code_114 : decode cX14_code 114 = .ok (.iconst (-1), 1) := by decide +kernel
theorem dX14_code_115 : decode cX14_code 115 = .ok (.ixor, 1) := by decide +kernel
theorem dX14_code_116 : decode cX14_code 116 = .ok (.iand, 1) := by decide +kernel
theorem dX14_code_117 : decode cX14_code 117 = .ok (.iastore, 1) := by decide +kernel
theorem dX14_code_118 : decode cX14_code 118 = .ok (.iinc 4 1, 3) := by decide +kernel
theorem dX14_code_121 : decode cX14_code 121 = .ok (.goto (-40), 3) := by decide +kernel
theorem dX14_code_124 : decode cX14_code 124 = .ok (.iload_n 3, 1) := by decide +kernel
theorem dX14_code_125 : decode cX14_code 125 = .ok (.ireturn, 1) := by decide +kernel
theorem cwX14_code : mw_cwV yX14_code cX14_code 5 ((some .int)) 2 := ⟨⟨wd_16, wd_3585, by decide +kernel⟩, wd_3583, wd_3584⟩
set_option maxHeartbeats 4000000 in
set_option maxRecDepth 100000 in
theorem tX14_code (l : Launch) (G : mwG) (ad : Nat → Nat) (fu : Nat) (a1 : Int32) (a2 : Int32) (M : mwM) (L : mwL) {r0 : Int32} {M0 : mwM} {L0 : mwL} (hD : DX14_code fu a1 a2 M L = some (r0, M0, L0)) : Met l yX14_code (Cond.code yX14_code cX14_code 5 ((some .int)) :: GT) ({ frames := 4, cells := 0, slots := 0, locals := 102 }) (mw_Pre G ad NF TF FF M L [.ref (ad 854), .int a1, .int a2]) (mw_Qi G ad NF TF FF (mw_eqI r0 M0 L0)) 0 0 (mw_fr G) := by
  refine mw_enter (by decide) (Nat.le_of_ble_eq_true rfl) ?_
  intro p e s m below meth c ls C hr hlocks hnm hw hl
  have hl : lv_has ls 5 [(0, .ref (ad 854)), (1, .int a1), (2, .int a2)] := hl
  have hb23 : ∀ (M : mwM) (L : mwL) (H : Heap) (locs : List Loc) (ls : Array Slot), fX14_code_b23 fu a1 a2 M L = some (r0, M0, L0) → mw_W G ad NF TF FF M L H locs → lv_has ls 5 [] → W p l e ({ frames := 4, cells := 0, slots := 0, locals := 102 }) s m [.ref (ad 854), .int a1, .int a2].toArray below meth c H locs 0 0 (MQ below (mw_Qi G ad NF TF FF (mw_eqI r0 M0 L0)) [.ref (ad 854), .int a1, .int a2].toArray s 0 0 (mw_fr G)) (F0 m 23 ls []) := by
    intro M L H locs ls hD hw hl
    unfold fX14_code_b23 at hD
    refine lv_bipush (v := (-2)) C.1.1 C.1.2.1 dX14_code_23 (by decide) ?_
    exact mr_iret C hr hlocks hw rfl (Option.some.inj hD) dX14_code_25
  have hh81 : ∀ (f : Nat) (v3 : Int32) (v4 : Int32) (M : mwM) (L : mwL) (H : Heap) (locs : List Loc) (ls : Array Slot), fX14_code_h81 fu a1 a2 f (v3, v4, M, L) = some (r0, M0, L0) → mw_W G ad NF TF FF M L H locs → lv_has ls 5 [(0, .ref (ad 854)), (3, .int v3), (4, .int v4)] → W p l e ({ frames := 4, cells := 0, slots := 0, locals := 102 }) s m [.ref (ad 854), .int a1, .int a2].toArray below meth c H locs 0 0 (MQ below (mw_Qi G ad NF TF FF (mw_eqI r0 M0 L0)) [.ref (ad 854), .int a1, .int a2].toArray s 0 0 (mw_fr G)) (F0 m 81 ls []) := by
    intro f
    induction f with
    | zero => intro v3 v4 M L H locs ls hD; cases hD
    | succ f81 ih81 =>
      intro v3 v4 M L H locs ls hD hw hl
      replace hD : fX14_code_i81 fu a1 a2 (fX14_code_h81 fu a1 a2 f81) v3 v4 M L = some (r0, M0, L0) := hD
      unfold fX14_code_i81 at hD
      refine lv_iload C.1.1 C.1.2.1 dX14_code_81 (lv_at hl 2 rfl) ?_
      refine lv_bipush (v := 8) C.1.1 C.1.2.1 dX14_code_83 (by decide) ?_
      refine lv_iload_n C.1.1 C.1.2.1 dX14_code_85 rfl (lv_at hl 1 rfl) ?_
      refine lv_imul C.1.1 C.1.2.1 dX14_code_86 ?_
      refine lv_icmp_ge (tgt := 124) C.1.1 C.1.2.1 dX14_code_87 (by decide) (fun c12 => ?_) (fun c12 => ?_)
      · replace hD := g_pos c12 hD
        refine lv_iload_n C.1.1 C.1.2.1 dX14_code_124 rfl (lv_at hl 1 rfl) ?_
        exact mr_iret C hr hlocks hw rfl (Option.some.inj hD) dX14_code_125
      · replace hD := g_neg c12 hD
        refine lv_aload_n C.1.1 C.1.2.1 dX14_code_90 rfl (lv_at hl 0 rfl) ?_
        refine mr_getR C hw kc_14 8 (by decide) tf_854 ff_854_8 wd_2274 dX14_code_91 (by decide) rfl ?_
        refine lv_iload_n C.1.1 C.1.2.1 dX14_code_94 rfl (lv_at hl 1 rfl) ?_
        refine lv_iconst (v := 1) C.1.1 C.1.2.1 dX14_code_95 (by decide) ?_
        refine lv_isub C.1.1 C.1.2.1 dX14_code_96 ?_
        refine lv_aload_n C.1.1 C.1.2.1 dX14_code_97 rfl (lv_at hl 0 rfl) ?_
        refine mr_getR C hw kc_14 8 (by decide) tf_854 ff_854_8 wd_2274 dX14_code_98 (by decide) rfl ?_
        refine lv_iload_n C.1.1 C.1.2.1 dX14_code_101 rfl (lv_at hl 1 rfl) ?_
        refine lv_iconst (v := 1) C.1.1 C.1.2.1 dX14_code_102 (by decide) ?_
        refine lv_isub C.1.1 C.1.2.1 dX14_code_103 ?_
        obtain ⟨q13, hD⟩ := g_ck hD
        refine mr_iald C hw (by decide) tf_859 q13 dX14_code_104 ?_
        refine lv_sipush (v := 128) C.1.1 C.1.2.1 dX14_code_105 (by decide) ?_
        refine lv_iload C.1.1 C.1.2.1 dX14_code_108 (lv_at hl 2 rfl) ?_
        refine lv_bipush (v := 8) C.1.1 C.1.2.1 dX14_code_110 (by decide) ?_
        refine lv_irem C.1.1 C.1.2.1 dX14_code_112 (by decide) ?_
        refine lv_ishr C.1.1 C.1.2.1 dX14_code_113 ?_
        refine lv_iconst (v := (-1)) C.1.1 C.1.2.1 dX14_code_114 (by decide) ?_
        refine lv_ixor C.1.1 C.1.2.1 dX14_code_115 ?_
        refine lv_iand C.1.1 C.1.2.1 dX14_code_116 ?_
        obtain ⟨q15, hD⟩ := g_ck hD
        obtain ⟨M16, eM16, hD⟩ := g_let hD
        refine mr_iast C hw (by decide) tf_859 q15 dX14_code_117 (fun H locs hw => ?_)
        replace hw : mw_W G ad NF TF FF M16 L H locs := by rw [eM16]; exact hw
        obtain ⟨x17, ex17, hD⟩ := g_let hD
        refine lv_iinc (v := x17) (lv' := [(4, .int x17), (0, .ref (ad 854)), (3, .int v3)]) C.1.1 C.1.2.1 dX14_code_118 hl (k := 2) rfl (by rw [ex17]; rfl) (by decide) rfl (fun ls hl => ?_)
        refine lv_goto (tgt := 81) C.1.1 C.1.2.1 dX14_code_121 (by decide) ?_
        exact ih81 v3 x17 M16 L _ _ ls hD hw (lv_sub hl [1, 2, 0] rfl)
  have hh28 : ∀ (f : Nat) (v3 : Int32) (M : mwM) (L : mwL) (H : Heap) (locs : List Loc) (ls : Array Slot), fX14_code_h28 fu a1 a2 f (v3, M, L) = some (r0, M0, L0) → mw_W G ad NF TF FF M L H locs → lv_has ls 5 [(0, .ref (ad 854)), (1, .int a1), (2, .int a2), (3, .int v3)] → W p l e ({ frames := 4, cells := 0, slots := 0, locals := 102 }) s m [.ref (ad 854), .int a1, .int a2].toArray below meth c H locs 0 0 (MQ below (mw_Qi G ad NF TF FF (mw_eqI r0 M0 L0)) [.ref (ad 854), .int a1, .int a2].toArray s 0 0 (mw_fr G)) (F0 m 28 ls []) := by
    intro f
    induction f with
    | zero => intro v3 M L H locs ls hD; cases hD
    | succ f28 ih28 =>
      intro v3 M L H locs ls hD hw hl
      replace hD : fX14_code_i28 fu a1 a2 (fX14_code_h28 fu a1 a2 f28) v3 M L = some (r0, M0, L0) := hD
      unfold fX14_code_i28 at hD
      refine lv_iload_n C.1.1 C.1.2.1 dX14_code_28 rfl (lv_at hl 3 rfl) ?_
      refine lv_aload_n C.1.1 C.1.2.1 dX14_code_29 rfl (lv_at hl 0 rfl) ?_
      refine mr_getI C hw kc_14 6 (by decide) tf_854 wd_2272 dX14_code_30 (by decide) rfl ?_
      refine lv_icmp_ge (tgt := 54) C.1.1 C.1.2.1 dX14_code_33 (by decide) (fun c1 => ?_) (fun c1 => ?_)
      · replace hD := g_pos c1 hD
        refine lv_aload_n C.1.1 C.1.2.1 dX14_code_54 rfl (lv_at hl 0 rfl) ?_
        refine lv_bipush (v := 16) C.1.1 C.1.2.1 dX14_code_55 (by decide) ?_
        refine lv_iload_n C.1.1 C.1.2.1 dX14_code_57 rfl (lv_at hl 1 rfl) ?_
        refine lv_imul C.1.1 C.1.2.1 dX14_code_58 ?_
        refine lv_aload_n C.1.1 C.1.2.1 dX14_code_59 rfl (lv_at hl 0 rfl) ?_
        refine mr_getI C hw kc_14 6 (by decide) tf_854 wd_2272 dX14_code_60 (by decide) rfl ?_
        obtain ⟨M2, L3, h1, hD⟩ := g_b2 hD
        refine md_cvV (As := [.int (16 * a1), .int (M 854 6)]) (rest := []) C hw (tX14_codeOf l G ad fu (16 * a1) (M 854 6) M L h1) kc_14 (by decide) tf_854 wd_3586 cwX14_codeOf ⟨Nat.le_of_ble_eq_true rfl, Nat.le_of_ble_eq_true rfl⟩ rfl hl.1 (Nat.le_of_ble_eq_true rfl) dX14_code_63 rfl rfl ⟨Nat.zero_le _, Nat.zero_le _⟩ rfl (fun H locs hw => ?_)
        refine lv_aload_n C.1.1 C.1.2.1 dX14_code_66 rfl (lv_at hl 0 rfl) ?_
        refine lv_iload_n C.1.1 C.1.2.1 dX14_code_67 rfl (lv_at hl 2 rfl) ?_
        refine lv_bipush (v := 7) C.1.1 C.1.2.1 dX14_code_68 (by decide) ?_
        refine lv_iadd C.1.1 C.1.2.1 dX14_code_70 ?_
        refine lv_bipush (v := 8) C.1.1 C.1.2.1 dX14_code_71 (by decide) ?_
        refine lv_idiv C.1.1 C.1.2.1 dX14_code_73 (by decide) ?_
        obtain ⟨r7, M5, L6, h1, hD⟩ := g_b3 hD
        refine md_cvI (As := [.int ((a2 + 7) / 8)]) (rest := []) C hw (tX14_tell l G ad fu ((a2 + 7) / 8) M2 L3 h1) kc_14 (by decide) tf_854 wd_3606 cwX14_tell ⟨Nat.le_of_ble_eq_true rfl, Nat.le_of_ble_eq_true rfl⟩ rfl hl.1 (Nat.le_of_ble_eq_true rfl) dX14_code_74 rfl rfl ⟨Nat.zero_le _, Nat.zero_le _⟩ rfl (fun H locs hw => ?_)
        refine lv_istore_n (lv' := [(3, .int r7), (0, .ref (ad 854)), (1, .int a1), (2, .int a2)]) C.1.1 C.1.2.1 dX14_code_77 rfl hl (by decide) rfl (fun ls hl => ?_)
        refine lv_iload_n C.1.1 C.1.2.1 dX14_code_78 rfl (lv_at hl 3 rfl) ?_
        refine lv_istore (lv' := [(4, .int a2), (3, .int r7), (0, .ref (ad 854)), (1, .int a1), (2, .int a2)]) C.1.1 C.1.2.1 dX14_code_79 hl (by decide) rfl (fun ls hl => ?_)
        exact hh81 fu r7 a2 M5 L6 _ _ ls hD hw (lv_sub hl [2, 1, 0] rfl)
      · replace hD := g_neg c1 hD
        refine lv_aload_n C.1.1 C.1.2.1 dX14_code_36 rfl (lv_at hl 0 rfl) ?_
        refine mr_getR C hw kc_14 17 (by decide) tf_854 ff_854_17 wd_2282 dX14_code_37 (by decide) rfl ?_
        refine lv_iload_n C.1.1 C.1.2.1 dX14_code_40 rfl (lv_at hl 3 rfl) ?_
        refine lv_aload_n C.1.1 C.1.2.1 dX14_code_41 rfl (lv_at hl 0 rfl) ?_
        refine mr_getR C hw kc_14 5 (by decide) tf_854 ff_854_5 wd_2271 dX14_code_42 (by decide) rfl ?_
        refine lv_iload_n C.1.1 C.1.2.1 dX14_code_45 rfl (lv_at hl 3 rfl) ?_
        obtain ⟨q8, hD⟩ := g_ck hD
        refine mr_iald C hw (by decide) tf_858 q8 dX14_code_46 ?_
        obtain ⟨q9, hD⟩ := g_ck hD
        obtain ⟨M10, eM10, hD⟩ := g_let hD
        refine mr_iast C hw (by decide) tf_867 q9 dX14_code_47 (fun H locs hw => ?_)
        replace hw : mw_W G ad NF TF FF M10 L H locs := by rw [eM10]; exact hw
        obtain ⟨x11, ex11, hD⟩ := g_let hD
        refine lv_iinc (v := x11) (lv' := [(3, .int x11), (0, .ref (ad 854)), (1, .int a1), (2, .int a2)]) C.1.1 C.1.2.1 dX14_code_48 hl (k := 3) rfl (by rw [ex11]; rfl) (by decide) rfl (fun ls hl => ?_)
        refine lv_goto (tgt := 28) C.1.1 C.1.2.1 dX14_code_51 (by decide) ?_
        exact ih28 x11 M10 L _ _ ls hD hw (lv_sub hl [1, 2, 3, 0] rfl)
  unfold DX14_code at hD
  refine lv_aload_n C.1.1 C.1.2.1 dX14_code_0 rfl (lv_at hl 0 rfl) ?_
  refine lv_iload_n C.1.1 C.1.2.1 dX14_code_1 rfl (lv_at hl 1 rfl) ?_
  obtain ⟨r20, M18, L19, h1, hD⟩ := g_b3 hD
  refine md_cvI (As := [.int a1]) (rest := []) C hw (tX14_noKey l G ad fu a1 M L h1) kc_14 (by decide) tf_854 wd_2777 cwX14_noKey ⟨Nat.le_of_ble_eq_true rfl, Nat.le_of_ble_eq_true rfl⟩ rfl hl.1 (Nat.le_of_ble_eq_true rfl) dX14_code_2 rfl rfl ⟨Nat.zero_le _, Nat.zero_le _⟩ rfl (fun H locs hw => ?_)
  refine lv_if_eq (tgt := 10) C.1.1 C.1.2.1 dX14_code_5 (by decide) (fun c21 => ?_) (fun c21 => ?_)
  · replace hD := g_pos c21 hD
    refine lv_iload_n C.1.1 C.1.2.1 dX14_code_10 rfl (lv_at hl 2 rfl) ?_
    refine lv_bipush (v := 32) C.1.1 C.1.2.1 dX14_code_11 (by decide) ?_
    refine lv_icmp_lt (tgt := 23) C.1.1 C.1.2.1 dX14_code_13 (by decide) (fun c22 => ?_) (fun c22 => ?_)
    · replace hD := g_pos c22 hD
      exact hb23 M18 L19 _ _ ls hD hw (lv_sub hl [] rfl)
    · replace hD := g_neg c22 hD
      refine lv_iload_n C.1.1 C.1.2.1 dX14_code_16 rfl (lv_at hl 2 rfl) ?_
      refine lv_sipush (v := 128) C.1.1 C.1.2.1 dX14_code_17 (by decide) ?_
      refine lv_icmp_le (tgt := 26) C.1.1 C.1.2.1 dX14_code_20 (by decide) (fun c23 => ?_) (fun c23 => ?_)
      · replace hD := g_pos c23 hD
        refine lv_iconst (v := 0) C.1.1 C.1.2.1 dX14_code_26 (by decide) ?_
        refine lv_istore_n (lv' := [(3, .int 0), (0, .ref (ad 854)), (1, .int a1), (2, .int a2)]) C.1.1 C.1.2.1 dX14_code_27 rfl hl (by decide) rfl (fun ls hl => ?_)
        exact hh28 fu 0 M18 L19 _ _ ls hD hw (lv_sub hl [1, 2, 3, 0] rfl)
      · replace hD := g_neg c23 hD
        exact hb23 M18 L19 _ _ ls hD hw (lv_sub hl [] rfl)
  · replace hD := g_neg c21 hD
    refine lv_iconst (v := (-1)) C.1.1 C.1.2.1 dX14_code_8 (by decide) ?_
    exact mr_iret C hr hlocks hw rfl (Option.some.inj hD) dX14_code_9

theorem dX14_out_0 : decode cX14_out 0 = .ok (.aload_n 0, 1) := by decide +kernel
theorem dX14_out_1 : decode cX14_out 1 = .ok (.iload_n 1, 1) := by decide +kernel
theorem dX14_out_2 : decode cX14_out 2 = .ok (.ifCond .lt 11, 3) := by decide +kernel
theorem dX14_out_5 : decode cX14_out 5 = .ok (.iload_n 1, 1) := by decide +kernel
theorem dX14_out_6 : decode cX14_out 6 = .ok (.aload_n 0, 1) := by decide +kernel
theorem dX14_out_7 : decode cX14_out 7 = .ok (.getfield 89, 3) := by decide +kernel
theorem dX14_out_10 : decode cX14_out 10 = .ok (.if_icmp .lt 7, 3) := by decide +kernel
theorem dX14_out_13 : decode cX14_out 13 = .ok (.iconst 1, 1) := by decide +kernel
theorem dX14_out_14 : decode cX14_out 14 = .ok (.goto 4, 3) := by decide +kernel
theorem dX14_out_17 : decode cX14_out 17 = .ok (.iconst 0, 1) := by decide +kernel
theorem dX14_out_18 : decode cX14_out 18 = .ok (.putfield 58, 3) := by decide +kernel
theorem dX14_out_21 : decode cX14_out 21 = .ok (.aload_n 0, 1) := by decide +kernel
theorem dX14_out_22 : decode cX14_out 22 = .ok (.getfield 58, 3) := by decide +kernel
theorem dX14_out_25 : decode cX14_out 25 = .ok (.ifCond .le 7, 3) := by decide +kernel
theorem dX14_out_28 : decode cX14_out 28 = .ok (.iconst 0, 1) := by decide +kernel
theorem dX14_out_29 : decode cX14_out 29 = .ok (.goto 10, 3) := by decide +kernel
theorem dX14_out_32 : decode cX14_out 32 = .ok (.aload_n 0, 1) := by decide +kernel
theorem dX14_out_33 : decode cX14_out 33 = .ok (.getfield 23, 3) := by decide +kernel
theorem dX14_out_36 : decode cX14_out 36 = .ok (.iload_n 1, 1) := by decide +kernel
theorem dX14_out_37 : decode cX14_out 37 = .ok (.iaload, 1) := by decide +kernel
theorem dX14_out_38 : decode cX14_out 38 = .ok (.i2b, 1) := by decide +kernel
theorem dX14_out_39 : decode cX14_out 39 = .ok (.ireturn, 1) := by decide +kernel
theorem cwX14_out : mw_cwV yX14_out cX14_out 2 ((some .byte)) 1 := ⟨⟨wd_16, wd_3613, by decide +kernel⟩, wd_3611, wd_3612⟩
set_option maxHeartbeats 4000000 in
set_option maxRecDepth 100000 in
theorem tX14_out (l : Launch) (G : mwG) (ad : Nat → Nat) (fu : Nat) (a1 : Int32) (M : mwM) (L : mwL) {r0 : Int32} {M0 : mwM} {L0 : mwL} (hD : DX14_out fu a1 M L = some (r0, M0, L0)) : Met l yX14_out (Cond.code yX14_out cX14_out 2 ((some .byte)) :: GT) ({ frames := 0, cells := 0, slots := 0, locals := 0 }) (mw_Pre G ad NF TF FF M L [.ref (ad 854), .int a1]) (mw_Qi G ad NF TF FF (mw_eqI r0 M0 L0)) 0 0 (mw_fr G) := by
  refine mw_enter (by decide) (Nat.le_of_ble_eq_true rfl) ?_
  intro p e s m below meth c ls C hr hlocks hnm hw hl
  have hl : lv_has ls 2 [(0, .ref (ad 854)), (1, .int a1)] := hl
  have hb39 : ∀ (s0 : Int32) (M : mwM) (L : mwL) (H : Heap) (locs : List Loc) (ls : Array Slot), fX14_out_b39 fu a1 s0 M L = some (r0, M0, L0) → mw_W G ad NF TF FF M L H locs → lv_has ls 2 [] → W p l e ({ frames := 0, cells := 0, slots := 0, locals := 0 }) s m [.ref (ad 854), .int a1].toArray below meth c H locs 0 0 (MQ below (mw_Qi G ad NF TF FF (mw_eqI r0 M0 L0)) [.ref (ad 854), .int a1].toArray s 0 0 (mw_fr G)) (F0 m 39 ls [.int s0]) := by
    intro s0 M L H locs ls hD hw hl
    unfold fX14_out_b39 at hD
    obtain ⟨z4, hD⟩ := g_bb hD
    exact mr_iret C hr hlocks hw (nb_bb z4) (Option.some.inj hD) dX14_out_39
  have hb18 : ∀ (s1 : Int32) (M : mwM) (L : mwL) (H : Heap) (locs : List Loc) (ls : Array Slot), fX14_out_b18 fu a1 s1 M L = some (r0, M0, L0) → mw_W G ad NF TF FF M L H locs → lv_has ls 2 [(0, .ref (ad 854)), (1, .int a1)] → W p l e ({ frames := 0, cells := 0, slots := 0, locals := 0 }) s m [.ref (ad 854), .int a1].toArray below meth c H locs 0 0 (MQ below (mw_Qi G ad NF TF FF (mw_eqI r0 M0 L0)) [.ref (ad 854), .int a1].toArray s 0 0 (mw_fr G)) (F0 m 18 ls [.int s1, .ref (ad 854)]) := by
    intro s1 M L H locs ls hD hw hl
    unfold fX14_out_b18 at hD
    obtain ⟨M1, eM1, hD⟩ := g_let hD
    refine mr_putI C hw kc_14 0 (by decide) tf_854 wd_2266 dX14_out_18 (by decide) rfl rfl rfl rfl (fun H locs hw => ?_)
    replace hw : mw_W G ad NF TF FF M1 L H locs := by rw [eM1]; exact hw
    refine lv_aload_n C.1.1 C.1.2.1 dX14_out_21 rfl (lv_at hl 0 rfl) ?_
    refine mr_getI C hw kc_14 0 (by decide) tf_854 wd_2266 dX14_out_22 (by decide) rfl ?_
    refine lv_if_le (tgt := 32) C.1.1 C.1.2.1 dX14_out_25 (by decide) (fun c2 => ?_) (fun c2 => ?_)
    · replace hD := g_pos c2 hD
      refine lv_aload_n C.1.1 C.1.2.1 dX14_out_32 rfl (lv_at hl 0 rfl) ?_
      refine mr_getR C hw kc_14 8 (by decide) tf_854 ff_854_8 wd_2274 dX14_out_33 (by decide) rfl ?_
      refine lv_iload_n C.1.1 C.1.2.1 dX14_out_36 rfl (lv_at hl 1 rfl) ?_
      obtain ⟨q3, hD⟩ := g_ck hD
      refine mr_iald C hw (by decide) tf_859 q3 dX14_out_37 ?_
      refine lv_i2b C.1.1 C.1.2.1 dX14_out_38 rfl ?_
      exact hb39 ((M1 859 a1.toNatClampNeg).toInt8.toInt32) M1 L _ _ ls hD hw (lv_sub hl [] rfl)
    · replace hD := g_neg c2 hD
      refine lv_iconst (v := 0) C.1.1 C.1.2.1 dX14_out_28 (by decide) ?_
      refine lv_goto (tgt := 39) C.1.1 C.1.2.1 dX14_out_29 (by decide) ?_
      exact hb39 0 M1 L _ _ ls hD hw (lv_sub hl [] rfl)
  have hb13 : ∀ (M : mwM) (L : mwL) (H : Heap) (locs : List Loc) (ls : Array Slot), fX14_out_b13 fu a1 M L = some (r0, M0, L0) → mw_W G ad NF TF FF M L H locs → lv_has ls 2 [(0, .ref (ad 854)), (1, .int a1)] → W p l e ({ frames := 0, cells := 0, slots := 0, locals := 0 }) s m [.ref (ad 854), .int a1].toArray below meth c H locs 0 0 (MQ below (mw_Qi G ad NF TF FF (mw_eqI r0 M0 L0)) [.ref (ad 854), .int a1].toArray s 0 0 (mw_fr G)) (F0 m 13 ls [.ref (ad 854)]) := by
    intro M L H locs ls hD hw hl
    unfold fX14_out_b13 at hD
    refine lv_iconst (v := 1) C.1.1 C.1.2.1 dX14_out_13 (by decide) ?_
    refine lv_goto (tgt := 18) C.1.1 C.1.2.1 dX14_out_14 (by decide) ?_
    exact hb18 1 M L _ _ ls hD hw (lv_sub hl [0, 1] rfl)
  unfold DX14_out at hD
  refine lv_aload_n C.1.1 C.1.2.1 dX14_out_0 rfl (lv_at hl 0 rfl) ?_
  refine lv_iload_n C.1.1 C.1.2.1 dX14_out_1 rfl (lv_at hl 1 rfl) ?_
  refine lv_if_lt (tgt := 13) C.1.1 C.1.2.1 dX14_out_2 (by decide) (fun c5 => ?_) (fun c5 => ?_)
  · replace hD := g_pos c5 hD
    exact hb13 M L _ _ ls hD hw (lv_sub hl [0, 1] rfl)
  · replace hD := g_neg c5 hD
    refine lv_iload_n C.1.1 C.1.2.1 dX14_out_5 rfl (lv_at hl 1 rfl) ?_
    refine lv_aload_n C.1.1 C.1.2.1 dX14_out_6 rfl (lv_at hl 0 rfl) ?_
    refine mr_getI C hw kc_14 7 (by decide) tf_854 wd_2273 dX14_out_7 (by decide) rfl ?_
    refine lv_icmp_lt (tgt := 17) C.1.1 C.1.2.1 dX14_out_10 (by decide) (fun c6 => ?_) (fun c6 => ?_)
    · replace hD := g_pos c6 hD
      refine lv_iconst (v := 0) C.1.1 C.1.2.1 dX14_out_17 (by decide) ?_
      exact hb18 0 M L _ _ ls hD hw (lv_sub hl [0, 1] rfl)
    · replace hD := g_neg c6 hD
      exact hb13 M L _ _ ls hD hw (lv_sub hl [0, 1] rfl)
