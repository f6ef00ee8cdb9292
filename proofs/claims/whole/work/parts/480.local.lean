set_option maxHeartbeats 4000000 in
set_option maxRecDepth 100000 in
theorem tlX3_mixBits (l : Launch) (G : mwG) (ad : Nat → Nat) (N : Nat) (F : mwF) (fu : Nat) (a1 : Int32) (M : mwM) (L : mwL) {r0 : Int32} {M0 : mwM} {L0 : mwL} (hD : DX3_mixBits fu a1 M L = some (r0, M0, L0)) (hN : 139 ≤ N) (hFF : ∀ j r, FF 97 j = some r → F 97 j = some r) : Met l yX3_mixBits (Cond.code yX3_mixBits cX3_mixBits 2 ((some .int)) :: GT) ({ frames := 0, cells := 0, slots := 0, locals := 0 }) (mw_Pre G ad N TF F M L [.int a1]) (mw_Qi G ad N TF F (mw_eqI r0 M0 L0)) 0 0 (mw_fr G) := by
  refine mw_enter (by decide) (Nat.le_of_ble_eq_true rfl) ?_
  intro p e s m below meth c ls C hr hlocks hnm hw hl
  have hl : lv_has ls 2 [(0, .int a1)] := hl
  unfold DX3_mixBits at hD
  refine lv_iload_n C.1.1 C.1.2.1 dX3_mixBits_0 rfl (lv_at hl 0 rfl) ?_
  refine lv_bipush (v := 8) C.1.1 C.1.2.1 dX3_mixBits_1 (by decide) ?_
  refine lv_ishl C.1.1 C.1.2.1 dX3_mixBits_3 ?_
  refine lv_iload_n C.1.1 C.1.2.1 dX3_mixBits_4 rfl (lv_at hl 0 rfl) ?_
  refine lv_ior C.1.1 C.1.2.1 dX3_mixBits_5 ?_
  obtain ⟨x1, ex1, hD⟩ := g_let hD
  refine W.eq (g2 := F0 m 6 ls (.int x1 :: [])) (by rw [ex1]) ?_
  refine lv_istore_n (lv' := [(1, .int x1), (0, .int a1)]) C.1.1 C.1.2.1 dX3_mixBits_6 rfl hl (by decide) rfl (fun ls hl => ?_)
  refine lv_iload_n C.1.1 C.1.2.1 dX3_mixBits_7 rfl (lv_at hl 1 rfl) ?_
  refine lv_iload_n C.1.1 C.1.2.1 dX3_mixBits_8 rfl (lv_at hl 0 rfl) ?_
  refine lv_bipush (v := 7) C.1.1 C.1.2.1 dX3_mixBits_9 (by decide) ?_
  refine lv_ishr C.1.1 C.1.2.1 dX3_mixBits_11 ?_
  refine lv_ixor C.1.1 C.1.2.1 dX3_mixBits_12 ?_
  refine lv_iload_n C.1.1 C.1.2.1 dX3_mixBits_13 rfl (lv_at hl 0 rfl) ?_
  refine lv_bipush (v := 6) C.1.1 C.1.2.1 dX3_mixBits_14 (by decide) ?_
  refine lv_ishr C.1.1 C.1.2.1 dX3_mixBits_16 ?_
  refine lv_ixor C.1.1 C.1.2.1 dX3_mixBits_17 ?_
  refine lv_iload_n C.1.1 C.1.2.1 dX3_mixBits_18 rfl (lv_at hl 0 rfl) ?_
  refine lv_iconst (v := 5) C.1.1 C.1.2.1 dX3_mixBits_19 (by decide) ?_
  refine lv_ishr C.1.1 C.1.2.1 dX3_mixBits_20 ?_
  refine lv_ixor C.1.1 C.1.2.1 dX3_mixBits_21 ?_
  refine lv_iload_n C.1.1 C.1.2.1 dX3_mixBits_22 rfl (lv_at hl 0 rfl) ?_
  refine lv_iconst (v := 4) C.1.1 C.1.2.1 dX3_mixBits_23 (by decide) ?_
  refine lv_ishr C.1.1 C.1.2.1 dX3_mixBits_24 ?_
  refine lv_ixor C.1.1 C.1.2.1 dX3_mixBits_25 ?_
  refine lv_bipush (v := 99) C.1.1 C.1.2.1 dX3_mixBits_26 (by decide) ?_
  refine lv_ixor C.1.1 C.1.2.1 dX3_mixBits_28 ?_
  refine lv_sipush (v := 255) C.1.1 C.1.2.1 dX3_mixBits_29 (by decide) ?_
  refine lv_iand C.1.1 C.1.2.1 dX3_mixBits_32 ?_
  exact mr_iret C hr hlocks hw rfl (Option.some.inj hD) dX3_mixBits_33

set_option maxHeartbeats 4000000 in
set_option maxRecDepth 100000 in
theorem tlX3_timesInverseOfThree (l : Launch) (G : mwG) (ad : Nat → Nat) (N : Nat) (F : mwF) (fu : Nat) (a1 : Int32) (M : mwM) (L : mwL) {r0 : Int32} {M0 : mwM} {L0 : mwL} (hD : DX3_timesInverseOfThree fu a1 M L = some (r0, M0, L0)) (hN : 139 ≤ N) (hFF : ∀ j r, FF 97 j = some r → F 97 j = some r) : Met l yX3_timesInverseOfThree (Cond.code yX3_timesInverseOfThree cX3_timesInverseOfThree 2 ((some .int)) :: GT) ({ frames := 0, cells := 0, slots := 0, locals := 0 }) (mw_Pre G ad N TF F M L [.int a1]) (mw_Qi G ad N TF F (mw_eqI r0 M0 L0)) 0 0 (mw_fr G) := by
  refine mw_enter (by decide) (Nat.le_of_ble_eq_true rfl) ?_
  intro p e s m below meth c ls C hr hlocks hnm hw hl
  have hl : lv_has ls 2 [(0, .int a1)] := hl
  have hb37 : ∀ (s0 : Int32) (s1 : Int32) (M : mwM) (L : mwL) (H : Heap) (locs : List Loc) (ls : Array Slot), fX3_timesInverseOfThree_b37 fu a1 s0 s1 M L = some (r0, M0, L0) → mw_W G ad N TF F M L H locs → lv_has ls 2 [] → W p l e ({ frames := 0, cells := 0, slots := 0, locals := 0 }) s m [.int a1].toArray below meth c H locs 0 0 (MQ below (mw_Qi G ad N TF F (mw_eqI r0 M0 L0)) [.int a1].toArray s 0 0 (mw_fr G)) (F0 m 37 ls [.int s1, .int s0]) := by
    intro s0 s1 M L H locs ls hD hw hl
    unfold fX3_timesInverseOfThree_b37 at hD
    refine lv_ixor C.1.1 C.1.2.1 dX3_timesInverseOfThree_37 ?_
    exact mr_iret C hr hlocks hw rfl (Option.some.inj hD) dX3_timesInverseOfThree_38
  unfold DX3_timesInverseOfThree at hD
  refine lv_iload_n C.1.1 C.1.2.1 dX3_timesInverseOfThree_0 rfl (lv_at hl 0 rfl) ?_
  refine lv_iload_n C.1.1 C.1.2.1 dX3_timesInverseOfThree_1 rfl (lv_at hl 0 rfl) ?_
  refine lv_iconst (v := 1) C.1.1 C.1.2.1 dX3_timesInverseOfThree_2 (by decide) ?_
  refine lv_ishl C.1.1 C.1.2.1 dX3_timesInverseOfThree_3 ?_
  refine lv_ixor C.1.1 C.1.2.1 dX3_timesInverseOfThree_4 ?_
  obtain ⟨x1, ex1, hD⟩ := g_let hD
  refine W.eq (g2 := F0 m 5 ls (.int x1 :: [])) (by rw [ex1]) ?_
  refine lv_istore_n (lv' := [(1, .int x1), (0, .int a1)]) C.1.1 C.1.2.1 dX3_timesInverseOfThree_5 rfl hl (by decide) rfl (fun ls hl => ?_)
  refine lv_iload_n C.1.1 C.1.2.1 dX3_timesInverseOfThree_6 rfl (lv_at hl 0 rfl) ?_
  refine lv_iload_n C.1.1 C.1.2.1 dX3_timesInverseOfThree_7 rfl (lv_at hl 0 rfl) ?_
  refine lv_iconst (v := 2) C.1.1 C.1.2.1 dX3_timesInverseOfThree_8 (by decide) ?_
  refine lv_ishl C.1.1 C.1.2.1 dX3_timesInverseOfThree_9 ?_
  refine lv_ixor C.1.1 C.1.2.1 dX3_timesInverseOfThree_10 ?_
  obtain ⟨x2, ex2, hD⟩ := g_let hD
  refine W.eq (g2 := F0 m 11 ls (.int x2 :: [])) (by rw [ex2]) ?_
  refine lv_istore_n (lv' := [(1, .int x2), (0, .int a1)]) C.1.1 C.1.2.1 dX3_timesInverseOfThree_11 rfl hl (by decide) rfl (fun ls hl => ?_)
  refine lv_iload_n C.1.1 C.1.2.1 dX3_timesInverseOfThree_12 rfl (lv_at hl 0 rfl) ?_
  refine lv_iload_n C.1.1 C.1.2.1 dX3_timesInverseOfThree_13 rfl (lv_at hl 0 rfl) ?_
  refine lv_iconst (v := 4) C.1.1 C.1.2.1 dX3_timesInverseOfThree_14 (by decide) ?_
  refine lv_ishl C.1.1 C.1.2.1 dX3_timesInverseOfThree_15 ?_
  refine lv_ixor C.1.1 C.1.2.1 dX3_timesInverseOfThree_16 ?_
  obtain ⟨x3, ex3, hD⟩ := g_let hD
  refine W.eq (g2 := F0 m 17 ls (.int x3 :: [])) (by rw [ex3]) ?_
  refine lv_istore_n (lv' := [(1, .int x3), (0, .int a1)]) C.1.1 C.1.2.1 dX3_timesInverseOfThree_17 rfl hl (by decide) rfl (fun ls hl => ?_)
  refine lv_iload_n C.1.1 C.1.2.1 dX3_timesInverseOfThree_18 rfl (lv_at hl 0 rfl) ?_
  refine lv_sipush (v := 255) C.1.1 C.1.2.1 dX3_timesInverseOfThree_19 (by decide) ?_
  refine lv_iand C.1.1 C.1.2.1 dX3_timesInverseOfThree_22 ?_
  refine lv_iload_n C.1.1 C.1.2.1 dX3_timesInverseOfThree_23 rfl (lv_at hl 0 rfl) ?_
  refine lv_sipush (v := 128) C.1.1 C.1.2.1 dX3_timesInverseOfThree_24 (by decide) ?_
  refine lv_iand C.1.1 C.1.2.1 dX3_timesInverseOfThree_27 ?_
  refine lv_if_eq (tgt := 36) C.1.1 C.1.2.1 dX3_timesInverseOfThree_28 (by decide) (fun c4 => ?_) (fun c4 => ?_)
  · replace hD := g_pos c4 hD
    refine lv_iconst (v := 0) C.1.1 C.1.2.1 dX3_timesInverseOfThree_36 (by decide) ?_
    exact hb37 (x3 &&& 255) 0 M L _ _ ls hD hw (lv_sub hl [] rfl)
  · replace hD := g_neg c4 hD
    refine lv_bipush (v := 9) C.1.1 C.1.2.1 dX3_timesInverseOfThree_31 (by decide) ?_
    refine lv_goto (tgt := 37) C.1.1 C.1.2.1 dX3_timesInverseOfThree_33 (by decide) ?_
    exact hb37 (x3 &&& 255) 9 M L _ _ ls hD hw (lv_sub hl [] rfl)

set_option maxHeartbeats 4000000 in
set_option maxRecDepth 100000 in
theorem tlX14_product (l : Launch) (G : mwG) (ad : Nat → Nat) (N : Nat) (F : mwF) (fu : Nat) (a1 : Int32) (a2 : Int32) (M : mwM) (L : mwL) {r0 : Int32} {M0 : mwM} {L0 : mwL} (hD : DX14_product fu a1 a2 M L = some (r0, M0, L0)) (hN : 869 ≤ N) (hFF : ∀ j r, FF 854 j = some r → F 854 j = some r) : Met l yX14_product (Cond.code yX14_product cX14_product 5 ((some .int)) :: GT) ({ frames := 0, cells := 0, slots := 0, locals := 0 }) (mw_Pre G ad N TF F M L [.int a1, .int a2]) (mw_Qi G ad N TF F (mw_eqI r0 M0 L0)) 0 0 (mw_fr G) := by
  refine mw_enter (by decide) (Nat.le_of_ble_eq_true rfl) ?_
  intro p e s m below meth c ls C hr hlocks hnm hw hl
  have hl : lv_has ls 5 [(0, .int a1), (1, .int a2)] := hl
  have hh7 : ∀ (f : Nat) (v2 : Int32) (v3 : Int32) (v4 : Int32) (M : mwM) (L : mwL) (H : Heap) (locs : List Loc) (ls : Array Slot), fX14_product_h7 fu a1 a2 f (v2, v3, v4, M, L) = some (r0, M0, L0) → mw_W G ad N TF F M L H locs → lv_has ls 5 [(1, .int a2), (2, .int v2), (3, .int v3), (4, .int v4)] → W p l e ({ frames := 0, cells := 0, slots := 0, locals := 0 }) s m [.int a1, .int a2].toArray below meth c H locs 0 0 (MQ below (mw_Qi G ad N TF F (mw_eqI r0 M0 L0)) [.int a1, .int a2].toArray s 0 0 (mw_fr G)) (F0 m 7 ls []) := by
    intro f
    induction f with
    | zero => intro v2 v3 v4 M L H locs ls hD; cases hD
    | succ f7 ih7 =>
      intro v2 v3 v4 M L H locs ls hD hw hl
      replace hD : fX14_product_i7 fu a1 a2 (fX14_product_h7 fu a1 a2 f7) v2 v3 v4 M L = some (r0, M0, L0) := hD
      have hb54 : ∀ (v2 : Int32) (v4 : Int32) (s0 : Int32) (M : mwM) (L : mwL) (H : Heap) (locs : List Loc) (ls : Array Slot), fX14_product_b54 fu a1 a2 (fX14_product_h7 fu a1 a2 f7) v2 v4 s0 M L = some (r0, M0, L0) → mw_W G ad N TF F M L H locs → lv_has ls 5 [(1, .int a2), (2, .int v2), (4, .int v4)] → W p l e ({ frames := 0, cells := 0, slots := 0, locals := 0 }) s m [.int a1, .int a2].toArray below meth c H locs 0 0 (MQ below (mw_Qi G ad N TF F (mw_eqI r0 M0 L0)) [.int a1, .int a2].toArray s 0 0 (mw_fr G)) (F0 m 54 ls [.int s0]) := by
        intro v2 v4 s0 M L H locs ls hD hw hl
        unfold fX14_product_b54 at hD
        refine lv_istore_n (lv' := [(3, .int s0), (1, .int a2), (2, .int v2), (4, .int v4)]) C.1.1 C.1.2.1 dX14_product_54 rfl hl (by decide) rfl (fun ls hl => ?_)
        obtain ⟨x4, ex4, hD⟩ := g_let hD
        refine lv_iinc (v := x4) (lv' := [(4, .int x4), (3, .int s0), (1, .int a2), (2, .int v2)]) C.1.1 C.1.2.1 dX14_product_55 hl (k := 3) rfl (by rw [ex4]; rfl) (by decide) rfl (fun ls hl => ?_)
        refine lv_goto (tgt := 7) C.1.1 C.1.2.1 dX14_product_58 (by decide) ?_
        exact ih7 v2 s0 x4 M L _ _ ls hD hw (lv_sub hl [2, 3, 1, 0] rfl)
      have hb31 : ∀ (v3 : Int32) (v4 : Int32) (s0 : Int32) (M : mwM) (L : mwL) (H : Heap) (locs : List Loc) (ls : Array Slot), fX14_product_b31 fu a1 a2 (fX14_product_h7 fu a1 a2 f7) v3 v4 s0 M L = some (r0, M0, L0) → mw_W G ad N TF F M L H locs → lv_has ls 5 [(1, .int a2), (3, .int v3), (4, .int v4)] → W p l e ({ frames := 0, cells := 0, slots := 0, locals := 0 }) s m [.int a1, .int a2].toArray below meth c H locs 0 0 (MQ below (mw_Qi G ad N TF F (mw_eqI r0 M0 L0)) [.int a1, .int a2].toArray s 0 0 (mw_fr G)) (F0 m 31 ls [.int s0]) := by
        intro v3 v4 s0 M L H locs ls hD hw hl
        unfold fX14_product_b31 at hD
        refine lv_istore_n (lv' := [(2, .int s0), (1, .int a2), (3, .int v3), (4, .int v4)]) C.1.1 C.1.2.1 dX14_product_31 rfl hl (by decide) rfl (fun ls hl => ?_)
        refine lv_iload_n C.1.1 C.1.2.1 dX14_product_32 rfl (lv_at hl 2 rfl) ?_
        refine lv_bipush (v := 127) C.1.1 C.1.2.1 dX14_product_33 (by decide) ?_
        refine lv_icmp_le (tgt := 51) C.1.1 C.1.2.1 dX14_product_35 (by decide) (fun c3 => ?_) (fun c3 => ?_)
        · replace hD := g_pos c3 hD
          refine lv_iconst (v := 2) C.1.1 C.1.2.1 dX14_product_51 (by decide) ?_
          refine lv_iload_n C.1.1 C.1.2.1 dX14_product_52 rfl (lv_at hl 2 rfl) ?_
          refine lv_imul C.1.1 C.1.2.1 dX14_product_53 ?_
          exact hb54 s0 v4 (2 * v3) M L _ _ ls hD hw (lv_sub hl [1, 0, 3] rfl)
        · replace hD := g_neg c3 hD
          refine lv_iconst (v := 2) C.1.1 C.1.2.1 dX14_product_38 (by decide) ?_
          refine lv_iload_n C.1.1 C.1.2.1 dX14_product_39 rfl (lv_at hl 2 rfl) ?_
          refine lv_imul C.1.1 C.1.2.1 dX14_product_40 ?_
          refine lv_sipush (v := 256) C.1.1 C.1.2.1 dX14_product_41 (by decide) ?_
          refine lv_isub C.1.1 C.1.2.1 dX14_product_44 ?_
          refine lv_bipush (v := 27) C.1.1 C.1.2.1 dX14_product_45 (by decide) ?_
          refine lv_ixor C.1.1 C.1.2.1 dX14_product_47 ?_
          refine lv_goto (tgt := 54) C.1.1 C.1.2.1 dX14_product_48 (by decide) ?_
          exact hb54 s0 v4 (((2 * v3) - 256) ^^^ 27) M L _ _ ls hD hw (lv_sub hl [1, 0, 3] rfl)
      unfold fX14_product_i7 at hD
      refine lv_iload C.1.1 C.1.2.1 dX14_product_7 (lv_at hl 3 rfl) ?_
      refine lv_bipush (v := 8) C.1.1 C.1.2.1 dX14_product_9 (by decide) ?_
      refine lv_icmp_ge (tgt := 61) C.1.1 C.1.2.1 dX14_product_11 (by decide) (fun c1 => ?_) (fun c1 => ?_)
      · replace hD := g_pos c1 hD
        refine lv_iload_n C.1.1 C.1.2.1 dX14_product_61 rfl (lv_at hl 1 rfl) ?_
        exact mr_iret C hr hlocks hw rfl (Option.some.inj hD) dX14_product_62
      · replace hD := g_neg c1 hD
        refine lv_iload_n C.1.1 C.1.2.1 dX14_product_14 rfl (lv_at hl 0 rfl) ?_
        refine lv_iload C.1.1 C.1.2.1 dX14_product_15 (lv_at hl 3 rfl) ?_
        refine lv_ishr C.1.1 C.1.2.1 dX14_product_17 ?_
        refine lv_iconst (v := 1) C.1.1 C.1.2.1 dX14_product_18 (by decide) ?_
        refine lv_iand C.1.1 C.1.2.1 dX14_product_19 ?_
        refine lv_iconst (v := 1) C.1.1 C.1.2.1 dX14_product_20 (by decide) ?_
        refine lv_icmp_ne (tgt := 30) C.1.1 C.1.2.1 dX14_product_21 (by decide) (fun c2 => ?_) (fun c2 => ?_)
        · replace hD := g_neg c2 hD
          refine lv_iload_n C.1.1 C.1.2.1 dX14_product_30 rfl (lv_at hl 1 rfl) ?_
          exact hb31 v3 v4 v2 M L _ _ ls hD hw (lv_sub hl [0, 2, 3] rfl)
        · replace hD := g_pos c2 hD
          refine lv_iload_n C.1.1 C.1.2.1 dX14_product_24 rfl (lv_at hl 1 rfl) ?_
          refine lv_iload_n C.1.1 C.1.2.1 dX14_product_25 rfl (lv_at hl 2 rfl) ?_
          refine lv_ixor C.1.1 C.1.2.1 dX14_product_26 ?_
          refine lv_goto (tgt := 31) C.1.1 C.1.2.1 dX14_product_27 (by decide) ?_
          exact hb31 v3 v4 (v2 ^^^ v3) M L _ _ ls hD hw (lv_sub hl [0, 2, 3] rfl)
  unfold DX14_product at hD
  refine lv_iconst (v := 0) C.1.1 C.1.2.1 dX14_product_0 (by decide) ?_
  refine lv_istore_n (lv' := [(2, .int 0), (0, .int a1), (1, .int a2)]) C.1.1 C.1.2.1 dX14_product_1 rfl hl (by decide) rfl (fun ls hl => ?_)
  refine lv_iload_n C.1.1 C.1.2.1 dX14_product_2 rfl (lv_at hl 1 rfl) ?_
  refine lv_istore_n (lv' := [(3, .int a1), (2, .int 0), (0, .int a1), (1, .int a2)]) C.1.1 C.1.2.1 dX14_product_3 rfl hl (by decide) rfl (fun ls hl => ?_)
  refine lv_iconst (v := 0) C.1.1 C.1.2.1 dX14_product_4 (by decide) ?_
  refine lv_istore (lv' := [(4, .int 0), (3, .int a1), (2, .int 0), (0, .int a1), (1, .int a2)]) C.1.1 C.1.2.1 dX14_product_5 hl (by decide) rfl (fun ls hl => ?_)
  exact hh7 fu 0 a1 0 M L _ _ ls hD hw (lv_sub hl [4, 2, 1, 0] rfl)

set_option maxHeartbeats 4000000 in
set_option maxRecDepth 100000 in
theorem tlX14_substituteOf (l : Launch) (G : mwG) (ad : Nat → Nat) (N : Nat) (F : mwF) (fu : Nat) (a1 : Int32) (M : mwM) (L : mwL) {r0 : Int32} {M0 : mwM} {L0 : mwL} (hD : DX14_substituteOf fu a1 M L = some (r0, M0, L0)) (hN : 869 ≤ N) (hFF : ∀ j r, FF 854 j = some r → F 854 j = some r) : Met l yX14_substituteOf (Cond.code yX14_substituteOf cX14_substituteOf 4 ((some .int)) :: GT) ({ frames := 1, cells := 0, slots := 0, locals := 24 }) (mw_Pre G ad N TF F M L [.int a1]) (mw_Qi G ad N TF F (mw_eqI r0 M0 L0)) 0 0 (mw_fr G) := by
  refine mw_enter (by decide) (Nat.le_of_ble_eq_true rfl) ?_
  intro p e s m below meth c ls C hr hlocks hnm hw hl
  have hl : lv_has ls 4 [(0, .int a1)] := hl
  have hh26 : ∀ (f : Nat) (v1 : Int32) (v2 : Int32) (v3 : Int32) (M : mwM) (L : mwL) (H : Heap) (locs : List Loc) (ls : Array Slot), fX14_substituteOf_h26 fu a1 f (v1, v2, v3, M, L) = some (r0, M0, L0) → mw_W G ad N TF F M L H locs → lv_has ls 4 [(1, .int v1), (2, .int v2), (3, .int v3)] → W p l e ({ frames := 1, cells := 0, slots := 0, locals := 24 }) s m [.int a1].toArray below meth c H locs 0 0 (MQ below (mw_Qi G ad N TF F (mw_eqI r0 M0 L0)) [.int a1].toArray s 0 0 (mw_fr G)) (F0 m 26 ls []) := by
    intro f
    induction f with
    | zero => intro v1 v2 v3 M L H locs ls hD; cases hD
    | succ f26 ih26 =>
      intro v1 v2 v3 M L H locs ls hD hw hl
      replace hD : fX14_substituteOf_i26 fu a1 (fX14_substituteOf_h26 fu a1 f26) v1 v2 v3 M L = some (r0, M0, L0) := hD
      unfold fX14_substituteOf_i26 at hD
      refine lv_iload_n C.1.1 C.1.2.1 dX14_substituteOf_26 rfl (lv_at hl 2 rfl) ?_
      refine lv_iconst (v := 5) C.1.1 C.1.2.1 dX14_substituteOf_27 (by decide) ?_
      refine lv_icmp_ge (tgt := 54) C.1.1 C.1.2.1 dX14_substituteOf_28 (by decide) (fun c7 => ?_) (fun c7 => ?_)
      · replace hD := g_pos c7 hD
        refine lv_iload_n C.1.1 C.1.2.1 dX14_substituteOf_54 rfl (lv_at hl 1 rfl) ?_
        exact mr_iret C hr hlocks hw rfl (Option.some.inj hD) dX14_substituteOf_55
      · replace hD := g_neg c7 hD
        refine lv_iload_n C.1.1 C.1.2.1 dX14_substituteOf_31 rfl (lv_at hl 1 rfl) ?_
        refine lv_iload_n C.1.1 C.1.2.1 dX14_substituteOf_32 rfl (lv_at hl 0 rfl) ?_
        refine lv_iload_n C.1.1 C.1.2.1 dX14_substituteOf_33 rfl (lv_at hl 2 rfl) ?_
        refine lv_ishl C.1.1 C.1.2.1 dX14_substituteOf_34 ?_
        refine lv_iload_n C.1.1 C.1.2.1 dX14_substituteOf_35 rfl (lv_at hl 0 rfl) ?_
        refine lv_bipush (v := 8) C.1.1 C.1.2.1 dX14_substituteOf_36 (by decide) ?_
        refine lv_iload_n C.1.1 C.1.2.1 dX14_substituteOf_38 rfl (lv_at hl 2 rfl) ?_
        refine lv_isub C.1.1 C.1.2.1 dX14_substituteOf_39 ?_
        refine lv_ishr C.1.1 C.1.2.1 dX14_substituteOf_40 ?_
        refine lv_ior C.1.1 C.1.2.1 dX14_substituteOf_41 ?_
        refine lv_sipush (v := 255) C.1.1 C.1.2.1 dX14_substituteOf_42 (by decide) ?_
        refine lv_iand C.1.1 C.1.2.1 dX14_substituteOf_45 ?_
        refine lv_ixor C.1.1 C.1.2.1 dX14_substituteOf_46 ?_
        obtain ⟨x8, ex8, hD⟩ := g_let hD
        refine W.eq (g2 := F0 m 47 ls (.int x8 :: [])) (by rw [ex8]) ?_
        refine lv_istore_n (lv' := [(2, .int x8), (1, .int v1), (3, .int v3)]) C.1.1 C.1.2.1 dX14_substituteOf_47 rfl hl (by decide) rfl (fun ls hl => ?_)
        obtain ⟨x9, ex9, hD⟩ := g_let hD
        refine lv_iinc (v := x9) (lv' := [(3, .int x9), (2, .int x8), (1, .int v1)]) C.1.1 C.1.2.1 dX14_substituteOf_48 hl (k := 2) rfl (by rw [ex9]; rfl) (by decide) rfl (fun ls hl => ?_)
        refine lv_goto (tgt := 26) C.1.1 C.1.2.1 dX14_substituteOf_51 (by decide) ?_
        exact ih26 v1 x8 x9 M L _ _ ls hD hw (lv_sub hl [2, 1, 0] rfl)
  have hb21 : ∀ (v1 : Int32) (M : mwM) (L : mwL) (H : Heap) (locs : List Loc) (ls : Array Slot), fX14_substituteOf_b21 fu a1 v1 M L = some (r0, M0, L0) → mw_W G ad N TF F M L H locs → lv_has ls 4 [(1, .int v1)] → W p l e ({ frames := 1, cells := 0, slots := 0, locals := 24 }) s m [.int a1].toArray below meth c H locs 0 0 (MQ below (mw_Qi G ad N TF F (mw_eqI r0 M0 L0)) [.int a1].toArray s 0 0 (mw_fr G)) (F0 m 21 ls []) := by
    intro v1 M L H locs ls hD hw hl
    unfold fX14_substituteOf_b21 at hD
    refine lv_bipush (v := 99) C.1.1 C.1.2.1 dX14_substituteOf_21 (by decide) ?_
    refine lv_istore_n (lv' := [(2, .int 99), (1, .int v1)]) C.1.1 C.1.2.1 dX14_substituteOf_23 rfl hl (by decide) rfl (fun ls hl => ?_)
    refine lv_iconst (v := 0) C.1.1 C.1.2.1 dX14_substituteOf_24 (by decide) ?_
    refine lv_istore_n (lv' := [(3, .int 0), (2, .int 99), (1, .int v1)]) C.1.1 C.1.2.1 dX14_substituteOf_25 rfl hl (by decide) rfl (fun ls hl => ?_)
    exact hh26 fu v1 99 0 M L _ _ ls hD hw (lv_sub hl [2, 1, 0] rfl)
  have hh2 : ∀ (f : Nat) (v1 : Int32) (M : mwM) (L : mwL) (H : Heap) (locs : List Loc) (ls : Array Slot), fX14_substituteOf_h2 fu a1 f (v1, M, L) = some (r0, M0, L0) → mw_W G ad N TF F M L H locs → lv_has ls 4 [(0, .int a1), (1, .int v1)] → W p l e ({ frames := 1, cells := 0, slots := 0, locals := 24 }) s m [.int a1].toArray below meth c H locs 0 0 (MQ below (mw_Qi G ad N TF F (mw_eqI r0 M0 L0)) [.int a1].toArray s 0 0 (mw_fr G)) (F0 m 2 ls []) := by
    intro f
    induction f with
    | zero => intro v1 M L H locs ls hD; cases hD
    | succ f2 ih2 =>
      intro v1 M L H locs ls hD hw hl
      replace hD : fX14_substituteOf_i2 fu a1 (fX14_substituteOf_h2 fu a1 f2) v1 M L = some (r0, M0, L0) := hD
      unfold fX14_substituteOf_i2 at hD
      refine lv_iload_n C.1.1 C.1.2.1 dX14_substituteOf_2 rfl (lv_at hl 0 rfl) ?_
      refine lv_if_le (tgt := 21) C.1.1 C.1.2.1 dX14_substituteOf_3 (by decide) (fun c1 => ?_) (fun c1 => ?_)
      · replace hD := g_pos c1 hD
        exact hb21 v1 M L _ _ ls hD hw (lv_sub hl [1] rfl)
      · replace hD := g_neg c1 hD
        refine lv_iload_n C.1.1 C.1.2.1 dX14_substituteOf_6 rfl (lv_at hl 0 rfl) ?_
        refine lv_iload_n C.1.1 C.1.2.1 dX14_substituteOf_7 rfl (lv_at hl 1 rfl) ?_
        obtain ⟨r4, M2, L3, h1, hD⟩ := g_b3 hD
        refine md_csI (As := [.int a1, .int v1]) (rest := []) C hw (tlX14_product l G ad N F fu a1 v1 M L h1 hN hFF) wd_2263 cwX14_product ⟨Nat.le_of_ble_eq_true rfl, Nat.le_of_ble_eq_true rfl⟩ rfl hl.1 (Nat.le_of_ble_eq_true rfl) dX14_substituteOf_8 rfl rfl ⟨Nat.zero_le _, Nat.zero_le _⟩ rfl (fun H locs hw => ?_)
        refine lv_iconst (v := 1) C.1.1 C.1.2.1 dX14_substituteOf_11 (by decide) ?_
        refine lv_icmp_eq (tgt := 21) C.1.1 C.1.2.1 dX14_substituteOf_12 (by decide) (fun c5 => ?_) (fun c5 => ?_)
        · replace hD := g_pos c5 hD
          exact hb21 v1 M2 L3 _ _ ls hD hw (lv_sub hl [1] rfl)
        · replace hD := g_neg c5 hD
          obtain ⟨x6, ex6, hD⟩ := g_let hD
          refine lv_iinc (v := x6) (lv' := [(1, .int x6), (0, .int a1)]) C.1.1 C.1.2.1 dX14_substituteOf_15 hl (k := 1) rfl (by rw [ex6]; rfl) (by decide) rfl (fun ls hl => ?_)
          refine lv_goto (tgt := 2) C.1.1 C.1.2.1 dX14_substituteOf_18 (by decide) ?_
          exact ih2 x6 M2 L3 _ _ ls hD hw (lv_sub hl [1, 0] rfl)
  unfold DX14_substituteOf at hD
  refine lv_iconst (v := 0) C.1.1 C.1.2.1 dX14_substituteOf_0 (by decide) ?_
  refine lv_istore_n (lv' := [(1, .int 0), (0, .int a1)]) C.1.1 C.1.2.1 dX14_substituteOf_1 rfl hl (by decide) rfl (fun ls hl => ?_)
  exact hh2 fu 0 M L _ _ ls hD hw (lv_sub hl [1, 0] rfl)

set_option maxHeartbeats 4000000 in
set_option maxRecDepth 100000 in
theorem tlX14_noKey (l : Launch) (G : mwG) (ad : Nat → Nat) (N : Nat) (F : mwF) (fu : Nat) (a1 : Int32) (M : mwM) (L : mwL) {r0 : Int32} {M0 : mwM} {L0 : mwL} (hD : DX14_noKey fu a1 M L = some (r0, M0, L0)) (hN : 869 ≤ N) (hFF : ∀ j r, FF 854 j = some r → F 854 j = some r) : Met l yX14_noKey (Cond.code yX14_noKey cX14_noKey 2 ((some .boolean)) :: GT) ({ frames := 0, cells := 0, slots := 0, locals := 0 }) (mw_Pre G ad N TF F M L [.ref (ad 854), .int a1]) (mw_Qi G ad N TF F (mw_eqI r0 M0 L0)) 0 0 (mw_fr G) := by
  refine mw_enter (by decide) (Nat.le_of_ble_eq_true rfl) ?_
  intro p e s m below meth c ls C hr hlocks hnm hw hl
  have hl : lv_has ls 2 [(0, .ref (ad 854)), (1, .int a1)] := hl
  have hb23 : ∀ (s0 : Int32) (M : mwM) (L : mwL) (H : Heap) (locs : List Loc) (ls : Array Slot), fX14_noKey_b23 fu a1 s0 M L = some (r0, M0, L0) → mw_W G ad N TF F M L H locs → lv_has ls 2 [] → W p l e ({ frames := 0, cells := 0, slots := 0, locals := 0 }) s m [.ref (ad 854), .int a1].toArray below meth c H locs 0 0 (MQ below (mw_Qi G ad N TF F (mw_eqI r0 M0 L0)) [.ref (ad 854), .int a1].toArray s 0 0 (mw_fr G)) (F0 m 23 ls [.int s0]) := by
    intro s0 M L H locs ls hD hw hl
    unfold fX14_noKey_b23 at hD
    obtain ⟨z1, hD⟩ := g_zz hD
    exact mr_iret C hr hlocks hw (nz_zz z1) (Option.some.inj hD) dX14_noKey_23
  have hb18 : ∀ (M : mwM) (L : mwL) (H : Heap) (locs : List Loc) (ls : Array Slot), fX14_noKey_b18 fu a1 M L = some (r0, M0, L0) → mw_W G ad N TF F M L H locs → lv_has ls 2 [] → W p l e ({ frames := 0, cells := 0, slots := 0, locals := 0 }) s m [.ref (ad 854), .int a1].toArray below meth c H locs 0 0 (MQ below (mw_Qi G ad N TF F (mw_eqI r0 M0 L0)) [.ref (ad 854), .int a1].toArray s 0 0 (mw_fr G)) (F0 m 18 ls []) := by
    intro M L H locs ls hD hw hl
    unfold fX14_noKey_b18 at hD
    refine lv_iconst (v := 1) C.1.1 C.1.2.1 dX14_noKey_18 (by decide) ?_
    refine lv_goto (tgt := 23) C.1.1 C.1.2.1 dX14_noKey_19 (by decide) ?_
    exact hb23 1 M L _ _ ls hD hw (lv_sub hl [] rfl)
  unfold DX14_noKey at hD
  refine lv_aload_n C.1.1 C.1.2.1 dX14_noKey_0 rfl (lv_at hl 0 rfl) ?_
  refine lv_iconst (v := 0) C.1.1 C.1.2.1 dX14_noKey_1 (by decide) ?_
  obtain ⟨M2, eM2, hD⟩ := g_let hD
  refine mr_putI C hw kc_14 0 (Nat.lt_of_lt_of_le (by decide : 854 < 869) hN) tf_854 wd_2266 dX14_noKey_2 (by decide) rfl rfl rfl rfl (fun H locs hw => ?_)
  replace hw : mw_W G ad N TF F M2 L H locs := by rw [eM2]; exact hw
  refine lv_iload_n C.1.1 C.1.2.1 dX14_noKey_5 rfl (lv_at hl 1 rfl) ?_
  refine lv_iconst (v := 1) C.1.1 C.1.2.1 dX14_noKey_6 (by decide) ?_
  refine lv_icmp_lt (tgt := 18) C.1.1 C.1.2.1 dX14_noKey_7 (by decide) (fun c3 => ?_) (fun c3 => ?_)
  · replace hD := g_pos c3 hD
    exact hb18 M2 L _ _ ls hD hw (lv_sub hl [] rfl)
  · replace hD := g_neg c3 hD
    refine lv_iload_n C.1.1 C.1.2.1 dX14_noKey_10 rfl (lv_at hl 1 rfl) ?_
    refine lv_aload_n C.1.1 C.1.2.1 dX14_noKey_11 rfl (lv_at hl 0 rfl) ?_
    refine mr_getI C hw kc_14 1 (Nat.lt_of_lt_of_le (by decide : 854 < 869) hN) tf_854 wd_2267 dX14_noKey_12 (by decide) rfl ?_
    refine lv_icmp_le (tgt := 22) C.1.1 C.1.2.1 dX14_noKey_15 (by decide) (fun c4 => ?_) (fun c4 => ?_)
    · replace hD := g_pos c4 hD
      refine lv_iconst (v := 0) C.1.1 C.1.2.1 dX14_noKey_22 (by decide) ?_
      exact hb23 0 M2 L _ _ ls hD hw (lv_sub hl [] rfl)
    · replace hD := g_neg c4 hD
      exact hb18 M2 L _ _ ls hD hw (lv_sub hl [] rfl)

set_option maxHeartbeats 4000000 in
set_option maxRecDepth 100000 in
theorem tlX14_key (l : Launch) (G : mwG) (ad : Nat → Nat) (N : Nat) (F : mwF) (fu : Nat) (M : mwM) (L : mwL) {r0 : Int32} {M0 : mwM} {L0 : mwL} (hD : DX14_key fu M L = some (r0, M0, L0)) (hN : 869 ≤ N) (hFF : ∀ j r, FF 854 j = some r → F 854 j = some r) : Met l yX14_key (Cond.code yX14_key cX14_key 1 ((some .int)) :: GT) ({ frames := 0, cells := 0, slots := 0, locals := 0 }) (mw_Pre G ad N TF F M L [.ref (ad 854)]) (mw_Qi G ad N TF F (mw_eqI r0 M0 L0)) 0 0 (mw_fr G) := by
  refine mw_enter (by decide) (Nat.le_of_ble_eq_true rfl) ?_
  intro p e s m below meth c ls C hr hlocks hnm hw hl
  have hl : lv_has ls 1 [(0, .ref (ad 854))] := hl
  unfold DX14_key at hD
  refine lv_aload_n C.1.1 C.1.2.1 dX14_key_0 rfl (lv_at hl 0 rfl) ?_
  refine lv_iconst (v := 0) C.1.1 C.1.2.1 dX14_key_1 (by decide) ?_
  obtain ⟨M1, eM1, hD⟩ := g_let hD
  refine mr_putI C hw kc_14 0 (Nat.lt_of_lt_of_le (by decide : 854 < 869) hN) tf_854 wd_2266 dX14_key_2 (by decide) rfl rfl rfl rfl (fun H locs hw => ?_)
  replace hw : mw_W G ad N TF F M1 L H locs := by rw [eM1]; exact hw
  refine lv_aload_n C.1.1 C.1.2.1 dX14_key_5 rfl (lv_at hl 0 rfl) ?_
  refine mr_getI C hw kc_14 1 (Nat.lt_of_lt_of_le (by decide : 854 < 869) hN) tf_854 wd_2267 dX14_key_6 (by decide) rfl ?_
  refine lv_bipush (v := 16) C.1.1 C.1.2.1 dX14_key_9 (by decide) ?_
  refine lv_icmp_ne (tgt := 17) C.1.1 C.1.2.1 dX14_key_11 (by decide) (fun c2 => ?_) (fun c2 => ?_)
  · replace hD := g_neg c2 hD
    refine lv_aload_n C.1.1 C.1.2.1 dX14_key_17 rfl (lv_at hl 0 rfl) ?_
    refine lv_dup C.1.1 C.1.2.1 dX14_key_18 rfl ?_
    refine mr_getI C hw kc_14 1 (Nat.lt_of_lt_of_le (by decide : 854 < 869) hN) tf_854 wd_2267 dX14_key_19 (by decide) rfl ?_
    refine lv_iconst (v := 1) C.1.1 C.1.2.1 dX14_key_22 (by decide) ?_
    refine lv_iadd C.1.1 C.1.2.1 dX14_key_23 ?_
    obtain ⟨M3, eM3, hD⟩ := g_let hD
    refine mr_putI C hw kc_14 1 (Nat.lt_of_lt_of_le (by decide : 854 < 869) hN) tf_854 wd_2267 dX14_key_24 (by decide) rfl rfl rfl rfl (fun H locs hw => ?_)
    replace hw : mw_W G ad N TF F M3 L H locs := by rw [eM3]; exact hw
    refine lv_aload_n C.1.1 C.1.2.1 dX14_key_27 rfl (lv_at hl 0 rfl) ?_
    refine mr_getI C hw kc_14 1 (Nat.lt_of_lt_of_le (by decide : 854 < 869) hN) tf_854 wd_2267 dX14_key_28 (by decide) rfl ?_
    exact mr_iret C hr hlocks hw rfl (Option.some.inj hD) dX14_key_31
  · replace hD := g_pos c2 hD
    refine lv_bipush (v := (-4)) C.1.1 C.1.2.1 dX14_key_14 (by decide) ?_
    exact mr_iret C hr hlocks hw rfl (Option.some.inj hD) dX14_key_16

set_option maxHeartbeats 4000000 in
set_option maxRecDepth 100000 in
theorem tlX14_keyByte (l : Launch) (G : mwG) (ad : Nat → Nat) (N : Nat) (F : mwF) (fu : Nat) (a1 : Int32) (a2 : Int32) (M : mwM) (L : mwL) {M0 : mwM} {L0 : mwL} (hD : DX14_keyByte fu a1 a2 M L = some (M0, L0)) (hN : 869 ≤ N) (hFF : ∀ j r, FF 854 j = some r → F 854 j = some r) : Met l yX14_keyByte (Cond.code yX14_keyByte cX14_keyByte 3 (none) :: GT) ({ frames := 1, cells := 0, slots := 0, locals := 21 }) (mw_Pre G ad N TF F M L [.ref (ad 854), .int a1, .int a2]) (mw_Qv G ad N TF F (mw_eqV M0 L0)) 0 0 (mw_fr G) := by
  refine mw_enter (by decide) (Nat.le_of_ble_eq_true rfl) ?_
  intro p e s m below meth c ls C hr hlocks hnm hw hl
  have hl : lv_has ls 3 [(0, .ref (ad 854)), (1, .int a1), (2, .int a2)] := hl
  unfold DX14_keyByte at hD
  refine lv_aload_n C.1.1 C.1.2.1 dX14_keyByte_0 rfl (lv_at hl 0 rfl) ?_
  refine lv_iload_n C.1.1 C.1.2.1 dX14_keyByte_1 rfl (lv_at hl 1 rfl) ?_
  obtain ⟨r3, M1, L2, h1, hD⟩ := g_b3 hD
  refine md_cvI (As := [.int a1]) (rest := []) C hw (tlX14_noKey l G ad N F fu a1 M L h1 hN hFF) kc_14 (Nat.lt_of_lt_of_le (by decide : 854 < 869) hN) tf_854 wd_2777 cwX14_noKey ⟨Nat.le_of_ble_eq_true rfl, Nat.le_of_ble_eq_true rfl⟩ rfl hl.1 (Nat.le_of_ble_eq_true rfl) dX14_keyByte_2 rfl rfl ⟨Nat.zero_le _, Nat.zero_le _⟩ rfl (fun H locs hw => ?_)
  refine lv_if_eq (tgt := 9) C.1.1 C.1.2.1 dX14_keyByte_5 (by decide) (fun c4 => ?_) (fun c4 => ?_)
  · replace hD := g_pos c4 hD
    refine lv_aload_n C.1.1 C.1.2.1 dX14_keyByte_9 rfl (lv_at hl 0 rfl) ?_
    refine mr_getR C hw kc_14 2 (Nat.lt_of_lt_of_le (by decide : 854 < 869) hN) tf_854 (hFF 2 _ ff_854_2) wd_2268 dX14_keyByte_10 (by decide) rfl ?_
    refine lv_bipush (v := 16) C.1.1 C.1.2.1 dX14_keyByte_13 (by decide) ?_
    refine lv_iload_n C.1.1 C.1.2.1 dX14_keyByte_15 rfl (lv_at hl 1 rfl) ?_
    refine lv_imul C.1.1 C.1.2.1 dX14_keyByte_16 ?_
    refine lv_aload_n C.1.1 C.1.2.1 dX14_keyByte_17 rfl (lv_at hl 0 rfl) ?_
    refine mr_getR C hw kc_14 3 (Nat.lt_of_lt_of_le (by decide : 854 < 869) hN) tf_854 (hFF 3 _ ff_854_3) wd_2269 dX14_keyByte_18 (by decide) rfl ?_
    refine lv_iload_n C.1.1 C.1.2.1 dX14_keyByte_21 rfl (lv_at hl 1 rfl) ?_
    obtain ⟨q5, hD⟩ := g_ck hD
    refine mr_iald C hw (Nat.lt_of_lt_of_le (by decide : 856 < 869) hN) tf_856 q5 dX14_keyByte_22 ?_
    refine lv_iadd C.1.1 C.1.2.1 dX14_keyByte_23 ?_
    refine lv_iload_n C.1.1 C.1.2.1 dX14_keyByte_24 rfl (lv_at hl 2 rfl) ?_
    refine lv_sipush (v := 255) C.1.1 C.1.2.1 dX14_keyByte_25 (by decide) ?_
    refine lv_iand C.1.1 C.1.2.1 dX14_keyByte_28 ?_
    obtain ⟨q6, hD⟩ := g_ck hD
    obtain ⟨M7, eM7, hD⟩ := g_let hD
    refine mr_iast C hw (Nat.lt_of_lt_of_le (by decide : 855 < 869) hN) tf_855 q6 dX14_keyByte_29 (fun H locs hw => ?_)
    replace hw : mw_W G ad N TF F M7 L2 H locs := by rw [eM7]; exact hw
    refine lv_aload_n C.1.1 C.1.2.1 dX14_keyByte_30 rfl (lv_at hl 0 rfl) ?_
    refine mr_getR C hw kc_14 3 (Nat.lt_of_lt_of_le (by decide : 854 < 869) hN) tf_854 (hFF 3 _ ff_854_3) wd_2269 dX14_keyByte_31 (by decide) rfl ?_
    refine lv_iload_n C.1.1 C.1.2.1 dX14_keyByte_34 rfl (lv_at hl 1 rfl) ?_
    refine lv_aload_n C.1.1 C.1.2.1 dX14_keyByte_35 rfl (lv_at hl 0 rfl) ?_
    refine mr_getR C hw kc_14 3 (Nat.lt_of_lt_of_le (by decide : 854 < 869) hN) tf_854 (hFF 3 _ ff_854_3) wd_2269 dX14_keyByte_36 (by decide) rfl ?_
    refine lv_iload_n C.1.1 C.1.2.1 dX14_keyByte_39 rfl (lv_at hl 1 rfl) ?_
    obtain ⟨q8, hD⟩ := g_ck hD
    refine mr_iald C hw (Nat.lt_of_lt_of_le (by decide : 856 < 869) hN) tf_856 q8 dX14_keyByte_40 ?_
    refine lv_iconst (v := 1) C.1.1 C.1.2.1 dX14_keyByte_41 (by decide) ?_
    refine lv_iadd C.1.1 C.1.2.1 dX14_keyByte_42 ?_
    refine lv_bipush (v := 16) C.1.1 C.1.2.1 dX14_keyByte_43 (by decide) ?_
    refine lv_irem C.1.1 C.1.2.1 dX14_keyByte_45 (by decide) ?_
    obtain ⟨q10, hD⟩ := g_ck hD
    obtain ⟨M11, eM11, hD⟩ := g_let hD
    refine mr_iast C hw (Nat.lt_of_lt_of_le (by decide : 856 < 869) hN) tf_856 q10 dX14_keyByte_46 (fun H locs hw => ?_)
    replace hw : mw_W G ad N TF F M11 L2 H locs := by rw [eM11]; exact hw
    exact mr_vret C hr hlocks hw (Option.some.inj hD) dX14_keyByte_47
  · replace hD := g_neg c4 hD
    exact mr_vret C hr hlocks hw (Option.some.inj hD) dX14_keyByte_8
