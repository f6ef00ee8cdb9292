set_option maxHeartbeats 8000000 in
set_option maxRecDepth 100000 in
theorem twL_law {p : Program} {l : Launch} {e : Env} {s : State} {m : MethodId} {below : List Frame} {meth : Method} {c : Code} {b : Nat} (G : mwG) (fu fl n : Nat) (xs : Nat → Int32) (M : mwM) (L : mwL) {M0 : mwM} {L0 : mwL} (hst : l.stackTraces = false) (hD : DL_law fu fl n xs M L = some (1, M0, L0)) (C : mw_C p m c cL_law 8 s #[Value.ref b] "CarHouseLaw" G) (KX : mw_KX G s) (hr : meth.sig.returnType = ret) (hlocks : meth.locks = false) (hX : va_X b n xs s G.2.2.2) (hbl : b < G.2.2.2.size) (hG : G.2.2.2 = s.heap) (cells slots : Nat) (hfl1 : cells + fl ≤ 600000) (hfl2 : slots + 6 * fl ≤ 7290000) (H : Heap) (locs : List Loc) (ls : Array Slot) (hw : mw_W G (mw_ad G) NF TF FF M L H locs) (hl : lv_has ls 8 [(0, .ref b), (1, .ref (mw_ad G 0)), (2, .ref (mw_ad G 732)), (3, .ref (mw_ad G 1577))]) : W p l e room_1 s m #[Value.ref b] below meth c H locs cells slots (lw_Z below #[Value.ref b] s) (F0 m 20 ls []) := by
  have hbA : ¬ mw_fr G b := Nat.not_le.mpr hbl
  have hret : ∀ (pc : Nat) (v : Int32) (M L) (H : Heap) (locs : List Loc) (ls : Array Slot) (cells slots : Nat), cells ≤ 601024 → slots ≤ 7293034 → decode cL_law pc = .ok (.ireturn, 1) → mw_W G (mw_ad G) NF TF FF M L H locs → some (v, M, L) = some (1, M0, L0) → W p l e room_1 s m #[Value.ref b] below meth c H locs cells slots (lw_Z below #[Value.ref b] s) (F0 m pc ls [.int v]) := by
    intro pc v M L H locs ls cells slots h1 h2 hd hw hv
    cases hv
    refine W.widen (k := 601024) (n := 7293034) h1 h2 ?_
    have hf := W.forget (p := p) (l := l) (e := e) (R := room_1) (s := s) (m := m) (args := #[Value.ref b]) (below := below) (meth := meth) (c := c) (H := H) (locs := []) (L := locs) (cells := 601024) (slots := 7293034) (Q := lw_Z below #[Value.ref b] s) (g := F0 m pc ls [.int 1]) (fun q hq => hG ▸ hw.locs q hq) (lw_ret C.1.1 C.1.2.1 hr hlocks hd)
    exact hf
  have hh23 : ∀ (f cells slots : Nat), cells + f ≤ 600000 → slots + 6 * f ≤ 7290000 → ∀ (v4 : Int32) (M : mwM) (L : mwL) (H : Heap) (locs : List Loc) (ls : Array Slot), fL_law_h23 fu n xs f (v4, M, L) = some (1, M0, L0) → mw_W G (mw_ad G) NF TF FF M L H locs → lv_has ls 8 [(0, .ref b), (1, .ref (mw_ad G 0)), (2, .ref (mw_ad G 732)), (3, .ref (mw_ad G 1577)), (4, .int v4)] → W p l e room_1 s m #[Value.ref b] below meth c H locs cells slots (lw_Z below #[Value.ref b] s) (F0 m 23 ls []) := by
    intro f
    induction f with
    | zero => intro cells slots _ _ v4 M L H locs ls hD; cases hD
    | succ f23 ih23 =>
      intro cells slots hq1 hq2 v4 M L H locs ls hD hw hl
      have hc0 : cells ≤ room_1.cells ∧ slots ≤ room_1.slots := ⟨show cells ≤ 601024 by omega, show slots ≤ 7293034 by omega⟩
      have hc1 : cells + 1 ≤ room_1.cells ∧ slots + 6 ≤ room_1.slots := ⟨show cells + 1 ≤ 601024 by omega, show slots + 6 ≤ 7293034 by omega⟩
      replace hD : fL_law_i23 fu n xs (fL_law_h23 fu n xs f23) v4 M L = some (1, M0, L0) := hD
      have hb1646 : ∀ (v4 : Int32) (M : mwM) (L : mwL) (H : Heap) (locs : List Loc) (ls : Array Slot), fL_law_b1646 fu n xs (fL_law_h23 fu n xs f23) v4 M L = some (1, M0, L0) → mw_W G (mw_ad G) NF TF FF M L H locs → lv_has ls 8 [(0, .ref b), (1, .ref (mw_ad G 0)), (2, .ref (mw_ad G 732)), (3, .ref (mw_ad G 1577)), (4, .int v4)] → W p l e room_1 s m #[Value.ref b] below meth c H locs (cells + 1) (slots + 6) (lw_Z below #[Value.ref b] s) (F0 m 1646 ls []) := by
        intro v4 M L H locs ls hD hw hl
        unfold fL_law_b1646 at hD
        obtain ⟨x424, ex424, hD⟩ := g_let hD
        refine lv_iinc (v := x424) (lv' := [(4, .int x424), (0, .ref b), (1, .ref (mw_ad G 0)), (2, .ref (mw_ad G 732)), (3, .ref (mw_ad G 1577))]) C.1.1 C.1.2.1 dL_law_1646 hl (k := 4) rfl (by rw [ex424]; rfl) (by decide) rfl (fun ls hl => ?_)
        refine lv_goto (tgt := 23) C.1.1 C.1.2.1 dL_law_1649 (by decide) ?_
        refine W.widen (k := cells + 1) (n := slots + 6) (by omega) (by omega) ?_
        exact ih23 (cells + 1) (slots + 6) (by omega) (by omega) x424 M L _ _ ls hD hw (lv_sub hl [1, 2, 3, 4, 0] rfl)
      have hb285 : ∀ (v4 : Int32) (M : mwM) (L : mwL) (H : Heap) (locs : List Loc) (ls : Array Slot), fL_law_b285 fu n xs (fL_law_h23 fu n xs f23) v4 M L = some (1, M0, L0) → mw_W G (mw_ad G) NF TF FF M L H locs → lv_has ls 8 [(0, .ref b), (1, .ref (mw_ad G 0)), (2, .ref (mw_ad G 732)), (3, .ref (mw_ad G 1577)), (4, .int v4)] → W p l e room_1 s m #[Value.ref b] below meth c H locs (cells + 1) (slots + 6) (lw_Z below #[Value.ref b] s) (F0 m 285 ls []) := by
        intro v4 M L H locs ls hD hw hl
        unfold fL_law_b285 at hD
        refine lv_goto (tgt := 1646) C.1.1 C.1.2.1 dL_law_285 (by decide) ?_
        exact hb1646 v4 M L _ _ ls hD hw (lv_sub hl [0, 1, 2, 3, 4] rfl)
      have hb329 : ∀ (v4 : Int32) (M : mwM) (L : mwL) (H : Heap) (locs : List Loc) (ls : Array Slot), fL_law_b329 fu n xs (fL_law_h23 fu n xs f23) v4 M L = some (1, M0, L0) → mw_W G (mw_ad G) NF TF FF M L H locs → lv_has ls 8 [(0, .ref b), (1, .ref (mw_ad G 0)), (2, .ref (mw_ad G 732)), (3, .ref (mw_ad G 1577)), (4, .int v4)] → W p l e room_1 s m #[Value.ref b] below meth c H locs (cells + 1) (slots + 6) (lw_Z below #[Value.ref b] s) (F0 m 329 ls []) := by
        intro v4 M L H locs ls hD hw hl
        unfold fL_law_b329 at hD
        refine lv_goto (tgt := 1646) C.1.1 C.1.2.1 dL_law_329 (by decide) ?_
        exact hb1646 v4 M L _ _ ls hD hw (lv_sub hl [0, 1, 2, 3, 4] rfl)
      have hb398 : ∀ (v4 : Int32) (M : mwM) (L : mwL) (H : Heap) (locs : List Loc) (ls : Array Slot), fL_law_b398 fu n xs (fL_law_h23 fu n xs f23) v4 M L = some (1, M0, L0) → mw_W G (mw_ad G) NF TF FF M L H locs → lv_has ls 8 [(0, .ref b), (1, .ref (mw_ad G 0)), (2, .ref (mw_ad G 732)), (3, .ref (mw_ad G 1577)), (4, .int v4)] → W p l e room_1 s m #[Value.ref b] below meth c H locs (cells + 1) (slots + 6) (lw_Z below #[Value.ref b] s) (F0 m 398 ls []) := by
        intro v4 M L H locs ls hD hw hl
        unfold fL_law_b398 at hD
        refine lv_goto (tgt := 1646) C.1.1 C.1.2.1 dL_law_398 (by decide) ?_
        exact hb1646 v4 M L _ _ ls hD hw (lv_sub hl [0, 1, 2, 3, 4] rfl)
      have hb466 : ∀ (v4 : Int32) (M : mwM) (L : mwL) (H : Heap) (locs : List Loc) (ls : Array Slot), fL_law_b466 fu n xs (fL_law_h23 fu n xs f23) v4 M L = some (1, M0, L0) → mw_W G (mw_ad G) NF TF FF M L H locs → lv_has ls 8 [(0, .ref b), (1, .ref (mw_ad G 0)), (2, .ref (mw_ad G 732)), (3, .ref (mw_ad G 1577)), (4, .int v4)] → W p l e room_1 s m #[Value.ref b] below meth c H locs (cells + 1) (slots + 6) (lw_Z below #[Value.ref b] s) (F0 m 466 ls []) := by
        intro v4 M L H locs ls hD hw hl
        unfold fL_law_b466 at hD
        refine lv_goto (tgt := 1646) C.1.1 C.1.2.1 dL_law_466 (by decide) ?_
        exact hb1646 v4 M L _ _ ls hD hw (lv_sub hl [0, 1, 2, 3, 4] rfl)
      have hb550 : ∀ (v4 : Int32) (M : mwM) (L : mwL) (H : Heap) (locs : List Loc) (ls : Array Slot), fL_law_b550 fu n xs (fL_law_h23 fu n xs f23) v4 M L = some (1, M0, L0) → mw_W G (mw_ad G) NF TF FF M L H locs → lv_has ls 8 [(0, .ref b), (1, .ref (mw_ad G 0)), (2, .ref (mw_ad G 732)), (3, .ref (mw_ad G 1577)), (4, .int v4)] → W p l e room_1 s m #[Value.ref b] below meth c H locs (cells + 1) (slots + 6) (lw_Z below #[Value.ref b] s) (F0 m 550 ls []) := by
        intro v4 M L H locs ls hD hw hl
        unfold fL_law_b550 at hD
        refine lv_goto (tgt := 1646) C.1.1 C.1.2.1 dL_law_550 (by decide) ?_
        exact hb1646 v4 M L _ _ ls hD hw (lv_sub hl [0, 1, 2, 3, 4] rfl)
      have hb517 : ∀ (v4 : Int32) (v5 : Int32) (s1 : Int32) (s2 : Int32) (M : mwM) (L : mwL) (H : Heap) (locs : List Loc) (ls : Array Slot), fL_law_b517 fu n xs (fL_law_h23 fu n xs f23) v4 v5 s1 s2 M L = some (1, M0, L0) → mw_W G (mw_ad G) NF TF FF M L H locs → lv_has ls 8 [(0, .ref b), (1, .ref (mw_ad G 0)), (2, .ref (mw_ad G 732)), (3, .ref (mw_ad G 1577)), (4, .int v4), (5, .int v5)] → W p l e room_1 s m #[Value.ref b] below meth c H locs (cells + 1) (slots + 6) (lw_Z below #[Value.ref b] s) (F0 m 517 ls [.int s2, .int s1, .ref (mw_ad G 732)]) := by
        intro v4 v5 s1 s2 M L H locs ls hD hw hl
        unfold fL_law_b517 at hD
        obtain ⟨r385, M383, L384, h1, hD⟩ := g_b3 hD
        refine md_cvI (As := [.int s1, .int s2]) (rest := []) C hw (tX19_signal l G (mw_ad G) fu s1 s2 M L h1) kc_19 (by decide) tf_732 wd_4198 cwX19_signal ⟨Nat.le_of_ble_eq_true rfl, Nat.le_of_ble_eq_true rfl⟩ rfl hl.1 (Nat.le_of_ble_eq_true rfl) dL_law_517 rfl rfl hc1 rfl (fun H locs hw => ?_)
        refine lv_istore (lv' := [(6, .int r385), (0, .ref b), (1, .ref (mw_ad G 0)), (2, .ref (mw_ad G 732)), (3, .ref (mw_ad G 1577)), (4, .int v4), (5, .int v5)]) C.1.1 C.1.2.1 dL_law_520 hl (by decide) rfl (fun ls hl => ?_)
        refine lv_aload_n C.1.1 C.1.2.1 dL_law_522 rfl (lv_at hl 3 rfl) ?_
        obtain ⟨r388, M386, L387, h1, hD⟩ := g_b3 hD
        refine md_cvI (As := []) (rest := []) C hw (tX19_thrown l G (mw_ad G) fu M383 L384 h1) kc_19 (by decide) tf_732 wd_3118 cwX19_thrown ⟨Nat.le_of_ble_eq_true rfl, Nat.le_of_ble_eq_true rfl⟩ rfl hl.1 (Nat.le_of_ble_eq_true rfl) dL_law_523 rfl rfl hc1 rfl (fun H locs hw => ?_)
        refine lv_iload C.1.1 C.1.2.1 dL_law_526 (lv_at hl 6 rfl) ?_
        refine lv_icmp_eq (tgt := 533) C.1.1 C.1.2.1 dL_law_528 (by decide) (fun c389 => ?_) (fun c389 => ?_)
        · replace hD := g_pos c389 hD
          refine lv_iload C.1.1 C.1.2.1 dL_law_533 (lv_at hl 6 rfl) ?_
          refine lv_if_ne (tgt := 550) C.1.1 C.1.2.1 dL_law_535 (by decide) (fun c390 => ?_) (fun c390 => ?_)
          · replace hD := g_neg c390 hD
            exact hb550 v4 M386 L387 _ _ ls hD hw (lv_sub hl [1, 2, 3, 4, 5] rfl)
          · replace hD := g_pos c390 hD
            refine lv_aload_n C.1.1 C.1.2.1 dL_law_538 rfl (lv_at hl 4 rfl) ?_
            refine lv_iconst (v := 0) C.1.1 C.1.2.1 dL_law_539 (by decide) ?_
            refine mr_lald C hw (by decide) tf_1577 (show vp_in 0 1 from by unfold vp_in; decide) dL_law_540 ?_
            refine lv_iload C.1.1 C.1.2.1 dL_law_541 (lv_at hl 0 rfl) ?_
            refine lv_i2l C.1.1 C.1.2.1 dL_law_543 rfl ?_
            refine W.lcmp C.1.1 C.1.2.1 dL_law_544 ?_
            refine lv_if_eq (tgt := 550) C.1.1 C.1.2.1 dL_law_545 (by decide) (fun c392 => ?_) (fun c392 => ?_)
            · replace hD := g_pos c392 hD
              exact hb550 v4 M386 L387 _ _ ls hD hw (lv_sub hl [1, 2, 3, 4, 5] rfl)
            · replace hD := g_neg c392 hD
              refine lv_iconst (v := 0) C.1.1 C.1.2.1 dL_law_548 (by decide) ?_
              exact hret _ _ _ _ _ _ _ _ _ (by omega) (by omega) dL_law_549 hw hD
        · replace hD := g_neg c389 hD
          refine lv_iconst (v := 0) C.1.1 C.1.2.1 dL_law_531 (by decide) ?_
          exact hret _ _ _ _ _ _ _ _ _ (by omega) (by omega) dL_law_532 hw hD
      have hb490 : ∀ (v4 : Int32) (s1 : Int32) (s2 : Int32) (M : mwM) (L : mwL) (H : Heap) (locs : List Loc) (ls : Array Slot), fL_law_b490 fu n xs (fL_law_h23 fu n xs f23) v4 s1 s2 M L = some (1, M0, L0) → mw_W G (mw_ad G) NF TF FF M L H locs → lv_has ls 8 [(0, .ref b), (1, .ref (mw_ad G 0)), (2, .ref (mw_ad G 732)), (3, .ref (mw_ad G 1577)), (4, .int v4)] → W p l e room_1 s m #[Value.ref b] below meth c H locs cells slots (lw_Z below #[Value.ref b] s) (F0 m 490 ls [.int s2, .int s1, .ref (mw_ad G 0)]) := by
        intro v4 s1 s2 M L H locs ls hD hw hl
        unfold fL_law_b490 at hD
        refine lv_aload_n C.1.1 C.1.2.1 dL_law_490 rfl (lv_at hl 3 rfl) ?_
        obtain ⟨r379, M377, L378, h1, hD⟩ := g_b3 hD
        refine mx_csI (As := [.ref (mw_ad G 0), .int s1, .int s2, .ref (mw_ad G 1577)]) (rest := []) C KX hw (tL_signal l G (mw_ad G) fu s1 s2 M L hst h1) wd_1274 cwL_signal ⟨Nat.le_of_ble_eq_true rfl, Nat.le_of_ble_eq_true rfl⟩ rfl hl.1 (Nat.le_of_ble_eq_true rfl) dL_law_491 rfl rfl hc1 rfl (fun H locs hw => ?_)
        refine lv_istore (lv' := [(5, .int r379), (0, .ref b), (1, .ref (mw_ad G 0)), (2, .ref (mw_ad G 732)), (3, .ref (mw_ad G 1577)), (4, .int v4)]) C.1.1 C.1.2.1 dL_law_494 hl (by decide) rfl (fun ls hl => ?_)
        refine lv_aload_n C.1.1 C.1.2.1 dL_law_496 rfl (lv_at hl 3 rfl) ?_
        refine lv_aload_n C.1.1 C.1.2.1 dL_law_497 rfl (lv_at hl 1 rfl) ?_
        refine lv_iload C.1.1 C.1.2.1 dL_law_498 (lv_at hl 5 rfl) ?_
        refine lv_iconst (v := 1) C.1.1 C.1.2.1 dL_law_500 (by decide) ?_
        refine lv_iadd C.1.1 C.1.2.1 dL_law_501 ?_
        obtain ⟨q380, hD⟩ := g_ck hD
        refine va_sld C.1.1 C.1.2.1 hX hbl hbA hw.2.2 q380 dL_law_502 ?_
        refine lv_aload_n C.1.1 C.1.2.1 dL_law_503 rfl (lv_at hl 1 rfl) ?_
        refine lv_iload C.1.1 C.1.2.1 dL_law_504 (lv_at hl 5 rfl) ?_
        refine lv_iconst (v := 2) C.1.1 C.1.2.1 dL_law_506 (by decide) ?_
        refine lv_iadd C.1.1 C.1.2.1 dL_law_507 ?_
        obtain ⟨q381, hD⟩ := g_ck hD
        refine va_sld C.1.1 C.1.2.1 hX hbl hbA hw.2.2 q381 dL_law_508 ?_
        refine lv_if_eq (tgt := 516) C.1.1 C.1.2.1 dL_law_509 (by decide) (fun c382 => ?_) (fun c382 => ?_)
        · replace hD := g_pos c382 hD
          refine lv_iconst (v := 0) C.1.1 C.1.2.1 dL_law_516 (by decide) ?_
          exact hb517 v4 r379 (xs (v4 + 1).toNatClampNeg) 0 M377 L378 _ _ ls hD hw (lv_sub hl [1, 2, 3, 4, 5, 0] rfl)
        · replace hD := g_neg c382 hD
          refine lv_iconst (v := 1) C.1.1 C.1.2.1 dL_law_512 (by decide) ?_
          refine lv_goto (tgt := 517) C.1.1 C.1.2.1 dL_law_513 (by decide) ?_
          exact hb517 v4 r379 (xs (v4 + 1).toNatClampNeg) 1 M377 L378 _ _ ls hD hw (lv_sub hl [1, 2, 3, 4, 5, 0] rfl)
      have hb606 : ∀ (v4 : Int32) (M : mwM) (L : mwL) (H : Heap) (locs : List Loc) (ls : Array Slot), fL_law_b606 fu n xs (fL_law_h23 fu n xs f23) v4 M L = some (1, M0, L0) → mw_W G (mw_ad G) NF TF FF M L H locs → lv_has ls 8 [(0, .ref b), (1, .ref (mw_ad G 0)), (2, .ref (mw_ad G 732)), (3, .ref (mw_ad G 1577)), (4, .int v4)] → W p l e room_1 s m #[Value.ref b] below meth c H locs (cells + 1) (slots + 6) (lw_Z below #[Value.ref b] s) (F0 m 606 ls []) := by
        intro v4 M L H locs ls hD hw hl
        unfold fL_law_b606 at hD
        refine lv_goto (tgt := 1646) C.1.1 C.1.2.1 dL_law_606 (by decide) ?_
        exact hb1646 v4 M L _ _ ls hD hw (lv_sub hl [0, 1, 2, 3, 4] rfl)
      have hb675 : ∀ (v4 : Int32) (M : mwM) (L : mwL) (H : Heap) (locs : List Loc) (ls : Array Slot), fL_law_b675 fu n xs (fL_law_h23 fu n xs f23) v4 M L = some (1, M0, L0) → mw_W G (mw_ad G) NF TF FF M L H locs → lv_has ls 8 [(0, .ref b), (1, .ref (mw_ad G 0)), (2, .ref (mw_ad G 732)), (3, .ref (mw_ad G 1577)), (4, .int v4)] → W p l e room_1 s m #[Value.ref b] below meth c H locs (cells + 1) (slots + 6) (lw_Z below #[Value.ref b] s) (F0 m 675 ls []) := by
        intro v4 M L H locs ls hD hw hl
        unfold fL_law_b675 at hD
        refine lv_goto (tgt := 1646) C.1.1 C.1.2.1 dL_law_675 (by decide) ?_
        exact hb1646 v4 M L _ _ ls hD hw (lv_sub hl [0, 1, 2, 3, 4] rfl)
      have hb743 : ∀ (v4 : Int32) (M : mwM) (L : mwL) (H : Heap) (locs : List Loc) (ls : Array Slot), fL_law_b743 fu n xs (fL_law_h23 fu n xs f23) v4 M L = some (1, M0, L0) → mw_W G (mw_ad G) NF TF FF M L H locs → lv_has ls 8 [(0, .ref b), (1, .ref (mw_ad G 0)), (2, .ref (mw_ad G 732)), (3, .ref (mw_ad G 1577)), (4, .int v4)] → W p l e room_1 s m #[Value.ref b] below meth c H locs (cells + 1) (slots + 6) (lw_Z below #[Value.ref b] s) (F0 m 743 ls []) := by
        intro v4 M L H locs ls hD hw hl
        unfold fL_law_b743 at hD
        refine lv_goto (tgt := 1646) C.1.1 C.1.2.1 dL_law_743 (by decide) ?_
        exact hb1646 v4 M L _ _ ls hD hw (lv_sub hl [0, 1, 2, 3, 4] rfl)
      have hb811 : ∀ (v4 : Int32) (M : mwM) (L : mwL) (H : Heap) (locs : List Loc) (ls : Array Slot), fL_law_b811 fu n xs (fL_law_h23 fu n xs f23) v4 M L = some (1, M0, L0) → mw_W G (mw_ad G) NF TF FF M L H locs → lv_has ls 8 [(0, .ref b), (1, .ref (mw_ad G 0)), (2, .ref (mw_ad G 732)), (3, .ref (mw_ad G 1577)), (4, .int v4)] → W p l e room_1 s m #[Value.ref b] below meth c H locs (cells + 1) (slots + 6) (lw_Z below #[Value.ref b] s) (F0 m 811 ls []) := by
        intro v4 M L H locs ls hD hw hl
        unfold fL_law_b811 at hD
        refine lv_goto (tgt := 1646) C.1.1 C.1.2.1 dL_law_811 (by decide) ?_
        exact hb1646 v4 M L _ _ ls hD hw (lv_sub hl [0, 1, 2, 3, 4] rfl)
      have hb943 : ∀ (v4 : Int32) (M : mwM) (L : mwL) (H : Heap) (locs : List Loc) (ls : Array Slot), fL_law_b943 fu n xs (fL_law_h23 fu n xs f23) v4 M L = some (1, M0, L0) → mw_W G (mw_ad G) NF TF FF M L H locs → lv_has ls 8 [(0, .ref b), (1, .ref (mw_ad G 0)), (2, .ref (mw_ad G 732)), (3, .ref (mw_ad G 1577)), (4, .int v4)] → W p l e room_1 s m #[Value.ref b] below meth c H locs (cells + 1) (slots + 6) (lw_Z below #[Value.ref b] s) (F0 m 943 ls []) := by
        intro v4 M L H locs ls hD hw hl
        unfold fL_law_b943 at hD
        refine lv_goto (tgt := 1646) C.1.1 C.1.2.1 dL_law_943 (by decide) ?_
        exact hb1646 v4 M L _ _ ls hD hw (lv_sub hl [0, 1, 2, 3, 4] rfl)
      have hb910 : ∀ (v4 : Int32) (v5 : Int32) (s1 : Int32) (s2 : Int32) (M : mwM) (L : mwL) (H : Heap) (locs : List Loc) (ls : Array Slot), fL_law_b910 fu n xs (fL_law_h23 fu n xs f23) v4 v5 s1 s2 M L = some (1, M0, L0) → mw_W G (mw_ad G) NF TF FF M L H locs → lv_has ls 8 [(0, .ref b), (1, .ref (mw_ad G 0)), (2, .ref (mw_ad G 732)), (3, .ref (mw_ad G 1577)), (4, .int v4), (5, .int v5)] → W p l e room_1 s m #[Value.ref b] below meth c H locs (cells + 1) (slots + 6) (lw_Z below #[Value.ref b] s) (F0 m 910 ls [.int s2, .int s1, .ref (mw_ad G 732)]) := by
        intro v4 v5 s1 s2 M L H locs ls hD hw hl
        unfold fL_law_b910 at hD
        obtain ⟨r401, M399, L400, h1, hD⟩ := g_b3 hD
        refine md_cvI (As := [.int s1, .int s2]) (rest := []) C hw (tX19_silence l G (mw_ad G) fu s1 s2 M L h1) kc_19 (by decide) tf_732 wd_4242 cwX19_silence ⟨Nat.le_of_ble_eq_true rfl, Nat.le_of_ble_eq_true rfl⟩ rfl hl.1 (Nat.le_of_ble_eq_true rfl) dL_law_910 rfl rfl hc1 rfl (fun H locs hw => ?_)
        refine lv_istore (lv' := [(6, .int r401), (0, .ref b), (1, .ref (mw_ad G 0)), (2, .ref (mw_ad G 732)), (3, .ref (mw_ad G 1577)), (4, .int v4), (5, .int v5)]) C.1.1 C.1.2.1 dL_law_913 hl (by decide) rfl (fun ls hl => ?_)
        refine lv_aload_n C.1.1 C.1.2.1 dL_law_915 rfl (lv_at hl 3 rfl) ?_
        obtain ⟨r404, M402, L403, h1, hD⟩ := g_b3 hD
        refine md_cvI (As := []) (rest := []) C hw (tX19_thrown l G (mw_ad G) fu M399 L400 h1) kc_19 (by decide) tf_732 wd_3118 cwX19_thrown ⟨Nat.le_of_ble_eq_true rfl, Nat.le_of_ble_eq_true rfl⟩ rfl hl.1 (Nat.le_of_ble_eq_true rfl) dL_law_916 rfl rfl hc1 rfl (fun H locs hw => ?_)
        refine lv_iload C.1.1 C.1.2.1 dL_law_919 (lv_at hl 6 rfl) ?_
        refine lv_icmp_eq (tgt := 926) C.1.1 C.1.2.1 dL_law_921 (by decide) (fun c405 => ?_) (fun c405 => ?_)
        · replace hD := g_pos c405 hD
          refine lv_iload C.1.1 C.1.2.1 dL_law_926 (lv_at hl 6 rfl) ?_
          refine lv_if_ne (tgt := 943) C.1.1 C.1.2.1 dL_law_928 (by decide) (fun c406 => ?_) (fun c406 => ?_)
          · replace hD := g_neg c406 hD
            exact hb943 v4 M402 L403 _ _ ls hD hw (lv_sub hl [1, 2, 3, 4, 5] rfl)
          · replace hD := g_pos c406 hD
            refine lv_aload_n C.1.1 C.1.2.1 dL_law_931 rfl (lv_at hl 4 rfl) ?_
            refine lv_iconst (v := 0) C.1.1 C.1.2.1 dL_law_932 (by decide) ?_
            refine mr_lald C hw (by decide) tf_1577 (show vp_in 0 1 from by unfold vp_in; decide) dL_law_933 ?_
            refine lv_iload C.1.1 C.1.2.1 dL_law_934 (lv_at hl 0 rfl) ?_
            refine lv_i2l C.1.1 C.1.2.1 dL_law_936 rfl ?_
            refine W.lcmp C.1.1 C.1.2.1 dL_law_937 ?_
            refine lv_if_eq (tgt := 943) C.1.1 C.1.2.1 dL_law_938 (by decide) (fun c408 => ?_) (fun c408 => ?_)
            · replace hD := g_pos c408 hD
              exact hb943 v4 M402 L403 _ _ ls hD hw (lv_sub hl [1, 2, 3, 4, 5] rfl)
            · replace hD := g_neg c408 hD
              refine lv_iconst (v := 0) C.1.1 C.1.2.1 dL_law_941 (by decide) ?_
              exact hret _ _ _ _ _ _ _ _ _ (by omega) (by omega) dL_law_942 hw hD
        · replace hD := g_neg c405 hD
          refine lv_iconst (v := 0) C.1.1 C.1.2.1 dL_law_924 (by decide) ?_
          exact hret _ _ _ _ _ _ _ _ _ (by omega) (by omega) dL_law_925 hw hD
      have hb883 : ∀ (v4 : Int32) (s1 : Int32) (s2 : Int32) (M : mwM) (L : mwL) (H : Heap) (locs : List Loc) (ls : Array Slot), fL_law_b883 fu n xs (fL_law_h23 fu n xs f23) v4 s1 s2 M L = some (1, M0, L0) → mw_W G (mw_ad G) NF TF FF M L H locs → lv_has ls 8 [(0, .ref b), (1, .ref (mw_ad G 0)), (2, .ref (mw_ad G 732)), (3, .ref (mw_ad G 1577)), (4, .int v4)] → W p l e room_1 s m #[Value.ref b] below meth c H locs cells slots (lw_Z below #[Value.ref b] s) (F0 m 883 ls [.int s2, .int s1, .ref (mw_ad G 0)]) := by
        intro v4 s1 s2 M L H locs ls hD hw hl
        unfold fL_law_b883 at hD
        refine lv_aload_n C.1.1 C.1.2.1 dL_law_883 rfl (lv_at hl 3 rfl) ?_
        obtain ⟨r395, M393, L394, h1, hD⟩ := g_b3 hD
        refine mx_csI (As := [.ref (mw_ad G 0), .int s1, .int s2, .ref (mw_ad G 1577)]) (rest := []) C KX hw (tL_silence l G (mw_ad G) fu s1 s2 M L hst h1) wd_1823 cwL_silence ⟨Nat.le_of_ble_eq_true rfl, Nat.le_of_ble_eq_true rfl⟩ rfl hl.1 (Nat.le_of_ble_eq_true rfl) dL_law_884 rfl rfl hc1 rfl (fun H locs hw => ?_)
        refine lv_istore (lv' := [(5, .int r395), (0, .ref b), (1, .ref (mw_ad G 0)), (2, .ref (mw_ad G 732)), (3, .ref (mw_ad G 1577)), (4, .int v4)]) C.1.1 C.1.2.1 dL_law_887 hl (by decide) rfl (fun ls hl => ?_)
        refine lv_aload_n C.1.1 C.1.2.1 dL_law_889 rfl (lv_at hl 3 rfl) ?_
        refine lv_aload_n C.1.1 C.1.2.1 dL_law_890 rfl (lv_at hl 1 rfl) ?_
        refine lv_iload C.1.1 C.1.2.1 dL_law_891 (lv_at hl 5 rfl) ?_
        refine lv_iconst (v := 1) C.1.1 C.1.2.1 dL_law_893 (by decide) ?_
        refine lv_iadd C.1.1 C.1.2.1 dL_law_894 ?_
        obtain ⟨q396, hD⟩ := g_ck hD
        refine va_sld C.1.1 C.1.2.1 hX hbl hbA hw.2.2 q396 dL_law_895 ?_
        refine lv_aload_n C.1.1 C.1.2.1 dL_law_896 rfl (lv_at hl 1 rfl) ?_
        refine lv_iload C.1.1 C.1.2.1 dL_law_897 (lv_at hl 5 rfl) ?_
        refine lv_iconst (v := 2) C.1.1 C.1.2.1 dL_law_899 (by decide) ?_
        refine lv_iadd C.1.1 C.1.2.1 dL_law_900 ?_
        obtain ⟨q397, hD⟩ := g_ck hD
        refine va_sld C.1.1 C.1.2.1 hX hbl hbA hw.2.2 q397 dL_law_901 ?_
        refine lv_if_eq (tgt := 909) C.1.1 C.1.2.1 dL_law_902 (by decide) (fun c398 => ?_) (fun c398 => ?_)
        · replace hD := g_pos c398 hD
          refine lv_iconst (v := 0) C.1.1 C.1.2.1 dL_law_909 (by decide) ?_
          exact hb910 v4 r395 (xs (v4 + 1).toNatClampNeg) 0 M393 L394 _ _ ls hD hw (lv_sub hl [1, 2, 3, 4, 5, 0] rfl)
        · replace hD := g_neg c398 hD
          refine lv_iconst (v := 1) C.1.1 C.1.2.1 dL_law_905 (by decide) ?_
          refine lv_goto (tgt := 910) C.1.1 C.1.2.1 dL_law_906 (by decide) ?_
          exact hb910 v4 r395 (xs (v4 + 1).toNatClampNeg) 1 M393 L394 _ _ ls hD hw (lv_sub hl [1, 2, 3, 4, 5, 0] rfl)
      have hb1011 : ∀ (v4 : Int32) (M : mwM) (L : mwL) (H : Heap) (locs : List Loc) (ls : Array Slot), fL_law_b1011 fu n xs (fL_law_h23 fu n xs f23) v4 M L = some (1, M0, L0) → mw_W G (mw_ad G) NF TF FF M L H locs → lv_has ls 8 [(0, .ref b), (1, .ref (mw_ad G 0)), (2, .ref (mw_ad G 732)), (3, .ref (mw_ad G 1577)), (4, .int v4)] → W p l e room_1 s m #[Value.ref b] below meth c H locs (cells + 1) (slots + 6) (lw_Z below #[Value.ref b] s) (F0 m 1011 ls []) := by
        intro v4 M L H locs ls hD hw hl
        unfold fL_law_b1011 at hD
        refine lv_goto (tgt := 1646) C.1.1 C.1.2.1 dL_law_1011 (by decide) ?_
        exact hb1646 v4 M L _ _ ls hD hw (lv_sub hl [0, 1, 2, 3, 4] rfl)
      have hb1079 : ∀ (v4 : Int32) (M : mwM) (L : mwL) (H : Heap) (locs : List Loc) (ls : Array Slot), fL_law_b1079 fu n xs (fL_law_h23 fu n xs f23) v4 M L = some (1, M0, L0) → mw_W G (mw_ad G) NF TF FF M L H locs → lv_has ls 8 [(0, .ref b), (1, .ref (mw_ad G 0)), (2, .ref (mw_ad G 732)), (3, .ref (mw_ad G 1577)), (4, .int v4)] → W p l e room_1 s m #[Value.ref b] below meth c H locs (cells + 1) (slots + 6) (lw_Z below #[Value.ref b] s) (F0 m 1079 ls []) := by
        intro v4 M L H locs ls hD hw hl
        unfold fL_law_b1079 at hD
        refine lv_goto (tgt := 1646) C.1.1 C.1.2.1 dL_law_1079 (by decide) ?_
        exact hb1646 v4 M L _ _ ls hD hw (lv_sub hl [0, 1, 2, 3, 4] rfl)
      have hb1147 : ∀ (v4 : Int32) (M : mwM) (L : mwL) (H : Heap) (locs : List Loc) (ls : Array Slot), fL_law_b1147 fu n xs (fL_law_h23 fu n xs f23) v4 M L = some (1, M0, L0) → mw_W G (mw_ad G) NF TF FF M L H locs → lv_has ls 8 [(0, .ref b), (1, .ref (mw_ad G 0)), (2, .ref (mw_ad G 732)), (3, .ref (mw_ad G 1577)), (4, .int v4)] → W p l e room_1 s m #[Value.ref b] below meth c H locs (cells + 1) (slots + 6) (lw_Z below #[Value.ref b] s) (F0 m 1147 ls []) := by
        intro v4 M L H locs ls hD hw hl
        unfold fL_law_b1147 at hD
        refine lv_goto (tgt := 1646) C.1.1 C.1.2.1 dL_law_1147 (by decide) ?_
        exact hb1646 v4 M L _ _ ls hD hw (lv_sub hl [0, 1, 2, 3, 4] rfl)
      have hb1214 : ∀ (v4 : Int32) (M : mwM) (L : mwL) (H : Heap) (locs : List Loc) (ls : Array Slot), fL_law_b1214 fu n xs (fL_law_h23 fu n xs f23) v4 M L = some (1, M0, L0) → mw_W G (mw_ad G) NF TF FF M L H locs → lv_has ls 8 [(0, .ref b), (1, .ref (mw_ad G 0)), (2, .ref (mw_ad G 732)), (3, .ref (mw_ad G 1577)), (4, .int v4)] → W p l e room_1 s m #[Value.ref b] below meth c H locs (cells + 1) (slots + 6) (lw_Z below #[Value.ref b] s) (F0 m 1214 ls []) := by
        intro v4 M L H locs ls hD hw hl
        unfold fL_law_b1214 at hD
        refine lv_goto (tgt := 1646) C.1.1 C.1.2.1 dL_law_1214 (by decide) ?_
        exact hb1646 v4 M L _ _ ls hD hw (lv_sub hl [0, 1, 2, 3, 4] rfl)
      have hb1282 : ∀ (v4 : Int32) (M : mwM) (L : mwL) (H : Heap) (locs : List Loc) (ls : Array Slot), fL_law_b1282 fu n xs (fL_law_h23 fu n xs f23) v4 M L = some (1, M0, L0) → mw_W G (mw_ad G) NF TF FF M L H locs → lv_has ls 8 [(0, .ref b), (1, .ref (mw_ad G 0)), (2, .ref (mw_ad G 732)), (3, .ref (mw_ad G 1577)), (4, .int v4)] → W p l e room_1 s m #[Value.ref b] below meth c H locs (cells + 1) (slots + 6) (lw_Z below #[Value.ref b] s) (F0 m 1282 ls []) := by
        intro v4 M L H locs ls hD hw hl
        unfold fL_law_b1282 at hD
        refine lv_goto (tgt := 1646) C.1.1 C.1.2.1 dL_law_1282 (by decide) ?_
        exact hb1646 v4 M L _ _ ls hD hw (lv_sub hl [0, 1, 2, 3, 4] rfl)
      have hb1350 : ∀ (v4 : Int32) (M : mwM) (L : mwL) (H : Heap) (locs : List Loc) (ls : Array Slot), fL_law_b1350 fu n xs (fL_law_h23 fu n xs f23) v4 M L = some (1, M0, L0) → mw_W G (mw_ad G) NF TF FF M L H locs → lv_has ls 8 [(0, .ref b), (1, .ref (mw_ad G 0)), (2, .ref (mw_ad G 732)), (3, .ref (mw_ad G 1577)), (4, .int v4)] → W p l e room_1 s m #[Value.ref b] below meth c H locs (cells + 1) (slots + 6) (lw_Z below #[Value.ref b] s) (F0 m 1350 ls []) := by
        intro v4 M L H locs ls hD hw hl
        unfold fL_law_b1350 at hD
        refine lv_goto (tgt := 1646) C.1.1 C.1.2.1 dL_law_1350 (by decide) ?_
        exact hb1646 v4 M L _ _ ls hD hw (lv_sub hl [0, 1, 2, 3, 4] rfl)
      have hb1422 : ∀ (v4 : Int32) (M : mwM) (L : mwL) (H : Heap) (locs : List Loc) (ls : Array Slot), fL_law_b1422 fu n xs (fL_law_h23 fu n xs f23) v4 M L = some (1, M0, L0) → mw_W G (mw_ad G) NF TF FF M L H locs → lv_has ls 8 [(0, .ref b), (1, .ref (mw_ad G 0)), (2, .ref (mw_ad G 732)), (3, .ref (mw_ad G 1577)), (4, .int v4)] → W p l e room_1 s m #[Value.ref b] below meth c H locs (cells + 1) (slots + 6) (lw_Z below #[Value.ref b] s) (F0 m 1422 ls []) := by
        intro v4 M L H locs ls hD hw hl
        unfold fL_law_b1422 at hD
        refine lv_goto (tgt := 1646) C.1.1 C.1.2.1 dL_law_1422 (by decide) ?_
        exact hb1646 v4 M L _ _ ls hD hw (lv_sub hl [0, 1, 2, 3, 4] rfl)
      have hb1389 : ∀ (v4 : Int32) (v5 : Int32) (s1 : Int32) (M : mwM) (L : mwL) (H : Heap) (locs : List Loc) (ls : Array Slot), fL_law_b1389 fu n xs (fL_law_h23 fu n xs f23) v4 v5 s1 M L = some (1, M0, L0) → mw_W G (mw_ad G) NF TF FF M L H locs → lv_has ls 8 [(0, .ref b), (1, .ref (mw_ad G 0)), (2, .ref (mw_ad G 732)), (3, .ref (mw_ad G 1577)), (4, .int v4), (5, .int v5)] → W p l e room_1 s m #[Value.ref b] below meth c H locs (cells + 1) (slots + 6) (lw_Z below #[Value.ref b] s) (F0 m 1389 ls [.int s1, .ref (mw_ad G 732)]) := by
        intro v4 v5 s1 M L H locs ls hD hw hl
        unfold fL_law_b1389 at hD
        obtain ⟨r416, M414, L415, h1, hD⟩ := g_b3 hD
        refine md_cvI (As := [.int s1]) (rest := []) C hw (tX19_cycle l G (mw_ad G) fu s1 M L h1) kc_19 (by decide) tf_732 wd_4306 cwX19_cycle ⟨Nat.le_of_ble_eq_true rfl, Nat.le_of_ble_eq_true rfl⟩ rfl hl.1 (Nat.le_of_ble_eq_true rfl) dL_law_1389 rfl rfl hc1 rfl (fun H locs hw => ?_)
        refine lv_istore (lv' := [(6, .int r416), (0, .ref b), (1, .ref (mw_ad G 0)), (2, .ref (mw_ad G 732)), (3, .ref (mw_ad G 1577)), (4, .int v4), (5, .int v5)]) C.1.1 C.1.2.1 dL_law_1392 hl (by decide) rfl (fun ls hl => ?_)
        refine lv_aload_n C.1.1 C.1.2.1 dL_law_1394 rfl (lv_at hl 3 rfl) ?_
        obtain ⟨r419, M417, L418, h1, hD⟩ := g_b3 hD
        refine md_cvI (As := []) (rest := []) C hw (tX19_thrown l G (mw_ad G) fu M414 L415 h1) kc_19 (by decide) tf_732 wd_3118 cwX19_thrown ⟨Nat.le_of_ble_eq_true rfl, Nat.le_of_ble_eq_true rfl⟩ rfl hl.1 (Nat.le_of_ble_eq_true rfl) dL_law_1395 rfl rfl hc1 rfl (fun H locs hw => ?_)
        refine lv_iload C.1.1 C.1.2.1 dL_law_1398 (lv_at hl 6 rfl) ?_
        refine lv_icmp_eq (tgt := 1405) C.1.1 C.1.2.1 dL_law_1400 (by decide) (fun c420 => ?_) (fun c420 => ?_)
        · replace hD := g_pos c420 hD
          refine lv_iload C.1.1 C.1.2.1 dL_law_1405 (lv_at hl 6 rfl) ?_
          refine lv_if_ne (tgt := 1422) C.1.1 C.1.2.1 dL_law_1407 (by decide) (fun c421 => ?_) (fun c421 => ?_)
          · replace hD := g_neg c421 hD
            exact hb1422 v4 M417 L418 _ _ ls hD hw (lv_sub hl [1, 2, 3, 4, 5] rfl)
          · replace hD := g_pos c421 hD
            refine lv_aload_n C.1.1 C.1.2.1 dL_law_1410 rfl (lv_at hl 4 rfl) ?_
            refine lv_iconst (v := 0) C.1.1 C.1.2.1 dL_law_1411 (by decide) ?_
            refine mr_lald C hw (by decide) tf_1577 (show vp_in 0 1 from by unfold vp_in; decide) dL_law_1412 ?_
            refine lv_iload C.1.1 C.1.2.1 dL_law_1413 (lv_at hl 0 rfl) ?_
            refine lv_i2l C.1.1 C.1.2.1 dL_law_1415 rfl ?_
            refine W.lcmp C.1.1 C.1.2.1 dL_law_1416 ?_
            refine lv_if_eq (tgt := 1422) C.1.1 C.1.2.1 dL_law_1417 (by decide) (fun c423 => ?_) (fun c423 => ?_)
            · replace hD := g_pos c423 hD
              exact hb1422 v4 M417 L418 _ _ ls hD hw (lv_sub hl [1, 2, 3, 4, 5] rfl)
            · replace hD := g_neg c423 hD
              refine lv_iconst (v := 0) C.1.1 C.1.2.1 dL_law_1420 (by decide) ?_
              exact hret _ _ _ _ _ _ _ _ _ (by omega) (by omega) dL_law_1421 hw hD
        · replace hD := g_neg c420 hD
          refine lv_iconst (v := 0) C.1.1 C.1.2.1 dL_law_1403 (by decide) ?_
          exact hret _ _ _ _ _ _ _ _ _ (by omega) (by omega) dL_law_1404 hw hD
      have hb1368 : ∀ (v4 : Int32) (s1 : Int32) (M : mwM) (L : mwL) (H : Heap) (locs : List Loc) (ls : Array Slot), fL_law_b1368 fu n xs (fL_law_h23 fu n xs f23) v4 s1 M L = some (1, M0, L0) → mw_W G (mw_ad G) NF TF FF M L H locs → lv_has ls 8 [(0, .ref b), (1, .ref (mw_ad G 0)), (2, .ref (mw_ad G 732)), (3, .ref (mw_ad G 1577)), (4, .int v4)] → W p l e room_1 s m #[Value.ref b] below meth c H locs cells slots (lw_Z below #[Value.ref b] s) (F0 m 1368 ls [.int s1, .ref (mw_ad G 0)]) := by
        intro v4 s1 M L H locs ls hD hw hl
        unfold fL_law_b1368 at hD
        refine lv_aload_n C.1.1 C.1.2.1 dL_law_1368 rfl (lv_at hl 3 rfl) ?_
        obtain ⟨r411, M409, L410, h1, hD⟩ := g_b3 hD
        refine mx_csI (As := [.ref (mw_ad G 0), .int s1, .ref (mw_ad G 1577)]) (rest := []) C KX hw (tL_cycle l G (mw_ad G) fu s1 M L hst h1) wd_1902 cwL_cycle ⟨Nat.le_of_ble_eq_true rfl, Nat.le_of_ble_eq_true rfl⟩ rfl hl.1 (Nat.le_of_ble_eq_true rfl) dL_law_1369 rfl rfl hc1 rfl (fun H locs hw => ?_)
        refine lv_istore (lv' := [(5, .int r411), (0, .ref b), (1, .ref (mw_ad G 0)), (2, .ref (mw_ad G 732)), (3, .ref (mw_ad G 1577)), (4, .int v4)]) C.1.1 C.1.2.1 dL_law_1372 hl (by decide) rfl (fun ls hl => ?_)
        refine lv_aload_n C.1.1 C.1.2.1 dL_law_1374 rfl (lv_at hl 3 rfl) ?_
        refine lv_aload_n C.1.1 C.1.2.1 dL_law_1375 rfl (lv_at hl 1 rfl) ?_
        refine lv_iload C.1.1 C.1.2.1 dL_law_1376 (lv_at hl 5 rfl) ?_
        refine lv_iconst (v := 1) C.1.1 C.1.2.1 dL_law_1378 (by decide) ?_
        refine lv_iadd C.1.1 C.1.2.1 dL_law_1379 ?_
        obtain ⟨q412, hD⟩ := g_ck hD
        refine va_sld C.1.1 C.1.2.1 hX hbl hbA hw.2.2 q412 dL_law_1380 ?_
        refine lv_if_eq (tgt := 1388) C.1.1 C.1.2.1 dL_law_1381 (by decide) (fun c413 => ?_) (fun c413 => ?_)
        · replace hD := g_pos c413 hD
          refine lv_iconst (v := 0) C.1.1 C.1.2.1 dL_law_1388 (by decide) ?_
          exact hb1389 v4 r411 0 M409 L410 _ _ ls hD hw (lv_sub hl [1, 2, 3, 4, 5, 0] rfl)
        · replace hD := g_neg c413 hD
          refine lv_iconst (v := 1) C.1.1 C.1.2.1 dL_law_1384 (by decide) ?_
          refine lv_goto (tgt := 1389) C.1.1 C.1.2.1 dL_law_1385 (by decide) ?_
          exact hb1389 v4 r411 1 M409 L410 _ _ ls hD hw (lv_sub hl [1, 2, 3, 4, 5, 0] rfl)
      have hb1478 : ∀ (v4 : Int32) (M : mwM) (L : mwL) (H : Heap) (locs : List Loc) (ls : Array Slot), fL_law_b1478 fu n xs (fL_law_h23 fu n xs f23) v4 M L = some (1, M0, L0) → mw_W G (mw_ad G) NF TF FF M L H locs → lv_has ls 8 [(0, .ref b), (1, .ref (mw_ad G 0)), (2, .ref (mw_ad G 732)), (3, .ref (mw_ad G 1577)), (4, .int v4)] → W p l e room_1 s m #[Value.ref b] below meth c H locs (cells + 1) (slots + 6) (lw_Z below #[Value.ref b] s) (F0 m 1478 ls []) := by
        intro v4 M L H locs ls hD hw hl
        unfold fL_law_b1478 at hD
        refine lv_goto (tgt := 1646) C.1.1 C.1.2.1 dL_law_1478 (by decide) ?_
        exact hb1646 v4 M L _ _ ls hD hw (lv_sub hl [0, 1, 2, 3, 4] rfl)
      have hb1561 : ∀ (v4 : Int32) (M : mwM) (L : mwL) (H : Heap) (locs : List Loc) (ls : Array Slot), fL_law_b1561 fu n xs (fL_law_h23 fu n xs f23) v4 M L = some (1, M0, L0) → mw_W G (mw_ad G) NF TF FF M L H locs → lv_has ls 8 [(0, .ref b), (1, .ref (mw_ad G 0)), (2, .ref (mw_ad G 732)), (3, .ref (mw_ad G 1577)), (4, .int v4)] → W p l e room_1 s m #[Value.ref b] below meth c H locs (cells + 1) (slots + 6) (lw_Z below #[Value.ref b] s) (F0 m 1561 ls []) := by
        intro v4 M L H locs ls hD hw hl
        unfold fL_law_b1561 at hD
        refine lv_goto (tgt := 1646) C.1.1 C.1.2.1 dL_law_1561 (by decide) ?_
        exact hb1646 v4 M L _ _ ls hD hw (lv_sub hl [0, 1, 2, 3, 4] rfl)
      have hb1630 : ∀ (v4 : Int32) (M : mwM) (L : mwL) (H : Heap) (locs : List Loc) (ls : Array Slot), fL_law_b1630 fu n xs (fL_law_h23 fu n xs f23) v4 M L = some (1, M0, L0) → mw_W G (mw_ad G) NF TF FF M L H locs → lv_has ls 8 [(0, .ref b), (1, .ref (mw_ad G 0)), (2, .ref (mw_ad G 732)), (3, .ref (mw_ad G 1577)), (4, .int v4)] → W p l e room_1 s m #[Value.ref b] below meth c H locs (cells + 1) (slots + 6) (lw_Z below #[Value.ref b] s) (F0 m 1630 ls []) := by
        intro v4 M L H locs ls hD hw hl
        unfold fL_law_b1630 at hD
        refine lv_goto (tgt := 1646) C.1.1 C.1.2.1 dL_law_1630 (by decide) ?_
        exact hb1646 v4 M L _ _ ls hD hw (lv_sub hl [0, 1, 2, 3, 4] rfl)
      unfold fL_law_i23 at hD
      refine lv_iload C.1.1 C.1.2.1 dL_law_23 (lv_at hl 4 rfl) ?_
      refine lv_aload_n C.1.1 C.1.2.1 dL_law_25 rfl (lv_at hl 0 rfl) ?_
      refine va_slen C.1.1 C.1.2.1 hX hbl hbA hw.2.2 dL_law_26 ?_
      refine lv_iconst (v := 5) C.1.1 C.1.2.1 dL_law_27 (by decide) ?_
      refine lv_isub C.1.1 C.1.2.1 dL_law_28 ?_
      refine lv_icmp_gt (tgt := 1652) C.1.1 C.1.2.1 dL_law_29 (by decide) (fun c1 => ?_) (fun c1 => ?_)
      · replace hD := g_pos c1 hD
        refine lv_iconst (v := 1) C.1.1 C.1.2.1 dL_law_1652 (by decide) ?_
        exact hret _ _ _ _ _ _ _ _ _ (by omega) (by omega) dL_law_1653 hw hD
      · replace hD := g_neg c1 hD
        refine lv_aload_n C.1.1 C.1.2.1 dL_law_32 rfl (lv_at hl 0 rfl) ?_
        refine lv_iload C.1.1 C.1.2.1 dL_law_33 (lv_at hl 4 rfl) ?_
        obtain ⟨q2, hD⟩ := g_ck hD
        refine va_sld C.1.1 C.1.2.1 hX hbl hbA hw.2.2 q2 dL_law_35 ?_
        refine lv_bipush (v := 31) C.1.1 C.1.2.1 dL_law_36 (by decide) ?_
        refine lv_iand C.1.1 C.1.2.1 dL_law_38 ?_
        obtain ⟨x3, ex3, hD⟩ := g_let hD
        refine W.eq (g2 := F0 m 39 ls (.int x3 :: [])) (by rw [ex3]) ?_
        by_cases c4 : x3 = 0
        · replace hD := g_pos c4 hD
          refine lv_tableIn (tgt := 160) C.1.1 C.1.2.1 dL_law_39 (by rw [c4]; decide) (by rw [c4]; decide) (off := 121) (by rw [c4]; decide) (by decide) ?_
          refine lv_aload_n C.1.1 C.1.2.1 dL_law_160 rfl (lv_at hl 1 rfl) ?_
          refine lv_aload_n C.1.1 C.1.2.1 dL_law_161 rfl (lv_at hl 0 rfl) ?_
          refine lv_iload C.1.1 C.1.2.1 dL_law_162 (lv_at hl 4 rfl) ?_
          refine lv_iconst (v := 1) C.1.1 C.1.2.1 dL_law_164 (by decide) ?_
          refine lv_iadd C.1.1 C.1.2.1 dL_law_165 ?_
          obtain ⟨q5, hD⟩ := g_ck hD
          refine va_sld C.1.1 C.1.2.1 hX hbl hbA hw.2.2 q5 dL_law_166 ?_
          refine lv_aload_n C.1.1 C.1.2.1 dL_law_167 rfl (lv_at hl 0 rfl) ?_
          refine lv_iload C.1.1 C.1.2.1 dL_law_168 (lv_at hl 4 rfl) ?_
          refine lv_iconst (v := 2) C.1.1 C.1.2.1 dL_law_170 (by decide) ?_
          refine lv_iadd C.1.1 C.1.2.1 dL_law_171 ?_
          obtain ⟨q6, hD⟩ := g_ck hD
          refine va_sld C.1.1 C.1.2.1 hX hbl hbA hw.2.2 q6 dL_law_172 ?_
          refine lv_aload_n C.1.1 C.1.2.1 dL_law_173 rfl (lv_at hl 0 rfl) ?_
          refine lv_iload C.1.1 C.1.2.1 dL_law_174 (lv_at hl 4 rfl) ?_
          refine lv_iconst (v := 3) C.1.1 C.1.2.1 dL_law_176 (by decide) ?_
          refine lv_iadd C.1.1 C.1.2.1 dL_law_177 ?_
          obtain ⟨q7, hD⟩ := g_ck hD
          refine va_sld C.1.1 C.1.2.1 hX hbl hbA hw.2.2 q7 dL_law_178 ?_
          refine lv_aload_n C.1.1 C.1.2.1 dL_law_179 rfl (lv_at hl 0 rfl) ?_
          refine lv_iload C.1.1 C.1.2.1 dL_law_180 (lv_at hl 4 rfl) ?_
          refine lv_iconst (v := 4) C.1.1 C.1.2.1 dL_law_182 (by decide) ?_
          refine lv_iadd C.1.1 C.1.2.1 dL_law_183 ?_
          obtain ⟨q8, hD⟩ := g_ck hD
          refine va_sld C.1.1 C.1.2.1 hX hbl hbA hw.2.2 q8 dL_law_184 ?_
          obtain ⟨r11, M9, L10, h1, hD⟩ := g_b3 hD
          refine mx_csI (As := [.ref (mw_ad G 0), .int (xs (v4 + 1).toNatClampNeg), .int (xs (v4 + 2).toNatClampNeg), .int (xs (v4 + 3).toNatClampNeg), .int (xs (v4 + 4).toNatClampNeg)]) (rest := []) C KX hw (tL_text l G (mw_ad G) fu (xs (v4 + 1).toNatClampNeg) (xs (v4 + 2).toNatClampNeg) (xs (v4 + 3).toNatClampNeg) (xs (v4 + 4).toNatClampNeg) M L hst h1) wd_683 cwL_text ⟨Nat.le_of_ble_eq_true rfl, Nat.le_of_ble_eq_true rfl⟩ rfl hl.1 (Nat.le_of_ble_eq_true rfl) dL_law_185 rfl rfl hc1 rfl (fun H locs hw => ?_)
          refine lv_istore (lv' := [(5, .int r11), (0, .ref b), (1, .ref (mw_ad G 0)), (2, .ref (mw_ad G 732)), (3, .ref (mw_ad G 1577)), (4, .int v4)]) C.1.1 C.1.2.1 dL_law_188 hl (by decide) rfl (fun ls hl => ?_)
          refine lv_aload_n C.1.1 C.1.2.1 dL_law_190 rfl (lv_at hl 3 rfl) ?_
          refine lv_aload_n C.1.1 C.1.2.1 dL_law_191 rfl (lv_at hl 1 rfl) ?_
          refine lv_iload C.1.1 C.1.2.1 dL_law_192 (lv_at hl 5 rfl) ?_
          refine lv_iconst (v := 1) C.1.1 C.1.2.1 dL_law_194 (by decide) ?_
          refine lv_iadd C.1.1 C.1.2.1 dL_law_195 ?_
          obtain ⟨q12, hD⟩ := g_ck hD
          refine va_sld C.1.1 C.1.2.1 hX hbl hbA hw.2.2 q12 dL_law_196 ?_
          refine lv_aload_n C.1.1 C.1.2.1 dL_law_197 rfl (lv_at hl 1 rfl) ?_
          refine lv_iload C.1.1 C.1.2.1 dL_law_198 (lv_at hl 5 rfl) ?_
          refine lv_iconst (v := 2) C.1.1 C.1.2.1 dL_law_200 (by decide) ?_
          refine lv_iadd C.1.1 C.1.2.1 dL_law_201 ?_
          obtain ⟨q13, hD⟩ := g_ck hD
          refine va_sld C.1.1 C.1.2.1 hX hbl hbA hw.2.2 q13 dL_law_202 ?_
          refine lv_aload_n C.1.1 C.1.2.1 dL_law_203 rfl (lv_at hl 1 rfl) ?_
          refine lv_iload C.1.1 C.1.2.1 dL_law_204 (lv_at hl 5 rfl) ?_
          refine lv_iconst (v := 3) C.1.1 C.1.2.1 dL_law_206 (by decide) ?_
          refine lv_iadd C.1.1 C.1.2.1 dL_law_207 ?_
          obtain ⟨q14, hD⟩ := g_ck hD
          refine va_sld C.1.1 C.1.2.1 hX hbl hbA hw.2.2 q14 dL_law_208 ?_
          refine lv_aload_n C.1.1 C.1.2.1 dL_law_209 rfl (lv_at hl 1 rfl) ?_
          refine lv_iload C.1.1 C.1.2.1 dL_law_210 (lv_at hl 5 rfl) ?_
          refine lv_iconst (v := 4) C.1.1 C.1.2.1 dL_law_212 (by decide) ?_
          refine lv_iadd C.1.1 C.1.2.1 dL_law_213 ?_
          obtain ⟨q15, hD⟩ := g_ck hD
          refine va_sld C.1.1 C.1.2.1 hX hbl hbA hw.2.2 q15 dL_law_214 ?_
          obtain ⟨M16, L17, h1, hD⟩ := g_b2 hD
          refine md_cvV (As := [.int (xs (v4 + 1).toNatClampNeg), .int (xs (v4 + 2).toNatClampNeg), .int (xs (v4 + 3).toNatClampNeg), .int (xs (v4 + 4).toNatClampNeg)]) (rest := []) C hw (tX19_text l G (mw_ad G) fu (xs (v4 + 1).toNatClampNeg) (xs (v4 + 2).toNatClampNeg) (xs (v4 + 3).toNatClampNeg) (xs (v4 + 4).toNatClampNeg) M9 L10 h1) kc_19 (by decide) tf_732 wd_3122 cwX19_text ⟨Nat.le_of_ble_eq_true rfl, Nat.le_of_ble_eq_true rfl⟩ rfl hl.1 (Nat.le_of_ble_eq_true rfl) dL_law_215 rfl rfl hc1 rfl (fun H locs hw => ?_)
          refine lv_aload_n C.1.1 C.1.2.1 dL_law_218 rfl (lv_at hl 3 rfl) ?_
          obtain ⟨r20, M18, L19, h1, hD⟩ := g_b3 hD
          refine md_cvI (As := []) (rest := []) C hw (tX19_thrown l G (mw_ad G) fu M16 L17 h1) kc_19 (by decide) tf_732 wd_3118 cwX19_thrown ⟨Nat.le_of_ble_eq_true rfl, Nat.le_of_ble_eq_true rfl⟩ rfl hl.1 (Nat.le_of_ble_eq_true rfl) dL_law_219 rfl rfl hc1 rfl (fun H locs hw => ?_)
          refine lv_iload C.1.1 C.1.2.1 dL_law_222 (lv_at hl 0 rfl) ?_
          refine lv_icmp_eq (tgt := 229) C.1.1 C.1.2.1 dL_law_224 (by decide) (fun c21 => ?_) (fun c21 => ?_)
          · replace hD := g_pos c21 hD
            refine lv_goto (tgt := 1646) C.1.1 C.1.2.1 dL_law_229 (by decide) ?_
            exact hb1646 v4 M18 L19 _ _ ls hD hw (lv_sub hl [1, 2, 3, 4, 5] rfl)
          · replace hD := g_neg c21 hD
            refine lv_iconst (v := 0) C.1.1 C.1.2.1 dL_law_227 (by decide) ?_
            exact hret _ _ _ _ _ _ _ _ _ (by omega) (by omega) dL_law_228 hw hD
        replace hD := g_neg c4 hD
        by_cases c22 : x3 = 1
        · replace hD := g_pos c22 hD
          refine lv_tableIn (tgt := 232) C.1.1 C.1.2.1 dL_law_39 (by rw [c22]; decide) (by rw [c22]; decide) (off := 193) (by rw [c22]; decide) (by decide) ?_
          refine lv_aload_n C.1.1 C.1.2.1 dL_law_232 rfl (lv_at hl 1 rfl) ?_
          refine lv_aload_n C.1.1 C.1.2.1 dL_law_233 rfl (lv_at hl 0 rfl) ?_
          refine lv_iload C.1.1 C.1.2.1 dL_law_234 (lv_at hl 4 rfl) ?_
          refine lv_iconst (v := 1) C.1.1 C.1.2.1 dL_law_236 (by decide) ?_
          refine lv_iadd C.1.1 C.1.2.1 dL_law_237 ?_
          obtain ⟨q23, hD⟩ := g_ck hD
          refine va_sld C.1.1 C.1.2.1 hX hbl hbA hw.2.2 q23 dL_law_238 ?_
          refine lv_aload_n C.1.1 C.1.2.1 dL_law_239 rfl (lv_at hl 3 rfl) ?_
          obtain ⟨r26, M24, L25, h1, hD⟩ := g_b3 hD
          refine mx_csI (As := [.ref (mw_ad G 0), .int (xs (v4 + 1).toNatClampNeg), .ref (mw_ad G 1577)]) (rest := []) C KX hw (tL_cut l G (mw_ad G) fu (xs (v4 + 1).toNatClampNeg) M L hst h1) wd_765 cwL_cut ⟨Nat.le_of_ble_eq_true rfl, Nat.le_of_ble_eq_true rfl⟩ rfl hl.1 (Nat.le_of_ble_eq_true rfl) dL_law_240 rfl rfl hc1 rfl (fun H locs hw => ?_)
          refine lv_istore (lv' := [(5, .int r26), (0, .ref b), (1, .ref (mw_ad G 0)), (2, .ref (mw_ad G 732)), (3, .ref (mw_ad G 1577)), (4, .int v4)]) C.1.1 C.1.2.1 dL_law_243 hl (by decide) rfl (fun ls hl => ?_)
          refine lv_aload_n C.1.1 C.1.2.1 dL_law_245 rfl (lv_at hl 3 rfl) ?_
          refine lv_aload_n C.1.1 C.1.2.1 dL_law_246 rfl (lv_at hl 1 rfl) ?_
          refine lv_iload C.1.1 C.1.2.1 dL_law_247 (lv_at hl 5 rfl) ?_
          refine lv_iconst (v := 1) C.1.1 C.1.2.1 dL_law_249 (by decide) ?_
          refine lv_iadd C.1.1 C.1.2.1 dL_law_250 ?_
          obtain ⟨q27, hD⟩ := g_ck hD
          refine va_sld C.1.1 C.1.2.1 hX hbl hbA hw.2.2 q27 dL_law_251 ?_
          obtain ⟨r30, M28, L29, h1, hD⟩ := g_b3 hD
          refine md_cvI (As := [.int (xs (v4 + 1).toNatClampNeg)]) (rest := []) C hw (tX19_cut l G (mw_ad G) fu (xs (v4 + 1).toNatClampNeg) M24 L25 h1) kc_19 (by decide) tf_732 wd_3129 cwX19_cut ⟨Nat.le_of_ble_eq_true rfl, Nat.le_of_ble_eq_true rfl⟩ rfl hl.1 (Nat.le_of_ble_eq_true rfl) dL_law_252 rfl rfl hc1 rfl (fun H locs hw => ?_)
          refine lv_istore (lv' := [(6, .int r30), (5, .int r26), (0, .ref b), (1, .ref (mw_ad G 0)), (2, .ref (mw_ad G 732)), (3, .ref (mw_ad G 1577)), (4, .int v4)]) C.1.1 C.1.2.1 dL_law_255 hl (by decide) rfl (fun ls hl => ?_)
          refine lv_aload_n C.1.1 C.1.2.1 dL_law_257 rfl (lv_at hl 4 rfl) ?_
          obtain ⟨r33, M31, L32, h1, hD⟩ := g_b3 hD
          refine md_cvI (As := []) (rest := []) C hw (tX19_thrown l G (mw_ad G) fu M28 L29 h1) kc_19 (by decide) tf_732 wd_3118 cwX19_thrown ⟨Nat.le_of_ble_eq_true rfl, Nat.le_of_ble_eq_true rfl⟩ rfl hl.1 (Nat.le_of_ble_eq_true rfl) dL_law_258 rfl rfl hc1 rfl (fun H locs hw => ?_)
          refine lv_iload C.1.1 C.1.2.1 dL_law_261 (lv_at hl 1 rfl) ?_
          refine lv_icmp_eq (tgt := 268) C.1.1 C.1.2.1 dL_law_263 (by decide) (fun c34 => ?_) (fun c34 => ?_)
          · replace hD := g_pos c34 hD
            refine lv_iload C.1.1 C.1.2.1 dL_law_268 (lv_at hl 1 rfl) ?_
            refine lv_if_ne (tgt := 285) C.1.1 C.1.2.1 dL_law_270 (by decide) (fun c35 => ?_) (fun c35 => ?_)
            · replace hD := g_neg c35 hD
              exact hb285 v4 M31 L32 _ _ ls hD hw (lv_sub hl [2, 3, 4, 5, 6] rfl)
            · replace hD := g_pos c35 hD
              refine lv_aload_n C.1.1 C.1.2.1 dL_law_273 rfl (lv_at hl 5 rfl) ?_
              refine lv_iconst (v := 0) C.1.1 C.1.2.1 dL_law_274 (by decide) ?_
              refine mr_lald C hw (by decide) tf_1577 (show vp_in 0 1 from by unfold vp_in; decide) dL_law_275 ?_
              refine lv_iload C.1.1 C.1.2.1 dL_law_276 (lv_at hl 0 rfl) ?_
              refine lv_i2l C.1.1 C.1.2.1 dL_law_278 rfl ?_
              refine W.lcmp C.1.1 C.1.2.1 dL_law_279 ?_
              refine lv_if_eq (tgt := 285) C.1.1 C.1.2.1 dL_law_280 (by decide) (fun c37 => ?_) (fun c37 => ?_)
              · replace hD := g_pos c37 hD
                exact hb285 v4 M31 L32 _ _ ls hD hw (lv_sub hl [2, 3, 4, 5, 6] rfl)
              · replace hD := g_neg c37 hD
                refine lv_iconst (v := 0) C.1.1 C.1.2.1 dL_law_283 (by decide) ?_
                exact hret _ _ _ _ _ _ _ _ _ (by omega) (by omega) dL_law_284 hw hD
          · replace hD := g_neg c34 hD
            refine lv_iconst (v := 0) C.1.1 C.1.2.1 dL_law_266 (by decide) ?_
            exact hret _ _ _ _ _ _ _ _ _ (by omega) (by omega) dL_law_267 hw hD
        replace hD := g_neg c22 hD
        by_cases c38 : x3 = 2
        · replace hD := g_pos c38 hD
          refine lv_tableIn (tgt := 288) C.1.1 C.1.2.1 dL_law_39 (by rw [c38]; decide) (by rw [c38]; decide) (off := 249) (by rw [c38]; decide) (by decide) ?_
          refine lv_aload_n C.1.1 C.1.2.1 dL_law_288 rfl (lv_at hl 1 rfl) ?_
          refine lv_aload_n C.1.1 C.1.2.1 dL_law_289 rfl (lv_at hl 3 rfl) ?_
          obtain ⟨r41, M39, L40, h1, hD⟩ := g_b3 hD
          refine mx_csI (As := [.ref (mw_ad G 0), .ref (mw_ad G 1577)]) (rest := []) C KX hw (tL_system l G (mw_ad G) fu M L hst h1) wd_789 cwL_system ⟨Nat.le_of_ble_eq_true rfl, Nat.le_of_ble_eq_true rfl⟩ rfl hl.1 (Nat.le_of_ble_eq_true rfl) dL_law_290 rfl rfl hc1 rfl (fun H locs hw => ?_)
          refine lv_istore (lv' := [(5, .int r41), (0, .ref b), (1, .ref (mw_ad G 0)), (2, .ref (mw_ad G 732)), (3, .ref (mw_ad G 1577)), (4, .int v4)]) C.1.1 C.1.2.1 dL_law_293 hl (by decide) rfl (fun ls hl => ?_)
          refine lv_aload_n C.1.1 C.1.2.1 dL_law_295 rfl (lv_at hl 3 rfl) ?_
          obtain ⟨r44, M42, L43, h1, hD⟩ := g_b3 hD
          refine md_cvI (As := []) (rest := []) C hw (tX19_system l G (mw_ad G) fu M39 L40 h1) kc_19 (by decide) tf_732 wd_3133 cwX19_system ⟨Nat.le_of_ble_eq_true rfl, Nat.le_of_ble_eq_true rfl⟩ rfl hl.1 (Nat.le_of_ble_eq_true rfl) dL_law_296 rfl rfl hc1 rfl (fun H locs hw => ?_)
          refine lv_istore (lv' := [(6, .int r44), (5, .int r41), (0, .ref b), (1, .ref (mw_ad G 0)), (2, .ref (mw_ad G 732)), (3, .ref (mw_ad G 1577)), (4, .int v4)]) C.1.1 C.1.2.1 dL_law_299 hl (by decide) rfl (fun ls hl => ?_)
          refine lv_aload_n C.1.1 C.1.2.1 dL_law_301 rfl (lv_at hl 4 rfl) ?_
          obtain ⟨r47, M45, L46, h1, hD⟩ := g_b3 hD
          refine md_cvI (As := []) (rest := []) C hw (tX19_thrown l G (mw_ad G) fu M42 L43 h1) kc_19 (by decide) tf_732 wd_3118 cwX19_thrown ⟨Nat.le_of_ble_eq_true rfl, Nat.le_of_ble_eq_true rfl⟩ rfl hl.1 (Nat.le_of_ble_eq_true rfl) dL_law_302 rfl rfl hc1 rfl (fun H locs hw => ?_)
          refine lv_iload C.1.1 C.1.2.1 dL_law_305 (lv_at hl 1 rfl) ?_
          refine lv_icmp_eq (tgt := 312) C.1.1 C.1.2.1 dL_law_307 (by decide) (fun c48 => ?_) (fun c48 => ?_)
          · replace hD := g_pos c48 hD
            refine lv_iload C.1.1 C.1.2.1 dL_law_312 (lv_at hl 1 rfl) ?_
            refine lv_if_ne (tgt := 329) C.1.1 C.1.2.1 dL_law_314 (by decide) (fun c49 => ?_) (fun c49 => ?_)
            · replace hD := g_neg c49 hD
              exact hb329 v4 M45 L46 _ _ ls hD hw (lv_sub hl [2, 3, 4, 5, 6] rfl)
            · replace hD := g_pos c49 hD
              refine lv_aload_n C.1.1 C.1.2.1 dL_law_317 rfl (lv_at hl 5 rfl) ?_
              refine lv_iconst (v := 0) C.1.1 C.1.2.1 dL_law_318 (by decide) ?_
              refine mr_lald C hw (by decide) tf_1577 (show vp_in 0 1 from by unfold vp_in; decide) dL_law_319 ?_
              refine lv_iload C.1.1 C.1.2.1 dL_law_320 (lv_at hl 0 rfl) ?_
              refine lv_i2l C.1.1 C.1.2.1 dL_law_322 rfl ?_
              refine W.lcmp C.1.1 C.1.2.1 dL_law_323 ?_
              refine lv_if_eq (tgt := 329) C.1.1 C.1.2.1 dL_law_324 (by decide) (fun c51 => ?_) (fun c51 => ?_)
              · replace hD := g_pos c51 hD
                exact hb329 v4 M45 L46 _ _ ls hD hw (lv_sub hl [2, 3, 4, 5, 6] rfl)
              · replace hD := g_neg c51 hD
                refine lv_iconst (v := 0) C.1.1 C.1.2.1 dL_law_327 (by decide) ?_
                exact hret _ _ _ _ _ _ _ _ _ (by omega) (by omega) dL_law_328 hw hD
          · replace hD := g_neg c48 hD
            refine lv_iconst (v := 0) C.1.1 C.1.2.1 dL_law_310 (by decide) ?_
            exact hret _ _ _ _ _ _ _ _ _ (by omega) (by omega) dL_law_311 hw hD
        replace hD := g_neg c38 hD
        by_cases c52 : x3 = 3
        · replace hD := g_pos c52 hD
          refine lv_tableIn (tgt := 332) C.1.1 C.1.2.1 dL_law_39 (by rw [c52]; decide) (by rw [c52]; decide) (off := 293) (by rw [c52]; decide) (by decide) ?_
          refine lv_aload_n C.1.1 C.1.2.1 dL_law_332 rfl (lv_at hl 1 rfl) ?_
          obtain ⟨r55, M53, L54, h1, hD⟩ := g_b3 hD
          refine md_cvI (As := []) (rest := []) C hw (tX11_place l G (mw_ad G) fu M L h1) kc_11 (by decide) tf_0 wd_659 cwX11_place ⟨Nat.le_of_ble_eq_true rfl, Nat.le_of_ble_eq_true rfl⟩ rfl hl.1 (Nat.le_of_ble_eq_true rfl) dL_law_333 rfl rfl hc0 rfl (fun H locs hw => ?_)
          refine lv_aload_n C.1.1 C.1.2.1 dL_law_336 rfl (lv_at hl 2 rfl) ?_
          obtain ⟨r58, M56, L57, h1, hD⟩ := g_b3 hD
          refine md_cvI (As := []) (rest := [.int r55]) C hw (tX19_place l G (mw_ad G) fu M53 L54 h1) kc_19 (by decide) tf_732 wd_4186 cwX19_place ⟨Nat.le_of_ble_eq_true rfl, Nat.le_of_ble_eq_true rfl⟩ rfl hl.1 (Nat.le_of_ble_eq_true rfl) dL_law_337 rfl rfl hc0 rfl (fun H locs hw => ?_)
          refine lv_icmp_eq (tgt := 1646) C.1.1 C.1.2.1 dL_law_340 (by decide) (fun c59 => ?_) (fun c59 => ?_)
          · replace hD := g_pos c59 hD
            refine W.widen (k := cells + 1) (n := slots + 6) (by omega) (by omega) ?_
            exact hb1646 v4 M56 L57 _ _ ls hD hw (lv_sub hl [0, 1, 2, 3, 4] rfl)
          · replace hD := g_neg c59 hD
            refine lv_iconst (v := 0) C.1.1 C.1.2.1 dL_law_343 (by decide) ?_
            exact hret _ _ _ _ _ _ _ _ _ (by omega) (by omega) dL_law_344 hw hD
        replace hD := g_neg c52 hD
        by_cases c60 : x3 = 4
        · replace hD := g_pos c60 hD
          refine lv_tableIn (tgt := 345) C.1.1 C.1.2.1 dL_law_39 (by rw [c60]; decide) (by rw [c60]; decide) (off := 306) (by rw [c60]; decide) (by decide) ?_
          refine lv_aload_n C.1.1 C.1.2.1 dL_law_345 rfl (lv_at hl 1 rfl) ?_
          refine lv_aload_n C.1.1 C.1.2.1 dL_law_346 rfl (lv_at hl 0 rfl) ?_
          refine lv_iload C.1.1 C.1.2.1 dL_law_347 (lv_at hl 4 rfl) ?_
          refine lv_iconst (v := 1) C.1.1 C.1.2.1 dL_law_349 (by decide) ?_
          refine lv_iadd C.1.1 C.1.2.1 dL_law_350 ?_
          obtain ⟨q61, hD⟩ := g_ck hD
          refine va_sld C.1.1 C.1.2.1 hX hbl hbA hw.2.2 q61 dL_law_351 ?_
          refine lv_aload_n C.1.1 C.1.2.1 dL_law_352 rfl (lv_at hl 3 rfl) ?_
          obtain ⟨r64, M62, L63, h1, hD⟩ := g_b3 hD
          refine mx_csI (As := [.ref (mw_ad G 0), .int (xs (v4 + 1).toNatClampNeg), .ref (mw_ad G 1577)]) (rest := []) C KX hw (tL_count l G (mw_ad G) fu (xs (v4 + 1).toNatClampNeg) M L hst h1) wd_1236 cwL_count ⟨Nat.le_of_ble_eq_true rfl, Nat.le_of_ble_eq_true rfl⟩ rfl hl.1 (Nat.le_of_ble_eq_true rfl) dL_law_353 rfl rfl hc1 rfl (fun H locs hw => ?_)
          refine lv_istore (lv' := [(5, .int r64), (0, .ref b), (1, .ref (mw_ad G 0)), (2, .ref (mw_ad G 732)), (3, .ref (mw_ad G 1577)), (4, .int v4)]) C.1.1 C.1.2.1 dL_law_356 hl (by decide) rfl (fun ls hl => ?_)
          refine lv_aload_n C.1.1 C.1.2.1 dL_law_358 rfl (lv_at hl 3 rfl) ?_
          refine lv_aload_n C.1.1 C.1.2.1 dL_law_359 rfl (lv_at hl 1 rfl) ?_
          refine lv_iload C.1.1 C.1.2.1 dL_law_360 (lv_at hl 5 rfl) ?_
          refine lv_iconst (v := 1) C.1.1 C.1.2.1 dL_law_362 (by decide) ?_
          refine lv_iadd C.1.1 C.1.2.1 dL_law_363 ?_
          obtain ⟨q65, hD⟩ := g_ck hD
          refine va_sld C.1.1 C.1.2.1 hX hbl hbA hw.2.2 q65 dL_law_364 ?_
          obtain ⟨r68, M66, L67, h1, hD⟩ := g_b3 hD
          refine md_cvI (As := [.int (xs (v4 + 1).toNatClampNeg)]) (rest := []) C hw (tX19_count l G (mw_ad G) fu (xs (v4 + 1).toNatClampNeg) M62 L63 h1) kc_19 (by decide) tf_732 wd_4190 cwX19_count ⟨Nat.le_of_ble_eq_true rfl, Nat.le_of_ble_eq_true rfl⟩ rfl hl.1 (Nat.le_of_ble_eq_true rfl) dL_law_365 rfl rfl hc1 rfl (fun H locs hw => ?_)
          refine lv_istore (lv' := [(6, .int r68), (5, .int r64), (0, .ref b), (1, .ref (mw_ad G 0)), (2, .ref (mw_ad G 732)), (3, .ref (mw_ad G 1577)), (4, .int v4)]) C.1.1 C.1.2.1 dL_law_368 hl (by decide) rfl (fun ls hl => ?_)
          refine lv_aload_n C.1.1 C.1.2.1 dL_law_370 rfl (lv_at hl 4 rfl) ?_
          obtain ⟨r71, M69, L70, h1, hD⟩ := g_b3 hD
          refine md_cvI (As := []) (rest := []) C hw (tX19_thrown l G (mw_ad G) fu M66 L67 h1) kc_19 (by decide) tf_732 wd_3118 cwX19_thrown ⟨Nat.le_of_ble_eq_true rfl, Nat.le_of_ble_eq_true rfl⟩ rfl hl.1 (Nat.le_of_ble_eq_true rfl) dL_law_371 rfl rfl hc1 rfl (fun H locs hw => ?_)
          refine lv_iload C.1.1 C.1.2.1 dL_law_374 (lv_at hl 1 rfl) ?_
          refine lv_icmp_eq (tgt := 381) C.1.1 C.1.2.1 dL_law_376 (by decide) (fun c72 => ?_) (fun c72 => ?_)
          · replace hD := g_pos c72 hD
            refine lv_iload C.1.1 C.1.2.1 dL_law_381 (lv_at hl 1 rfl) ?_
            refine lv_if_ne (tgt := 398) C.1.1 C.1.2.1 dL_law_383 (by decide) (fun c73 => ?_) (fun c73 => ?_)
            · replace hD := g_neg c73 hD
              exact hb398 v4 M69 L70 _ _ ls hD hw (lv_sub hl [2, 3, 4, 5, 6] rfl)
            · replace hD := g_pos c73 hD
              refine lv_aload_n C.1.1 C.1.2.1 dL_law_386 rfl (lv_at hl 5 rfl) ?_
              refine lv_iconst (v := 0) C.1.1 C.1.2.1 dL_law_387 (by decide) ?_
              refine mr_lald C hw (by decide) tf_1577 (show vp_in 0 1 from by unfold vp_in; decide) dL_law_388 ?_
              refine lv_iload C.1.1 C.1.2.1 dL_law_389 (lv_at hl 0 rfl) ?_
              refine lv_i2l C.1.1 C.1.2.1 dL_law_391 rfl ?_
              refine W.lcmp C.1.1 C.1.2.1 dL_law_392 ?_
              refine lv_if_eq (tgt := 398) C.1.1 C.1.2.1 dL_law_393 (by decide) (fun c75 => ?_) (fun c75 => ?_)
              · replace hD := g_pos c75 hD
                exact hb398 v4 M69 L70 _ _ ls hD hw (lv_sub hl [2, 3, 4, 5, 6] rfl)
              · replace hD := g_neg c75 hD
                refine lv_iconst (v := 0) C.1.1 C.1.2.1 dL_law_396 (by decide) ?_
                exact hret _ _ _ _ _ _ _ _ _ (by omega) (by omega) dL_law_397 hw hD
          · replace hD := g_neg c72 hD
            refine lv_iconst (v := 0) C.1.1 C.1.2.1 dL_law_379 (by decide) ?_
            exact hret _ _ _ _ _ _ _ _ _ (by omega) (by omega) dL_law_380 hw hD
        replace hD := g_neg c60 hD
        by_cases c76 : x3 = 5
        · replace hD := g_pos c76 hD
          refine lv_tableIn (tgt := 401) C.1.1 C.1.2.1 dL_law_39 (by rw [c76]; decide) (by rw [c76]; decide) (off := 362) (by rw [c76]; decide) (by decide) ?_
          refine lv_aload_n C.1.1 C.1.2.1 dL_law_401 rfl (lv_at hl 1 rfl) ?_
          refine lv_aload_n C.1.1 C.1.2.1 dL_law_402 rfl (lv_at hl 0 rfl) ?_
          refine lv_iload C.1.1 C.1.2.1 dL_law_403 (lv_at hl 4 rfl) ?_
          refine lv_iconst (v := 1) C.1.1 C.1.2.1 dL_law_405 (by decide) ?_
          refine lv_iadd C.1.1 C.1.2.1 dL_law_406 ?_
          obtain ⟨q77, hD⟩ := g_ck hD
          refine va_sld C.1.1 C.1.2.1 hX hbl hbA hw.2.2 q77 dL_law_407 ?_
          refine lv_aload_n C.1.1 C.1.2.1 dL_law_408 rfl (lv_at hl 0 rfl) ?_
          refine lv_iload C.1.1 C.1.2.1 dL_law_409 (lv_at hl 4 rfl) ?_
          refine lv_iconst (v := 2) C.1.1 C.1.2.1 dL_law_411 (by decide) ?_
          refine lv_iadd C.1.1 C.1.2.1 dL_law_412 ?_
          obtain ⟨q78, hD⟩ := g_ck hD
          refine va_sld C.1.1 C.1.2.1 hX hbl hbA hw.2.2 q78 dL_law_413 ?_
          refine lv_aload_n C.1.1 C.1.2.1 dL_law_414 rfl (lv_at hl 3 rfl) ?_
          obtain ⟨r81, M79, L80, h1, hD⟩ := g_b3 hD
          refine mx_csI (As := [.ref (mw_ad G 0), .int (xs (v4 + 1).toNatClampNeg), .int (xs (v4 + 2).toNatClampNeg), .ref (mw_ad G 1577)]) (rest := []) C KX hw (tL_frame l G (mw_ad G) fu (xs (v4 + 1).toNatClampNeg) (xs (v4 + 2).toNatClampNeg) M L hst h1) wd_1245 cwL_frame ⟨Nat.le_of_ble_eq_true rfl, Nat.le_of_ble_eq_true rfl⟩ rfl hl.1 (Nat.le_of_ble_eq_true rfl) dL_law_415 rfl rfl hc1 rfl (fun H locs hw => ?_)
          refine lv_istore (lv' := [(5, .int r81), (0, .ref b), (1, .ref (mw_ad G 0)), (2, .ref (mw_ad G 732)), (3, .ref (mw_ad G 1577)), (4, .int v4)]) C.1.1 C.1.2.1 dL_law_418 hl (by decide) rfl (fun ls hl => ?_)
          refine lv_aload_n C.1.1 C.1.2.1 dL_law_420 rfl (lv_at hl 3 rfl) ?_
          refine lv_aload_n C.1.1 C.1.2.1 dL_law_421 rfl (lv_at hl 1 rfl) ?_
          refine lv_iload C.1.1 C.1.2.1 dL_law_422 (lv_at hl 5 rfl) ?_
          refine lv_iconst (v := 1) C.1.1 C.1.2.1 dL_law_424 (by decide) ?_
          refine lv_iadd C.1.1 C.1.2.1 dL_law_425 ?_
          obtain ⟨q82, hD⟩ := g_ck hD
          refine va_sld C.1.1 C.1.2.1 hX hbl hbA hw.2.2 q82 dL_law_426 ?_
          refine lv_aload_n C.1.1 C.1.2.1 dL_law_427 rfl (lv_at hl 1 rfl) ?_
          refine lv_iload C.1.1 C.1.2.1 dL_law_428 (lv_at hl 5 rfl) ?_
          refine lv_iconst (v := 2) C.1.1 C.1.2.1 dL_law_430 (by decide) ?_
          refine lv_iadd C.1.1 C.1.2.1 dL_law_431 ?_
          obtain ⟨q83, hD⟩ := g_ck hD
          refine va_sld C.1.1 C.1.2.1 hX hbl hbA hw.2.2 q83 dL_law_432 ?_
          obtain ⟨r86, M84, L85, h1, hD⟩ := g_b3 hD
          refine md_cvI (As := [.int (xs (v4 + 1).toNatClampNeg), .int (xs (v4 + 2).toNatClampNeg)]) (rest := []) C hw (tX19_frame l G (mw_ad G) fu (xs (v4 + 1).toNatClampNeg) (xs (v4 + 2).toNatClampNeg) M79 L80 h1) kc_19 (by decide) tf_732 wd_4194 cwX19_frame ⟨Nat.le_of_ble_eq_true rfl, Nat.le_of_ble_eq_true rfl⟩ rfl hl.1 (Nat.le_of_ble_eq_true rfl) dL_law_433 rfl rfl hc1 rfl (fun H locs hw => ?_)
          refine lv_istore (lv' := [(6, .int r86), (5, .int r81), (0, .ref b), (1, .ref (mw_ad G 0)), (2, .ref (mw_ad G 732)), (3, .ref (mw_ad G 1577)), (4, .int v4)]) C.1.1 C.1.2.1 dL_law_436 hl (by decide) rfl (fun ls hl => ?_)
          refine lv_aload_n C.1.1 C.1.2.1 dL_law_438 rfl (lv_at hl 4 rfl) ?_
          obtain ⟨r89, M87, L88, h1, hD⟩ := g_b3 hD
          refine md_cvI (As := []) (rest := []) C hw (tX19_thrown l G (mw_ad G) fu M84 L85 h1) kc_19 (by decide) tf_732 wd_3118 cwX19_thrown ⟨Nat.le_of_ble_eq_true rfl, Nat.le_of_ble_eq_true rfl⟩ rfl hl.1 (Nat.le_of_ble_eq_true rfl) dL_law_439 rfl rfl hc1 rfl (fun H locs hw => ?_)
          refine lv_iload C.1.1 C.1.2.1 dL_law_442 (lv_at hl 1 rfl) ?_
          refine lv_icmp_eq (tgt := 449) C.1.1 C.1.2.1 dL_law_444 (by decide) (fun c90 => ?_) (fun c90 => ?_)
          · replace hD := g_pos c90 hD
            refine lv_iload C.1.1 C.1.2.1 dL_law_449 (lv_at hl 1 rfl) ?_
            refine lv_if_ne (tgt := 466) C.1.1 C.1.2.1 dL_law_451 (by decide) (fun c91 => ?_) (fun c91 => ?_)
            · replace hD := g_neg c91 hD
              exact hb466 v4 M87 L88 _ _ ls hD hw (lv_sub hl [2, 3, 4, 5, 6] rfl)
            · replace hD := g_pos c91 hD
              refine lv_aload_n C.1.1 C.1.2.1 dL_law_454 rfl (lv_at hl 5 rfl) ?_
              refine lv_iconst (v := 0) C.1.1 C.1.2.1 dL_law_455 (by decide) ?_
              refine mr_lald C hw (by decide) tf_1577 (show vp_in 0 1 from by unfold vp_in; decide) dL_law_456 ?_
              refine lv_iload C.1.1 C.1.2.1 dL_law_457 (lv_at hl 0 rfl) ?_
              refine lv_i2l C.1.1 C.1.2.1 dL_law_459 rfl ?_
              refine W.lcmp C.1.1 C.1.2.1 dL_law_460 ?_
              refine lv_if_eq (tgt := 466) C.1.1 C.1.2.1 dL_law_461 (by decide) (fun c93 => ?_) (fun c93 => ?_)
              · replace hD := g_pos c93 hD
                exact hb466 v4 M87 L88 _ _ ls hD hw (lv_sub hl [2, 3, 4, 5, 6] rfl)
              · replace hD := g_neg c93 hD
                refine lv_iconst (v := 0) C.1.1 C.1.2.1 dL_law_464 (by decide) ?_
                exact hret _ _ _ _ _ _ _ _ _ (by omega) (by omega) dL_law_465 hw hD
          · replace hD := g_neg c90 hD
            refine lv_iconst (v := 0) C.1.1 C.1.2.1 dL_law_447 (by decide) ?_
            exact hret _ _ _ _ _ _ _ _ _ (by omega) (by omega) dL_law_448 hw hD
        replace hD := g_neg c76 hD
        by_cases c94 : x3 = 6
        · replace hD := g_pos c94 hD
          refine lv_tableIn (tgt := 469) C.1.1 C.1.2.1 dL_law_39 (by rw [c94]; decide) (by rw [c94]; decide) (off := 430) (by rw [c94]; decide) (by decide) ?_
          refine lv_aload_n C.1.1 C.1.2.1 dL_law_469 rfl (lv_at hl 1 rfl) ?_
          refine lv_aload_n C.1.1 C.1.2.1 dL_law_470 rfl (lv_at hl 0 rfl) ?_
          refine lv_iload C.1.1 C.1.2.1 dL_law_471 (lv_at hl 4 rfl) ?_
          refine lv_iconst (v := 1) C.1.1 C.1.2.1 dL_law_473 (by decide) ?_
          refine lv_iadd C.1.1 C.1.2.1 dL_law_474 ?_
          obtain ⟨q95, hD⟩ := g_ck hD
          refine va_sld C.1.1 C.1.2.1 hX hbl hbA hw.2.2 q95 dL_law_475 ?_
          refine lv_aload_n C.1.1 C.1.2.1 dL_law_476 rfl (lv_at hl 0 rfl) ?_
          refine lv_iload C.1.1 C.1.2.1 dL_law_477 (lv_at hl 4 rfl) ?_
          refine lv_iconst (v := 2) C.1.1 C.1.2.1 dL_law_479 (by decide) ?_
          refine lv_iadd C.1.1 C.1.2.1 dL_law_480 ?_
          obtain ⟨q96, hD⟩ := g_ck hD
          refine va_sld C.1.1 C.1.2.1 hX hbl hbA hw.2.2 q96 dL_law_481 ?_
          refine lv_if_eq (tgt := 489) C.1.1 C.1.2.1 dL_law_482 (by decide) (fun c97 => ?_) (fun c97 => ?_)
          · replace hD := g_pos c97 hD
            refine lv_iconst (v := 0) C.1.1 C.1.2.1 dL_law_489 (by decide) ?_
            exact hb490 v4 (xs (v4 + 1).toNatClampNeg) 0 M L _ _ ls hD hw (lv_sub hl [0, 1, 2, 3, 4] rfl)
          · replace hD := g_neg c97 hD
            refine lv_iconst (v := 1) C.1.1 C.1.2.1 dL_law_485 (by decide) ?_
            refine lv_goto (tgt := 490) C.1.1 C.1.2.1 dL_law_486 (by decide) ?_
            exact hb490 v4 (xs (v4 + 1).toNatClampNeg) 1 M L _ _ ls hD hw (lv_sub hl [0, 1, 2, 3, 4] rfl)
        replace hD := g_neg c94 hD
        by_cases c98 : x3 = 7
        · replace hD := g_pos c98 hD
          refine lv_tableIn (tgt := 553) C.1.1 C.1.2.1 dL_law_39 (by rw [c98]; decide) (by rw [c98]; decide) (off := 514) (by rw [c98]; decide) (by decide) ?_
          refine lv_aload_n C.1.1 C.1.2.1 dL_law_553 rfl (lv_at hl 1 rfl) ?_
          refine lv_aload_n C.1.1 C.1.2.1 dL_law_554 rfl (lv_at hl 0 rfl) ?_
          refine lv_iload C.1.1 C.1.2.1 dL_law_555 (lv_at hl 4 rfl) ?_
          refine lv_iconst (v := 1) C.1.1 C.1.2.1 dL_law_557 (by decide) ?_
          refine lv_iadd C.1.1 C.1.2.1 dL_law_558 ?_
          obtain ⟨q99, hD⟩ := g_ck hD
          refine va_sld C.1.1 C.1.2.1 hX hbl hbA hw.2.2 q99 dL_law_559 ?_
          refine lv_aload_n C.1.1 C.1.2.1 dL_law_560 rfl (lv_at hl 3 rfl) ?_
          obtain ⟨r102, M100, L101, h1, hD⟩ := g_b3 hD
          refine mx_csI (As := [.ref (mw_ad G 0), .int (xs (v4 + 1).toNatClampNeg), .ref (mw_ad G 1577)]) (rest := []) C KX hw (tL_run l G (mw_ad G) fu (xs (v4 + 1).toNatClampNeg) M L hst h1) wd_1282 cwL_run ⟨Nat.le_of_ble_eq_true rfl, Nat.le_of_ble_eq_true rfl⟩ rfl hl.1 (Nat.le_of_ble_eq_true rfl) dL_law_561 rfl rfl hc1 rfl (fun H locs hw => ?_)
          refine lv_istore (lv' := [(5, .int r102), (0, .ref b), (1, .ref (mw_ad G 0)), (2, .ref (mw_ad G 732)), (3, .ref (mw_ad G 1577)), (4, .int v4)]) C.1.1 C.1.2.1 dL_law_564 hl (by decide) rfl (fun ls hl => ?_)
          refine lv_aload_n C.1.1 C.1.2.1 dL_law_566 rfl (lv_at hl 3 rfl) ?_
          refine lv_aload_n C.1.1 C.1.2.1 dL_law_567 rfl (lv_at hl 1 rfl) ?_
          refine lv_iload C.1.1 C.1.2.1 dL_law_568 (lv_at hl 5 rfl) ?_
          refine lv_iconst (v := 1) C.1.1 C.1.2.1 dL_law_570 (by decide) ?_
          refine lv_iadd C.1.1 C.1.2.1 dL_law_571 ?_
          obtain ⟨q103, hD⟩ := g_ck hD
          refine va_sld C.1.1 C.1.2.1 hX hbl hbA hw.2.2 q103 dL_law_572 ?_
          obtain ⟨r106, M104, L105, h1, hD⟩ := g_b3 hD
          refine md_cvI (As := [.int (xs (v4 + 1).toNatClampNeg)]) (rest := []) C hw (tX19_run l G (mw_ad G) fu (xs (v4 + 1).toNatClampNeg) M100 L101 h1) kc_19 (by decide) tf_732 wd_3534 cwX19_run ⟨Nat.le_of_ble_eq_true rfl, Nat.le_of_ble_eq_true rfl⟩ rfl hl.1 (Nat.le_of_ble_eq_true rfl) dL_law_573 rfl rfl hc1 rfl (fun H locs hw => ?_)
          refine lv_istore (lv' := [(6, .int r106), (5, .int r102), (0, .ref b), (1, .ref (mw_ad G 0)), (2, .ref (mw_ad G 732)), (3, .ref (mw_ad G 1577)), (4, .int v4)]) C.1.1 C.1.2.1 dL_law_576 hl (by decide) rfl (fun ls hl => ?_)
          refine lv_aload_n C.1.1 C.1.2.1 dL_law_578 rfl (lv_at hl 4 rfl) ?_
          obtain ⟨r109, M107, L108, h1, hD⟩ := g_b3 hD
          refine md_cvI (As := []) (rest := []) C hw (tX19_thrown l G (mw_ad G) fu M104 L105 h1) kc_19 (by decide) tf_732 wd_3118 cwX19_thrown ⟨Nat.le_of_ble_eq_true rfl, Nat.le_of_ble_eq_true rfl⟩ rfl hl.1 (Nat.le_of_ble_eq_true rfl) dL_law_579 rfl rfl hc1 rfl (fun H locs hw => ?_)
          refine lv_iload C.1.1 C.1.2.1 dL_law_582 (lv_at hl 1 rfl) ?_
          refine lv_icmp_eq (tgt := 589) C.1.1 C.1.2.1 dL_law_584 (by decide) (fun c110 => ?_) (fun c110 => ?_)
          · replace hD := g_pos c110 hD
            refine lv_iload C.1.1 C.1.2.1 dL_law_589 (lv_at hl 1 rfl) ?_
            refine lv_if_ne (tgt := 606) C.1.1 C.1.2.1 dL_law_591 (by decide) (fun c111 => ?_) (fun c111 => ?_)
            · replace hD := g_neg c111 hD
              exact hb606 v4 M107 L108 _ _ ls hD hw (lv_sub hl [2, 3, 4, 5, 6] rfl)
            · replace hD := g_pos c111 hD
              refine lv_aload_n C.1.1 C.1.2.1 dL_law_594 rfl (lv_at hl 5 rfl) ?_
              refine lv_iconst (v := 0) C.1.1 C.1.2.1 dL_law_595 (by decide) ?_
              refine mr_lald C hw (by decide) tf_1577 (show vp_in 0 1 from by unfold vp_in; decide) dL_law_596 ?_
              refine lv_iload C.1.1 C.1.2.1 dL_law_597 (lv_at hl 0 rfl) ?_
              refine lv_i2l C.1.1 C.1.2.1 dL_law_599 rfl ?_
              refine W.lcmp C.1.1 C.1.2.1 dL_law_600 ?_
              refine lv_if_eq (tgt := 606) C.1.1 C.1.2.1 dL_law_601 (by decide) (fun c113 => ?_) (fun c113 => ?_)
              · replace hD := g_pos c113 hD
                exact hb606 v4 M107 L108 _ _ ls hD hw (lv_sub hl [2, 3, 4, 5, 6] rfl)
              · replace hD := g_neg c113 hD
                refine lv_iconst (v := 0) C.1.1 C.1.2.1 dL_law_604 (by decide) ?_
                exact hret _ _ _ _ _ _ _ _ _ (by omega) (by omega) dL_law_605 hw hD
          · replace hD := g_neg c110 hD
            refine lv_iconst (v := 0) C.1.1 C.1.2.1 dL_law_587 (by decide) ?_
            exact hret _ _ _ _ _ _ _ _ _ (by omega) (by omega) dL_law_588 hw hD
        replace hD := g_neg c98 hD
        by_cases c114 : x3 = 8
        · replace hD := g_pos c114 hD
          refine lv_tableIn (tgt := 609) C.1.1 C.1.2.1 dL_law_39 (by rw [c114]; decide) (by rw [c114]; decide) (off := 570) (by rw [c114]; decide) (by decide) ?_
          refine lv_aload_n C.1.1 C.1.2.1 dL_law_609 rfl (lv_at hl 1 rfl) ?_
          obtain ⟨r117, M115, L116, h1, hD⟩ := g_b3 hD
          refine md_cvI (As := []) (rest := []) C hw (tX11_time l G (mw_ad G) fu M L h1) kc_11 (by decide) tf_0 wd_663 cwX11_time ⟨Nat.le_of_ble_eq_true rfl, Nat.le_of_ble_eq_true rfl⟩ rfl hl.1 (Nat.le_of_ble_eq_true rfl) dL_law_610 rfl rfl hc0 rfl (fun H locs hw => ?_)
          refine lv_aload_n C.1.1 C.1.2.1 dL_law_613 rfl (lv_at hl 2 rfl) ?_
          obtain ⟨r120, M118, L119, h1, hD⟩ := g_b3 hD
          refine md_cvI (As := []) (rest := [.int r117]) C hw (tX19_time l G (mw_ad G) fu M115 L116 h1) kc_19 (by decide) tf_732 wd_4202 cwX19_time ⟨Nat.le_of_ble_eq_true rfl, Nat.le_of_ble_eq_true rfl⟩ rfl hl.1 (Nat.le_of_ble_eq_true rfl) dL_law_614 rfl rfl hc0 rfl (fun H locs hw => ?_)
          refine lv_icmp_eq (tgt := 1646) C.1.1 C.1.2.1 dL_law_617 (by decide) (fun c121 => ?_) (fun c121 => ?_)
          · replace hD := g_pos c121 hD
            refine W.widen (k := cells + 1) (n := slots + 6) (by omega) (by omega) ?_
            exact hb1646 v4 M118 L119 _ _ ls hD hw (lv_sub hl [0, 1, 2, 3, 4] rfl)
          · replace hD := g_neg c121 hD
            refine lv_iconst (v := 0) C.1.1 C.1.2.1 dL_law_620 (by decide) ?_
            exact hret _ _ _ _ _ _ _ _ _ (by omega) (by omega) dL_law_621 hw hD
        replace hD := g_neg c114 hD
        by_cases c122 : x3 = 9
        · replace hD := g_pos c122 hD
          refine lv_tableIn (tgt := 622) C.1.1 C.1.2.1 dL_law_39 (by rw [c122]; decide) (by rw [c122]; decide) (off := 583) (by rw [c122]; decide) (by decide) ?_
          refine lv_aload_n C.1.1 C.1.2.1 dL_law_622 rfl (lv_at hl 1 rfl) ?_
          refine lv_aload_n C.1.1 C.1.2.1 dL_law_623 rfl (lv_at hl 0 rfl) ?_
          refine lv_iload C.1.1 C.1.2.1 dL_law_624 (lv_at hl 4 rfl) ?_
          refine lv_iconst (v := 1) C.1.1 C.1.2.1 dL_law_626 (by decide) ?_
          refine lv_iadd C.1.1 C.1.2.1 dL_law_627 ?_
          obtain ⟨q123, hD⟩ := g_ck hD
          refine va_sld C.1.1 C.1.2.1 hX hbl hbA hw.2.2 q123 dL_law_628 ?_
          refine lv_aload_n C.1.1 C.1.2.1 dL_law_629 rfl (lv_at hl 3 rfl) ?_
          obtain ⟨r126, M124, L125, h1, hD⟩ := g_b3 hD
          refine mx_csI (As := [.ref (mw_ad G 0), .int (xs (v4 + 1).toNatClampNeg), .ref (mw_ad G 1577)]) (rest := []) C KX hw (tL_bit l G (mw_ad G) fu (xs (v4 + 1).toNatClampNeg) M L hst h1) wd_1785 cwL_bit ⟨Nat.le_of_ble_eq_true rfl, Nat.le_of_ble_eq_true rfl⟩ rfl hl.1 (Nat.le_of_ble_eq_true rfl) dL_law_630 rfl rfl hc1 rfl (fun H locs hw => ?_)
          refine lv_istore (lv' := [(5, .int r126), (0, .ref b), (1, .ref (mw_ad G 0)), (2, .ref (mw_ad G 732)), (3, .ref (mw_ad G 1577)), (4, .int v4)]) C.1.1 C.1.2.1 dL_law_633 hl (by decide) rfl (fun ls hl => ?_)
          refine lv_aload_n C.1.1 C.1.2.1 dL_law_635 rfl (lv_at hl 3 rfl) ?_
          refine lv_aload_n C.1.1 C.1.2.1 dL_law_636 rfl (lv_at hl 1 rfl) ?_
          refine lv_iload C.1.1 C.1.2.1 dL_law_637 (lv_at hl 5 rfl) ?_
          refine lv_iconst (v := 1) C.1.1 C.1.2.1 dL_law_639 (by decide) ?_
          refine lv_iadd C.1.1 C.1.2.1 dL_law_640 ?_
          obtain ⟨q127, hD⟩ := g_ck hD
          refine va_sld C.1.1 C.1.2.1 hX hbl hbA hw.2.2 q127 dL_law_641 ?_
          obtain ⟨r130, M128, L129, h1, hD⟩ := g_b3 hD
          refine md_cvI (As := [.int (xs (v4 + 1).toNatClampNeg)]) (rest := []) C hw (tX19_bit l G (mw_ad G) fu (xs (v4 + 1).toNatClampNeg) M124 L125 h1) kc_19 (by decide) tf_732 wd_4206 cwX19_bit ⟨Nat.le_of_ble_eq_true rfl, Nat.le_of_ble_eq_true rfl⟩ rfl hl.1 (Nat.le_of_ble_eq_true rfl) dL_law_642 rfl rfl hc1 rfl (fun H locs hw => ?_)
          refine lv_istore (lv' := [(6, .int r130), (5, .int r126), (0, .ref b), (1, .ref (mw_ad G 0)), (2, .ref (mw_ad G 732)), (3, .ref (mw_ad G 1577)), (4, .int v4)]) C.1.1 C.1.2.1 dL_law_645 hl (by decide) rfl (fun ls hl => ?_)
          refine lv_aload_n C.1.1 C.1.2.1 dL_law_647 rfl (lv_at hl 4 rfl) ?_
          obtain ⟨r133, M131, L132, h1, hD⟩ := g_b3 hD
          refine md_cvI (As := []) (rest := []) C hw (tX19_thrown l G (mw_ad G) fu M128 L129 h1) kc_19 (by decide) tf_732 wd_3118 cwX19_thrown ⟨Nat.le_of_ble_eq_true rfl, Nat.le_of_ble_eq_true rfl⟩ rfl hl.1 (Nat.le_of_ble_eq_true rfl) dL_law_648 rfl rfl hc1 rfl (fun H locs hw => ?_)
          refine lv_iload C.1.1 C.1.2.1 dL_law_651 (lv_at hl 1 rfl) ?_
          refine lv_icmp_eq (tgt := 658) C.1.1 C.1.2.1 dL_law_653 (by decide) (fun c134 => ?_) (fun c134 => ?_)
          · replace hD := g_pos c134 hD
            refine lv_iload C.1.1 C.1.2.1 dL_law_658 (lv_at hl 1 rfl) ?_
            refine lv_if_ne (tgt := 675) C.1.1 C.1.2.1 dL_law_660 (by decide) (fun c135 => ?_) (fun c135 => ?_)
            · replace hD := g_neg c135 hD
              exact hb675 v4 M131 L132 _ _ ls hD hw (lv_sub hl [2, 3, 4, 5, 6] rfl)
            · replace hD := g_pos c135 hD
              refine lv_aload_n C.1.1 C.1.2.1 dL_law_663 rfl (lv_at hl 5 rfl) ?_
              refine lv_iconst (v := 0) C.1.1 C.1.2.1 dL_law_664 (by decide) ?_
              refine mr_lald C hw (by decide) tf_1577 (show vp_in 0 1 from by unfold vp_in; decide) dL_law_665 ?_
              refine lv_iload C.1.1 C.1.2.1 dL_law_666 (lv_at hl 0 rfl) ?_
              refine lv_i2l C.1.1 C.1.2.1 dL_law_668 rfl ?_
              refine W.lcmp C.1.1 C.1.2.1 dL_law_669 ?_
              refine lv_if_eq (tgt := 675) C.1.1 C.1.2.1 dL_law_670 (by decide) (fun c137 => ?_) (fun c137 => ?_)
              · replace hD := g_pos c137 hD
                exact hb675 v4 M131 L132 _ _ ls hD hw (lv_sub hl [2, 3, 4, 5, 6] rfl)
              · replace hD := g_neg c137 hD
                refine lv_iconst (v := 0) C.1.1 C.1.2.1 dL_law_673 (by decide) ?_
                exact hret _ _ _ _ _ _ _ _ _ (by omega) (by omega) dL_law_674 hw hD
          · replace hD := g_neg c134 hD
            refine lv_iconst (v := 0) C.1.1 C.1.2.1 dL_law_656 (by decide) ?_
            exact hret _ _ _ _ _ _ _ _ _ (by omega) (by omega) dL_law_657 hw hD
        replace hD := g_neg c122 hD
        by_cases c138 : x3 = 10
        · replace hD := g_pos c138 hD
          refine lv_tableIn (tgt := 678) C.1.1 C.1.2.1 dL_law_39 (by rw [c138]; decide) (by rw [c138]; decide) (off := 639) (by rw [c138]; decide) (by decide) ?_
          refine lv_aload_n C.1.1 C.1.2.1 dL_law_678 rfl (lv_at hl 1 rfl) ?_
          refine lv_aload_n C.1.1 C.1.2.1 dL_law_679 rfl (lv_at hl 0 rfl) ?_
          refine lv_iload C.1.1 C.1.2.1 dL_law_680 (lv_at hl 4 rfl) ?_
          refine lv_iconst (v := 1) C.1.1 C.1.2.1 dL_law_682 (by decide) ?_
          refine lv_iadd C.1.1 C.1.2.1 dL_law_683 ?_
          obtain ⟨q139, hD⟩ := g_ck hD
          refine va_sld C.1.1 C.1.2.1 hX hbl hbA hw.2.2 q139 dL_law_684 ?_
          refine lv_aload_n C.1.1 C.1.2.1 dL_law_685 rfl (lv_at hl 0 rfl) ?_
          refine lv_iload C.1.1 C.1.2.1 dL_law_686 (lv_at hl 4 rfl) ?_
          refine lv_iconst (v := 2) C.1.1 C.1.2.1 dL_law_688 (by decide) ?_
          refine lv_iadd C.1.1 C.1.2.1 dL_law_689 ?_
          obtain ⟨q140, hD⟩ := g_ck hD
          refine va_sld C.1.1 C.1.2.1 hX hbl hbA hw.2.2 q140 dL_law_690 ?_
          refine lv_aload_n C.1.1 C.1.2.1 dL_law_691 rfl (lv_at hl 3 rfl) ?_
          obtain ⟨r143, M141, L142, h1, hD⟩ := g_b3 hD
          refine mx_csI (As := [.ref (mw_ad G 0), .int (xs (v4 + 1).toNatClampNeg), .int (xs (v4 + 2).toNatClampNeg), .ref (mw_ad G 1577)]) (rest := []) C KX hw (tL_node l G (mw_ad G) fu (xs (v4 + 1).toNatClampNeg) (xs (v4 + 2).toNatClampNeg) M L hst h1) wd_1793 cwL_node ⟨Nat.le_of_ble_eq_true rfl, Nat.le_of_ble_eq_true rfl⟩ rfl hl.1 (Nat.le_of_ble_eq_true rfl) dL_law_692 rfl rfl hc1 rfl (fun H locs hw => ?_)
          refine lv_istore (lv' := [(5, .int r143), (0, .ref b), (1, .ref (mw_ad G 0)), (2, .ref (mw_ad G 732)), (3, .ref (mw_ad G 1577)), (4, .int v4)]) C.1.1 C.1.2.1 dL_law_695 hl (by decide) rfl (fun ls hl => ?_)
          refine lv_aload_n C.1.1 C.1.2.1 dL_law_697 rfl (lv_at hl 3 rfl) ?_
          refine lv_aload_n C.1.1 C.1.2.1 dL_law_698 rfl (lv_at hl 1 rfl) ?_
          refine lv_iload C.1.1 C.1.2.1 dL_law_699 (lv_at hl 5 rfl) ?_
          refine lv_iconst (v := 1) C.1.1 C.1.2.1 dL_law_701 (by decide) ?_
          refine lv_iadd C.1.1 C.1.2.1 dL_law_702 ?_
          obtain ⟨q144, hD⟩ := g_ck hD
          refine va_sld C.1.1 C.1.2.1 hX hbl hbA hw.2.2 q144 dL_law_703 ?_
          refine lv_aload_n C.1.1 C.1.2.1 dL_law_704 rfl (lv_at hl 1 rfl) ?_
          refine lv_iload C.1.1 C.1.2.1 dL_law_705 (lv_at hl 5 rfl) ?_
          refine lv_iconst (v := 2) C.1.1 C.1.2.1 dL_law_707 (by decide) ?_
          refine lv_iadd C.1.1 C.1.2.1 dL_law_708 ?_
          obtain ⟨q145, hD⟩ := g_ck hD
          refine va_sld C.1.1 C.1.2.1 hX hbl hbA hw.2.2 q145 dL_law_709 ?_
          obtain ⟨r148, M146, L147, h1, hD⟩ := g_b3 hD
          refine md_cvI (As := [.int (xs (v4 + 1).toNatClampNeg), .int (xs (v4 + 2).toNatClampNeg)]) (rest := []) C hw (tX19_node l G (mw_ad G) fu (xs (v4 + 1).toNatClampNeg) (xs (v4 + 2).toNatClampNeg) M141 L142 h1) kc_19 (by decide) tf_732 wd_4214 cwX19_node ⟨Nat.le_of_ble_eq_true rfl, Nat.le_of_ble_eq_true rfl⟩ rfl hl.1 (Nat.le_of_ble_eq_true rfl) dL_law_710 rfl rfl hc1 rfl (fun H locs hw => ?_)
          refine lv_istore (lv' := [(6, .int r148), (5, .int r143), (0, .ref b), (1, .ref (mw_ad G 0)), (2, .ref (mw_ad G 732)), (3, .ref (mw_ad G 1577)), (4, .int v4)]) C.1.1 C.1.2.1 dL_law_713 hl (by decide) rfl (fun ls hl => ?_)
          refine lv_aload_n C.1.1 C.1.2.1 dL_law_715 rfl (lv_at hl 4 rfl) ?_
          obtain ⟨r151, M149, L150, h1, hD⟩ := g_b3 hD
          refine md_cvI (As := []) (rest := []) C hw (tX19_thrown l G (mw_ad G) fu M146 L147 h1) kc_19 (by decide) tf_732 wd_3118 cwX19_thrown ⟨Nat.le_of_ble_eq_true rfl, Nat.le_of_ble_eq_true rfl⟩ rfl hl.1 (Nat.le_of_ble_eq_true rfl) dL_law_716 rfl rfl hc1 rfl (fun H locs hw => ?_)
          refine lv_iload C.1.1 C.1.2.1 dL_law_719 (lv_at hl 1 rfl) ?_
          refine lv_icmp_eq (tgt := 726) C.1.1 C.1.2.1 dL_law_721 (by decide) (fun c152 => ?_) (fun c152 => ?_)
          · replace hD := g_pos c152 hD
            refine lv_iload C.1.1 C.1.2.1 dL_law_726 (lv_at hl 1 rfl) ?_
            refine lv_if_ne (tgt := 743) C.1.1 C.1.2.1 dL_law_728 (by decide) (fun c153 => ?_) (fun c153 => ?_)
            · replace hD := g_neg c153 hD
              exact hb743 v4 M149 L150 _ _ ls hD hw (lv_sub hl [2, 3, 4, 5, 6] rfl)
            · replace hD := g_pos c153 hD
              refine lv_aload_n C.1.1 C.1.2.1 dL_law_731 rfl (lv_at hl 5 rfl) ?_
              refine lv_iconst (v := 0) C.1.1 C.1.2.1 dL_law_732 (by decide) ?_
              refine mr_lald C hw (by decide) tf_1577 (show vp_in 0 1 from by unfold vp_in; decide) dL_law_733 ?_
              refine lv_iload C.1.1 C.1.2.1 dL_law_734 (lv_at hl 0 rfl) ?_
              refine lv_i2l C.1.1 C.1.2.1 dL_law_736 rfl ?_
              refine W.lcmp C.1.1 C.1.2.1 dL_law_737 ?_
              refine lv_if_eq (tgt := 743) C.1.1 C.1.2.1 dL_law_738 (by decide) (fun c155 => ?_) (fun c155 => ?_)
              · replace hD := g_pos c155 hD
                exact hb743 v4 M149 L150 _ _ ls hD hw (lv_sub hl [2, 3, 4, 5, 6] rfl)
              · replace hD := g_neg c155 hD
                refine lv_iconst (v := 0) C.1.1 C.1.2.1 dL_law_741 (by decide) ?_
                exact hret _ _ _ _ _ _ _ _ _ (by omega) (by omega) dL_law_742 hw hD
          · replace hD := g_neg c152 hD
            refine lv_iconst (v := 0) C.1.1 C.1.2.1 dL_law_724 (by decide) ?_
            exact hret _ _ _ _ _ _ _ _ _ (by omega) (by omega) dL_law_725 hw hD
        replace hD := g_neg c138 hD
        by_cases c156 : x3 = 11
        · replace hD := g_pos c156 hD
          refine lv_tableIn (tgt := 746) C.1.1 C.1.2.1 dL_law_39 (by rw [c156]; decide) (by rw [c156]; decide) (off := 707) (by rw [c156]; decide) (by decide) ?_
          refine lv_aload_n C.1.1 C.1.2.1 dL_law_746 rfl (lv_at hl 1 rfl) ?_
          refine lv_aload_n C.1.1 C.1.2.1 dL_law_747 rfl (lv_at hl 0 rfl) ?_
          refine lv_iload C.1.1 C.1.2.1 dL_law_748 (lv_at hl 4 rfl) ?_
          refine lv_iconst (v := 1) C.1.1 C.1.2.1 dL_law_750 (by decide) ?_
          refine lv_iadd C.1.1 C.1.2.1 dL_law_751 ?_
          obtain ⟨q157, hD⟩ := g_ck hD
          refine va_sld C.1.1 C.1.2.1 hX hbl hbA hw.2.2 q157 dL_law_752 ?_
          refine lv_aload_n C.1.1 C.1.2.1 dL_law_753 rfl (lv_at hl 0 rfl) ?_
          refine lv_iload C.1.1 C.1.2.1 dL_law_754 (lv_at hl 4 rfl) ?_
          refine lv_iconst (v := 2) C.1.1 C.1.2.1 dL_law_756 (by decide) ?_
          refine lv_iadd C.1.1 C.1.2.1 dL_law_757 ?_
          obtain ⟨q158, hD⟩ := g_ck hD
          refine va_sld C.1.1 C.1.2.1 hX hbl hbA hw.2.2 q158 dL_law_758 ?_
          refine lv_aload_n C.1.1 C.1.2.1 dL_law_759 rfl (lv_at hl 3 rfl) ?_
          obtain ⟨r161, M159, L160, h1, hD⟩ := g_b3 hD
          refine mx_csI (As := [.ref (mw_ad G 0), .int (xs (v4 + 1).toNatClampNeg), .int (xs (v4 + 2).toNatClampNeg), .ref (mw_ad G 1577)]) (rest := []) C KX hw (tL_error l G (mw_ad G) fu (xs (v4 + 1).toNatClampNeg) (xs (v4 + 2).toNatClampNeg) M L hst h1) wd_1802 cwL_error ⟨Nat.le_of_ble_eq_true rfl, Nat.le_of_ble_eq_true rfl⟩ rfl hl.1 (Nat.le_of_ble_eq_true rfl) dL_law_760 rfl rfl hc1 rfl (fun H locs hw => ?_)
          refine lv_istore (lv' := [(5, .int r161), (0, .ref b), (1, .ref (mw_ad G 0)), (2, .ref (mw_ad G 732)), (3, .ref (mw_ad G 1577)), (4, .int v4)]) C.1.1 C.1.2.1 dL_law_763 hl (by decide) rfl (fun ls hl => ?_)
          refine lv_aload_n C.1.1 C.1.2.1 dL_law_765 rfl (lv_at hl 3 rfl) ?_
          refine lv_aload_n C.1.1 C.1.2.1 dL_law_766 rfl (lv_at hl 1 rfl) ?_
          refine lv_iload C.1.1 C.1.2.1 dL_law_767 (lv_at hl 5 rfl) ?_
          refine lv_iconst (v := 1) C.1.1 C.1.2.1 dL_law_769 (by decide) ?_
          refine lv_iadd C.1.1 C.1.2.1 dL_law_770 ?_
          obtain ⟨q162, hD⟩ := g_ck hD
          refine va_sld C.1.1 C.1.2.1 hX hbl hbA hw.2.2 q162 dL_law_771 ?_
          refine lv_aload_n C.1.1 C.1.2.1 dL_law_772 rfl (lv_at hl 1 rfl) ?_
          refine lv_iload C.1.1 C.1.2.1 dL_law_773 (lv_at hl 5 rfl) ?_
          refine lv_iconst (v := 2) C.1.1 C.1.2.1 dL_law_775 (by decide) ?_
          refine lv_iadd C.1.1 C.1.2.1 dL_law_776 ?_
          obtain ⟨q163, hD⟩ := g_ck hD
          refine va_sld C.1.1 C.1.2.1 hX hbl hbA hw.2.2 q163 dL_law_777 ?_
          obtain ⟨r166, M164, L165, h1, hD⟩ := g_b3 hD
          refine md_cvI (As := [.int (xs (v4 + 1).toNatClampNeg), .int (xs (v4 + 2).toNatClampNeg)]) (rest := []) C hw (tX19_error l G (mw_ad G) fu (xs (v4 + 1).toNatClampNeg) (xs (v4 + 2).toNatClampNeg) M159 L160 h1) kc_19 (by decide) tf_732 wd_4226 cwX19_error ⟨Nat.le_of_ble_eq_true rfl, Nat.le_of_ble_eq_true rfl⟩ rfl hl.1 (Nat.le_of_ble_eq_true rfl) dL_law_778 rfl rfl hc1 rfl (fun H locs hw => ?_)
          refine lv_istore (lv' := [(6, .int r166), (5, .int r161), (0, .ref b), (1, .ref (mw_ad G 0)), (2, .ref (mw_ad G 732)), (3, .ref (mw_ad G 1577)), (4, .int v4)]) C.1.1 C.1.2.1 dL_law_781 hl (by decide) rfl (fun ls hl => ?_)
          refine lv_aload_n C.1.1 C.1.2.1 dL_law_783 rfl (lv_at hl 4 rfl) ?_
          obtain ⟨r169, M167, L168, h1, hD⟩ := g_b3 hD
          refine md_cvI (As := []) (rest := []) C hw (tX19_thrown l G (mw_ad G) fu M164 L165 h1) kc_19 (by decide) tf_732 wd_3118 cwX19_thrown ⟨Nat.le_of_ble_eq_true rfl, Nat.le_of_ble_eq_true rfl⟩ rfl hl.1 (Nat.le_of_ble_eq_true rfl) dL_law_784 rfl rfl hc1 rfl (fun H locs hw => ?_)
          refine lv_iload C.1.1 C.1.2.1 dL_law_787 (lv_at hl 1 rfl) ?_
          refine lv_icmp_eq (tgt := 794) C.1.1 C.1.2.1 dL_law_789 (by decide) (fun c170 => ?_) (fun c170 => ?_)
          · replace hD := g_pos c170 hD
            refine lv_iload C.1.1 C.1.2.1 dL_law_794 (lv_at hl 1 rfl) ?_
            refine lv_if_ne (tgt := 811) C.1.1 C.1.2.1 dL_law_796 (by decide) (fun c171 => ?_) (fun c171 => ?_)
            · replace hD := g_neg c171 hD
              exact hb811 v4 M167 L168 _ _ ls hD hw (lv_sub hl [2, 3, 4, 5, 6] rfl)
            · replace hD := g_pos c171 hD
              refine lv_aload_n C.1.1 C.1.2.1 dL_law_799 rfl (lv_at hl 5 rfl) ?_
              refine lv_iconst (v := 0) C.1.1 C.1.2.1 dL_law_800 (by decide) ?_
              refine mr_lald C hw (by decide) tf_1577 (show vp_in 0 1 from by unfold vp_in; decide) dL_law_801 ?_
              refine lv_iload C.1.1 C.1.2.1 dL_law_802 (lv_at hl 0 rfl) ?_
              refine lv_i2l C.1.1 C.1.2.1 dL_law_804 rfl ?_
              refine W.lcmp C.1.1 C.1.2.1 dL_law_805 ?_
              refine lv_if_eq (tgt := 811) C.1.1 C.1.2.1 dL_law_806 (by decide) (fun c173 => ?_) (fun c173 => ?_)
              · replace hD := g_pos c173 hD
                exact hb811 v4 M167 L168 _ _ ls hD hw (lv_sub hl [2, 3, 4, 5, 6] rfl)
              · replace hD := g_neg c173 hD
                refine lv_iconst (v := 0) C.1.1 C.1.2.1 dL_law_809 (by decide) ?_
                exact hret _ _ _ _ _ _ _ _ _ (by omega) (by omega) dL_law_810 hw hD
          · replace hD := g_neg c170 hD
            refine lv_iconst (v := 0) C.1.1 C.1.2.1 dL_law_792 (by decide) ?_
            exact hret _ _ _ _ _ _ _ _ _ (by omega) (by omega) dL_law_793 hw hD
        replace hD := g_neg c156 hD
        by_cases c174 : x3 = 12
        · replace hD := g_pos c174 hD
          refine lv_tableIn (tgt := 814) C.1.1 C.1.2.1 dL_law_39 (by rw [c174]; decide) (by rw [c174]; decide) (off := 775) (by rw [c174]; decide) (by decide) ?_
          refine lv_aload_n C.1.1 C.1.2.1 dL_law_814 rfl (lv_at hl 1 rfl) ?_
          refine lv_aload_n C.1.1 C.1.2.1 dL_law_815 rfl (lv_at hl 0 rfl) ?_
          refine lv_iload C.1.1 C.1.2.1 dL_law_816 (lv_at hl 4 rfl) ?_
          refine lv_iconst (v := 1) C.1.1 C.1.2.1 dL_law_818 (by decide) ?_
          refine lv_iadd C.1.1 C.1.2.1 dL_law_819 ?_
          obtain ⟨q175, hD⟩ := g_ck hD
          refine va_sld C.1.1 C.1.2.1 hX hbl hbA hw.2.2 q175 dL_law_820 ?_
          refine lv_aload_n C.1.1 C.1.2.1 dL_law_821 rfl (lv_at hl 0 rfl) ?_
          refine lv_iload C.1.1 C.1.2.1 dL_law_822 (lv_at hl 4 rfl) ?_
          refine lv_iconst (v := 2) C.1.1 C.1.2.1 dL_law_824 (by decide) ?_
          refine lv_iadd C.1.1 C.1.2.1 dL_law_825 ?_
          obtain ⟨q176, hD⟩ := g_ck hD
          refine va_sld C.1.1 C.1.2.1 hX hbl hbA hw.2.2 q176 dL_law_826 ?_
          obtain ⟨r179, M177, L178, h1, hD⟩ := g_b3 hD
          refine mx_csI (As := [.ref (mw_ad G 0), .int (xs (v4 + 1).toNatClampNeg), .int (xs (v4 + 2).toNatClampNeg)]) (rest := []) C KX hw (tL_flip l G (mw_ad G) fu (xs (v4 + 1).toNatClampNeg) (xs (v4 + 2).toNatClampNeg) M L hst h1) wd_1815 cwL_flip ⟨Nat.le_of_ble_eq_true rfl, Nat.le_of_ble_eq_true rfl⟩ rfl hl.1 (Nat.le_of_ble_eq_true rfl) dL_law_827 rfl rfl hc1 rfl (fun H locs hw => ?_)
          refine lv_istore (lv' := [(5, .int r179), (0, .ref b), (1, .ref (mw_ad G 0)), (2, .ref (mw_ad G 732)), (3, .ref (mw_ad G 1577)), (4, .int v4)]) C.1.1 C.1.2.1 dL_law_830 hl (by decide) rfl (fun ls hl => ?_)
          refine lv_aload_n C.1.1 C.1.2.1 dL_law_832 rfl (lv_at hl 3 rfl) ?_
          refine lv_aload_n C.1.1 C.1.2.1 dL_law_833 rfl (lv_at hl 1 rfl) ?_
          refine lv_iload C.1.1 C.1.2.1 dL_law_834 (lv_at hl 5 rfl) ?_
          refine lv_iconst (v := 1) C.1.1 C.1.2.1 dL_law_836 (by decide) ?_
          refine lv_iadd C.1.1 C.1.2.1 dL_law_837 ?_
          obtain ⟨q180, hD⟩ := g_ck hD
          refine va_sld C.1.1 C.1.2.1 hX hbl hbA hw.2.2 q180 dL_law_838 ?_
          refine lv_aload_n C.1.1 C.1.2.1 dL_law_839 rfl (lv_at hl 1 rfl) ?_
          refine lv_iload C.1.1 C.1.2.1 dL_law_840 (lv_at hl 5 rfl) ?_
          refine lv_iconst (v := 2) C.1.1 C.1.2.1 dL_law_842 (by decide) ?_
          refine lv_iadd C.1.1 C.1.2.1 dL_law_843 ?_
          obtain ⟨q181, hD⟩ := g_ck hD
          refine va_sld C.1.1 C.1.2.1 hX hbl hbA hw.2.2 q181 dL_law_844 ?_
          obtain ⟨M182, L183, h1, hD⟩ := g_b2 hD
          refine md_cvV (As := [.int (xs (v4 + 1).toNatClampNeg), .int (xs (v4 + 2).toNatClampNeg)]) (rest := []) C hw (tX19_flip l G (mw_ad G) fu (xs (v4 + 1).toNatClampNeg) (xs (v4 + 2).toNatClampNeg) M177 L178 h1) kc_19 (by decide) tf_732 wd_4234 cwX19_flip ⟨Nat.le_of_ble_eq_true rfl, Nat.le_of_ble_eq_true rfl⟩ rfl hl.1 (Nat.le_of_ble_eq_true rfl) dL_law_845 rfl rfl hc1 rfl (fun H locs hw => ?_)
          refine lv_aload_n C.1.1 C.1.2.1 dL_law_848 rfl (lv_at hl 3 rfl) ?_
          obtain ⟨r186, M184, L185, h1, hD⟩ := g_b3 hD
          refine md_cvI (As := []) (rest := []) C hw (tX19_thrown l G (mw_ad G) fu M182 L183 h1) kc_19 (by decide) tf_732 wd_3118 cwX19_thrown ⟨Nat.le_of_ble_eq_true rfl, Nat.le_of_ble_eq_true rfl⟩ rfl hl.1 (Nat.le_of_ble_eq_true rfl) dL_law_849 rfl rfl hc1 rfl (fun H locs hw => ?_)
          refine lv_iload C.1.1 C.1.2.1 dL_law_852 (lv_at hl 0 rfl) ?_
          refine lv_icmp_eq (tgt := 859) C.1.1 C.1.2.1 dL_law_854 (by decide) (fun c187 => ?_) (fun c187 => ?_)
          · replace hD := g_pos c187 hD
            refine lv_goto (tgt := 1646) C.1.1 C.1.2.1 dL_law_859 (by decide) ?_
            exact hb1646 v4 M184 L185 _ _ ls hD hw (lv_sub hl [1, 2, 3, 4, 5] rfl)
          · replace hD := g_neg c187 hD
            refine lv_iconst (v := 0) C.1.1 C.1.2.1 dL_law_857 (by decide) ?_
            exact hret _ _ _ _ _ _ _ _ _ (by omega) (by omega) dL_law_858 hw hD
        replace hD := g_neg c174 hD
        by_cases c188 : x3 = 13
        · replace hD := g_pos c188 hD
          refine lv_tableIn (tgt := 862) C.1.1 C.1.2.1 dL_law_39 (by rw [c188]; decide) (by rw [c188]; decide) (off := 823) (by rw [c188]; decide) (by decide) ?_
          refine lv_aload_n C.1.1 C.1.2.1 dL_law_862 rfl (lv_at hl 1 rfl) ?_
          refine lv_aload_n C.1.1 C.1.2.1 dL_law_863 rfl (lv_at hl 0 rfl) ?_
          refine lv_iload C.1.1 C.1.2.1 dL_law_864 (lv_at hl 4 rfl) ?_
          refine lv_iconst (v := 1) C.1.1 C.1.2.1 dL_law_866 (by decide) ?_
          refine lv_iadd C.1.1 C.1.2.1 dL_law_867 ?_
          obtain ⟨q189, hD⟩ := g_ck hD
          refine va_sld C.1.1 C.1.2.1 hX hbl hbA hw.2.2 q189 dL_law_868 ?_
          refine lv_aload_n C.1.1 C.1.2.1 dL_law_869 rfl (lv_at hl 0 rfl) ?_
          refine lv_iload C.1.1 C.1.2.1 dL_law_870 (lv_at hl 4 rfl) ?_
          refine lv_iconst (v := 2) C.1.1 C.1.2.1 dL_law_872 (by decide) ?_
          refine lv_iadd C.1.1 C.1.2.1 dL_law_873 ?_
          obtain ⟨q190, hD⟩ := g_ck hD
          refine va_sld C.1.1 C.1.2.1 hX hbl hbA hw.2.2 q190 dL_law_874 ?_
          refine lv_if_eq (tgt := 882) C.1.1 C.1.2.1 dL_law_875 (by decide) (fun c191 => ?_) (fun c191 => ?_)
          · replace hD := g_pos c191 hD
            refine lv_iconst (v := 0) C.1.1 C.1.2.1 dL_law_882 (by decide) ?_
            exact hb883 v4 (xs (v4 + 1).toNatClampNeg) 0 M L _ _ ls hD hw (lv_sub hl [0, 1, 2, 3, 4] rfl)
          · replace hD := g_neg c191 hD
            refine lv_iconst (v := 1) C.1.1 C.1.2.1 dL_law_878 (by decide) ?_
            refine lv_goto (tgt := 883) C.1.1 C.1.2.1 dL_law_879 (by decide) ?_
            exact hb883 v4 (xs (v4 + 1).toNatClampNeg) 1 M L _ _ ls hD hw (lv_sub hl [0, 1, 2, 3, 4] rfl)
        replace hD := g_neg c188 hD
        by_cases c192 : x3 = 14
        · replace hD := g_pos c192 hD
          refine lv_tableIn (tgt := 946) C.1.1 C.1.2.1 dL_law_39 (by rw [c192]; decide) (by rw [c192]; decide) (off := 907) (by rw [c192]; decide) (by decide) ?_
          refine lv_aload_n C.1.1 C.1.2.1 dL_law_946 rfl (lv_at hl 1 rfl) ?_
          refine lv_aload_n C.1.1 C.1.2.1 dL_law_947 rfl (lv_at hl 0 rfl) ?_
          refine lv_iload C.1.1 C.1.2.1 dL_law_948 (lv_at hl 4 rfl) ?_
          refine lv_iconst (v := 1) C.1.1 C.1.2.1 dL_law_950 (by decide) ?_
          refine lv_iadd C.1.1 C.1.2.1 dL_law_951 ?_
          obtain ⟨q193, hD⟩ := g_ck hD
          refine va_sld C.1.1 C.1.2.1 hX hbl hbA hw.2.2 q193 dL_law_952 ?_
          refine lv_aload_n C.1.1 C.1.2.1 dL_law_953 rfl (lv_at hl 0 rfl) ?_
          refine lv_iload C.1.1 C.1.2.1 dL_law_954 (lv_at hl 4 rfl) ?_
          refine lv_iconst (v := 2) C.1.1 C.1.2.1 dL_law_956 (by decide) ?_
          refine lv_iadd C.1.1 C.1.2.1 dL_law_957 ?_
          obtain ⟨q194, hD⟩ := g_ck hD
          refine va_sld C.1.1 C.1.2.1 hX hbl hbA hw.2.2 q194 dL_law_958 ?_
          refine lv_aload_n C.1.1 C.1.2.1 dL_law_959 rfl (lv_at hl 3 rfl) ?_
          obtain ⟨r197, M195, L196, h1, hD⟩ := g_b3 hD
          refine mx_csI (As := [.ref (mw_ad G 0), .int (xs (v4 + 1).toNatClampNeg), .int (xs (v4 + 2).toNatClampNeg), .ref (mw_ad G 1577)]) (rest := []) C KX hw (tL_running l G (mw_ad G) fu (xs (v4 + 1).toNatClampNeg) (xs (v4 + 2).toNatClampNeg) M L hst h1) wd_1831 cwL_running ⟨Nat.le_of_ble_eq_true rfl, Nat.le_of_ble_eq_true rfl⟩ rfl hl.1 (Nat.le_of_ble_eq_true rfl) dL_law_960 rfl rfl hc1 rfl (fun H locs hw => ?_)
          refine lv_istore (lv' := [(5, .int r197), (0, .ref b), (1, .ref (mw_ad G 0)), (2, .ref (mw_ad G 732)), (3, .ref (mw_ad G 1577)), (4, .int v4)]) C.1.1 C.1.2.1 dL_law_963 hl (by decide) rfl (fun ls hl => ?_)
          refine lv_aload_n C.1.1 C.1.2.1 dL_law_965 rfl (lv_at hl 3 rfl) ?_
          refine lv_aload_n C.1.1 C.1.2.1 dL_law_966 rfl (lv_at hl 1 rfl) ?_
          refine lv_iload C.1.1 C.1.2.1 dL_law_967 (lv_at hl 5 rfl) ?_
          refine lv_iconst (v := 1) C.1.1 C.1.2.1 dL_law_969 (by decide) ?_
          refine lv_iadd C.1.1 C.1.2.1 dL_law_970 ?_
          obtain ⟨q198, hD⟩ := g_ck hD
          refine va_sld C.1.1 C.1.2.1 hX hbl hbA hw.2.2 q198 dL_law_971 ?_
          refine lv_aload_n C.1.1 C.1.2.1 dL_law_972 rfl (lv_at hl 1 rfl) ?_
          refine lv_iload C.1.1 C.1.2.1 dL_law_973 (lv_at hl 5 rfl) ?_
          refine lv_iconst (v := 2) C.1.1 C.1.2.1 dL_law_975 (by decide) ?_
          refine lv_iadd C.1.1 C.1.2.1 dL_law_976 ?_
          obtain ⟨q199, hD⟩ := g_ck hD
          refine va_sld C.1.1 C.1.2.1 hX hbl hbA hw.2.2 q199 dL_law_977 ?_
          obtain ⟨r202, M200, L201, h1, hD⟩ := g_b3 hD
          refine md_cvI (As := [.int (xs (v4 + 1).toNatClampNeg), .int (xs (v4 + 2).toNatClampNeg)]) (rest := []) C hw (tX19_running l G (mw_ad G) fu (xs (v4 + 1).toNatClampNeg) (xs (v4 + 2).toNatClampNeg) M195 L196 h1) kc_19 (by decide) tf_732 wd_4250 cwX19_running ⟨Nat.le_of_ble_eq_true rfl, Nat.le_of_ble_eq_true rfl⟩ rfl hl.1 (Nat.le_of_ble_eq_true rfl) dL_law_978 rfl rfl hc1 rfl (fun H locs hw => ?_)
          refine lv_istore (lv' := [(6, .int r202), (5, .int r197), (0, .ref b), (1, .ref (mw_ad G 0)), (2, .ref (mw_ad G 732)), (3, .ref (mw_ad G 1577)), (4, .int v4)]) C.1.1 C.1.2.1 dL_law_981 hl (by decide) rfl (fun ls hl => ?_)
          refine lv_aload_n C.1.1 C.1.2.1 dL_law_983 rfl (lv_at hl 4 rfl) ?_
          obtain ⟨r205, M203, L204, h1, hD⟩ := g_b3 hD
          refine md_cvI (As := []) (rest := []) C hw (tX19_thrown l G (mw_ad G) fu M200 L201 h1) kc_19 (by decide) tf_732 wd_3118 cwX19_thrown ⟨Nat.le_of_ble_eq_true rfl, Nat.le_of_ble_eq_true rfl⟩ rfl hl.1 (Nat.le_of_ble_eq_true rfl) dL_law_984 rfl rfl hc1 rfl (fun H locs hw => ?_)
          refine lv_iload C.1.1 C.1.2.1 dL_law_987 (lv_at hl 1 rfl) ?_
          refine lv_icmp_eq (tgt := 994) C.1.1 C.1.2.1 dL_law_989 (by decide) (fun c206 => ?_) (fun c206 => ?_)
          · replace hD := g_pos c206 hD
            refine lv_iload C.1.1 C.1.2.1 dL_law_994 (lv_at hl 1 rfl) ?_
            refine lv_if_ne (tgt := 1011) C.1.1 C.1.2.1 dL_law_996 (by decide) (fun c207 => ?_) (fun c207 => ?_)
            · replace hD := g_neg c207 hD
              exact hb1011 v4 M203 L204 _ _ ls hD hw (lv_sub hl [2, 3, 4, 5, 6] rfl)
            · replace hD := g_pos c207 hD
              refine lv_aload_n C.1.1 C.1.2.1 dL_law_999 rfl (lv_at hl 5 rfl) ?_
              refine lv_iconst (v := 0) C.1.1 C.1.2.1 dL_law_1000 (by decide) ?_
              refine mr_lald C hw (by decide) tf_1577 (show vp_in 0 1 from by unfold vp_in; decide) dL_law_1001 ?_
              refine lv_iload C.1.1 C.1.2.1 dL_law_1002 (lv_at hl 0 rfl) ?_
              refine lv_i2l C.1.1 C.1.2.1 dL_law_1004 rfl ?_
              refine W.lcmp C.1.1 C.1.2.1 dL_law_1005 ?_
              refine lv_if_eq (tgt := 1011) C.1.1 C.1.2.1 dL_law_1006 (by decide) (fun c209 => ?_) (fun c209 => ?_)
              · replace hD := g_pos c209 hD
                exact hb1011 v4 M203 L204 _ _ ls hD hw (lv_sub hl [2, 3, 4, 5, 6] rfl)
              · replace hD := g_neg c209 hD
                refine lv_iconst (v := 0) C.1.1 C.1.2.1 dL_law_1009 (by decide) ?_
                exact hret _ _ _ _ _ _ _ _ _ (by omega) (by omega) dL_law_1010 hw hD
          · replace hD := g_neg c206 hD
            refine lv_iconst (v := 0) C.1.1 C.1.2.1 dL_law_992 (by decide) ?_
            exact hret _ _ _ _ _ _ _ _ _ (by omega) (by omega) dL_law_993 hw hD
        replace hD := g_neg c192 hD
        by_cases c210 : x3 = 15
        · replace hD := g_pos c210 hD
          refine lv_tableIn (tgt := 1014) C.1.1 C.1.2.1 dL_law_39 (by rw [c210]; decide) (by rw [c210]; decide) (off := 975) (by rw [c210]; decide) (by decide) ?_
          refine lv_aload_n C.1.1 C.1.2.1 dL_law_1014 rfl (lv_at hl 1 rfl) ?_
          refine lv_aload_n C.1.1 C.1.2.1 dL_law_1015 rfl (lv_at hl 0 rfl) ?_
          refine lv_iload C.1.1 C.1.2.1 dL_law_1016 (lv_at hl 4 rfl) ?_
          refine lv_iconst (v := 1) C.1.1 C.1.2.1 dL_law_1018 (by decide) ?_
          refine lv_iadd C.1.1 C.1.2.1 dL_law_1019 ?_
          obtain ⟨q211, hD⟩ := g_ck hD
          refine va_sld C.1.1 C.1.2.1 hX hbl hbA hw.2.2 q211 dL_law_1020 ?_
          refine lv_aload_n C.1.1 C.1.2.1 dL_law_1021 rfl (lv_at hl 0 rfl) ?_
          refine lv_iload C.1.1 C.1.2.1 dL_law_1022 (lv_at hl 4 rfl) ?_
          refine lv_iconst (v := 2) C.1.1 C.1.2.1 dL_law_1024 (by decide) ?_
          refine lv_iadd C.1.1 C.1.2.1 dL_law_1025 ?_
          obtain ⟨q212, hD⟩ := g_ck hD
          refine va_sld C.1.1 C.1.2.1 hX hbl hbA hw.2.2 q212 dL_law_1026 ?_
          refine lv_aload_n C.1.1 C.1.2.1 dL_law_1027 rfl (lv_at hl 3 rfl) ?_
          obtain ⟨r215, M213, L214, h1, hD⟩ := g_b3 hD
          refine mx_csI (As := [.ref (mw_ad G 0), .int (xs (v4 + 1).toNatClampNeg), .int (xs (v4 + 2).toNatClampNeg), .ref (mw_ad G 1577)]) (rest := []) C KX hw (tL_task l G (mw_ad G) fu (xs (v4 + 1).toNatClampNeg) (xs (v4 + 2).toNatClampNeg) M L hst h1) wd_1843 cwL_task ⟨Nat.le_of_ble_eq_true rfl, Nat.le_of_ble_eq_true rfl⟩ rfl hl.1 (Nat.le_of_ble_eq_true rfl) dL_law_1028 rfl rfl hc1 rfl (fun H locs hw => ?_)
          refine lv_istore (lv' := [(5, .int r215), (0, .ref b), (1, .ref (mw_ad G 0)), (2, .ref (mw_ad G 732)), (3, .ref (mw_ad G 1577)), (4, .int v4)]) C.1.1 C.1.2.1 dL_law_1031 hl (by decide) rfl (fun ls hl => ?_)
          refine lv_aload_n C.1.1 C.1.2.1 dL_law_1033 rfl (lv_at hl 3 rfl) ?_
          refine lv_aload_n C.1.1 C.1.2.1 dL_law_1034 rfl (lv_at hl 1 rfl) ?_
          refine lv_iload C.1.1 C.1.2.1 dL_law_1035 (lv_at hl 5 rfl) ?_
          refine lv_iconst (v := 1) C.1.1 C.1.2.1 dL_law_1037 (by decide) ?_
          refine lv_iadd C.1.1 C.1.2.1 dL_law_1038 ?_
          obtain ⟨q216, hD⟩ := g_ck hD
          refine va_sld C.1.1 C.1.2.1 hX hbl hbA hw.2.2 q216 dL_law_1039 ?_
          refine lv_aload_n C.1.1 C.1.2.1 dL_law_1040 rfl (lv_at hl 1 rfl) ?_
          refine lv_iload C.1.1 C.1.2.1 dL_law_1041 (lv_at hl 5 rfl) ?_
          refine lv_iconst (v := 2) C.1.1 C.1.2.1 dL_law_1043 (by decide) ?_
          refine lv_iadd C.1.1 C.1.2.1 dL_law_1044 ?_
          obtain ⟨q217, hD⟩ := g_ck hD
          refine va_sld C.1.1 C.1.2.1 hX hbl hbA hw.2.2 q217 dL_law_1045 ?_
          obtain ⟨r220, M218, L219, h1, hD⟩ := g_b3 hD
          refine md_cvI (As := [.int (xs (v4 + 1).toNatClampNeg), .int (xs (v4 + 2).toNatClampNeg)]) (rest := []) C hw (tX19_task l G (mw_ad G) fu (xs (v4 + 1).toNatClampNeg) (xs (v4 + 2).toNatClampNeg) M213 L214 h1) kc_19 (by decide) tf_732 wd_4258 cwX19_task ⟨Nat.le_of_ble_eq_true rfl, Nat.le_of_ble_eq_true rfl⟩ rfl hl.1 (Nat.le_of_ble_eq_true rfl) dL_law_1046 rfl rfl hc1 rfl (fun H locs hw => ?_)
          refine lv_istore (lv' := [(6, .int r220), (5, .int r215), (0, .ref b), (1, .ref (mw_ad G 0)), (2, .ref (mw_ad G 732)), (3, .ref (mw_ad G 1577)), (4, .int v4)]) C.1.1 C.1.2.1 dL_law_1049 hl (by decide) rfl (fun ls hl => ?_)
          refine lv_aload_n C.1.1 C.1.2.1 dL_law_1051 rfl (lv_at hl 4 rfl) ?_
          obtain ⟨r223, M221, L222, h1, hD⟩ := g_b3 hD
          refine md_cvI (As := []) (rest := []) C hw (tX19_thrown l G (mw_ad G) fu M218 L219 h1) kc_19 (by decide) tf_732 wd_3118 cwX19_thrown ⟨Nat.le_of_ble_eq_true rfl, Nat.le_of_ble_eq_true rfl⟩ rfl hl.1 (Nat.le_of_ble_eq_true rfl) dL_law_1052 rfl rfl hc1 rfl (fun H locs hw => ?_)
          refine lv_iload C.1.1 C.1.2.1 dL_law_1055 (lv_at hl 1 rfl) ?_
          refine lv_icmp_eq (tgt := 1062) C.1.1 C.1.2.1 dL_law_1057 (by decide) (fun c224 => ?_) (fun c224 => ?_)
          · replace hD := g_pos c224 hD
            refine lv_iload C.1.1 C.1.2.1 dL_law_1062 (lv_at hl 1 rfl) ?_
            refine lv_if_ne (tgt := 1079) C.1.1 C.1.2.1 dL_law_1064 (by decide) (fun c225 => ?_) (fun c225 => ?_)
            · replace hD := g_neg c225 hD
              exact hb1079 v4 M221 L222 _ _ ls hD hw (lv_sub hl [2, 3, 4, 5, 6] rfl)
            · replace hD := g_pos c225 hD
              refine lv_aload_n C.1.1 C.1.2.1 dL_law_1067 rfl (lv_at hl 5 rfl) ?_
              refine lv_iconst (v := 0) C.1.1 C.1.2.1 dL_law_1068 (by decide) ?_
              refine mr_lald C hw (by decide) tf_1577 (show vp_in 0 1 from by unfold vp_in; decide) dL_law_1069 ?_
              refine lv_iload C.1.1 C.1.2.1 dL_law_1070 (lv_at hl 0 rfl) ?_
              refine lv_i2l C.1.1 C.1.2.1 dL_law_1072 rfl ?_
              refine W.lcmp C.1.1 C.1.2.1 dL_law_1073 ?_
              refine lv_if_eq (tgt := 1079) C.1.1 C.1.2.1 dL_law_1074 (by decide) (fun c227 => ?_) (fun c227 => ?_)
              · replace hD := g_pos c227 hD
                exact hb1079 v4 M221 L222 _ _ ls hD hw (lv_sub hl [2, 3, 4, 5, 6] rfl)
              · replace hD := g_neg c227 hD
                refine lv_iconst (v := 0) C.1.1 C.1.2.1 dL_law_1077 (by decide) ?_
                exact hret _ _ _ _ _ _ _ _ _ (by omega) (by omega) dL_law_1078 hw hD
          · replace hD := g_neg c224 hD
            refine lv_iconst (v := 0) C.1.1 C.1.2.1 dL_law_1060 (by decide) ?_
            exact hret _ _ _ _ _ _ _ _ _ (by omega) (by omega) dL_law_1061 hw hD
        replace hD := g_neg c210 hD
        by_cases c228 : x3 = 16
        · replace hD := g_pos c228 hD
          refine lv_tableIn (tgt := 1082) C.1.1 C.1.2.1 dL_law_39 (by rw [c228]; decide) (by rw [c228]; decide) (off := 1043) (by rw [c228]; decide) (by decide) ?_
          refine lv_aload_n C.1.1 C.1.2.1 dL_law_1082 rfl (lv_at hl 1 rfl) ?_
          refine lv_aload_n C.1.1 C.1.2.1 dL_law_1083 rfl (lv_at hl 0 rfl) ?_
          refine lv_iload C.1.1 C.1.2.1 dL_law_1084 (lv_at hl 4 rfl) ?_
          refine lv_iconst (v := 1) C.1.1 C.1.2.1 dL_law_1086 (by decide) ?_
          refine lv_iadd C.1.1 C.1.2.1 dL_law_1087 ?_
          obtain ⟨q229, hD⟩ := g_ck hD
          refine va_sld C.1.1 C.1.2.1 hX hbl hbA hw.2.2 q229 dL_law_1088 ?_
          refine lv_aload_n C.1.1 C.1.2.1 dL_law_1089 rfl (lv_at hl 0 rfl) ?_
          refine lv_iload C.1.1 C.1.2.1 dL_law_1090 (lv_at hl 4 rfl) ?_
          refine lv_iconst (v := 2) C.1.1 C.1.2.1 dL_law_1092 (by decide) ?_
          refine lv_iadd C.1.1 C.1.2.1 dL_law_1093 ?_
          obtain ⟨q230, hD⟩ := g_ck hD
          refine va_sld C.1.1 C.1.2.1 hX hbl hbA hw.2.2 q230 dL_law_1094 ?_
          refine lv_aload_n C.1.1 C.1.2.1 dL_law_1095 rfl (lv_at hl 3 rfl) ?_
          obtain ⟨r233, M231, L232, h1, hD⟩ := g_b3 hD
          refine mx_csI (As := [.ref (mw_ad G 0), .int (xs (v4 + 1).toNatClampNeg), .int (xs (v4 + 2).toNatClampNeg), .ref (mw_ad G 1577)]) (rest := []) C KX hw (tL_active l G (mw_ad G) fu (xs (v4 + 1).toNatClampNeg) (xs (v4 + 2).toNatClampNeg) M L hst h1) wd_1852 cwL_active ⟨Nat.le_of_ble_eq_true rfl, Nat.le_of_ble_eq_true rfl⟩ rfl hl.1 (Nat.le_of_ble_eq_true rfl) dL_law_1096 rfl rfl hc1 rfl (fun H locs hw => ?_)
          refine lv_istore (lv' := [(5, .int r233), (0, .ref b), (1, .ref (mw_ad G 0)), (2, .ref (mw_ad G 732)), (3, .ref (mw_ad G 1577)), (4, .int v4)]) C.1.1 C.1.2.1 dL_law_1099 hl (by decide) rfl (fun ls hl => ?_)
          refine lv_aload_n C.1.1 C.1.2.1 dL_law_1101 rfl (lv_at hl 3 rfl) ?_
          refine lv_aload_n C.1.1 C.1.2.1 dL_law_1102 rfl (lv_at hl 1 rfl) ?_
          refine lv_iload C.1.1 C.1.2.1 dL_law_1103 (lv_at hl 5 rfl) ?_
          refine lv_iconst (v := 1) C.1.1 C.1.2.1 dL_law_1105 (by decide) ?_
          refine lv_iadd C.1.1 C.1.2.1 dL_law_1106 ?_
          obtain ⟨q234, hD⟩ := g_ck hD
          refine va_sld C.1.1 C.1.2.1 hX hbl hbA hw.2.2 q234 dL_law_1107 ?_
          refine lv_aload_n C.1.1 C.1.2.1 dL_law_1108 rfl (lv_at hl 1 rfl) ?_
          refine lv_iload C.1.1 C.1.2.1 dL_law_1109 (lv_at hl 5 rfl) ?_
          refine lv_iconst (v := 2) C.1.1 C.1.2.1 dL_law_1111 (by decide) ?_
          refine lv_iadd C.1.1 C.1.2.1 dL_law_1112 ?_
          obtain ⟨q235, hD⟩ := g_ck hD
          refine va_sld C.1.1 C.1.2.1 hX hbl hbA hw.2.2 q235 dL_law_1113 ?_
          obtain ⟨r238, M236, L237, h1, hD⟩ := g_b3 hD
          refine md_cvI (As := [.int (xs (v4 + 1).toNatClampNeg), .int (xs (v4 + 2).toNatClampNeg)]) (rest := []) C hw (tX19_active l G (mw_ad G) fu (xs (v4 + 1).toNatClampNeg) (xs (v4 + 2).toNatClampNeg) M231 L232 h1) kc_19 (by decide) tf_732 wd_4266 cwX19_active ⟨Nat.le_of_ble_eq_true rfl, Nat.le_of_ble_eq_true rfl⟩ rfl hl.1 (Nat.le_of_ble_eq_true rfl) dL_law_1114 rfl rfl hc1 rfl (fun H locs hw => ?_)
          refine lv_istore (lv' := [(6, .int r238), (5, .int r233), (0, .ref b), (1, .ref (mw_ad G 0)), (2, .ref (mw_ad G 732)), (3, .ref (mw_ad G 1577)), (4, .int v4)]) C.1.1 C.1.2.1 dL_law_1117 hl (by decide) rfl (fun ls hl => ?_)
          refine lv_aload_n C.1.1 C.1.2.1 dL_law_1119 rfl (lv_at hl 4 rfl) ?_
          obtain ⟨r241, M239, L240, h1, hD⟩ := g_b3 hD
          refine md_cvI (As := []) (rest := []) C hw (tX19_thrown l G (mw_ad G) fu M236 L237 h1) kc_19 (by decide) tf_732 wd_3118 cwX19_thrown ⟨Nat.le_of_ble_eq_true rfl, Nat.le_of_ble_eq_true rfl⟩ rfl hl.1 (Nat.le_of_ble_eq_true rfl) dL_law_1120 rfl rfl hc1 rfl (fun H locs hw => ?_)
          refine lv_iload C.1.1 C.1.2.1 dL_law_1123 (lv_at hl 1 rfl) ?_
          refine lv_icmp_eq (tgt := 1130) C.1.1 C.1.2.1 dL_law_1125 (by decide) (fun c242 => ?_) (fun c242 => ?_)
          · replace hD := g_pos c242 hD
            refine lv_iload C.1.1 C.1.2.1 dL_law_1130 (lv_at hl 1 rfl) ?_
            refine lv_if_ne (tgt := 1147) C.1.1 C.1.2.1 dL_law_1132 (by decide) (fun c243 => ?_) (fun c243 => ?_)
            · replace hD := g_neg c243 hD
              exact hb1147 v4 M239 L240 _ _ ls hD hw (lv_sub hl [2, 3, 4, 5, 6] rfl)
            · replace hD := g_pos c243 hD
              refine lv_aload_n C.1.1 C.1.2.1 dL_law_1135 rfl (lv_at hl 5 rfl) ?_
              refine lv_iconst (v := 0) C.1.1 C.1.2.1 dL_law_1136 (by decide) ?_
              refine mr_lald C hw (by decide) tf_1577 (show vp_in 0 1 from by unfold vp_in; decide) dL_law_1137 ?_
              refine lv_iload C.1.1 C.1.2.1 dL_law_1138 (lv_at hl 0 rfl) ?_
              refine lv_i2l C.1.1 C.1.2.1 dL_law_1140 rfl ?_
              refine W.lcmp C.1.1 C.1.2.1 dL_law_1141 ?_
              refine lv_if_eq (tgt := 1147) C.1.1 C.1.2.1 dL_law_1142 (by decide) (fun c245 => ?_) (fun c245 => ?_)
              · replace hD := g_pos c245 hD
                exact hb1147 v4 M239 L240 _ _ ls hD hw (lv_sub hl [2, 3, 4, 5, 6] rfl)
              · replace hD := g_neg c245 hD
                refine lv_iconst (v := 0) C.1.1 C.1.2.1 dL_law_1145 (by decide) ?_
                exact hret _ _ _ _ _ _ _ _ _ (by omega) (by omega) dL_law_1146 hw hD
          · replace hD := g_neg c242 hD
            refine lv_iconst (v := 0) C.1.1 C.1.2.1 dL_law_1128 (by decide) ?_
            exact hret _ _ _ _ _ _ _ _ _ (by omega) (by omega) dL_law_1129 hw hD
        replace hD := g_neg c228 hD
        by_cases c246 : x3 = 17
        · replace hD := g_pos c246 hD
          refine lv_tableIn (tgt := 1150) C.1.1 C.1.2.1 dL_law_39 (by rw [c246]; decide) (by rw [c246]; decide) (off := 1111) (by rw [c246]; decide) (by decide) ?_
          refine lv_aload_n C.1.1 C.1.2.1 dL_law_1150 rfl (lv_at hl 1 rfl) ?_
          refine lv_aload_n C.1.1 C.1.2.1 dL_law_1151 rfl (lv_at hl 0 rfl) ?_
          refine lv_iload C.1.1 C.1.2.1 dL_law_1152 (lv_at hl 4 rfl) ?_
          refine lv_iconst (v := 1) C.1.1 C.1.2.1 dL_law_1154 (by decide) ?_
          refine lv_iadd C.1.1 C.1.2.1 dL_law_1155 ?_
          obtain ⟨q247, hD⟩ := g_ck hD
          refine va_sld C.1.1 C.1.2.1 hX hbl hbA hw.2.2 q247 dL_law_1156 ?_
          refine lv_aload_n C.1.1 C.1.2.1 dL_law_1157 rfl (lv_at hl 0 rfl) ?_
          refine lv_iload C.1.1 C.1.2.1 dL_law_1158 (lv_at hl 4 rfl) ?_
          refine lv_iconst (v := 2) C.1.1 C.1.2.1 dL_law_1160 (by decide) ?_
          refine lv_iadd C.1.1 C.1.2.1 dL_law_1161 ?_
          obtain ⟨q248, hD⟩ := g_ck hD
          refine va_sld C.1.1 C.1.2.1 hX hbl hbA hw.2.2 q248 dL_law_1162 ?_
          refine lv_aload_n C.1.1 C.1.2.1 dL_law_1163 rfl (lv_at hl 3 rfl) ?_
          obtain ⟨r251, M249, L250, h1, hD⟩ := g_b3 hD
          refine mx_csI (As := [.ref (mw_ad G 0), .int (xs (v4 + 1).toNatClampNeg), .int (xs (v4 + 2).toNatClampNeg), .ref (mw_ad G 1577)]) (rest := []) C KX hw (tL_value l G (mw_ad G) fu (xs (v4 + 1).toNatClampNeg) (xs (v4 + 2).toNatClampNeg) M L hst h1) wd_1868 cwL_value ⟨Nat.le_of_ble_eq_true rfl, Nat.le_of_ble_eq_true rfl⟩ rfl hl.1 (Nat.le_of_ble_eq_true rfl) dL_law_1164 rfl rfl hc1 rfl (fun H locs hw => ?_)
          refine lv_istore (lv' := [(5, .int r251), (0, .ref b), (1, .ref (mw_ad G 0)), (2, .ref (mw_ad G 732)), (3, .ref (mw_ad G 1577)), (4, .int v4)]) C.1.1 C.1.2.1 dL_law_1167 hl (by decide) rfl (fun ls hl => ?_)
          refine lv_aload_n C.1.1 C.1.2.1 dL_law_1169 rfl (lv_at hl 3 rfl) ?_
          refine lv_aload_n C.1.1 C.1.2.1 dL_law_1170 rfl (lv_at hl 1 rfl) ?_
          refine lv_iload C.1.1 C.1.2.1 dL_law_1171 (lv_at hl 5 rfl) ?_
          refine lv_iconst (v := 1) C.1.1 C.1.2.1 dL_law_1173 (by decide) ?_
          refine lv_iadd C.1.1 C.1.2.1 dL_law_1174 ?_
          obtain ⟨q252, hD⟩ := g_ck hD
          refine va_sld C.1.1 C.1.2.1 hX hbl hbA hw.2.2 q252 dL_law_1175 ?_
          refine lv_aload_n C.1.1 C.1.2.1 dL_law_1176 rfl (lv_at hl 1 rfl) ?_
          refine lv_iload C.1.1 C.1.2.1 dL_law_1177 (lv_at hl 5 rfl) ?_
          refine lv_iconst (v := 2) C.1.1 C.1.2.1 dL_law_1179 (by decide) ?_
          refine lv_iadd C.1.1 C.1.2.1 dL_law_1180 ?_
          obtain ⟨q253, hD⟩ := g_ck hD
          refine va_sld C.1.1 C.1.2.1 hX hbl hbA hw.2.2 q253 dL_law_1181 ?_
          obtain ⟨r256, M254, L255, h1, hD⟩ := g_b3 hD
          refine md_cvL (As := [.int (xs (v4 + 1).toNatClampNeg), .int (xs (v4 + 2).toNatClampNeg)]) (rest := []) C hw (tX19_value l G (mw_ad G) fu (xs (v4 + 1).toNatClampNeg) (xs (v4 + 2).toNatClampNeg) M249 L250 h1) kc_19 (by decide) tf_732 wd_4278 cwX19_value ⟨Nat.le_of_ble_eq_true rfl, Nat.le_of_ble_eq_true rfl⟩ rfl hl.1 (Nat.le_of_ble_eq_true rfl) dL_law_1182 rfl rfl hc1 rfl (fun H locs hw => ?_)
          refine lv_lstore (lv' := [(6, .long r256), (5, .int r251), (0, .ref b), (1, .ref (mw_ad G 0)), (2, .ref (mw_ad G 732)), (3, .ref (mw_ad G 1577)), (4, .int v4)]) C.1.1 C.1.2.1 dL_law_1185 hl (by decide) rfl (fun ls hl => ?_)
          refine lv_aload_n C.1.1 C.1.2.1 dL_law_1187 rfl (lv_at hl 4 rfl) ?_
          obtain ⟨r259, M257, L258, h1, hD⟩ := g_b3 hD
          refine md_cvI (As := []) (rest := []) C hw (tX19_thrown l G (mw_ad G) fu M254 L255 h1) kc_19 (by decide) tf_732 wd_3118 cwX19_thrown ⟨Nat.le_of_ble_eq_true rfl, Nat.le_of_ble_eq_true rfl⟩ rfl hl.1 (Nat.le_of_ble_eq_true rfl) dL_law_1188 rfl rfl hc1 rfl (fun H locs hw => ?_)
          refine lv_iload C.1.1 C.1.2.1 dL_law_1191 (lv_at hl 1 rfl) ?_
          refine lv_icmp_eq (tgt := 1198) C.1.1 C.1.2.1 dL_law_1193 (by decide) (fun c260 => ?_) (fun c260 => ?_)
          · replace hD := g_pos c260 hD
            refine lv_iload C.1.1 C.1.2.1 dL_law_1198 (lv_at hl 1 rfl) ?_
            refine lv_if_ne (tgt := 1214) C.1.1 C.1.2.1 dL_law_1200 (by decide) (fun c261 => ?_) (fun c261 => ?_)
            · replace hD := g_neg c261 hD
              exact hb1214 v4 M257 L258 _ _ ls hD hw (lv_sub hl [2, 3, 4, 5, 6] rfl)
            · replace hD := g_pos c261 hD
              refine lv_aload_n C.1.1 C.1.2.1 dL_law_1203 rfl (lv_at hl 5 rfl) ?_
              refine lv_iconst (v := 0) C.1.1 C.1.2.1 dL_law_1204 (by decide) ?_
              refine mr_lald C hw (by decide) tf_1577 (show vp_in 0 1 from by unfold vp_in; decide) dL_law_1205 ?_
              refine lv_lload C.1.1 C.1.2.1 dL_law_1206 (lv_at hl 0 rfl) ?_
              refine W.lcmp C.1.1 C.1.2.1 dL_law_1208 ?_
              refine lv_if_eq (tgt := 1214) C.1.1 C.1.2.1 dL_law_1209 (by decide) (fun c263 => ?_) (fun c263 => ?_)
              · replace hD := g_pos c263 hD
                exact hb1214 v4 M257 L258 _ _ ls hD hw (lv_sub hl [2, 3, 4, 5, 6] rfl)
              · replace hD := g_neg c263 hD
                refine lv_iconst (v := 0) C.1.1 C.1.2.1 dL_law_1212 (by decide) ?_
                exact hret _ _ _ _ _ _ _ _ _ (by omega) (by omega) dL_law_1213 hw hD
          · replace hD := g_neg c260 hD
            refine lv_iconst (v := 0) C.1.1 C.1.2.1 dL_law_1196 (by decide) ?_
            exact hret _ _ _ _ _ _ _ _ _ (by omega) (by omega) dL_law_1197 hw hD
        replace hD := g_neg c246 hD
        by_cases c264 : x3 = 18
        · replace hD := g_pos c264 hD
          refine lv_tableIn (tgt := 1217) C.1.1 C.1.2.1 dL_law_39 (by rw [c264]; decide) (by rw [c264]; decide) (off := 1178) (by rw [c264]; decide) (by decide) ?_
          refine lv_aload_n C.1.1 C.1.2.1 dL_law_1217 rfl (lv_at hl 1 rfl) ?_
          refine lv_aload_n C.1.1 C.1.2.1 dL_law_1218 rfl (lv_at hl 0 rfl) ?_
          refine lv_iload C.1.1 C.1.2.1 dL_law_1219 (lv_at hl 4 rfl) ?_
          refine lv_iconst (v := 1) C.1.1 C.1.2.1 dL_law_1221 (by decide) ?_
          refine lv_iadd C.1.1 C.1.2.1 dL_law_1222 ?_
          obtain ⟨q265, hD⟩ := g_ck hD
          refine va_sld C.1.1 C.1.2.1 hX hbl hbA hw.2.2 q265 dL_law_1223 ?_
          refine lv_aload_n C.1.1 C.1.2.1 dL_law_1224 rfl (lv_at hl 0 rfl) ?_
          refine lv_iload C.1.1 C.1.2.1 dL_law_1225 (lv_at hl 4 rfl) ?_
          refine lv_iconst (v := 2) C.1.1 C.1.2.1 dL_law_1227 (by decide) ?_
          refine lv_iadd C.1.1 C.1.2.1 dL_law_1228 ?_
          obtain ⟨q266, hD⟩ := g_ck hD
          refine va_sld C.1.1 C.1.2.1 hX hbl hbA hw.2.2 q266 dL_law_1229 ?_
          refine lv_aload_n C.1.1 C.1.2.1 dL_law_1230 rfl (lv_at hl 3 rfl) ?_
          obtain ⟨r269, M267, L268, h1, hD⟩ := g_b3 hD
          refine mx_csI (As := [.ref (mw_ad G 0), .int (xs (v4 + 1).toNatClampNeg), .int (xs (v4 + 2).toNatClampNeg), .ref (mw_ad G 1577)]) (rest := []) C KX hw (tL_chart l G (mw_ad G) fu (xs (v4 + 1).toNatClampNeg) (xs (v4 + 2).toNatClampNeg) M L hst h1) wd_1876 cwL_chart ⟨Nat.le_of_ble_eq_true rfl, Nat.le_of_ble_eq_true rfl⟩ rfl hl.1 (Nat.le_of_ble_eq_true rfl) dL_law_1231 rfl rfl hc1 rfl (fun H locs hw => ?_)
          refine lv_istore (lv' := [(5, .int r269), (0, .ref b), (1, .ref (mw_ad G 0)), (2, .ref (mw_ad G 732)), (3, .ref (mw_ad G 1577)), (4, .int v4)]) C.1.1 C.1.2.1 dL_law_1234 hl (by decide) rfl (fun ls hl => ?_)
          refine lv_aload_n C.1.1 C.1.2.1 dL_law_1236 rfl (lv_at hl 3 rfl) ?_
          refine lv_aload_n C.1.1 C.1.2.1 dL_law_1237 rfl (lv_at hl 1 rfl) ?_
          refine lv_iload C.1.1 C.1.2.1 dL_law_1238 (lv_at hl 5 rfl) ?_
          refine lv_iconst (v := 1) C.1.1 C.1.2.1 dL_law_1240 (by decide) ?_
          refine lv_iadd C.1.1 C.1.2.1 dL_law_1241 ?_
          obtain ⟨q270, hD⟩ := g_ck hD
          refine va_sld C.1.1 C.1.2.1 hX hbl hbA hw.2.2 q270 dL_law_1242 ?_
          refine lv_aload_n C.1.1 C.1.2.1 dL_law_1243 rfl (lv_at hl 1 rfl) ?_
          refine lv_iload C.1.1 C.1.2.1 dL_law_1244 (lv_at hl 5 rfl) ?_
          refine lv_iconst (v := 2) C.1.1 C.1.2.1 dL_law_1246 (by decide) ?_
          refine lv_iadd C.1.1 C.1.2.1 dL_law_1247 ?_
          obtain ⟨q271, hD⟩ := g_ck hD
          refine va_sld C.1.1 C.1.2.1 hX hbl hbA hw.2.2 q271 dL_law_1248 ?_
          obtain ⟨r274, M272, L273, h1, hD⟩ := g_b3 hD
          refine md_cvI (As := [.int (xs (v4 + 1).toNatClampNeg), .int (xs (v4 + 2).toNatClampNeg)]) (rest := []) C hw (tX19_chart l G (mw_ad G) fu (xs (v4 + 1).toNatClampNeg) (xs (v4 + 2).toNatClampNeg) M267 L268 h1) kc_19 (by decide) tf_732 wd_4282 cwX19_chart ⟨Nat.le_of_ble_eq_true rfl, Nat.le_of_ble_eq_true rfl⟩ rfl hl.1 (Nat.le_of_ble_eq_true rfl) dL_law_1249 rfl rfl hc1 rfl (fun H locs hw => ?_)
          refine lv_istore (lv' := [(6, .int r274), (5, .int r269), (0, .ref b), (1, .ref (mw_ad G 0)), (2, .ref (mw_ad G 732)), (3, .ref (mw_ad G 1577)), (4, .int v4)]) C.1.1 C.1.2.1 dL_law_1252 hl (by decide) rfl (fun ls hl => ?_)
          refine lv_aload_n C.1.1 C.1.2.1 dL_law_1254 rfl (lv_at hl 4 rfl) ?_
          obtain ⟨r277, M275, L276, h1, hD⟩ := g_b3 hD
          refine md_cvI (As := []) (rest := []) C hw (tX19_thrown l G (mw_ad G) fu M272 L273 h1) kc_19 (by decide) tf_732 wd_3118 cwX19_thrown ⟨Nat.le_of_ble_eq_true rfl, Nat.le_of_ble_eq_true rfl⟩ rfl hl.1 (Nat.le_of_ble_eq_true rfl) dL_law_1255 rfl rfl hc1 rfl (fun H locs hw => ?_)
          refine lv_iload C.1.1 C.1.2.1 dL_law_1258 (lv_at hl 1 rfl) ?_
          refine lv_icmp_eq (tgt := 1265) C.1.1 C.1.2.1 dL_law_1260 (by decide) (fun c278 => ?_) (fun c278 => ?_)
          · replace hD := g_pos c278 hD
            refine lv_iload C.1.1 C.1.2.1 dL_law_1265 (lv_at hl 1 rfl) ?_
            refine lv_if_ne (tgt := 1282) C.1.1 C.1.2.1 dL_law_1267 (by decide) (fun c279 => ?_) (fun c279 => ?_)
            · replace hD := g_neg c279 hD
              exact hb1282 v4 M275 L276 _ _ ls hD hw (lv_sub hl [2, 3, 4, 5, 6] rfl)
            · replace hD := g_pos c279 hD
              refine lv_aload_n C.1.1 C.1.2.1 dL_law_1270 rfl (lv_at hl 5 rfl) ?_
              refine lv_iconst (v := 0) C.1.1 C.1.2.1 dL_law_1271 (by decide) ?_
              refine mr_lald C hw (by decide) tf_1577 (show vp_in 0 1 from by unfold vp_in; decide) dL_law_1272 ?_
              refine lv_iload C.1.1 C.1.2.1 dL_law_1273 (lv_at hl 0 rfl) ?_
              refine lv_i2l C.1.1 C.1.2.1 dL_law_1275 rfl ?_
              refine W.lcmp C.1.1 C.1.2.1 dL_law_1276 ?_
              refine lv_if_eq (tgt := 1282) C.1.1 C.1.2.1 dL_law_1277 (by decide) (fun c281 => ?_) (fun c281 => ?_)
              · replace hD := g_pos c281 hD
                exact hb1282 v4 M275 L276 _ _ ls hD hw (lv_sub hl [2, 3, 4, 5, 6] rfl)
              · replace hD := g_neg c281 hD
                refine lv_iconst (v := 0) C.1.1 C.1.2.1 dL_law_1280 (by decide) ?_
                exact hret _ _ _ _ _ _ _ _ _ (by omega) (by omega) dL_law_1281 hw hD
          · replace hD := g_neg c278 hD
            refine lv_iconst (v := 0) C.1.1 C.1.2.1 dL_law_1263 (by decide) ?_
            exact hret _ _ _ _ _ _ _ _ _ (by omega) (by omega) dL_law_1264 hw hD
        replace hD := g_neg c264 hD
        by_cases c282 : x3 = 19
        · replace hD := g_pos c282 hD
          refine lv_tableIn (tgt := 1285) C.1.1 C.1.2.1 dL_law_39 (by rw [c282]; decide) (by rw [c282]; decide) (off := 1246) (by rw [c282]; decide) (by decide) ?_
          refine lv_aload_n C.1.1 C.1.2.1 dL_law_1285 rfl (lv_at hl 1 rfl) ?_
          refine lv_aload_n C.1.1 C.1.2.1 dL_law_1286 rfl (lv_at hl 0 rfl) ?_
          refine lv_iload C.1.1 C.1.2.1 dL_law_1287 (lv_at hl 4 rfl) ?_
          refine lv_iconst (v := 1) C.1.1 C.1.2.1 dL_law_1289 (by decide) ?_
          refine lv_iadd C.1.1 C.1.2.1 dL_law_1290 ?_
          obtain ⟨q283, hD⟩ := g_ck hD
          refine va_sld C.1.1 C.1.2.1 hX hbl hbA hw.2.2 q283 dL_law_1291 ?_
          refine lv_aload_n C.1.1 C.1.2.1 dL_law_1292 rfl (lv_at hl 0 rfl) ?_
          refine lv_iload C.1.1 C.1.2.1 dL_law_1293 (lv_at hl 4 rfl) ?_
          refine lv_iconst (v := 2) C.1.1 C.1.2.1 dL_law_1295 (by decide) ?_
          refine lv_iadd C.1.1 C.1.2.1 dL_law_1296 ?_
          obtain ⟨q284, hD⟩ := g_ck hD
          refine va_sld C.1.1 C.1.2.1 hX hbl hbA hw.2.2 q284 dL_law_1297 ?_
          refine lv_aload_n C.1.1 C.1.2.1 dL_law_1298 rfl (lv_at hl 3 rfl) ?_
          obtain ⟨r287, M285, L286, h1, hD⟩ := g_b3 hD
          refine mx_csI (As := [.ref (mw_ad G 0), .int (xs (v4 + 1).toNatClampNeg), .int (xs (v4 + 2).toNatClampNeg), .ref (mw_ad G 1577)]) (rest := []) C KX hw (tL_trouble l G (mw_ad G) fu (xs (v4 + 1).toNatClampNeg) (xs (v4 + 2).toNatClampNeg) M L hst h1) wd_1889 cwL_trouble ⟨Nat.le_of_ble_eq_true rfl, Nat.le_of_ble_eq_true rfl⟩ rfl hl.1 (Nat.le_of_ble_eq_true rfl) dL_law_1299 rfl rfl hc1 rfl (fun H locs hw => ?_)
          refine lv_istore (lv' := [(5, .int r287), (0, .ref b), (1, .ref (mw_ad G 0)), (2, .ref (mw_ad G 732)), (3, .ref (mw_ad G 1577)), (4, .int v4)]) C.1.1 C.1.2.1 dL_law_1302 hl (by decide) rfl (fun ls hl => ?_)
          refine lv_aload_n C.1.1 C.1.2.1 dL_law_1304 rfl (lv_at hl 3 rfl) ?_
          refine lv_aload_n C.1.1 C.1.2.1 dL_law_1305 rfl (lv_at hl 1 rfl) ?_
          refine lv_iload C.1.1 C.1.2.1 dL_law_1306 (lv_at hl 5 rfl) ?_
          refine lv_iconst (v := 1) C.1.1 C.1.2.1 dL_law_1308 (by decide) ?_
          refine lv_iadd C.1.1 C.1.2.1 dL_law_1309 ?_
          obtain ⟨q288, hD⟩ := g_ck hD
          refine va_sld C.1.1 C.1.2.1 hX hbl hbA hw.2.2 q288 dL_law_1310 ?_
          refine lv_aload_n C.1.1 C.1.2.1 dL_law_1311 rfl (lv_at hl 1 rfl) ?_
          refine lv_iload C.1.1 C.1.2.1 dL_law_1312 (lv_at hl 5 rfl) ?_
          refine lv_iconst (v := 2) C.1.1 C.1.2.1 dL_law_1314 (by decide) ?_
          refine lv_iadd C.1.1 C.1.2.1 dL_law_1315 ?_
          obtain ⟨q289, hD⟩ := g_ck hD
          refine va_sld C.1.1 C.1.2.1 hX hbl hbA hw.2.2 q289 dL_law_1316 ?_
          obtain ⟨r292, M290, L291, h1, hD⟩ := g_b3 hD
          refine md_cvI (As := [.int (xs (v4 + 1).toNatClampNeg), .int (xs (v4 + 2).toNatClampNeg)]) (rest := []) C hw (tX19_trouble l G (mw_ad G) fu (xs (v4 + 1).toNatClampNeg) (xs (v4 + 2).toNatClampNeg) M285 L286 h1) kc_19 (by decide) tf_732 wd_4294 cwX19_trouble ⟨Nat.le_of_ble_eq_true rfl, Nat.le_of_ble_eq_true rfl⟩ rfl hl.1 (Nat.le_of_ble_eq_true rfl) dL_law_1317 rfl rfl hc1 rfl (fun H locs hw => ?_)
          refine lv_istore (lv' := [(6, .int r292), (5, .int r287), (0, .ref b), (1, .ref (mw_ad G 0)), (2, .ref (mw_ad G 732)), (3, .ref (mw_ad G 1577)), (4, .int v4)]) C.1.1 C.1.2.1 dL_law_1320 hl (by decide) rfl (fun ls hl => ?_)
          refine lv_aload_n C.1.1 C.1.2.1 dL_law_1322 rfl (lv_at hl 4 rfl) ?_
          obtain ⟨r295, M293, L294, h1, hD⟩ := g_b3 hD
          refine md_cvI (As := []) (rest := []) C hw (tX19_thrown l G (mw_ad G) fu M290 L291 h1) kc_19 (by decide) tf_732 wd_3118 cwX19_thrown ⟨Nat.le_of_ble_eq_true rfl, Nat.le_of_ble_eq_true rfl⟩ rfl hl.1 (Nat.le_of_ble_eq_true rfl) dL_law_1323 rfl rfl hc1 rfl (fun H locs hw => ?_)
          refine lv_iload C.1.1 C.1.2.1 dL_law_1326 (lv_at hl 1 rfl) ?_
          refine lv_icmp_eq (tgt := 1333) C.1.1 C.1.2.1 dL_law_1328 (by decide) (fun c296 => ?_) (fun c296 => ?_)
          · replace hD := g_pos c296 hD
            refine lv_iload C.1.1 C.1.2.1 dL_law_1333 (lv_at hl 1 rfl) ?_
            refine lv_if_ne (tgt := 1350) C.1.1 C.1.2.1 dL_law_1335 (by decide) (fun c297 => ?_) (fun c297 => ?_)
            · replace hD := g_neg c297 hD
              exact hb1350 v4 M293 L294 _ _ ls hD hw (lv_sub hl [2, 3, 4, 5, 6] rfl)
            · replace hD := g_pos c297 hD
              refine lv_aload_n C.1.1 C.1.2.1 dL_law_1338 rfl (lv_at hl 5 rfl) ?_
              refine lv_iconst (v := 0) C.1.1 C.1.2.1 dL_law_1339 (by decide) ?_
              refine mr_lald C hw (by decide) tf_1577 (show vp_in 0 1 from by unfold vp_in; decide) dL_law_1340 ?_
              refine lv_iload C.1.1 C.1.2.1 dL_law_1341 (lv_at hl 0 rfl) ?_
              refine lv_i2l C.1.1 C.1.2.1 dL_law_1343 rfl ?_
              refine W.lcmp C.1.1 C.1.2.1 dL_law_1344 ?_
              refine lv_if_eq (tgt := 1350) C.1.1 C.1.2.1 dL_law_1345 (by decide) (fun c299 => ?_) (fun c299 => ?_)
              · replace hD := g_pos c299 hD
                exact hb1350 v4 M293 L294 _ _ ls hD hw (lv_sub hl [2, 3, 4, 5, 6] rfl)
              · replace hD := g_neg c299 hD
                refine lv_iconst (v := 0) C.1.1 C.1.2.1 dL_law_1348 (by decide) ?_
                exact hret _ _ _ _ _ _ _ _ _ (by omega) (by omega) dL_law_1349 hw hD
          · replace hD := g_neg c296 hD
            refine lv_iconst (v := 0) C.1.1 C.1.2.1 dL_law_1331 (by decide) ?_
            exact hret _ _ _ _ _ _ _ _ _ (by omega) (by omega) dL_law_1332 hw hD
        replace hD := g_neg c282 hD
        by_cases c300 : x3 = 20
        · replace hD := g_pos c300 hD
          refine lv_tableIn (tgt := 1353) C.1.1 C.1.2.1 dL_law_39 (by rw [c300]; decide) (by rw [c300]; decide) (off := 1314) (by rw [c300]; decide) (by decide) ?_
          refine lv_aload_n C.1.1 C.1.2.1 dL_law_1353 rfl (lv_at hl 1 rfl) ?_
          refine lv_aload_n C.1.1 C.1.2.1 dL_law_1354 rfl (lv_at hl 0 rfl) ?_
          refine lv_iload C.1.1 C.1.2.1 dL_law_1355 (lv_at hl 4 rfl) ?_
          refine lv_iconst (v := 1) C.1.1 C.1.2.1 dL_law_1357 (by decide) ?_
          refine lv_iadd C.1.1 C.1.2.1 dL_law_1358 ?_
          obtain ⟨q301, hD⟩ := g_ck hD
          refine va_sld C.1.1 C.1.2.1 hX hbl hbA hw.2.2 q301 dL_law_1359 ?_
          refine lv_if_eq (tgt := 1367) C.1.1 C.1.2.1 dL_law_1360 (by decide) (fun c302 => ?_) (fun c302 => ?_)
          · replace hD := g_pos c302 hD
            refine lv_iconst (v := 0) C.1.1 C.1.2.1 dL_law_1367 (by decide) ?_
            exact hb1368 v4 0 M L _ _ ls hD hw (lv_sub hl [0, 1, 2, 3, 4] rfl)
          · replace hD := g_neg c302 hD
            refine lv_iconst (v := 1) C.1.1 C.1.2.1 dL_law_1363 (by decide) ?_
            refine lv_goto (tgt := 1368) C.1.1 C.1.2.1 dL_law_1364 (by decide) ?_
            exact hb1368 v4 1 M L _ _ ls hD hw (lv_sub hl [0, 1, 2, 3, 4] rfl)
        replace hD := g_neg c300 hD
        by_cases c303 : x3 = 21
        · replace hD := g_pos c303 hD
          refine lv_tableIn (tgt := 1425) C.1.1 C.1.2.1 dL_law_39 (by rw [c303]; decide) (by rw [c303]; decide) (off := 1386) (by rw [c303]; decide) (by decide) ?_
          refine lv_aload_n C.1.1 C.1.2.1 dL_law_1425 rfl (lv_at hl 1 rfl) ?_
          refine lv_aload_n C.1.1 C.1.2.1 dL_law_1426 rfl (lv_at hl 0 rfl) ?_
          refine lv_iload C.1.1 C.1.2.1 dL_law_1427 (lv_at hl 4 rfl) ?_
          refine lv_iconst (v := 1) C.1.1 C.1.2.1 dL_law_1429 (by decide) ?_
          refine lv_iadd C.1.1 C.1.2.1 dL_law_1430 ?_
          obtain ⟨q304, hD⟩ := g_ck hD
          refine va_sld C.1.1 C.1.2.1 hX hbl hbA hw.2.2 q304 dL_law_1431 ?_
          refine lv_aload_n C.1.1 C.1.2.1 dL_law_1432 rfl (lv_at hl 3 rfl) ?_
          obtain ⟨r307, M305, L306, h1, hD⟩ := g_b3 hD
          refine mx_csI (As := [.ref (mw_ad G 0), .int (xs (v4 + 1).toNatClampNeg), .ref (mw_ad G 1577)]) (rest := []) C KX hw (tL_counted l G (mw_ad G) fu (xs (v4 + 1).toNatClampNeg) M L hst h1) wd_1917 cwL_counted ⟨Nat.le_of_ble_eq_true rfl, Nat.le_of_ble_eq_true rfl⟩ rfl hl.1 (Nat.le_of_ble_eq_true rfl) dL_law_1433 rfl rfl hc1 rfl (fun H locs hw => ?_)
          refine lv_istore (lv' := [(5, .int r307), (0, .ref b), (1, .ref (mw_ad G 0)), (2, .ref (mw_ad G 732)), (3, .ref (mw_ad G 1577)), (4, .int v4)]) C.1.1 C.1.2.1 dL_law_1436 hl (by decide) rfl (fun ls hl => ?_)
          refine lv_aload_n C.1.1 C.1.2.1 dL_law_1438 rfl (lv_at hl 3 rfl) ?_
          refine lv_aload_n C.1.1 C.1.2.1 dL_law_1439 rfl (lv_at hl 1 rfl) ?_
          refine lv_iload C.1.1 C.1.2.1 dL_law_1440 (lv_at hl 5 rfl) ?_
          refine lv_iconst (v := 1) C.1.1 C.1.2.1 dL_law_1442 (by decide) ?_
          refine lv_iadd C.1.1 C.1.2.1 dL_law_1443 ?_
          obtain ⟨q308, hD⟩ := g_ck hD
          refine va_sld C.1.1 C.1.2.1 hX hbl hbA hw.2.2 q308 dL_law_1444 ?_
          obtain ⟨r311, M309, L310, h1, hD⟩ := g_b3 hD
          refine md_cvI (As := [.int (xs (v4 + 1).toNatClampNeg)]) (rest := []) C hw (tX19_counted l G (mw_ad G) fu (xs (v4 + 1).toNatClampNeg) M305 L306 h1) kc_19 (by decide) tf_732 wd_4314 cwX19_counted ⟨Nat.le_of_ble_eq_true rfl, Nat.le_of_ble_eq_true rfl⟩ rfl hl.1 (Nat.le_of_ble_eq_true rfl) dL_law_1445 rfl rfl hc1 rfl (fun H locs hw => ?_)
          refine lv_istore (lv' := [(6, .int r311), (5, .int r307), (0, .ref b), (1, .ref (mw_ad G 0)), (2, .ref (mw_ad G 732)), (3, .ref (mw_ad G 1577)), (4, .int v4)]) C.1.1 C.1.2.1 dL_law_1448 hl (by decide) rfl (fun ls hl => ?_)
          refine lv_aload_n C.1.1 C.1.2.1 dL_law_1450 rfl (lv_at hl 4 rfl) ?_
          obtain ⟨r314, M312, L313, h1, hD⟩ := g_b3 hD
          refine md_cvI (As := []) (rest := []) C hw (tX19_thrown l G (mw_ad G) fu M309 L310 h1) kc_19 (by decide) tf_732 wd_3118 cwX19_thrown ⟨Nat.le_of_ble_eq_true rfl, Nat.le_of_ble_eq_true rfl⟩ rfl hl.1 (Nat.le_of_ble_eq_true rfl) dL_law_1451 rfl rfl hc1 rfl (fun H locs hw => ?_)
          refine lv_iload C.1.1 C.1.2.1 dL_law_1454 (lv_at hl 1 rfl) ?_
          refine lv_icmp_eq (tgt := 1461) C.1.1 C.1.2.1 dL_law_1456 (by decide) (fun c315 => ?_) (fun c315 => ?_)
          · replace hD := g_pos c315 hD
            refine lv_iload C.1.1 C.1.2.1 dL_law_1461 (lv_at hl 1 rfl) ?_
            refine lv_if_ne (tgt := 1478) C.1.1 C.1.2.1 dL_law_1463 (by decide) (fun c316 => ?_) (fun c316 => ?_)
            · replace hD := g_neg c316 hD
              exact hb1478 v4 M312 L313 _ _ ls hD hw (lv_sub hl [2, 3, 4, 5, 6] rfl)
            · replace hD := g_pos c316 hD
              refine lv_aload_n C.1.1 C.1.2.1 dL_law_1466 rfl (lv_at hl 5 rfl) ?_
              refine lv_iconst (v := 0) C.1.1 C.1.2.1 dL_law_1467 (by decide) ?_
              refine mr_lald C hw (by decide) tf_1577 (show vp_in 0 1 from by unfold vp_in; decide) dL_law_1468 ?_
              refine lv_iload C.1.1 C.1.2.1 dL_law_1469 (lv_at hl 0 rfl) ?_
              refine lv_i2l C.1.1 C.1.2.1 dL_law_1471 rfl ?_
              refine W.lcmp C.1.1 C.1.2.1 dL_law_1472 ?_
              refine lv_if_eq (tgt := 1478) C.1.1 C.1.2.1 dL_law_1473 (by decide) (fun c318 => ?_) (fun c318 => ?_)
              · replace hD := g_pos c318 hD
                exact hb1478 v4 M312 L313 _ _ ls hD hw (lv_sub hl [2, 3, 4, 5, 6] rfl)
              · replace hD := g_neg c318 hD
                refine lv_iconst (v := 0) C.1.1 C.1.2.1 dL_law_1476 (by decide) ?_
                exact hret _ _ _ _ _ _ _ _ _ (by omega) (by omega) dL_law_1477 hw hD
          · replace hD := g_neg c315 hD
            refine lv_iconst (v := 0) C.1.1 C.1.2.1 dL_law_1459 (by decide) ?_
            exact hret _ _ _ _ _ _ _ _ _ (by omega) (by omega) dL_law_1460 hw hD
        replace hD := g_neg c303 hD
        by_cases c319 : x3 = 22
        · replace hD := g_pos c319 hD
          refine lv_tableIn (tgt := 1481) C.1.1 C.1.2.1 dL_law_39 (by rw [c319]; decide) (by rw [c319]; decide) (off := 1442) (by rw [c319]; decide) (by decide) ?_
          refine lv_aload_n C.1.1 C.1.2.1 dL_law_1481 rfl (lv_at hl 1 rfl) ?_
          refine lv_aload_n C.1.1 C.1.2.1 dL_law_1482 rfl (lv_at hl 0 rfl) ?_
          refine lv_iload C.1.1 C.1.2.1 dL_law_1483 (lv_at hl 4 rfl) ?_
          refine lv_iconst (v := 1) C.1.1 C.1.2.1 dL_law_1485 (by decide) ?_
          refine lv_iadd C.1.1 C.1.2.1 dL_law_1486 ?_
          obtain ⟨q320, hD⟩ := g_ck hD
          refine va_sld C.1.1 C.1.2.1 hX hbl hbA hw.2.2 q320 dL_law_1487 ?_
          refine lv_i2b C.1.1 C.1.2.1 dL_law_1488 rfl ?_
          obtain ⟨r323, M321, L322, h1, hD⟩ := g_b3 hD
          refine md_cvI (As := [.int ((xs (v4 + 1).toNatClampNeg).toInt8.toInt32)]) (rest := []) C hw (tX11_say l G (mw_ad G) fu ((xs (v4 + 1).toNatClampNeg).toInt8.toInt32) M L h1) kc_11 (by decide) tf_0 wd_667 cwX11_say ⟨Nat.le_of_ble_eq_true rfl, Nat.le_of_ble_eq_true rfl⟩ rfl hl.1 (Nat.le_of_ble_eq_true rfl) dL_law_1489 rfl rfl hc0 rfl (fun H locs hw => ?_)
          refine lv_aload_n C.1.1 C.1.2.1 dL_law_1492 rfl (lv_at hl 2 rfl) ?_
          refine lv_aload_n C.1.1 C.1.2.1 dL_law_1493 rfl (lv_at hl 0 rfl) ?_
          refine lv_iload C.1.1 C.1.2.1 dL_law_1494 (lv_at hl 4 rfl) ?_
          refine lv_iconst (v := 1) C.1.1 C.1.2.1 dL_law_1496 (by decide) ?_
          refine lv_iadd C.1.1 C.1.2.1 dL_law_1497 ?_
          obtain ⟨q324, hD⟩ := g_ck hD
          refine va_sld C.1.1 C.1.2.1 hX hbl hbA hw.2.2 q324 dL_law_1498 ?_
          refine lv_i2b C.1.1 C.1.2.1 dL_law_1499 rfl ?_
          obtain ⟨r327, M325, L326, h1, hD⟩ := g_b3 hD
          refine md_cvI (As := [.int ((xs (v4 + 1).toNatClampNeg).toInt8.toInt32)]) (rest := [.int r323]) C hw (tX19_say_ l G (mw_ad G) fu ((xs (v4 + 1).toNatClampNeg).toInt8.toInt32) M321 L322 h1) kc_19 (by decide) tf_732 wd_4318 cwX19_say_ ⟨Nat.le_of_ble_eq_true rfl, Nat.le_of_ble_eq_true rfl⟩ rfl hl.1 (Nat.le_of_ble_eq_true rfl) dL_law_1500 rfl rfl hc0 rfl (fun H locs hw => ?_)
          refine lv_icmp_eq (tgt := 1646) C.1.1 C.1.2.1 dL_law_1503 (by decide) (fun c328 => ?_) (fun c328 => ?_)
          · replace hD := g_pos c328 hD
            refine W.widen (k := cells + 1) (n := slots + 6) (by omega) (by omega) ?_
            exact hb1646 v4 M325 L326 _ _ ls hD hw (lv_sub hl [0, 1, 2, 3, 4] rfl)
          · replace hD := g_neg c328 hD
            refine lv_iconst (v := 0) C.1.1 C.1.2.1 dL_law_1506 (by decide) ?_
            exact hret _ _ _ _ _ _ _ _ _ (by omega) (by omega) dL_law_1507 hw hD
        replace hD := g_neg c319 hD
        by_cases c329 : x3 = 23
        · replace hD := g_pos c329 hD
          refine lv_tableIn (tgt := 1508) C.1.1 C.1.2.1 dL_law_39 (by rw [c329]; decide) (by rw [c329]; decide) (off := 1469) (by rw [c329]; decide) (by decide) ?_
          refine lv_aload_n C.1.1 C.1.2.1 dL_law_1508 rfl (lv_at hl 1 rfl) ?_
          refine lv_aload_n C.1.1 C.1.2.1 dL_law_1509 rfl (lv_at hl 0 rfl) ?_
          refine lv_iload C.1.1 C.1.2.1 dL_law_1510 (lv_at hl 4 rfl) ?_
          refine lv_iconst (v := 1) C.1.1 C.1.2.1 dL_law_1512 (by decide) ?_
          refine lv_iadd C.1.1 C.1.2.1 dL_law_1513 ?_
          obtain ⟨q330, hD⟩ := g_ck hD
          refine va_sld C.1.1 C.1.2.1 hX hbl hbA hw.2.2 q330 dL_law_1514 ?_
          refine lv_aload_n C.1.1 C.1.2.1 dL_law_1515 rfl (lv_at hl 3 rfl) ?_
          obtain ⟨r333, M331, L332, h1, hD⟩ := g_b3 hD
          refine mx_csI (As := [.ref (mw_ad G 0), .int (xs (v4 + 1).toNatClampNeg), .ref (mw_ad G 1577)]) (rest := []) C KX hw (tL_ask l G (mw_ad G) fu (xs (v4 + 1).toNatClampNeg) M L hst h1) wd_1925 cwL_ask ⟨Nat.le_of_ble_eq_true rfl, Nat.le_of_ble_eq_true rfl⟩ rfl hl.1 (Nat.le_of_ble_eq_true rfl) dL_law_1516 rfl rfl hc1 rfl (fun H locs hw => ?_)
          refine lv_istore (lv' := [(5, .int r333), (0, .ref b), (1, .ref (mw_ad G 0)), (2, .ref (mw_ad G 732)), (3, .ref (mw_ad G 1577)), (4, .int v4)]) C.1.1 C.1.2.1 dL_law_1519 hl (by decide) rfl (fun ls hl => ?_)
          refine lv_aload_n C.1.1 C.1.2.1 dL_law_1521 rfl (lv_at hl 3 rfl) ?_
          refine lv_aload_n C.1.1 C.1.2.1 dL_law_1522 rfl (lv_at hl 1 rfl) ?_
          refine lv_iload C.1.1 C.1.2.1 dL_law_1523 (lv_at hl 5 rfl) ?_
          refine lv_iconst (v := 1) C.1.1 C.1.2.1 dL_law_1525 (by decide) ?_
          refine lv_iadd C.1.1 C.1.2.1 dL_law_1526 ?_
          obtain ⟨q334, hD⟩ := g_ck hD
          refine va_sld C.1.1 C.1.2.1 hX hbl hbA hw.2.2 q334 dL_law_1527 ?_
          obtain ⟨r337, M335, L336, h1, hD⟩ := g_b3 hD
          refine md_cvI (As := [.int (xs (v4 + 1).toNatClampNeg)]) (rest := []) C hw (tX19_ask l G (mw_ad G) fu (xs (v4 + 1).toNatClampNeg) M331 L332 h1) kc_19 (by decide) tf_732 wd_4322 cwX19_ask ⟨Nat.le_of_ble_eq_true rfl, Nat.le_of_ble_eq_true rfl⟩ rfl hl.1 (Nat.le_of_ble_eq_true rfl) dL_law_1528 rfl rfl hc1 rfl (fun H locs hw => ?_)
          refine lv_istore (lv' := [(6, .int r337), (5, .int r333), (0, .ref b), (1, .ref (mw_ad G 0)), (2, .ref (mw_ad G 732)), (3, .ref (mw_ad G 1577)), (4, .int v4)]) C.1.1 C.1.2.1 dL_law_1531 hl (by decide) rfl (fun ls hl => ?_)
          refine lv_aload_n C.1.1 C.1.2.1 dL_law_1533 rfl (lv_at hl 4 rfl) ?_
          obtain ⟨r340, M338, L339, h1, hD⟩ := g_b3 hD
          refine md_cvI (As := []) (rest := []) C hw (tX19_thrown l G (mw_ad G) fu M335 L336 h1) kc_19 (by decide) tf_732 wd_3118 cwX19_thrown ⟨Nat.le_of_ble_eq_true rfl, Nat.le_of_ble_eq_true rfl⟩ rfl hl.1 (Nat.le_of_ble_eq_true rfl) dL_law_1534 rfl rfl hc1 rfl (fun H locs hw => ?_)
          refine lv_iload C.1.1 C.1.2.1 dL_law_1537 (lv_at hl 1 rfl) ?_
          refine lv_icmp_eq (tgt := 1544) C.1.1 C.1.2.1 dL_law_1539 (by decide) (fun c341 => ?_) (fun c341 => ?_)
          · replace hD := g_pos c341 hD
            refine lv_iload C.1.1 C.1.2.1 dL_law_1544 (lv_at hl 1 rfl) ?_
            refine lv_if_ne (tgt := 1561) C.1.1 C.1.2.1 dL_law_1546 (by decide) (fun c342 => ?_) (fun c342 => ?_)
            · replace hD := g_neg c342 hD
              exact hb1561 v4 M338 L339 _ _ ls hD hw (lv_sub hl [2, 3, 4, 5, 6] rfl)
            · replace hD := g_pos c342 hD
              refine lv_aload_n C.1.1 C.1.2.1 dL_law_1549 rfl (lv_at hl 5 rfl) ?_
              refine lv_iconst (v := 0) C.1.1 C.1.2.1 dL_law_1550 (by decide) ?_
              refine mr_lald C hw (by decide) tf_1577 (show vp_in 0 1 from by unfold vp_in; decide) dL_law_1551 ?_
              refine lv_iload C.1.1 C.1.2.1 dL_law_1552 (lv_at hl 0 rfl) ?_
              refine lv_i2l C.1.1 C.1.2.1 dL_law_1554 rfl ?_
              refine W.lcmp C.1.1 C.1.2.1 dL_law_1555 ?_
              refine lv_if_eq (tgt := 1561) C.1.1 C.1.2.1 dL_law_1556 (by decide) (fun c344 => ?_) (fun c344 => ?_)
              · replace hD := g_pos c344 hD
                exact hb1561 v4 M338 L339 _ _ ls hD hw (lv_sub hl [2, 3, 4, 5, 6] rfl)
              · replace hD := g_neg c344 hD
                refine lv_iconst (v := 0) C.1.1 C.1.2.1 dL_law_1559 (by decide) ?_
                exact hret _ _ _ _ _ _ _ _ _ (by omega) (by omega) dL_law_1560 hw hD
          · replace hD := g_neg c341 hD
            refine lv_iconst (v := 0) C.1.1 C.1.2.1 dL_law_1542 (by decide) ?_
            exact hret _ _ _ _ _ _ _ _ _ (by omega) (by omega) dL_law_1543 hw hD
        replace hD := g_neg c329 hD
        by_cases c345 : x3 = 24
        · replace hD := g_pos c345 hD
          refine lv_tableIn (tgt := 1564) C.1.1 C.1.2.1 dL_law_39 (by rw [c345]; decide) (by rw [c345]; decide) (off := 1525) (by rw [c345]; decide) (by decide) ?_
          refine lv_aload_n C.1.1 C.1.2.1 dL_law_1564 rfl (lv_at hl 1 rfl) ?_
          obtain ⟨r348, M346, L347, h1, hD⟩ := g_b3 hD
          refine md_cvI (As := []) (rest := []) C hw (tX11_asking l G (mw_ad G) fu M L h1) kc_11 (by decide) tf_0 wd_671 cwX11_asking ⟨Nat.le_of_ble_eq_true rfl, Nat.le_of_ble_eq_true rfl⟩ rfl hl.1 (Nat.le_of_ble_eq_true rfl) dL_law_1565 rfl rfl hc0 rfl (fun H locs hw => ?_)
          refine lv_aload_n C.1.1 C.1.2.1 dL_law_1568 rfl (lv_at hl 2 rfl) ?_
          obtain ⟨r351, M349, L350, h1, hD⟩ := g_b3 hD
          refine md_cvI (As := []) (rest := [.int r348]) C hw (tX19_asking l G (mw_ad G) fu M346 L347 h1) kc_19 (by decide) tf_732 wd_4326 cwX19_asking ⟨Nat.le_of_ble_eq_true rfl, Nat.le_of_ble_eq_true rfl⟩ rfl hl.1 (Nat.le_of_ble_eq_true rfl) dL_law_1569 rfl rfl hc0 rfl (fun H locs hw => ?_)
          refine lv_icmp_eq (tgt := 1646) C.1.1 C.1.2.1 dL_law_1572 (by decide) (fun c352 => ?_) (fun c352 => ?_)
          · replace hD := g_pos c352 hD
            refine W.widen (k := cells + 1) (n := slots + 6) (by omega) (by omega) ?_
            exact hb1646 v4 M349 L350 _ _ ls hD hw (lv_sub hl [0, 1, 2, 3, 4] rfl)
          · replace hD := g_neg c352 hD
            refine lv_iconst (v := 0) C.1.1 C.1.2.1 dL_law_1575 (by decide) ?_
            exact hret _ _ _ _ _ _ _ _ _ (by omega) (by omega) dL_law_1576 hw hD
        replace hD := g_neg c345 hD
        by_cases c353 : x3 = 25
        · replace hD := g_pos c353 hD
          refine lv_tableIn (tgt := 1577) C.1.1 C.1.2.1 dL_law_39 (by rw [c353]; decide) (by rw [c353]; decide) (off := 1538) (by rw [c353]; decide) (by decide) ?_
          refine lv_aload_n C.1.1 C.1.2.1 dL_law_1577 rfl (lv_at hl 1 rfl) ?_
          refine lv_aload_n C.1.1 C.1.2.1 dL_law_1578 rfl (lv_at hl 0 rfl) ?_
          refine lv_iload C.1.1 C.1.2.1 dL_law_1579 (lv_at hl 4 rfl) ?_
          refine lv_iconst (v := 1) C.1.1 C.1.2.1 dL_law_1581 (by decide) ?_
          refine lv_iadd C.1.1 C.1.2.1 dL_law_1582 ?_
          obtain ⟨q354, hD⟩ := g_ck hD
          refine va_sld C.1.1 C.1.2.1 hX hbl hbA hw.2.2 q354 dL_law_1583 ?_
          refine lv_aload_n C.1.1 C.1.2.1 dL_law_1584 rfl (lv_at hl 3 rfl) ?_
          obtain ⟨r357, M355, L356, h1, hD⟩ := g_b3 hD
          refine mx_csI (As := [.ref (mw_ad G 0), .int (xs (v4 + 1).toNatClampNeg), .ref (mw_ad G 1577)]) (rest := []) C KX hw (tL_answer l G (mw_ad G) fu (xs (v4 + 1).toNatClampNeg) M L hst h1) wd_1934 cwL_answer ⟨Nat.le_of_ble_eq_true rfl, Nat.le_of_ble_eq_true rfl⟩ rfl hl.1 (Nat.le_of_ble_eq_true rfl) dL_law_1585 rfl rfl hc1 rfl (fun H locs hw => ?_)
          refine lv_istore (lv' := [(5, .int r357), (0, .ref b), (1, .ref (mw_ad G 0)), (2, .ref (mw_ad G 732)), (3, .ref (mw_ad G 1577)), (4, .int v4)]) C.1.1 C.1.2.1 dL_law_1588 hl (by decide) rfl (fun ls hl => ?_)
          refine lv_aload_n C.1.1 C.1.2.1 dL_law_1590 rfl (lv_at hl 3 rfl) ?_
          refine lv_aload_n C.1.1 C.1.2.1 dL_law_1591 rfl (lv_at hl 1 rfl) ?_
          refine lv_iload C.1.1 C.1.2.1 dL_law_1592 (lv_at hl 5 rfl) ?_
          refine lv_iconst (v := 1) C.1.1 C.1.2.1 dL_law_1594 (by decide) ?_
          refine lv_iadd C.1.1 C.1.2.1 dL_law_1595 ?_
          obtain ⟨q358, hD⟩ := g_ck hD
          refine va_sld C.1.1 C.1.2.1 hX hbl hbA hw.2.2 q358 dL_law_1596 ?_
          obtain ⟨r361, M359, L360, h1, hD⟩ := g_b3 hD
          refine md_cvI (As := [.int (xs (v4 + 1).toNatClampNeg)]) (rest := []) C hw (tX19_answer l G (mw_ad G) fu (xs (v4 + 1).toNatClampNeg) M355 L356 h1) kc_19 (by decide) tf_732 wd_4330 cwX19_answer ⟨Nat.le_of_ble_eq_true rfl, Nat.le_of_ble_eq_true rfl⟩ rfl hl.1 (Nat.le_of_ble_eq_true rfl) dL_law_1597 rfl rfl hc1 rfl (fun H locs hw => ?_)
          refine lv_istore (lv' := [(6, .int r361), (5, .int r357), (0, .ref b), (1, .ref (mw_ad G 0)), (2, .ref (mw_ad G 732)), (3, .ref (mw_ad G 1577)), (4, .int v4)]) C.1.1 C.1.2.1 dL_law_1600 hl (by decide) rfl (fun ls hl => ?_)
          refine lv_aload_n C.1.1 C.1.2.1 dL_law_1602 rfl (lv_at hl 4 rfl) ?_
          obtain ⟨r364, M362, L363, h1, hD⟩ := g_b3 hD
          refine md_cvI (As := []) (rest := []) C hw (tX19_thrown l G (mw_ad G) fu M359 L360 h1) kc_19 (by decide) tf_732 wd_3118 cwX19_thrown ⟨Nat.le_of_ble_eq_true rfl, Nat.le_of_ble_eq_true rfl⟩ rfl hl.1 (Nat.le_of_ble_eq_true rfl) dL_law_1603 rfl rfl hc1 rfl (fun H locs hw => ?_)
          refine lv_iload C.1.1 C.1.2.1 dL_law_1606 (lv_at hl 1 rfl) ?_
          refine lv_icmp_eq (tgt := 1613) C.1.1 C.1.2.1 dL_law_1608 (by decide) (fun c365 => ?_) (fun c365 => ?_)
          · replace hD := g_pos c365 hD
            refine lv_iload C.1.1 C.1.2.1 dL_law_1613 (lv_at hl 1 rfl) ?_
            refine lv_if_ne (tgt := 1630) C.1.1 C.1.2.1 dL_law_1615 (by decide) (fun c366 => ?_) (fun c366 => ?_)
            · replace hD := g_neg c366 hD
              exact hb1630 v4 M362 L363 _ _ ls hD hw (lv_sub hl [2, 3, 4, 5, 6] rfl)
            · replace hD := g_pos c366 hD
              refine lv_aload_n C.1.1 C.1.2.1 dL_law_1618 rfl (lv_at hl 5 rfl) ?_
              refine lv_iconst (v := 0) C.1.1 C.1.2.1 dL_law_1619 (by decide) ?_
              refine mr_lald C hw (by decide) tf_1577 (show vp_in 0 1 from by unfold vp_in; decide) dL_law_1620 ?_
              refine lv_iload C.1.1 C.1.2.1 dL_law_1621 (lv_at hl 0 rfl) ?_
              refine lv_i2l C.1.1 C.1.2.1 dL_law_1623 rfl ?_
              refine W.lcmp C.1.1 C.1.2.1 dL_law_1624 ?_
              refine lv_if_eq (tgt := 1630) C.1.1 C.1.2.1 dL_law_1625 (by decide) (fun c368 => ?_) (fun c368 => ?_)
              · replace hD := g_pos c368 hD
                exact hb1630 v4 M362 L363 _ _ ls hD hw (lv_sub hl [2, 3, 4, 5, 6] rfl)
              · replace hD := g_neg c368 hD
                refine lv_iconst (v := 0) C.1.1 C.1.2.1 dL_law_1628 (by decide) ?_
                exact hret _ _ _ _ _ _ _ _ _ (by omega) (by omega) dL_law_1629 hw hD
          · replace hD := g_neg c365 hD
            refine lv_iconst (v := 0) C.1.1 C.1.2.1 dL_law_1611 (by decide) ?_
            exact hret _ _ _ _ _ _ _ _ _ (by omega) (by omega) dL_law_1612 hw hD
        replace hD := g_neg c353 hD
        by_cases c369 : x3 = 26
        · replace hD := g_pos c369 hD
          refine lv_tableIn (tgt := 1633) C.1.1 C.1.2.1 dL_law_39 (by rw [c369]; decide) (by rw [c369]; decide) (off := 1594) (by rw [c369]; decide) (by decide) ?_
          refine lv_aload_n C.1.1 C.1.2.1 dL_law_1633 rfl (lv_at hl 1 rfl) ?_
          obtain ⟨r372, M370, L371, h1, hD⟩ := g_b3 hD
          refine md_cvI (As := []) (rest := []) C hw (tX11_answers l G (mw_ad G) fu M L h1) kc_11 (by decide) tf_0 wd_675 cwX11_answers ⟨Nat.le_of_ble_eq_true rfl, Nat.le_of_ble_eq_true rfl⟩ rfl hl.1 (Nat.le_of_ble_eq_true rfl) dL_law_1634 rfl rfl hc0 rfl (fun H locs hw => ?_)
          refine lv_aload_n C.1.1 C.1.2.1 dL_law_1637 rfl (lv_at hl 2 rfl) ?_
          obtain ⟨r375, M373, L374, h1, hD⟩ := g_b3 hD
          refine md_cvI (As := []) (rest := [.int r372]) C hw (tX19_answers l G (mw_ad G) fu M370 L371 h1) kc_19 (by decide) tf_732 wd_4334 cwX19_answers ⟨Nat.le_of_ble_eq_true rfl, Nat.le_of_ble_eq_true rfl⟩ rfl hl.1 (Nat.le_of_ble_eq_true rfl) dL_law_1638 rfl rfl hc0 rfl (fun H locs hw => ?_)
          refine lv_icmp_eq (tgt := 1646) C.1.1 C.1.2.1 dL_law_1641 (by decide) (fun c376 => ?_) (fun c376 => ?_)
          · replace hD := g_pos c376 hD
            refine W.widen (k := cells + 1) (n := slots + 6) (by omega) (by omega) ?_
            exact hb1646 v4 M373 L374 _ _ ls hD hw (lv_sub hl [0, 1, 2, 3, 4] rfl)
          · replace hD := g_neg c376 hD
            refine lv_iconst (v := 0) C.1.1 C.1.2.1 dL_law_1644 (by decide) ?_
            exact hret _ _ _ _ _ _ _ _ _ (by omega) (by omega) dL_law_1645 hw hD
        replace hD := g_neg c369 hD
        have nc4 : ¬ x3.toInt = 0 := fun q => c4 (Int32.toInt_inj.mp (q.trans (by decide)))
        have nc22 : ¬ x3.toInt = 1 := fun q => c22 (Int32.toInt_inj.mp (q.trans (by decide)))
        have nc38 : ¬ x3.toInt = 2 := fun q => c38 (Int32.toInt_inj.mp (q.trans (by decide)))
        have nc52 : ¬ x3.toInt = 3 := fun q => c52 (Int32.toInt_inj.mp (q.trans (by decide)))
        have nc60 : ¬ x3.toInt = 4 := fun q => c60 (Int32.toInt_inj.mp (q.trans (by decide)))
        have nc76 : ¬ x3.toInt = 5 := fun q => c76 (Int32.toInt_inj.mp (q.trans (by decide)))
        have nc94 : ¬ x3.toInt = 6 := fun q => c94 (Int32.toInt_inj.mp (q.trans (by decide)))
        have nc98 : ¬ x3.toInt = 7 := fun q => c98 (Int32.toInt_inj.mp (q.trans (by decide)))
        have nc114 : ¬ x3.toInt = 8 := fun q => c114 (Int32.toInt_inj.mp (q.trans (by decide)))
        have nc122 : ¬ x3.toInt = 9 := fun q => c122 (Int32.toInt_inj.mp (q.trans (by decide)))
        have nc138 : ¬ x3.toInt = 10 := fun q => c138 (Int32.toInt_inj.mp (q.trans (by decide)))
        have nc156 : ¬ x3.toInt = 11 := fun q => c156 (Int32.toInt_inj.mp (q.trans (by decide)))
        have nc174 : ¬ x3.toInt = 12 := fun q => c174 (Int32.toInt_inj.mp (q.trans (by decide)))
        have nc188 : ¬ x3.toInt = 13 := fun q => c188 (Int32.toInt_inj.mp (q.trans (by decide)))
        have nc192 : ¬ x3.toInt = 14 := fun q => c192 (Int32.toInt_inj.mp (q.trans (by decide)))
        have nc210 : ¬ x3.toInt = 15 := fun q => c210 (Int32.toInt_inj.mp (q.trans (by decide)))
        have nc228 : ¬ x3.toInt = 16 := fun q => c228 (Int32.toInt_inj.mp (q.trans (by decide)))
        have nc246 : ¬ x3.toInt = 17 := fun q => c246 (Int32.toInt_inj.mp (q.trans (by decide)))
        have nc264 : ¬ x3.toInt = 18 := fun q => c264 (Int32.toInt_inj.mp (q.trans (by decide)))
        have nc282 : ¬ x3.toInt = 19 := fun q => c282 (Int32.toInt_inj.mp (q.trans (by decide)))
        have nc300 : ¬ x3.toInt = 20 := fun q => c300 (Int32.toInt_inj.mp (q.trans (by decide)))
        have nc303 : ¬ x3.toInt = 21 := fun q => c303 (Int32.toInt_inj.mp (q.trans (by decide)))
        have nc319 : ¬ x3.toInt = 22 := fun q => c319 (Int32.toInt_inj.mp (q.trans (by decide)))
        have nc329 : ¬ x3.toInt = 23 := fun q => c329 (Int32.toInt_inj.mp (q.trans (by decide)))
        have nc345 : ¬ x3.toInt = 24 := fun q => c345 (Int32.toInt_inj.mp (q.trans (by decide)))
        have nc353 : ¬ x3.toInt = 25 := fun q => c353 (Int32.toInt_inj.mp (q.trans (by decide)))
        have nc369 : ¬ x3.toInt = 26 := fun q => c369 (Int32.toInt_inj.mp (q.trans (by decide)))
        refine lv_tableOut (tgt := 1646) C.1.1 C.1.2.1 dL_law_39 (by omega) (by decide) ?_
        refine W.widen (k := cells + 1) (n := slots + 6) (by omega) (by omega) ?_
        exact hb1646 v4 M L _ _ ls hD hw (lv_sub hl [0, 1, 2, 3, 4] rfl)
  unfold DL_law at hD
  refine lv_iconst (v := 0) C.1.1 C.1.2.1 dL_law_20 (by decide) ?_
  refine lv_istore (lv' := [(4, .int 0), (0, .ref b), (1, .ref (mw_ad G 0)), (2, .ref (mw_ad G 732)), (3, .ref (mw_ad G 1577))]) C.1.1 C.1.2.1 dL_law_21 hl (by decide) rfl (fun ls hl => ?_)
  exact hh23 fl _ _ hfl1 hfl2 0 M L _ _ ls hD hw (lv_sub hl [1, 2, 3, 4, 0] rfl)
