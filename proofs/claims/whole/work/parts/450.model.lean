theorem dX19_answers_0 : decode cX19_answers 0 = .ok (.aload_n 0, 1) := by decide +kernel
theorem dX19_answers_1 : decode cX19_answers 1 = .ok (.iconst 0, 1) := by decide +kernel
theorem dX19_answers_2 : decode cX19_answers 2 = .ok (.putfield 289, 3) := by decide +kernel
theorem dX19_answers_5 : decode cX19_answers 5 = .ok (.aload_n 0, 1) := by decide +kernel
theorem dX19_answers_6 : decode cX19_answers 6 = .ok (.getfield 630, 3) := by decide +kernel
theorem dX19_answers_9 : decode cX19_answers 9 = .ok (.ifCond .eq 10, 3) := by decide +kernel
theorem dX19_answers_12 : decode cX19_answers 12 = .ok (.aload_n 0, 1) := by decide +kernel
theorem dX19_answers_13 : decode cX19_answers 13 = .ok (.getfield 618, 3) := by decide +kernel
theorem dX19_answers_16 : decode cX19_answers 16 = .ok (.goto 4, 3) := by decide +kernel
theorem dX19_answers_19 : decode cX19_answers 19 = .ok (.iconst 0, 1) := by decide +kernel
theorem dX19_answers_20 : decode cX19_answers 20 = .ok (.ireturn, 1) := by decide +kernel
theorem cwX19_answers : mw_cwV yX19_answers cX19_answers 1 ((some .int)) 0 := ⟨⟨wd_13, wd_4337, by decide +kernel⟩, wd_4335, wd_4336⟩
noncomputable def fX19_answers_b20 (fu : Nat) (s0 : Int32) (M : mwM) (L : mwL) : Option (Int32 × mwM × mwL) :=
  some (s0, M, L)
noncomputable def DX19_answers (fu : Nat) (M : mwM) (L : mwL) : Option (Int32 × mwM × mwL) :=
  mlet (mset M 732 0 0) (fun M1 => (if (M1 732 4) = 0 then fX19_answers_b20 fu 0 M1 L else fX19_answers_b20 fu (M1 732 98) M1 L))
set_option maxHeartbeats 4000000 in
set_option maxRecDepth 100000 in
theorem tX19_answers (l : Launch) (G : mwG) (ad : Nat → Nat) (fu : Nat) (M : mwM) (L : mwL) {r0 : Int32} {M0 : mwM} {L0 : mwL} (hD : DX19_answers fu M L = some (r0, M0, L0)) : Met l yX19_answers (Cond.code yX19_answers cX19_answers 1 ((some .int)) :: GT) ({ frames := 0, cells := 0, slots := 0, locals := 0 }) (mw_Pre G ad NF TF FF M L [.ref (ad 732)]) (mw_Qi G ad NF TF FF (mw_eqI r0 M0 L0)) 0 0 (mw_fr G) := by
  refine mw_enter (by decide) (Nat.le_of_ble_eq_true rfl) ?_
  intro p e s m below meth c ls C hr hlocks hnm hw hl
  have hl : lv_has ls 1 [(0, .ref (ad 732))] := hl
  have hb20 : ∀ (s0 : Int32) (M : mwM) (L : mwL) (H : Heap) (locs : List Loc) (ls : Array Slot), fX19_answers_b20 fu s0 M L = some (r0, M0, L0) → mw_W G ad NF TF FF M L H locs → lv_has ls 1 [] → W p l e ({ frames := 0, cells := 0, slots := 0, locals := 0 }) s m [.ref (ad 732)].toArray below meth c H locs 0 0 (MQ below (mw_Qi G ad NF TF FF (mw_eqI r0 M0 L0)) [.ref (ad 732)].toArray s 0 0 (mw_fr G)) (F0 m 20 ls [.int s0]) := by
    intro s0 M L H locs ls hD hw hl
    unfold fX19_answers_b20 at hD
    exact mr_iret C hr hlocks hw rfl (Option.some.inj hD) dX19_answers_20
  unfold DX19_answers at hD
  refine lv_aload_n C.1.1 C.1.2.1 dX19_answers_0 rfl (lv_at hl 0 rfl) ?_
  refine lv_iconst (v := 0) C.1.1 C.1.2.1 dX19_answers_1 (by decide) ?_
  obtain ⟨M1, eM1, hD⟩ := g_let hD
  refine mr_putI C hw kc_19 0 (by decide) tf_732 wd_2781 dX19_answers_2 (by decide) rfl rfl rfl rfl (fun H locs hw => ?_)
  replace hw : mw_W G ad NF TF FF M1 L H locs := by rw [eM1]; exact hw
  refine lv_aload_n C.1.1 C.1.2.1 dX19_answers_5 rfl (lv_at hl 0 rfl) ?_
  refine mr_getI C hw kc_19 4 (by decide) tf_732 wd_2785 dX19_answers_6 (by decide) rfl ?_
  refine lv_if_eq (tgt := 19) C.1.1 C.1.2.1 dX19_answers_9 (by decide) (fun c2 => ?_) (fun c2 => ?_)
  · replace hD := g_pos c2 hD
    refine lv_iconst (v := 0) C.1.1 C.1.2.1 dX19_answers_19 (by decide) ?_
    exact hb20 0 M1 L _ _ ls hD hw (lv_sub hl [] rfl)
  · replace hD := g_neg c2 hD
    refine lv_aload_n C.1.1 C.1.2.1 dX19_answers_12 rfl (lv_at hl 0 rfl) ?_
    refine mr_getI C hw kc_19 98 (by decide) tf_732 wd_2879 dX19_answers_13 (by decide) rfl ?_
    refine lv_goto (tgt := 20) C.1.1 C.1.2.1 dX19_answers_16 (by decide) ?_
    exact hb20 (M1 732 98) M1 L _ _ ls hD hw (lv_sub hl [] rfl)
