theorem dX5_init_0 : decode cX5_init 0 = .ok (.aload_n 0, 1) := by decide +kernel
theorem dX5_init_1 : decode cX5_init 1 = .ok (.invokespecial 1, 3) := by decide +kernel
theorem dX5_init_4 : decode cX5_init 4 = .ok (.aload_n 0, 1) := by decide +kernel
theorem dX5_init_5 : decode cX5_init 5 = .ok (.bipush 64, 2) := by decide +kernel
theorem dX5_init_7 : decode cX5_init 7 = .ok (.newarray .int, 2) := by decide +kernel
theorem dX5_init_9 : decode cX5_init 9 = .ok (.putfield 7, 3) := by decide +kernel
theorem dX5_init_12 : decode cX5_init 12 = .ok (.return_, 1) := by decide +kernel
theorem cwX5_init : mw_cw yX5_init cX5_init 1 none 0 := ⟨wd_6, wd_104, by decide +kernel⟩
noncomputable def DX5_init (fu : Nat) (k : Nat) (F : mwF) (M : mwM) (L : mwL) : Option (mwF × mwM × mwL) :=
  mlet (mz 0 M (k + 1)) (fun M1 => mlet (mset F k 0 (some (k + 1))) (fun F2 => some (F2, M1, L)))
set_option maxHeartbeats 4000000 in
theorem kX5_init {fu : Nat} {k : Nat} {F : mwF} {M : mwM} {L : mwL} {F9 : mwF} {M9 : mwM} {L9 : mwL} (hD : DX5_init fu k F M L = some (F9, M9, L9)) : ∀ a j, (a < k ∨ (k + 2) ≤ a) → F9 a j = F a j := by
  intro a j ha
  unfold DX5_init at hD
  obtain ⟨M1, eM1, hD⟩ := g_let hD
  obtain ⟨F2, eF2, hD⟩ := g_let hD
  have hf := congrArg (fun q => q.1) (Option.some.inj hD)
  dsimp only at hf
  rw [← hf]
  rw [eF2, mset_k (by omega)]
set_option maxHeartbeats 4000000 in
set_option maxRecDepth 100000 in
theorem tX5_init (l : Launch) (G : mwG) (fu : Nat) (k : Nat) (F : mwF) (M : mwM) (L : mwL) {F9 : mwF} {M9 : mwM} {L9 : mwL} (hD : DX5_init fu k F M L = some (F9, M9, L9)) (hk0 : isEa k) : Met l yX5_init (Cond.code yX5_init cX5_init 1 none :: GT) ({ frames := 1, cells := 1, slots := 64, locals := 20 }) (mw_PreC G (k + 1) F M L [.ref (mw_ad G k)]) (mw_QC G (k + 2) F9 M9 L9) 1 64 (mw_fr G) := by
  refine mw_enterC (by decide) (Nat.le_of_ble_eq_true rfl) ?_
  intro p e s m below meth c ls C A hr hlocks hnm hw hs0 hl
  have hl : lv_has ls 1 [(0, .ref (mw_ad G k))] := hl
  unfold DX5_init at hD
  refine lv_aload_n C.1.1 C.1.2.1 dX5_init_0 rfl (lv_at hl 0 rfl) ?_
  refine W.objInit C.1.1 C.1.2.1 C.1.2.2.2.1 (C.1.2.2.2.2 _ wd_105) (C.1.2.2.2.2 _ wd_39) (C.1.2.2.2.2 _ wd_40) rfl (by rw [C.1.2.2.1]; exact hl.1) rfl dX5_init_1 (Nat.le_of_ble_eq_true rfl) (Nat.le_of_ble_eq_true rfl) ?_
  refine W.eq (g2 := F0 m 4 ls []) rfl ?_
  refine lv_aload_n C.1.1 C.1.2.1 dX5_init_4 rfl (lv_at hl 0 rfl) ?_
  refine lv_bipush (v := 64) C.1.1 C.1.2.1 dX5_init_5 (by decide) ?_
  refine mw_size hw (by omega) (fun hs => ?_)
  obtain ⟨M1, eM1, hD⟩ := g_let hD
  refine mr_newI (atype := .int) (t := 0) (n := 64) C hw hs (Ea_T1 hk0) (by decide) rfl wd_91 rfl (fun _ => rfl) (by decide) (by decide) (by decide) (Nat.le_of_ble_eq_true rfl) (Nat.le_of_ble_eq_true rfl) dX5_init_7 (fun H hw _ => ?_)
  replace hw : mw_W G (mw_ad G) (k + 2) TF F M1 L H [] := by rw [eM1]; exact hw
  refine W.widen (k := 1) (n := 64) (Nat.le_of_ble_eq_true rfl) (Nat.le_of_ble_eq_true rfl) ?_
  obtain ⟨F2, eF2, hD⟩ := g_let hD
  refine mr_putFR C hw kc_5 0 (by omega) (Ea_T0 hk0) wd_106 dX5_init_9 (by decide) rfl rfl hnm rfl rfl rfl (fun H locs hw => ?_)
  replace hw : mw_W G (mw_ad G) (k + 2) TF F2 M1 L H locs := by rw [eF2]; exact hw
  refine mw_size hw (by omega) (fun hs => ?_)
  exact mr_cret C hr hlocks hw hs (Option.some.inj hD) dX5_init_12

theorem dX0_init_0 : decode cX0_init 0 = .ok (.aload_n 0, 1) := by decide +kernel
theorem dX0_init_1 : decode cX0_init 1 = .ok (.invokespecial 5, 3) := by decide +kernel
theorem dX0_init_4 : decode cX0_init 4 = .ok (.aload_n 0, 1) := by decide +kernel
theorem dX0_init_5 : decode cX0_init 5 = .ok (.sipush 20000, 3) := by decide +kernel
theorem dX0_init_8 : decode cX0_init 8 = .ok (.newarray .byte, 2) := by decide +kernel
theorem dX0_init_10 : decode cX0_init 10 = .ok (.putfield 11, 3) := by decide +kernel
theorem dX0_init_13 : decode cX0_init 13 = .ok (.aload_n 0, 1) := by decide +kernel
theorem dX0_init_14 : decode cX0_init 14 = .ok (.sipush 20000, 3) := by decide +kernel
theorem dX0_init_17 : decode cX0_init 17 = .ok (.newarray .byte, 2) := by decide +kernel
theorem dX0_init_19 : decode cX0_init 19 = .ok (.putfield 15, 3) := by decide +kernel
theorem dX0_init_22 : decode cX0_init 22 = .ok (.aload_n 0, 1) := by decide +kernel
theorem dX0_init_23 : decode cX0_init 23 = .ok (.sipush 17507, 3) := by decide +kernel
theorem dX0_init_26 : decode cX0_init 26 = .ok (.newarray .int, 2) := by decide +kernel
theorem dX0_init_28 : decode cX0_init 28 = .ok (.putfield 18, 3) := by decide +kernel
theorem dX0_init_31 : decode cX0_init 31 = .ok (.aload_n 0, 1) := by decide +kernel
theorem dX0_init_32 : decode cX0_init 32 = .ok (.bipush 8, 2) := by decide +kernel
theorem dX0_init_34 : decode cX0_init 34 = .ok (.bipush 7, 2) := by decide +kernel
theorem dX0_init_36 : decode cX0_init 36 = .ok (.multianewarray 22 2, 4) := by decide +kernel
theorem dX0_init_40 : decode cX0_init 40 = .ok (.putfield 24, 3) := by decide +kernel
theorem dX0_init_43 : decode cX0_init 43 = .ok (.aload_n 0, 1) := by decide +kernel
theorem dX0_init_44 : decode cX0_init 44 = .ok (.bipush 7, 2) := by decide +kernel
theorem dX0_init_46 : decode cX0_init 46 = .ok (.sipush 140, 3) := by decide +kernel
theorem dX0_init_49 : decode cX0_init 49 = .ok (.multianewarray 22 2, 4) := by decide +kernel
theorem dX0_init_53 : decode cX0_init 53 = .ok (.putfield 27, 3) := by decide +kernel
theorem dX0_init_56 : decode cX0_init 56 = .ok (.aload_n 0, 1) := by decide +kernel
theorem dX0_init_57 : decode cX0_init 57 = .ok (.bipush 7, 2) := by decide +kernel
theorem dX0_init_59 : decode cX0_init 59 = .ok (.anewarray 30, 3) := by decide +kernel
theorem dX0_init_62 : decode cX0_init 62 = .ok (.putfield 32, 3) := by decide +kernel
theorem dX0_init_65 : decode cX0_init 65 = .ok (.aload_n 0, 1) := by decide +kernel
theorem dX0_init_66 : decode cX0_init 66 = .ok (.iconst 3, 1) := by decide +kernel
theorem dX0_init_67 : decode cX0_init 67 = .ok (.sipush 200, 3) := by decide +kernel
theorem dX0_init_70 : decode cX0_init 70 = .ok (.multianewarray 22 2, 4) := by decide +kernel
theorem dX0_init_74 : decode cX0_init 74 = .ok (.putfield 36, 3) := by decide +kernel
theorem dX0_init_77 : decode cX0_init 77 = .ok (.aload_n 0, 1) := by decide +kernel
theorem dX0_init_78 : decode cX0_init 78 = .ok (.sipush 1600, 3) := by decide +kernel
theorem dX0_init_81 : decode cX0_init 81 = .ok (.newarray .int, 2) := by decide +kernel
theorem dX0_init_83 : decode cX0_init 83 = .ok (.putfield 39, 3) := by decide +kernel
theorem dX0_init_86 : decode cX0_init 86 = .ok (.iconst 0, 1) := by decide +kernel
theorem dX0_init_87 : decode cX0_init 87 = .ok (.istore_n 1, 1) := by decide +kernel
theorem dX0_init_88 : decode cX0_init 88 = .ok (.iload_n 1, 1) := by decide +kernel
theorem dX0_init_89 : decode cX0_init 89 = .ok (.bipush 7, 2) := by decide +kernel
theorem dX0_init_91 : decode cX0_init 91 = .ok (.if_icmp .ge 22, 3) := by decide +kernel
theorem dX0_init_94 : decode cX0_init 94 = .ok (.aload_n 0, 1) := by decide +kernel
theorem dX0_init_95 : decode cX0_init 95 = .ok (.getfield 32, 3) := by decide +kernel
theorem dX0_init_98 : decode cX0_init 98 = .ok (.iload_n 1, 1) := by decide +kernel
theorem dX0_init_99 : decode cX0_init 99 = .ok (.new 30, 3) := by decide +kernel
theorem dX0_init_102 : decode cX0_init 102 = .ok (.dup, 1) := by decide +kernel
theorem dX0_init_103 : decode cX0_init 103 = .ok (.invokespecial 42, 3) := by decide +kernel
theorem dX0_init_106 : decode cX0_init 106 = .ok (.aastore, 1) := by decide +kernel
theorem dX0_init_107 : decode cX0_init 107 = .ok (.iinc 1 1, 3) := by decide +kernel
theorem dX0_init_110 : decode cX0_init 110 = .ok (.goto (-22), 3) := by decide +kernel
theorem dX0_init_113 : decode cX0_init 113 = .ok (.return_, 1) := by decide +kernel
theorem cwX0_init : mw_cw yX0_init cX0_init 2 none 0 := ⟨wd_5, wd_96, by decide +kernel⟩
noncomputable def DX0_init (fu : Nat) (F : mwF) (M : mwM) (L : mwL) : Option (mwF × mwM × mwL) :=
  mlet (mz 0 M 21) (fun M1 => mlet (mset F 20 0 (some 21)) (fun F2 => mlet (mz 0 M1 22) (fun M3 => mlet (mset F2 20 1 (some 22)) (fun F4 => mlet (mz 0 M3 23) (fun M5 => mlet (mset F4 20 2 (some 23)) (fun F6 => mlet (mrow F6 24 8) (fun F7 => mlet (mzr M5 24 8) (fun M8 => mlet (mset F7 20 3 (some 24)) (fun F9 => mlet (mrow F9 33 7) (fun F10 => mlet (mzr M8 33 7) (fun M11 => mlet (mset F10 20 4 (some 33)) (fun F12 => mlet (mz none F12 41) (fun F13 => mlet (mset F13 20 5 (some 41)) (fun F14 => mlet (mrow F14 42 3) (fun F15 => mlet (mzr M11 42 3) (fun M16 => mlet (mset F15 20 6 (some 42)) (fun F17 => mlet (mz 0 M16 46) (fun M18 => mlet (mset F17 20 7 (some 46)) (fun F19 => mlet (mz none F19 47) (fun F20 => mlet (mz 0 M18 47) (fun M21 => mlet (mz 0 L 47) (fun L22 => mb3 (DX5_init fu 47 F20 M21 L22) (fun F23 M24 L25 => mlet (mset F23 41 ((0 : Int32).toNatClampNeg) (some 47)) (fun F26 => mlet (mz none F26 49) (fun F27 => mlet (mz 0 M24 49) (fun M28 => mlet (mz 0 L25 49) (fun L29 => mb3 (DX5_init fu 49 F27 M28 L29) (fun F30 M31 L32 => mlet (mset F30 41 ((1 : Int32).toNatClampNeg) (some 49)) (fun F33 => mlet (mz none F33 51) (fun F34 => mlet (mz 0 M31 51) (fun M35 => mlet (mz 0 L32 51) (fun L36 => mb3 (DX5_init fu 51 F34 M35 L36) (fun F37 M38 L39 => mlet (mset F37 41 ((2 : Int32).toNatClampNeg) (some 51)) (fun F40 => mlet (mz none F40 53) (fun F41 => mlet (mz 0 M38 53) (fun M42 => mlet (mz 0 L39 53) (fun L43 => mb3 (DX5_init fu 53 F41 M42 L43) (fun F44 M45 L46 => mlet (mset F44 41 ((3 : Int32).toNatClampNeg) (some 53)) (fun F47 => mlet (mz none F47 55) (fun F48 => mlet (mz 0 M45 55) (fun M49 => mlet (mz 0 L46 55) (fun L50 => mb3 (DX5_init fu 55 F48 M49 L50) (fun F51 M52 L53 => mlet (mset F51 41 ((4 : Int32).toNatClampNeg) (some 55)) (fun F54 => mlet (mz none F54 57) (fun F55 => mlet (mz 0 M52 57) (fun M56 => mlet (mz 0 L53 57) (fun L57 => mb3 (DX5_init fu 57 F55 M56 L57) (fun F58 M59 L60 => mlet (mset F58 41 ((5 : Int32).toNatClampNeg) (some 57)) (fun F61 => mlet (mz none F61 59) (fun F62 => mlet (mz 0 M59 59) (fun M63 => mlet (mz 0 L60 59) (fun L64 => mb3 (DX5_init fu 59 F62 M63 L64) (fun F65 M66 L67 => mlet (mset F65 41 ((6 : Int32).toNatClampNeg) (some 59)) (fun F68 => some (F68, M66, L67)))))))))))))))))))))))))))))))))))))))))))))))))))))))
set_option maxHeartbeats 4000000 in
theorem kX0_init {fu : Nat} {F : mwF} {M : mwM} {L : mwL} {F9 : mwF} {M9 : mwM} {L9 : mwL} (hD : DX0_init fu F M L = some (F9, M9, L9)) : ∀ a j, (a < 20 ∨ 61 ≤ a) → F9 a j = F a j := by
  intro a j ha
  unfold DX0_init at hD
  obtain ⟨M1, eM1, hD⟩ := g_let hD
  obtain ⟨F2, eF2, hD⟩ := g_let hD
  obtain ⟨M3, eM3, hD⟩ := g_let hD
  obtain ⟨F4, eF4, hD⟩ := g_let hD
  obtain ⟨M5, eM5, hD⟩ := g_let hD
  obtain ⟨F6, eF6, hD⟩ := g_let hD
  obtain ⟨F7, eF7, hD⟩ := g_let hD
  obtain ⟨M8, eM8, hD⟩ := g_let hD
  obtain ⟨F9, eF9, hD⟩ := g_let hD
  obtain ⟨F10, eF10, hD⟩ := g_let hD
  obtain ⟨M11, eM11, hD⟩ := g_let hD
  obtain ⟨F12, eF12, hD⟩ := g_let hD
  obtain ⟨F13, eF13, hD⟩ := g_let hD
  obtain ⟨F14, eF14, hD⟩ := g_let hD
  obtain ⟨F15, eF15, hD⟩ := g_let hD
  obtain ⟨M16, eM16, hD⟩ := g_let hD
  obtain ⟨F17, eF17, hD⟩ := g_let hD
  obtain ⟨M18, eM18, hD⟩ := g_let hD
  obtain ⟨F19, eF19, hD⟩ := g_let hD
  obtain ⟨F20, eF20, hD⟩ := g_let hD
  obtain ⟨M21, eM21, hD⟩ := g_let hD
  obtain ⟨L22, eL22, hD⟩ := g_let hD
  obtain ⟨F23, M24, L25, h1, hD⟩ := g_b3 hD
  have eF23 : ∀ a j, (a < 47 ∨ 49 ≤ a) → F23 a j = F20 a j := fun a j ha => kX5_init h1 a j (by omega)
  obtain ⟨F26, eF26, hD⟩ := g_let hD
  obtain ⟨F27, eF27, hD⟩ := g_let hD
  obtain ⟨M28, eM28, hD⟩ := g_let hD
  obtain ⟨L29, eL29, hD⟩ := g_let hD
  obtain ⟨F30, M31, L32, h1, hD⟩ := g_b3 hD
  have eF30 : ∀ a j, (a < 49 ∨ 51 ≤ a) → F30 a j = F27 a j := fun a j ha => kX5_init h1 a j (by omega)
  obtain ⟨F33, eF33, hD⟩ := g_let hD
  obtain ⟨F34, eF34, hD⟩ := g_let hD
  obtain ⟨M35, eM35, hD⟩ := g_let hD
  obtain ⟨L36, eL36, hD⟩ := g_let hD
  obtain ⟨F37, M38, L39, h1, hD⟩ := g_b3 hD
  have eF37 : ∀ a j, (a < 51 ∨ 53 ≤ a) → F37 a j = F34 a j := fun a j ha => kX5_init h1 a j (by omega)
  obtain ⟨F40, eF40, hD⟩ := g_let hD
  obtain ⟨F41, eF41, hD⟩ := g_let hD
  obtain ⟨M42, eM42, hD⟩ := g_let hD
  obtain ⟨L43, eL43, hD⟩ := g_let hD
  obtain ⟨F44, M45, L46, h1, hD⟩ := g_b3 hD
  have eF44 : ∀ a j, (a < 53 ∨ 55 ≤ a) → F44 a j = F41 a j := fun a j ha => kX5_init h1 a j (by omega)
  obtain ⟨F47, eF47, hD⟩ := g_let hD
  obtain ⟨F48, eF48, hD⟩ := g_let hD
  obtain ⟨M49, eM49, hD⟩ := g_let hD
  obtain ⟨L50, eL50, hD⟩ := g_let hD
  obtain ⟨F51, M52, L53, h1, hD⟩ := g_b3 hD
  have eF51 : ∀ a j, (a < 55 ∨ 57 ≤ a) → F51 a j = F48 a j := fun a j ha => kX5_init h1 a j (by omega)
  obtain ⟨F54, eF54, hD⟩ := g_let hD
  obtain ⟨F55, eF55, hD⟩ := g_let hD
  obtain ⟨M56, eM56, hD⟩ := g_let hD
  obtain ⟨L57, eL57, hD⟩ := g_let hD
  obtain ⟨F58, M59, L60, h1, hD⟩ := g_b3 hD
  have eF58 : ∀ a j, (a < 57 ∨ 59 ≤ a) → F58 a j = F55 a j := fun a j ha => kX5_init h1 a j (by omega)
  obtain ⟨F61, eF61, hD⟩ := g_let hD
  obtain ⟨F62, eF62, hD⟩ := g_let hD
  obtain ⟨M63, eM63, hD⟩ := g_let hD
  obtain ⟨L64, eL64, hD⟩ := g_let hD
  obtain ⟨F65, M66, L67, h1, hD⟩ := g_b3 hD
  have eF65 : ∀ a j, (a < 59 ∨ 61 ≤ a) → F65 a j = F62 a j := fun a j ha => kX5_init h1 a j (by omega)
  obtain ⟨F68, eF68, hD⟩ := g_let hD
  have hf := congrArg (fun q => q.1) (Option.some.inj hD)
  dsimp only at hf
  rw [← hf]
  rw [eF68, mset_k (by omega)]
  rw [eF65 a j (by omega)]
  rw [eF62, mz_n (by omega)]
  rw [eF61, mset_k (by omega)]
  rw [eF58 a j (by omega)]
  rw [eF55, mz_n (by omega)]
  rw [eF54, mset_k (by omega)]
  rw [eF51 a j (by omega)]
  rw [eF48, mz_n (by omega)]
  rw [eF47, mset_k (by omega)]
  rw [eF44 a j (by omega)]
  rw [eF41, mz_n (by omega)]
  rw [eF40, mset_k (by omega)]
  rw [eF37 a j (by omega)]
  rw [eF34, mz_n (by omega)]
  rw [eF33, mset_k (by omega)]
  rw [eF30 a j (by omega)]
  rw [eF27, mz_n (by omega)]
  rw [eF26, mset_k (by omega)]
  rw [eF23 a j (by omega)]
  rw [eF20, mz_n (by omega)]
  rw [eF19, mset_k (by omega)]
  rw [eF17, mset_k (by omega)]
  rw [eF15, mrow_n (by omega)]
  rw [eF14, mset_k (by omega)]
  rw [eF13, mz_n (by omega)]
  rw [eF12, mset_k (by omega)]
  rw [eF10, mrow_n (by omega)]
  rw [eF9, mset_k (by omega)]
  rw [eF7, mrow_n (by omega)]
  rw [eF6, mset_k (by omega)]
  rw [eF4, mset_k (by omega)]
  rw [eF2, mset_k (by omega)]
set_option maxHeartbeats 4000000 in
set_option maxRecDepth 100000 in
theorem tX0_init (l : Launch) (G : mwG) (fu : Nat) (F : mwF) (M : mwM) (L : mwL) {F9 : mwF} {M9 : mwM} {L9 : mwL} (hD : DX0_init fu F M L = some (F9, M9, L9)) : Met l yX0_init (Cond.code yX0_init cX0_init 2 none :: GT) ({ frames := 2, cells := 40, slots := 61356, locals := 40 }) (mw_PreC G 21 F M L [.ref (mw_ad G 20)]) (mw_QC G 61 F9 M9 L9) 40 61356 (mw_fr G) := by
  refine mw_enterC (by decide) (Nat.le_of_ble_eq_true rfl) ?_
  intro p e s m below meth c ls C A hr hlocks hnm hw hs0 hl
  have hl : lv_has ls 2 [(0, .ref (mw_ad G 20))] := hl
  unfold DX0_init at hD
  refine lv_aload_n C.1.1 C.1.2.1 dX0_init_0 rfl (lv_at hl 0 rfl) ?_
  refine W.objInit C.1.1 C.1.2.1 C.1.2.2.2.1 (C.1.2.2.2.2 _ wd_97) (C.1.2.2.2.2 _ wd_39) (C.1.2.2.2.2 _ wd_40) rfl (by rw [C.1.2.2.1]; exact hl.1) rfl dX0_init_1 (Nat.le_of_ble_eq_true rfl) (Nat.le_of_ble_eq_true rfl) ?_
  refine W.eq (g2 := F0 m 4 ls []) rfl ?_
  refine lv_aload_n C.1.1 C.1.2.1 dX0_init_4 rfl (lv_at hl 0 rfl) ?_
  refine lv_sipush (v := 20000) C.1.1 C.1.2.1 dX0_init_5 (by decide) ?_
  refine mw_size hw (by omega) (fun hs => ?_)
  obtain ⟨M1, eM1, hD⟩ := g_let hD
  refine mr_newI (atype := .byte) (t := 1) (n := 20000) C hw hs tf_21 (by decide) rfl wd_170 rfl (fun _ => rfl) (by decide) (by decide) (by decide) (Nat.le_of_ble_eq_true rfl) (Nat.le_of_ble_eq_true rfl) dX0_init_8 (fun H hw _ => ?_)
  replace hw : mw_W G (mw_ad G) 22 TF F M1 L H [] := by rw [eM1]; exact hw
  refine W.widen (k := 1) (n := 20000) (Nat.le_of_ble_eq_true rfl) (Nat.le_of_ble_eq_true rfl) ?_
  obtain ⟨F2, eF2, hD⟩ := g_let hD
  refine mr_putFR C hw kc_0 0 (by omega) tf_20 wd_171 dX0_init_10 (by decide) rfl rfl hnm rfl rfl rfl (fun H locs hw => ?_)
  replace hw : mw_W G (mw_ad G) 22 TF F2 M1 L H locs := by rw [eF2]; exact hw
  refine lv_aload_n C.1.1 C.1.2.1 dX0_init_13 rfl (lv_at hl 0 rfl) ?_
  refine lv_sipush (v := 20000) C.1.1 C.1.2.1 dX0_init_14 (by decide) ?_
  refine mw_size hw (by omega) (fun hs => ?_)
  obtain ⟨M3, eM3, hD⟩ := g_let hD
  refine mr_newI (atype := .byte) (t := 1) (n := 20000) C hw hs tf_22 (by decide) rfl wd_170 rfl (fun _ => rfl) (by decide) (by decide) (by decide) (Nat.le_of_ble_eq_true rfl) (Nat.le_of_ble_eq_true rfl) dX0_init_17 (fun H hw _ => ?_)
  replace hw : mw_W G (mw_ad G) 23 TF F2 M3 L H locs := by rw [eM3]; exact hw
  refine W.widen (k := 2) (n := 40000) (Nat.le_of_ble_eq_true rfl) (Nat.le_of_ble_eq_true rfl) ?_
  obtain ⟨F4, eF4, hD⟩ := g_let hD
  refine mr_putFR C hw kc_0 1 (by omega) tf_20 wd_173 dX0_init_19 (by decide) rfl rfl hnm rfl rfl rfl (fun H locs hw => ?_)
  replace hw : mw_W G (mw_ad G) 23 TF F4 M3 L H locs := by rw [eF4]; exact hw
  refine lv_aload_n C.1.1 C.1.2.1 dX0_init_22 rfl (lv_at hl 0 rfl) ?_
  refine lv_sipush (v := 17507) C.1.1 C.1.2.1 dX0_init_23 (by decide) ?_
  refine mw_size hw (by omega) (fun hs => ?_)
  obtain ⟨M5, eM5, hD⟩ := g_let hD
  refine mr_newI (atype := .int) (t := 0) (n := 17507) C hw hs tf_23 (by decide) rfl wd_91 rfl (fun _ => rfl) (by decide) (by decide) (by decide) (Nat.le_of_ble_eq_true rfl) (Nat.le_of_ble_eq_true rfl) dX0_init_26 (fun H hw _ => ?_)
  replace hw : mw_W G (mw_ad G) 24 TF F4 M5 L H locs := by rw [eM5]; exact hw
  refine W.widen (k := 3) (n := 57507) (Nat.le_of_ble_eq_true rfl) (Nat.le_of_ble_eq_true rfl) ?_
  obtain ⟨F6, eF6, hD⟩ := g_let hD
  refine mr_putFR C hw kc_0 2 (by omega) tf_20 wd_175 dX0_init_28 (by decide) rfl rfl hnm rfl rfl rfl (fun H locs hw => ?_)
  replace hw : mw_W G (mw_ad G) 24 TF F6 M5 L H locs := by rw [eF6]; exact hw
  refine lv_aload_n C.1.1 C.1.2.1 dX0_init_31 rfl (lv_at hl 0 rfl) ?_
  refine lv_bipush (v := 8) C.1.1 C.1.2.1 dX0_init_32 (by decide) ?_
  refine lv_bipush (v := 7) C.1.1 C.1.2.1 dX0_init_34 (by decide) ?_
  refine mw_size hw (by omega) (fun hs => ?_)
  obtain ⟨F7, eF7, hD⟩ := g_let hD
  obtain ⟨M8, eM8, hD⟩ := g_let hD
  refine mr_mna (n := 8) (k := 7) C hw hs tf_24 (fun i hi => (fr_24 i hi).2.1) wd_98 (A (.array .int) (by decide)) wd_91 (by decide) (by decide) (by decide) (by decide) (by decide) (by decide) (Nat.le_of_ble_eq_true rfl) (Nat.le_of_ble_eq_true rfl) dX0_init_36 (fun H hw _ => ?_)
  replace hw : mw_W G (mw_ad G) 33 TF F7 M8 L H locs := by rw [eF7, eM8]; exact hw
  refine W.widen (k := 12) (n := 57571) (Nat.le_of_ble_eq_true rfl) (Nat.le_of_ble_eq_true rfl) ?_
  obtain ⟨F9, eF9, hD⟩ := g_let hD
  refine mr_putFR C hw kc_0 3 (by omega) tf_20 wd_176 dX0_init_40 (by decide) rfl rfl hnm rfl rfl rfl (fun H locs hw => ?_)
  replace hw : mw_W G (mw_ad G) 33 TF F9 M8 L H locs := by rw [eF9]; exact hw
  refine lv_aload_n C.1.1 C.1.2.1 dX0_init_43 rfl (lv_at hl 0 rfl) ?_
  refine lv_bipush (v := 7) C.1.1 C.1.2.1 dX0_init_44 (by decide) ?_
  refine lv_sipush (v := 140) C.1.1 C.1.2.1 dX0_init_46 (by decide) ?_
  refine mw_size hw (by omega) (fun hs => ?_)
  obtain ⟨F10, eF10, hD⟩ := g_let hD
  obtain ⟨M11, eM11, hD⟩ := g_let hD
  refine mr_mna (n := 7) (k := 140) C hw hs tf_33 (fun i hi => (fr_33 i hi).2.1) wd_98 (A (.array .int) (by decide)) wd_91 (by decide) (by decide) (by decide) (by decide) (by decide) (by decide) (Nat.le_of_ble_eq_true rfl) (Nat.le_of_ble_eq_true rfl) dX0_init_49 (fun H hw _ => ?_)
  replace hw : mw_W G (mw_ad G) 41 TF F10 M11 L H locs := by rw [eF10, eM11]; exact hw
  refine W.widen (k := 20) (n := 58558) (Nat.le_of_ble_eq_true rfl) (Nat.le_of_ble_eq_true rfl) ?_
  obtain ⟨F12, eF12, hD⟩ := g_let hD
  refine mr_putFR C hw kc_0 4 (by omega) tf_20 wd_178 dX0_init_53 (by decide) rfl rfl hnm rfl rfl rfl (fun H locs hw => ?_)
  replace hw : mw_W G (mw_ad G) 41 TF F12 M11 L H locs := by rw [eF12]; exact hw
  refine lv_aload_n C.1.1 C.1.2.1 dX0_init_56 rfl (lv_at hl 0 rfl) ?_
  refine lv_bipush (v := 7) C.1.1 C.1.2.1 dX0_init_57 (by decide) ?_
  refine mw_size hw (by omega) (fun hs => ?_)
  obtain ⟨F13, eF13, hD⟩ := g_let hD
  refine mr_anew (t := 8) (n := 7) C hw hs tf_41 (by decide) (by decide) rfl wd_99 (A (.object "CarHouse$Ear") (by decide)) (by decide) (by decide) (by decide) (Nat.le_of_ble_eq_true rfl) (Nat.le_of_ble_eq_true rfl) dX0_init_59 (fun H hw _ => ?_)
  replace hw : mw_W G (mw_ad G) 42 TF F13 M11 L H locs := by rw [eF13]; exact hw
  refine W.widen (k := 21) (n := 58565) (Nat.le_of_ble_eq_true rfl) (Nat.le_of_ble_eq_true rfl) ?_
  obtain ⟨F14, eF14, hD⟩ := g_let hD
  refine mr_putFR C hw kc_0 5 (by omega) tf_20 wd_179 dX0_init_62 (by decide) rfl rfl hnm rfl rfl rfl (fun H locs hw => ?_)
  replace hw : mw_W G (mw_ad G) 42 TF F14 M11 L H locs := by rw [eF14]; exact hw
  refine lv_aload_n C.1.1 C.1.2.1 dX0_init_65 rfl (lv_at hl 0 rfl) ?_
  refine lv_iconst (v := 3) C.1.1 C.1.2.1 dX0_init_66 (by decide) ?_
  refine lv_sipush (v := 200) C.1.1 C.1.2.1 dX0_init_67 (by decide) ?_
  refine mw_size hw (by omega) (fun hs => ?_)
  obtain ⟨F15, eF15, hD⟩ := g_let hD
  obtain ⟨M16, eM16, hD⟩ := g_let hD
  refine mr_mna (n := 3) (k := 200) C hw hs tf_42 (fun i hi => (fr_42 i hi).2.1) wd_98 (A (.array .int) (by decide)) wd_91 (by decide) (by decide) (by decide) (by decide) (by decide) (by decide) (Nat.le_of_ble_eq_true rfl) (Nat.le_of_ble_eq_true rfl) dX0_init_70 (fun H hw _ => ?_)
  replace hw : mw_W G (mw_ad G) 46 TF F15 M16 L H locs := by rw [eF15, eM16]; exact hw
  refine W.widen (k := 25) (n := 59168) (Nat.le_of_ble_eq_true rfl) (Nat.le_of_ble_eq_true rfl) ?_
  obtain ⟨F17, eF17, hD⟩ := g_let hD
  refine mr_putFR C hw kc_0 6 (by omega) tf_20 wd_181 dX0_init_74 (by decide) rfl rfl hnm rfl rfl rfl (fun H locs hw => ?_)
  replace hw : mw_W G (mw_ad G) 46 TF F17 M16 L H locs := by rw [eF17]; exact hw
  refine lv_aload_n C.1.1 C.1.2.1 dX0_init_77 rfl (lv_at hl 0 rfl) ?_
  refine lv_sipush (v := 1600) C.1.1 C.1.2.1 dX0_init_78 (by decide) ?_
  refine mw_size hw (by omega) (fun hs => ?_)
  obtain ⟨M18, eM18, hD⟩ := g_let hD
  refine mr_newI (atype := .int) (t := 0) (n := 1600) C hw hs tf_46 (by decide) rfl wd_91 rfl (fun _ => rfl) (by decide) (by decide) (by decide) (Nat.le_of_ble_eq_true rfl) (Nat.le_of_ble_eq_true rfl) dX0_init_81 (fun H hw _ => ?_)
  replace hw : mw_W G (mw_ad G) 47 TF F17 M18 L H locs := by rw [eM18]; exact hw
  refine W.widen (k := 26) (n := 60768) (Nat.le_of_ble_eq_true rfl) (Nat.le_of_ble_eq_true rfl) ?_
  obtain ⟨F19, eF19, hD⟩ := g_let hD
  refine mr_putFR C hw kc_0 7 (by omega) tf_20 wd_182 dX0_init_83 (by decide) rfl rfl hnm rfl rfl rfl (fun H locs hw => ?_)
  replace hw : mw_W G (mw_ad G) 47 TF F19 M18 L H locs := by rw [eF19]; exact hw
  refine lv_iconst (v := 0) C.1.1 C.1.2.1 dX0_init_86 (by decide) ?_
  refine lv_istore_n (lv' := [(1, .int 0), (0, .ref (mw_ad G 20))]) C.1.1 C.1.2.1 dX0_init_87 rfl hl (by decide) rfl (fun ls hl => ?_)
  refine lv_iload_n C.1.1 C.1.2.1 dX0_init_88 rfl (lv_at hl 0 rfl) ?_
  refine lv_bipush (v := 7) C.1.1 C.1.2.1 dX0_init_89 (by decide) ?_
  refine lv_icmp_ge (tgt := 113) C.1.1 C.1.2.1 dX0_init_91 (by decide) (fun q => absurd q (by decide)) (fun _ => ?_)
  refine lv_aload_n C.1.1 C.1.2.1 dX0_init_94 rfl (lv_at hl 1 rfl) ?_
  refine mr_getR C hw kc_0 5 (by omega) tf_20 (show F19 20 5 = some 41 by (rw [eF19, mset_j (by decide)]; rw [eF17, mset_j (by decide)]; rw [eF15, mrow_n (by omega)]; rw [eF14]; exact mset_s)) wd_179 dX0_init_95 (by decide) rfl ?_
  refine lv_iload_n C.1.1 C.1.2.1 dX0_init_98 rfl (lv_at hl 0 rfl) ?_
  refine mw_size hw (by omega) (fun hs => ?_)
  obtain ⟨F20, eF20, hD⟩ := g_let hD
  obtain ⟨M21, eM21, hD⟩ := g_let hD
  obtain ⟨L22, eL22, hD⟩ := g_let hD
  refine mr_new C hw hs kc_5 (Ea_T0 (isEa_of (x := 0) (by decide))) wd_99 wd_101 wd_6 (by decide +kernel) (Nat.le_of_ble_eq_true rfl) (Nat.le_of_ble_eq_true rfl) dX0_init_99 (fun H hw _ => ?_)
  replace hw : mw_W G (mw_ad G) 48 TF F20 M21 L22 H locs := by rw [eF20, eM21, eL22]; exact hw
  refine W.widen (k := 27) (n := 60788) (Nat.le_of_ble_eq_true rfl) (Nat.le_of_ble_eq_true rfl) ?_
  refine lv_dup C.1.1 C.1.2.1 dX0_init_102 rfl ?_
  obtain ⟨F23, M24, L25, h1, hD⟩ := g_b3 hD
  have eF23 : ∀ a j, (a < 47 ∨ 49 ≤ a) → F23 a j = F20 a j := fun a j ha => kX5_init h1 a j (by omega)
  refine mw_size hw (by omega) (fun hs => ?_)
  refine mc_initN (k := 47) (rest := [.ref (mw_ad G 47), .int 0, .ref (mw_ad G 41)]) C A hw hs (tX5_init l G fu 47 F20 M21 L22 h1 (isEa_of (x := 0) (by decide))) nd_102 wd_103 cwX5_init rfl rfl rfl ⟨Nat.le_of_ble_eq_true rfl, Nat.le_of_ble_eq_true rfl⟩ hl.1 (Nat.le_of_ble_eq_true rfl) dX0_init_103 ⟨Nat.le_of_ble_eq_true rfl, Nat.le_of_ble_eq_true rfl⟩ (fun H locs hw _ => ?_)
  replace hw : mw_W G (mw_ad G) 49 TF F23 M24 L25 H locs := hw
  refine W.widen (k := 28) (n := 60852) (Nat.le_of_ble_eq_true rfl) (Nat.le_of_ble_eq_true rfl) ?_
  obtain ⟨F26, eF26, hD⟩ := g_let hD
  refine mr_aast (t := 8) (n := 7) C hw (by omega) tf_41 (by decide) (by decide) rfl kc_5 (by omega) (Ea_T0 (isEa_of (x := 0) (by decide))) (show vp_in 0 7 from by unfold vp_in; decide) dX0_init_106 (fun H locs hw => ?_)
  replace hw : mw_W G (mw_ad G) 49 TF F26 M24 L25 H locs := by rw [eF26]; exact hw
  refine lv_iinc (v := 1) (lv' := [(1, .int 1), (0, .ref (mw_ad G 20))]) C.1.1 C.1.2.1 dX0_init_107 hl (k := 0) rfl (by decide) (by decide) rfl (fun ls hl => ?_)
  refine lv_goto (tgt := 88) C.1.1 C.1.2.1 dX0_init_110 (by decide) ?_
  refine lv_iload_n C.1.1 C.1.2.1 dX0_init_88 rfl (lv_at hl 0 rfl) ?_
  refine lv_bipush (v := 7) C.1.1 C.1.2.1 dX0_init_89 (by decide) ?_
  refine lv_icmp_ge (tgt := 113) C.1.1 C.1.2.1 dX0_init_91 (by decide) (fun q => absurd q (by decide)) (fun _ => ?_)
  refine lv_aload_n C.1.1 C.1.2.1 dX0_init_94 rfl (lv_at hl 1 rfl) ?_
  refine mr_getR C hw kc_0 5 (by omega) tf_20 (show F26 20 5 = some 41 by (rw [eF26, mset_k (by omega)]; rw [eF23 20 5 (by omega)]; rw [eF20, mz_n (by omega)]; rw [eF19, mset_j (by decide)]; rw [eF17, mset_j (by decide)]; rw [eF15, mrow_n (by omega)]; rw [eF14]; exact mset_s)) wd_179 dX0_init_95 (by decide) rfl ?_
  refine lv_iload_n C.1.1 C.1.2.1 dX0_init_98 rfl (lv_at hl 0 rfl) ?_
  refine mw_size hw (by omega) (fun hs => ?_)
  obtain ⟨F27, eF27, hD⟩ := g_let hD
  obtain ⟨M28, eM28, hD⟩ := g_let hD
  obtain ⟨L29, eL29, hD⟩ := g_let hD
  refine mr_new C hw hs kc_5 (Ea_T0 (isEa_of (x := 1) (by decide))) wd_99 wd_101 wd_6 (by decide +kernel) (Nat.le_of_ble_eq_true rfl) (Nat.le_of_ble_eq_true rfl) dX0_init_99 (fun H hw _ => ?_)
  replace hw : mw_W G (mw_ad G) 50 TF F27 M28 L29 H locs := by rw [eF27, eM28, eL29]; exact hw
  refine W.widen (k := 29) (n := 60872) (Nat.le_of_ble_eq_true rfl) (Nat.le_of_ble_eq_true rfl) ?_
  refine lv_dup C.1.1 C.1.2.1 dX0_init_102 rfl ?_
  obtain ⟨F30, M31, L32, h1, hD⟩ := g_b3 hD
  have eF30 : ∀ a j, (a < 49 ∨ 51 ≤ a) → F30 a j = F27 a j := fun a j ha => kX5_init h1 a j (by omega)
  refine mw_size hw (by omega) (fun hs => ?_)
  refine mc_initN (k := 49) (rest := [.ref (mw_ad G 49), .int 1, .ref (mw_ad G 41)]) C A hw hs (tX5_init l G fu 49 F27 M28 L29 h1 (isEa_of (x := 1) (by decide))) nd_102 wd_103 cwX5_init rfl rfl rfl ⟨Nat.le_of_ble_eq_true rfl, Nat.le_of_ble_eq_true rfl⟩ hl.1 (Nat.le_of_ble_eq_true rfl) dX0_init_103 ⟨Nat.le_of_ble_eq_true rfl, Nat.le_of_ble_eq_true rfl⟩ (fun H locs hw _ => ?_)
  replace hw : mw_W G (mw_ad G) 51 TF F30 M31 L32 H locs := hw
  refine W.widen (k := 30) (n := 60936) (Nat.le_of_ble_eq_true rfl) (Nat.le_of_ble_eq_true rfl) ?_
  obtain ⟨F33, eF33, hD⟩ := g_let hD
  refine mr_aast (t := 8) (n := 7) C hw (by omega) tf_41 (by decide) (by decide) rfl kc_5 (by omega) (Ea_T0 (isEa_of (x := 1) (by decide))) (show vp_in 1 7 from by unfold vp_in; decide) dX0_init_106 (fun H locs hw => ?_)
  replace hw : mw_W G (mw_ad G) 51 TF F33 M31 L32 H locs := by rw [eF33]; exact hw
  refine lv_iinc (v := 2) (lv' := [(1, .int 2), (0, .ref (mw_ad G 20))]) C.1.1 C.1.2.1 dX0_init_107 hl (k := 0) rfl (by decide) (by decide) rfl (fun ls hl => ?_)
  refine lv_goto (tgt := 88) C.1.1 C.1.2.1 dX0_init_110 (by decide) ?_
  refine lv_iload_n C.1.1 C.1.2.1 dX0_init_88 rfl (lv_at hl 0 rfl) ?_
  refine lv_bipush (v := 7) C.1.1 C.1.2.1 dX0_init_89 (by decide) ?_
  refine lv_icmp_ge (tgt := 113) C.1.1 C.1.2.1 dX0_init_91 (by decide) (fun q => absurd q (by decide)) (fun _ => ?_)
  refine lv_aload_n C.1.1 C.1.2.1 dX0_init_94 rfl (lv_at hl 1 rfl) ?_
  refine mr_getR C hw kc_0 5 (by omega) tf_20 (show F33 20 5 = some 41 by (rw [eF33, mset_k (by omega)]; rw [eF30 20 5 (by omega)]; rw [eF27, mz_n (by omega)]; rw [eF26, mset_k (by omega)]; rw [eF23 20 5 (by omega)]; rw [eF20, mz_n (by omega)]; rw [eF19, mset_j (by decide)]; rw [eF17, mset_j (by decide)]; rw [eF15, mrow_n (by omega)]; rw [eF14]; exact mset_s)) wd_179 dX0_init_95 (by decide) rfl ?_
  refine lv_iload_n C.1.1 C.1.2.1 dX0_init_98 rfl (lv_at hl 0 rfl) ?_
  refine mw_size hw (by omega) (fun hs => ?_)
  obtain ⟨F34, eF34, hD⟩ := g_let hD
  obtain ⟨M35, eM35, hD⟩ := g_let hD
  obtain ⟨L36, eL36, hD⟩ := g_let hD
  refine mr_new C hw hs kc_5 (Ea_T0 (isEa_of (x := 2) (by decide))) wd_99 wd_101 wd_6 (by decide +kernel) (Nat.le_of_ble_eq_true rfl) (Nat.le_of_ble_eq_true rfl) dX0_init_99 (fun H hw _ => ?_)
  replace hw : mw_W G (mw_ad G) 52 TF F34 M35 L36 H locs := by rw [eF34, eM35, eL36]; exact hw
  refine W.widen (k := 31) (n := 60956) (Nat.le_of_ble_eq_true rfl) (Nat.le_of_ble_eq_true rfl) ?_
  refine lv_dup C.1.1 C.1.2.1 dX0_init_102 rfl ?_
  obtain ⟨F37, M38, L39, h1, hD⟩ := g_b3 hD
  have eF37 : ∀ a j, (a < 51 ∨ 53 ≤ a) → F37 a j = F34 a j := fun a j ha => kX5_init h1 a j (by omega)
  refine mw_size hw (by omega) (fun hs => ?_)
  refine mc_initN (k := 51) (rest := [.ref (mw_ad G 51), .int 2, .ref (mw_ad G 41)]) C A hw hs (tX5_init l G fu 51 F34 M35 L36 h1 (isEa_of (x := 2) (by decide))) nd_102 wd_103 cwX5_init rfl rfl rfl ⟨Nat.le_of_ble_eq_true rfl, Nat.le_of_ble_eq_true rfl⟩ hl.1 (Nat.le_of_ble_eq_true rfl) dX0_init_103 ⟨Nat.le_of_ble_eq_true rfl, Nat.le_of_ble_eq_true rfl⟩ (fun H locs hw _ => ?_)
  replace hw : mw_W G (mw_ad G) 53 TF F37 M38 L39 H locs := hw
  refine W.widen (k := 32) (n := 61020) (Nat.le_of_ble_eq_true rfl) (Nat.le_of_ble_eq_true rfl) ?_
  obtain ⟨F40, eF40, hD⟩ := g_let hD
  refine mr_aast (t := 8) (n := 7) C hw (by omega) tf_41 (by decide) (by decide) rfl kc_5 (by omega) (Ea_T0 (isEa_of (x := 2) (by decide))) (show vp_in 2 7 from by unfold vp_in; decide) dX0_init_106 (fun H locs hw => ?_)
  replace hw : mw_W G (mw_ad G) 53 TF F40 M38 L39 H locs := by rw [eF40]; exact hw
  refine lv_iinc (v := 3) (lv' := [(1, .int 3), (0, .ref (mw_ad G 20))]) C.1.1 C.1.2.1 dX0_init_107 hl (k := 0) rfl (by decide) (by decide) rfl (fun ls hl => ?_)
  refine lv_goto (tgt := 88) C.1.1 C.1.2.1 dX0_init_110 (by decide) ?_
  refine lv_iload_n C.1.1 C.1.2.1 dX0_init_88 rfl (lv_at hl 0 rfl) ?_
  refine lv_bipush (v := 7) C.1.1 C.1.2.1 dX0_init_89 (by decide) ?_
  refine lv_icmp_ge (tgt := 113) C.1.1 C.1.2.1 dX0_init_91 (by decide) (fun q => absurd q (by decide)) (fun _ => ?_)
  refine lv_aload_n C.1.1 C.1.2.1 dX0_init_94 rfl (lv_at hl 1 rfl) ?_
  refine mr_getR C hw kc_0 5 (by omega) tf_20 (show F40 20 5 = some 41 by (rw [eF40, mset_k (by omega)]; rw [eF37 20 5 (by omega)]; rw [eF34, mz_n (by omega)]; rw [eF33, mset_k (by omega)]; rw [eF30 20 5 (by omega)]; rw [eF27, mz_n (by omega)]; rw [eF26, mset_k (by omega)]; rw [eF23 20 5 (by omega)]; rw [eF20, mz_n (by omega)]; rw [eF19, mset_j (by decide)]; rw [eF17, mset_j (by decide)]; rw [eF15, mrow_n (by omega)]; rw [eF14]; exact mset_s)) wd_179 dX0_init_95 (by decide) rfl ?_
  refine lv_iload_n C.1.1 C.1.2.1 dX0_init_98 rfl (lv_at hl 0 rfl) ?_
  refine mw_size hw (by omega) (fun hs => ?_)
  obtain ⟨F41, eF41, hD⟩ := g_let hD
  obtain ⟨M42, eM42, hD⟩ := g_let hD
  obtain ⟨L43, eL43, hD⟩ := g_let hD
  refine mr_new C hw hs kc_5 (Ea_T0 (isEa_of (x := 3) (by decide))) wd_99 wd_101 wd_6 (by decide +kernel) (Nat.le_of_ble_eq_true rfl) (Nat.le_of_ble_eq_true rfl) dX0_init_99 (fun H hw _ => ?_)
  replace hw : mw_W G (mw_ad G) 54 TF F41 M42 L43 H locs := by rw [eF41, eM42, eL43]; exact hw
  refine W.widen (k := 33) (n := 61040) (Nat.le_of_ble_eq_true rfl) (Nat.le_of_ble_eq_true rfl) ?_
  refine lv_dup C.1.1 C.1.2.1 dX0_init_102 rfl ?_
  obtain ⟨F44, M45, L46, h1, hD⟩ := g_b3 hD
  have eF44 : ∀ a j, (a < 53 ∨ 55 ≤ a) → F44 a j = F41 a j := fun a j ha => kX5_init h1 a j (by omega)
  refine mw_size hw (by omega) (fun hs => ?_)
  refine mc_initN (k := 53) (rest := [.ref (mw_ad G 53), .int 3, .ref (mw_ad G 41)]) C A hw hs (tX5_init l G fu 53 F41 M42 L43 h1 (isEa_of (x := 3) (by decide))) nd_102 wd_103 cwX5_init rfl rfl rfl ⟨Nat.le_of_ble_eq_true rfl, Nat.le_of_ble_eq_true rfl⟩ hl.1 (Nat.le_of_ble_eq_true rfl) dX0_init_103 ⟨Nat.le_of_ble_eq_true rfl, Nat.le_of_ble_eq_true rfl⟩ (fun H locs hw _ => ?_)
  replace hw : mw_W G (mw_ad G) 55 TF F44 M45 L46 H locs := hw
  refine W.widen (k := 34) (n := 61104) (Nat.le_of_ble_eq_true rfl) (Nat.le_of_ble_eq_true rfl) ?_
  obtain ⟨F47, eF47, hD⟩ := g_let hD
  refine mr_aast (t := 8) (n := 7) C hw (by omega) tf_41 (by decide) (by decide) rfl kc_5 (by omega) (Ea_T0 (isEa_of (x := 3) (by decide))) (show vp_in 3 7 from by unfold vp_in; decide) dX0_init_106 (fun H locs hw => ?_)
  replace hw : mw_W G (mw_ad G) 55 TF F47 M45 L46 H locs := by rw [eF47]; exact hw
  refine lv_iinc (v := 4) (lv' := [(1, .int 4), (0, .ref (mw_ad G 20))]) C.1.1 C.1.2.1 dX0_init_107 hl (k := 0) rfl (by decide) (by decide) rfl (fun ls hl => ?_)
  refine lv_goto (tgt := 88) C.1.1 C.1.2.1 dX0_init_110 (by decide) ?_
  refine lv_iload_n C.1.1 C.1.2.1 dX0_init_88 rfl (lv_at hl 0 rfl) ?_
  refine lv_bipush (v := 7) C.1.1 C.1.2.1 dX0_init_89 (by decide) ?_
  refine lv_icmp_ge (tgt := 113) C.1.1 C.1.2.1 dX0_init_91 (by decide) (fun q => absurd q (by decide)) (fun _ => ?_)
  refine lv_aload_n C.1.1 C.1.2.1 dX0_init_94 rfl (lv_at hl 1 rfl) ?_
  refine mr_getR C hw kc_0 5 (by omega) tf_20 (show F47 20 5 = some 41 by (rw [eF47, mset_k (by omega)]; rw [eF44 20 5 (by omega)]; rw [eF41, mz_n (by omega)]; rw [eF40, mset_k (by omega)]; rw [eF37 20 5 (by omega)]; rw [eF34, mz_n (by omega)]; rw [eF33, mset_k (by omega)]; rw [eF30 20 5 (by omega)]; rw [eF27, mz_n (by omega)]; rw [eF26, mset_k (by omega)]; rw [eF23 20 5 (by omega)]; rw [eF20, mz_n (by omega)]; rw [eF19, mset_j (by decide)]; rw [eF17, mset_j (by decide)]; rw [eF15, mrow_n (by omega)]; rw [eF14]; exact mset_s)) wd_179 dX0_init_95 (by decide) rfl ?_
  refine lv_iload_n C.1.1 C.1.2.1 dX0_init_98 rfl (lv_at hl 0 rfl) ?_
  refine mw_size hw (by omega) (fun hs => ?_)
  obtain ⟨F48, eF48, hD⟩ := g_let hD
  obtain ⟨M49, eM49, hD⟩ := g_let hD
  obtain ⟨L50, eL50, hD⟩ := g_let hD
  refine mr_new C hw hs kc_5 (Ea_T0 (isEa_of (x := 4) (by decide))) wd_99 wd_101 wd_6 (by decide +kernel) (Nat.le_of_ble_eq_true rfl) (Nat.le_of_ble_eq_true rfl) dX0_init_99 (fun H hw _ => ?_)
  replace hw : mw_W G (mw_ad G) 56 TF F48 M49 L50 H locs := by rw [eF48, eM49, eL50]; exact hw
  refine W.widen (k := 35) (n := 61124) (Nat.le_of_ble_eq_true rfl) (Nat.le_of_ble_eq_true rfl) ?_
  refine lv_dup C.1.1 C.1.2.1 dX0_init_102 rfl ?_
  obtain ⟨F51, M52, L53, h1, hD⟩ := g_b3 hD
  have eF51 : ∀ a j, (a < 55 ∨ 57 ≤ a) → F51 a j = F48 a j := fun a j ha => kX5_init h1 a j (by omega)
  refine mw_size hw (by omega) (fun hs => ?_)
  refine mc_initN (k := 55) (rest := [.ref (mw_ad G 55), .int 4, .ref (mw_ad G 41)]) C A hw hs (tX5_init l G fu 55 F48 M49 L50 h1 (isEa_of (x := 4) (by decide))) nd_102 wd_103 cwX5_init rfl rfl rfl ⟨Nat.le_of_ble_eq_true rfl, Nat.le_of_ble_eq_true rfl⟩ hl.1 (Nat.le_of_ble_eq_true rfl) dX0_init_103 ⟨Nat.le_of_ble_eq_true rfl, Nat.le_of_ble_eq_true rfl⟩ (fun H locs hw _ => ?_)
  replace hw : mw_W G (mw_ad G) 57 TF F51 M52 L53 H locs := hw
  refine W.widen (k := 36) (n := 61188) (Nat.le_of_ble_eq_true rfl) (Nat.le_of_ble_eq_true rfl) ?_
  obtain ⟨F54, eF54, hD⟩ := g_let hD
  refine mr_aast (t := 8) (n := 7) C hw (by omega) tf_41 (by decide) (by decide) rfl kc_5 (by omega) (Ea_T0 (isEa_of (x := 4) (by decide))) (show vp_in 4 7 from by unfold vp_in; decide) dX0_init_106 (fun H locs hw => ?_)
  replace hw : mw_W G (mw_ad G) 57 TF F54 M52 L53 H locs := by rw [eF54]; exact hw
  refine lv_iinc (v := 5) (lv' := [(1, .int 5), (0, .ref (mw_ad G 20))]) C.1.1 C.1.2.1 dX0_init_107 hl (k := 0) rfl (by decide) (by decide) rfl (fun ls hl => ?_)
  refine lv_goto (tgt := 88) C.1.1 C.1.2.1 dX0_init_110 (by decide) ?_
  refine lv_iload_n C.1.1 C.1.2.1 dX0_init_88 rfl (lv_at hl 0 rfl) ?_
  refine lv_bipush (v := 7) C.1.1 C.1.2.1 dX0_init_89 (by decide) ?_
  refine lv_icmp_ge (tgt := 113) C.1.1 C.1.2.1 dX0_init_91 (by decide) (fun q => absurd q (by decide)) (fun _ => ?_)
  refine lv_aload_n C.1.1 C.1.2.1 dX0_init_94 rfl (lv_at hl 1 rfl) ?_
  refine mr_getR C hw kc_0 5 (by omega) tf_20 (show F54 20 5 = some 41 by (rw [eF54, mset_k (by omega)]; rw [eF51 20 5 (by omega)]; rw [eF48, mz_n (by omega)]; rw [eF47, mset_k (by omega)]; rw [eF44 20 5 (by omega)]; rw [eF41, mz_n (by omega)]; rw [eF40, mset_k (by omega)]; rw [eF37 20 5 (by omega)]; rw [eF34, mz_n (by omega)]; rw [eF33, mset_k (by omega)]; rw [eF30 20 5 (by omega)]; rw [eF27, mz_n (by omega)]; rw [eF26, mset_k (by omega)]; rw [eF23 20 5 (by omega)]; rw [eF20, mz_n (by omega)]; rw [eF19, mset_j (by decide)]; rw [eF17, mset_j (by decide)]; rw [eF15, mrow_n (by omega)]; rw [eF14]; exact mset_s)) wd_179 dX0_init_95 (by decide) rfl ?_
  refine lv_iload_n C.1.1 C.1.2.1 dX0_init_98 rfl (lv_at hl 0 rfl) ?_
  refine mw_size hw (by omega) (fun hs => ?_)
  obtain ⟨F55, eF55, hD⟩ := g_let hD
  obtain ⟨M56, eM56, hD⟩ := g_let hD
  obtain ⟨L57, eL57, hD⟩ := g_let hD
  refine mr_new C hw hs kc_5 (Ea_T0 (isEa_of (x := 5) (by decide))) wd_99 wd_101 wd_6 (by decide +kernel) (Nat.le_of_ble_eq_true rfl) (Nat.le_of_ble_eq_true rfl) dX0_init_99 (fun H hw _ => ?_)
  replace hw : mw_W G (mw_ad G) 58 TF F55 M56 L57 H locs := by rw [eF55, eM56, eL57]; exact hw
  refine W.widen (k := 37) (n := 61208) (Nat.le_of_ble_eq_true rfl) (Nat.le_of_ble_eq_true rfl) ?_
  refine lv_dup C.1.1 C.1.2.1 dX0_init_102 rfl ?_
  obtain ⟨F58, M59, L60, h1, hD⟩ := g_b3 hD
  have eF58 : ∀ a j, (a < 57 ∨ 59 ≤ a) → F58 a j = F55 a j := fun a j ha => kX5_init h1 a j (by omega)
  refine mw_size hw (by omega) (fun hs => ?_)
  refine mc_initN (k := 57) (rest := [.ref (mw_ad G 57), .int 5, .ref (mw_ad G 41)]) C A hw hs (tX5_init l G fu 57 F55 M56 L57 h1 (isEa_of (x := 5) (by decide))) nd_102 wd_103 cwX5_init rfl rfl rfl ⟨Nat.le_of_ble_eq_true rfl, Nat.le_of_ble_eq_true rfl⟩ hl.1 (Nat.le_of_ble_eq_true rfl) dX0_init_103 ⟨Nat.le_of_ble_eq_true rfl, Nat.le_of_ble_eq_true rfl⟩ (fun H locs hw _ => ?_)
  replace hw : mw_W G (mw_ad G) 59 TF F58 M59 L60 H locs := hw
  refine W.widen (k := 38) (n := 61272) (Nat.le_of_ble_eq_true rfl) (Nat.le_of_ble_eq_true rfl) ?_
  obtain ⟨F61, eF61, hD⟩ := g_let hD
  refine mr_aast (t := 8) (n := 7) C hw (by omega) tf_41 (by decide) (by decide) rfl kc_5 (by omega) (Ea_T0 (isEa_of (x := 5) (by decide))) (show vp_in 5 7 from by unfold vp_in; decide) dX0_init_106 (fun H locs hw => ?_)
  replace hw : mw_W G (mw_ad G) 59 TF F61 M59 L60 H locs := by rw [eF61]; exact hw
  refine lv_iinc (v := 6) (lv' := [(1, .int 6), (0, .ref (mw_ad G 20))]) C.1.1 C.1.2.1 dX0_init_107 hl (k := 0) rfl (by decide) (by decide) rfl (fun ls hl => ?_)
  refine lv_goto (tgt := 88) C.1.1 C.1.2.1 dX0_init_110 (by decide) ?_
  refine lv_iload_n C.1.1 C.1.2.1 dX0_init_88 rfl (lv_at hl 0 rfl) ?_
  refine lv_bipush (v := 7) C.1.1 C.1.2.1 dX0_init_89 (by decide) ?_
  refine lv_icmp_ge (tgt := 113) C.1.1 C.1.2.1 dX0_init_91 (by decide) (fun q => absurd q (by decide)) (fun _ => ?_)
  refine lv_aload_n C.1.1 C.1.2.1 dX0_init_94 rfl (lv_at hl 1 rfl) ?_
  refine mr_getR C hw kc_0 5 (by omega) tf_20 (show F61 20 5 = some 41 by (rw [eF61, mset_k (by omega)]; rw [eF58 20 5 (by omega)]; rw [eF55, mz_n (by omega)]; rw [eF54, mset_k (by omega)]; rw [eF51 20 5 (by omega)]; rw [eF48, mz_n (by omega)]; rw [eF47, mset_k (by omega)]; rw [eF44 20 5 (by omega)]; rw [eF41, mz_n (by omega)]; rw [eF40, mset_k (by omega)]; rw [eF37 20 5 (by omega)]; rw [eF34, mz_n (by omega)]; rw [eF33, mset_k (by omega)]; rw [eF30 20 5 (by omega)]; rw [eF27, mz_n (by omega)]; rw [eF26, mset_k (by omega)]; rw [eF23 20 5 (by omega)]; rw [eF20, mz_n (by omega)]; rw [eF19, mset_j (by decide)]; rw [eF17, mset_j (by decide)]; rw [eF15, mrow_n (by omega)]; rw [eF14]; exact mset_s)) wd_179 dX0_init_95 (by decide) rfl ?_
  refine lv_iload_n C.1.1 C.1.2.1 dX0_init_98 rfl (lv_at hl 0 rfl) ?_
  refine mw_size hw (by omega) (fun hs => ?_)
  obtain ⟨F62, eF62, hD⟩ := g_let hD
  obtain ⟨M63, eM63, hD⟩ := g_let hD
  obtain ⟨L64, eL64, hD⟩ := g_let hD
  refine mr_new C hw hs kc_5 (Ea_T0 (isEa_of (x := 6) (by decide))) wd_99 wd_101 wd_6 (by decide +kernel) (Nat.le_of_ble_eq_true rfl) (Nat.le_of_ble_eq_true rfl) dX0_init_99 (fun H hw _ => ?_)
  replace hw : mw_W G (mw_ad G) 60 TF F62 M63 L64 H locs := by rw [eF62, eM63, eL64]; exact hw
  refine W.widen (k := 39) (n := 61292) (Nat.le_of_ble_eq_true rfl) (Nat.le_of_ble_eq_true rfl) ?_
  refine lv_dup C.1.1 C.1.2.1 dX0_init_102 rfl ?_
  obtain ⟨F65, M66, L67, h1, hD⟩ := g_b3 hD
  have eF65 : ∀ a j, (a < 59 ∨ 61 ≤ a) → F65 a j = F62 a j := fun a j ha => kX5_init h1 a j (by omega)
  refine mw_size hw (by omega) (fun hs => ?_)
  refine mc_initN (k := 59) (rest := [.ref (mw_ad G 59), .int 6, .ref (mw_ad G 41)]) C A hw hs (tX5_init l G fu 59 F62 M63 L64 h1 (isEa_of (x := 6) (by decide))) nd_102 wd_103 cwX5_init rfl rfl rfl ⟨Nat.le_of_ble_eq_true rfl, Nat.le_of_ble_eq_true rfl⟩ hl.1 (Nat.le_of_ble_eq_true rfl) dX0_init_103 ⟨Nat.le_of_ble_eq_true rfl, Nat.le_of_ble_eq_true rfl⟩ (fun H locs hw _ => ?_)
  replace hw : mw_W G (mw_ad G) 61 TF F65 M66 L67 H locs := hw
  refine W.widen (k := 40) (n := 61356) (Nat.le_of_ble_eq_true rfl) (Nat.le_of_ble_eq_true rfl) ?_
  obtain ⟨F68, eF68, hD⟩ := g_let hD
  refine mr_aast (t := 8) (n := 7) C hw (by omega) tf_41 (by decide) (by decide) rfl kc_5 (by omega) (Ea_T0 (isEa_of (x := 6) (by decide))) (show vp_in 6 7 from by unfold vp_in; decide) dX0_init_106 (fun H locs hw => ?_)
  replace hw : mw_W G (mw_ad G) 61 TF F68 M66 L67 H locs := by rw [eF68]; exact hw
  refine lv_iinc (v := 7) (lv' := [(1, .int 7), (0, .ref (mw_ad G 20))]) C.1.1 C.1.2.1 dX0_init_107 hl (k := 0) rfl (by decide) (by decide) rfl (fun ls hl => ?_)
  refine lv_goto (tgt := 88) C.1.1 C.1.2.1 dX0_init_110 (by decide) ?_
  refine lv_iload_n C.1.1 C.1.2.1 dX0_init_88 rfl (lv_at hl 0 rfl) ?_
  refine lv_bipush (v := 7) C.1.1 C.1.2.1 dX0_init_89 (by decide) ?_
  refine lv_icmp_ge (tgt := 113) C.1.1 C.1.2.1 dX0_init_91 (by decide) (fun _ => ?_) (fun q => absurd q (by decide))
  refine mw_size hw (by omega) (fun hs => ?_)
  exact mr_cret C hr hlocks hw hs (Option.some.inj hD) dX0_init_113

theorem dX4_init_0 : decode cX4_init 0 = .ok (.aload_n 0, 1) := by decide +kernel
theorem dX4_init_1 : decode cX4_init 1 = .ok (.invokespecial 3, 3) := by decide +kernel
theorem dX4_init_4 : decode cX4_init 4 = .ok (.aload_n 0, 1) := by decide +kernel
theorem dX4_init_5 : decode cX4_init 5 = .ok (.bipush 11, 2) := by decide +kernel
theorem dX4_init_7 : decode cX4_init 7 = .ok (.bipush 12, 2) := by decide +kernel
theorem dX4_init_9 : decode cX4_init 9 = .ok (.multianewarray 9 2, 4) := by decide +kernel
theorem dX4_init_13 : decode cX4_init 13 = .ok (.putfield 11, 3) := by decide +kernel
theorem dX4_init_16 : decode cX4_init 16 = .ok (.aload_n 0, 1) := by decide +kernel
theorem dX4_init_17 : decode cX4_init 17 = .ok (.bipush 6, 2) := by decide +kernel
theorem dX4_init_19 : decode cX4_init 19 = .ok (.newarray .int, 2) := by decide +kernel
theorem dX4_init_21 : decode cX4_init 21 = .ok (.putfield 16, 3) := by decide +kernel
theorem dX4_init_24 : decode cX4_init 24 = .ok (.aload_n 0, 1) := by decide +kernel
theorem dX4_init_25 : decode cX4_init 25 = .ok (.sipush 20000, 3) := by decide +kernel
theorem dX4_init_28 : decode cX4_init 28 = .ok (.newarray .int, 2) := by decide +kernel
theorem dX4_init_30 : decode cX4_init 30 = .ok (.putfield 20, 3) := by decide +kernel
theorem dX4_init_33 : decode cX4_init 33 = .ok (.return_, 1) := by decide +kernel
theorem cwX4_init : mw_cw yX4_init cX4_init 1 none 0 := ⟨wd_4, wd_59, by decide +kernel⟩
noncomputable def DX4_init (fu : Nat) (F : mwF) (M : mwM) (L : mwL) : Option (mwF × mwM × mwL) :=
  mlet (mrow F 6 11) (fun F1 => mlet (mzr M 6 11) (fun M2 => mlet (mset F1 5 0 (some 6)) (fun F3 => mlet (mz 0 M2 18) (fun M4 => mlet (mset F3 5 1 (some 18)) (fun F5 => mlet (mz 0 M4 19) (fun M6 => mlet (mset F5 5 2 (some 19)) (fun F7 => some (F7, M6, L))))))))
set_option maxHeartbeats 4000000 in
theorem kX4_init {fu : Nat} {F : mwF} {M : mwM} {L : mwL} {F9 : mwF} {M9 : mwM} {L9 : mwL} (hD : DX4_init fu F M L = some (F9, M9, L9)) : ∀ a j, (a < 5 ∨ 20 ≤ a) → F9 a j = F a j := by
  intro a j ha
  unfold DX4_init at hD
  obtain ⟨F1, eF1, hD⟩ := g_let hD
  obtain ⟨M2, eM2, hD⟩ := g_let hD
  obtain ⟨F3, eF3, hD⟩ := g_let hD
  obtain ⟨M4, eM4, hD⟩ := g_let hD
  obtain ⟨F5, eF5, hD⟩ := g_let hD
  obtain ⟨M6, eM6, hD⟩ := g_let hD
  obtain ⟨F7, eF7, hD⟩ := g_let hD
  have hf := congrArg (fun q => q.1) (Option.some.inj hD)
  dsimp only at hf
  rw [← hf]
  rw [eF7, mset_k (by omega)]
  rw [eF5, mset_k (by omega)]
  rw [eF3, mset_k (by omega)]
  rw [eF1, mrow_n (by omega)]
set_option maxHeartbeats 4000000 in
set_option maxRecDepth 100000 in
theorem tX4_init (l : Launch) (G : mwG) (fu : Nat) (F : mwF) (M : mwM) (L : mwL) {F9 : mwF} {M9 : mwM} {L9 : mwL} (hD : DX4_init fu F M L = some (F9, M9, L9)) : Met l yX4_init (Cond.code yX4_init cX4_init 1 none :: GT) ({ frames := 1, cells := 14, slots := 20149, locals := 20 }) (mw_PreC G 6 F M L [.ref (mw_ad G 5)]) (mw_QC G 20 F9 M9 L9) 14 20149 (mw_fr G) := by
  refine mw_enterC (by decide) (Nat.le_of_ble_eq_true rfl) ?_
  intro p e s m below meth c ls C A hr hlocks hnm hw hs0 hl
  have hl : lv_has ls 1 [(0, .ref (mw_ad G 5))] := hl
  unfold DX4_init at hD
  refine lv_aload_n C.1.1 C.1.2.1 dX4_init_0 rfl (lv_at hl 0 rfl) ?_
  refine W.objInit C.1.1 C.1.2.1 C.1.2.2.2.1 (C.1.2.2.2.2 _ wd_60) (C.1.2.2.2.2 _ wd_39) (C.1.2.2.2.2 _ wd_40) rfl (by rw [C.1.2.2.1]; exact hl.1) rfl dX4_init_1 (Nat.le_of_ble_eq_true rfl) (Nat.le_of_ble_eq_true rfl) ?_
  refine W.eq (g2 := F0 m 4 ls []) rfl ?_
  refine lv_aload_n C.1.1 C.1.2.1 dX4_init_4 rfl (lv_at hl 0 rfl) ?_
  refine lv_bipush (v := 11) C.1.1 C.1.2.1 dX4_init_5 (by decide) ?_
  refine lv_bipush (v := 12) C.1.1 C.1.2.1 dX4_init_7 (by decide) ?_
  refine mw_size hw (by omega) (fun hs => ?_)
  obtain ⟨F1, eF1, hD⟩ := g_let hD
  obtain ⟨M2, eM2, hD⟩ := g_let hD
  refine mr_mna (n := 11) (k := 12) C hw hs tf_6 (fun i hi => (fr_6 i hi).2.1) wd_61 (A (.array .int) (by decide)) wd_91 (by decide) (by decide) (by decide) (by decide) (by decide) (by decide) (Nat.le_of_ble_eq_true rfl) (Nat.le_of_ble_eq_true rfl) dX4_init_9 (fun H hw _ => ?_)
  replace hw : mw_W G (mw_ad G) 18 TF F1 M2 L H [] := by rw [eF1, eM2]; exact hw
  refine W.widen (k := 12) (n := 143) (Nat.le_of_ble_eq_true rfl) (Nat.le_of_ble_eq_true rfl) ?_
  obtain ⟨F3, eF3, hD⟩ := g_let hD
  refine mr_putFR C hw kc_4 0 (by omega) tf_5 wd_63 dX4_init_13 (by decide) rfl rfl hnm rfl rfl rfl (fun H locs hw => ?_)
  replace hw : mw_W G (mw_ad G) 18 TF F3 M2 L H locs := by rw [eF3]; exact hw
  refine lv_aload_n C.1.1 C.1.2.1 dX4_init_16 rfl (lv_at hl 0 rfl) ?_
  refine lv_bipush (v := 6) C.1.1 C.1.2.1 dX4_init_17 (by decide) ?_
  refine mw_size hw (by omega) (fun hs => ?_)
  obtain ⟨M4, eM4, hD⟩ := g_let hD
  refine mr_newI (atype := .int) (t := 0) (n := 6) C hw hs tf_18 (by decide) rfl wd_91 rfl (fun _ => rfl) (by decide) (by decide) (by decide) (Nat.le_of_ble_eq_true rfl) (Nat.le_of_ble_eq_true rfl) dX4_init_19 (fun H hw _ => ?_)
  replace hw : mw_W G (mw_ad G) 19 TF F3 M4 L H locs := by rw [eM4]; exact hw
  refine W.widen (k := 13) (n := 149) (Nat.le_of_ble_eq_true rfl) (Nat.le_of_ble_eq_true rfl) ?_
  obtain ⟨F5, eF5, hD⟩ := g_let hD
  refine mr_putFR C hw kc_4 1 (by omega) tf_5 wd_66 dX4_init_21 (by decide) rfl rfl hnm rfl rfl rfl (fun H locs hw => ?_)
  replace hw : mw_W G (mw_ad G) 19 TF F5 M4 L H locs := by rw [eF5]; exact hw
  refine lv_aload_n C.1.1 C.1.2.1 dX4_init_24 rfl (lv_at hl 0 rfl) ?_
  refine lv_sipush (v := 20000) C.1.1 C.1.2.1 dX4_init_25 (by decide) ?_
  refine mw_size hw (by omega) (fun hs => ?_)
  obtain ⟨M6, eM6, hD⟩ := g_let hD
  refine mr_newI (atype := .int) (t := 0) (n := 20000) C hw hs tf_19 (by decide) rfl wd_91 rfl (fun _ => rfl) (by decide) (by decide) (by decide) (Nat.le_of_ble_eq_true rfl) (Nat.le_of_ble_eq_true rfl) dX4_init_28 (fun H hw _ => ?_)
  replace hw : mw_W G (mw_ad G) 20 TF F5 M6 L H locs := by rw [eM6]; exact hw
  refine W.widen (k := 14) (n := 20149) (Nat.le_of_ble_eq_true rfl) (Nat.le_of_ble_eq_true rfl) ?_
  obtain ⟨F7, eF7, hD⟩ := g_let hD
  refine mr_putFR C hw kc_4 2 (by omega) tf_5 wd_67 dX4_init_30 (by decide) rfl rfl hnm rfl rfl rfl (fun H locs hw => ?_)
  replace hw : mw_W G (mw_ad G) 20 TF F7 M6 L H locs := by rw [eF7]; exact hw
  refine mw_size hw (by omega) (fun hs => ?_)
  exact mr_cret C hr hlocks hw hs (Option.some.inj hD) dX4_init_33

theorem dX6_init_0 : decode cX6_init 0 = .ok (.aload_n 0, 1) := by decide +kernel
theorem dX6_init_1 : decode cX6_init 1 = .ok (.invokespecial 3, 3) := by decide +kernel
theorem dX6_init_4 : decode cX6_init 4 = .ok (.aload_n 0, 1) := by decide +kernel
theorem dX6_init_5 : decode cX6_init 5 = .ok (.bipush 10, 2) := by decide +kernel
theorem dX6_init_7 : decode cX6_init 7 = .ok (.bipush 40, 2) := by decide +kernel
theorem dX6_init_9 : decode cX6_init 9 = .ok (.multianewarray 9 2, 4) := by decide +kernel
theorem dX6_init_13 : decode cX6_init 13 = .ok (.putfield 11, 3) := by decide +kernel
theorem dX6_init_16 : decode cX6_init 16 = .ok (.aload_n 0, 1) := by decide +kernel
theorem dX6_init_17 : decode cX6_init 17 = .ok (.bipush 6, 2) := by decide +kernel
theorem dX6_init_19 : decode cX6_init 19 = .ok (.bipush 40, 2) := by decide +kernel
theorem dX6_init_21 : decode cX6_init 21 = .ok (.multianewarray 9 2, 4) := by decide +kernel
theorem dX6_init_25 : decode cX6_init 25 = .ok (.putfield 16, 3) := by decide +kernel
theorem dX6_init_28 : decode cX6_init 28 = .ok (.aload_n 0, 1) := by decide +kernel
theorem dX6_init_29 : decode cX6_init 29 = .ok (.bipush 40, 2) := by decide +kernel
theorem dX6_init_31 : decode cX6_init 31 = .ok (.newarray .int, 2) := by decide +kernel
theorem dX6_init_33 : decode cX6_init 33 = .ok (.putfield 19, 3) := by decide +kernel
theorem dX6_init_36 : decode cX6_init 36 = .ok (.aload_n 0, 1) := by decide +kernel
theorem dX6_init_37 : decode cX6_init 37 = .ok (.iconst 3, 1) := by decide +kernel
theorem dX6_init_38 : decode cX6_init 38 = .ok (.sipush 400, 3) := by decide +kernel
theorem dX6_init_41 : decode cX6_init 41 = .ok (.multianewarray 9 2, 4) := by decide +kernel
theorem dX6_init_45 : decode cX6_init 45 = .ok (.putfield 23, 3) := by decide +kernel
theorem dX6_init_48 : decode cX6_init 48 = .ok (.aload_n 0, 1) := by decide +kernel
theorem dX6_init_49 : decode cX6_init 49 = .ok (.bipush 6, 2) := by decide +kernel
theorem dX6_init_51 : decode cX6_init 51 = .ok (.bipush 40, 2) := by decide +kernel
theorem dX6_init_53 : decode cX6_init 53 = .ok (.multianewarray 9 2, 4) := by decide +kernel
theorem dX6_init_57 : decode cX6_init 57 = .ok (.putfield 26, 3) := by decide +kernel
theorem dX6_init_60 : decode cX6_init 60 = .ok (.aload_n 0, 1) := by decide +kernel
theorem dX6_init_61 : decode cX6_init 61 = .ok (.bipush 40, 2) := by decide +kernel
theorem dX6_init_63 : decode cX6_init 63 = .ok (.newarray .int, 2) := by decide +kernel
theorem dX6_init_65 : decode cX6_init 65 = .ok (.putfield 29, 3) := by decide +kernel
theorem dX6_init_68 : decode cX6_init 68 = .ok (.aload_n 0, 1) := by decide +kernel
theorem dX6_init_69 : decode cX6_init 69 = .ok (.bipush 40, 2) := by decide +kernel
theorem dX6_init_71 : decode cX6_init 71 = .ok (.newarray .int, 2) := by decide +kernel
theorem dX6_init_73 : decode cX6_init 73 = .ok (.putfield 32, 3) := by decide +kernel
theorem dX6_init_76 : decode cX6_init 76 = .ok (.aload_n 0, 1) := by decide +kernel
theorem dX6_init_77 : decode cX6_init 77 = .ok (.bipush 40, 2) := by decide +kernel
theorem dX6_init_79 : decode cX6_init 79 = .ok (.newarray .int, 2) := by decide +kernel
theorem dX6_init_81 : decode cX6_init 81 = .ok (.putfield 35, 3) := by decide +kernel
theorem dX6_init_84 : decode cX6_init 84 = .ok (.aload_n 0, 1) := by decide +kernel
theorem dX6_init_85 : decode cX6_init 85 = .ok (.bipush 8, 2) := by decide +kernel
theorem dX6_init_87 : decode cX6_init 87 = .ok (.newarray .int, 2) := by decide +kernel
theorem dX6_init_89 : decode cX6_init 89 = .ok (.putfield 38, 3) := by decide +kernel
theorem dX6_init_92 : decode cX6_init 92 = .ok (.aload_n 0, 1) := by decide +kernel
theorem dX6_init_93 : decode cX6_init 93 = .ok (.bipush 12, 2) := by decide +kernel
theorem dX6_init_95 : decode cX6_init 95 = .ok (.newarray .int, 2) := by decide +kernel
theorem dX6_init_97 : decode cX6_init 97 = .ok (.putfield 41, 3) := by decide +kernel
theorem dX6_init_100 : decode cX6_init 100 = .ok (.return_, 1) := by decide +kernel
theorem cwX6_init : mw_cw yX6_init cX6_init 1 none 0 := ⟨wd_7, wd_225, by decide +kernel⟩
noncomputable def DX6_init (fu : Nat) (F : mwF) (M : mwM) (L : mwL) : Option (mwF × mwM × mwL) :=
  mlet (mrow F 62 10) (fun F1 => mlet (mzr M 62 10) (fun M2 => mlet (mset F1 61 0 (some 62)) (fun F3 => mlet (mrow F3 73 6) (fun F4 => mlet (mzr M2 73 6) (fun M5 => mlet (mset F4 61 1 (some 73)) (fun F6 => mlet (mz 0 M5 80) (fun M7 => mlet (mset F6 61 2 (some 80)) (fun F8 => mlet (mrow F8 81 3) (fun F9 => mlet (mzr M7 81 3) (fun M10 => mlet (mset F9 61 3 (some 81)) (fun F11 => mlet (mrow F11 85 6) (fun F12 => mlet (mzr M10 85 6) (fun M13 => mlet (mset F12 61 4 (some 85)) (fun F14 => mlet (mz 0 M13 92) (fun M15 => mlet (mset F14 61 5 (some 92)) (fun F16 => mlet (mz 0 M15 93) (fun M17 => mlet (mset F16 61 6 (some 93)) (fun F18 => mlet (mz 0 M17 94) (fun M19 => mlet (mset F18 61 7 (some 94)) (fun F20 => mlet (mz 0 M19 95) (fun M21 => mlet (mset F20 61 8 (some 95)) (fun F22 => mlet (mz 0 M21 96) (fun M23 => mlet (mset F22 61 9 (some 96)) (fun F24 => some (F24, M23, L)))))))))))))))))))))))))
set_option maxHeartbeats 4000000 in
theorem kX6_init {fu : Nat} {F : mwF} {M : mwM} {L : mwL} {F9 : mwF} {M9 : mwM} {L9 : mwL} (hD : DX6_init fu F M L = some (F9, M9, L9)) : ∀ a j, (a < 61 ∨ 97 ≤ a) → F9 a j = F a j := by
  intro a j ha
  unfold DX6_init at hD
  obtain ⟨F1, eF1, hD⟩ := g_let hD
  obtain ⟨M2, eM2, hD⟩ := g_let hD
  obtain ⟨F3, eF3, hD⟩ := g_let hD
  obtain ⟨F4, eF4, hD⟩ := g_let hD
  obtain ⟨M5, eM5, hD⟩ := g_let hD
  obtain ⟨F6, eF6, hD⟩ := g_let hD
  obtain ⟨M7, eM7, hD⟩ := g_let hD
  obtain ⟨F8, eF8, hD⟩ := g_let hD
  obtain ⟨F9, eF9, hD⟩ := g_let hD
  obtain ⟨M10, eM10, hD⟩ := g_let hD
  obtain ⟨F11, eF11, hD⟩ := g_let hD
  obtain ⟨F12, eF12, hD⟩ := g_let hD
  obtain ⟨M13, eM13, hD⟩ := g_let hD
  obtain ⟨F14, eF14, hD⟩ := g_let hD
  obtain ⟨M15, eM15, hD⟩ := g_let hD
  obtain ⟨F16, eF16, hD⟩ := g_let hD
  obtain ⟨M17, eM17, hD⟩ := g_let hD
  obtain ⟨F18, eF18, hD⟩ := g_let hD
  obtain ⟨M19, eM19, hD⟩ := g_let hD
  obtain ⟨F20, eF20, hD⟩ := g_let hD
  obtain ⟨M21, eM21, hD⟩ := g_let hD
  obtain ⟨F22, eF22, hD⟩ := g_let hD
  obtain ⟨M23, eM23, hD⟩ := g_let hD
  obtain ⟨F24, eF24, hD⟩ := g_let hD
  have hf := congrArg (fun q => q.1) (Option.some.inj hD)
  dsimp only at hf
  rw [← hf]
  rw [eF24, mset_k (by omega)]
  rw [eF22, mset_k (by omega)]
  rw [eF20, mset_k (by omega)]
  rw [eF18, mset_k (by omega)]
  rw [eF16, mset_k (by omega)]
  rw [eF14, mset_k (by omega)]
  rw [eF12, mrow_n (by omega)]
  rw [eF11, mset_k (by omega)]
  rw [eF9, mrow_n (by omega)]
  rw [eF8, mset_k (by omega)]
  rw [eF6, mset_k (by omega)]
  rw [eF4, mrow_n (by omega)]
  rw [eF3, mset_k (by omega)]
  rw [eF1, mrow_n (by omega)]
set_option maxHeartbeats 4000000 in
set_option maxRecDepth 100000 in
theorem tX6_init (l : Launch) (G : mwG) (fu : Nat) (F : mwF) (M : mwM) (L : mwL) {F9 : mwF} {M9 : mwM} {L9 : mwL} (hD : DX6_init fu F M L = some (F9, M9, L9)) : Met l yX6_init (Cond.code yX6_init cX6_init 1 none :: GT) ({ frames := 1, cells := 35, slots := 2285, locals := 20 }) (mw_PreC G 62 F M L [.ref (mw_ad G 61)]) (mw_QC G 97 F9 M9 L9) 35 2285 (mw_fr G) := by
  refine mw_enterC (by decide) (Nat.le_of_ble_eq_true rfl) ?_
  intro p e s m below meth c ls C A hr hlocks hnm hw hs0 hl
  have hl : lv_has ls 1 [(0, .ref (mw_ad G 61))] := hl
  unfold DX6_init at hD
  refine lv_aload_n C.1.1 C.1.2.1 dX6_init_0 rfl (lv_at hl 0 rfl) ?_
  refine W.objInit C.1.1 C.1.2.1 C.1.2.2.2.1 (C.1.2.2.2.2 _ wd_226) (C.1.2.2.2.2 _ wd_39) (C.1.2.2.2.2 _ wd_40) rfl (by rw [C.1.2.2.1]; exact hl.1) rfl dX6_init_1 (Nat.le_of_ble_eq_true rfl) (Nat.le_of_ble_eq_true rfl) ?_
  refine W.eq (g2 := F0 m 4 ls []) rfl ?_
  refine lv_aload_n C.1.1 C.1.2.1 dX6_init_4 rfl (lv_at hl 0 rfl) ?_
  refine lv_bipush (v := 10) C.1.1 C.1.2.1 dX6_init_5 (by decide) ?_
  refine lv_bipush (v := 40) C.1.1 C.1.2.1 dX6_init_7 (by decide) ?_
  refine mw_size hw (by omega) (fun hs => ?_)
  obtain ⟨F1, eF1, hD⟩ := g_let hD
  obtain ⟨M2, eM2, hD⟩ := g_let hD
  refine mr_mna (n := 10) (k := 40) C hw hs tf_62 (fun i hi => (fr_62 i hi).2.1) wd_227 (A (.array .int) (by decide)) wd_91 (by decide) (by decide) (by decide) (by decide) (by decide) (by decide) (Nat.le_of_ble_eq_true rfl) (Nat.le_of_ble_eq_true rfl) dX6_init_9 (fun H hw _ => ?_)
  replace hw : mw_W G (mw_ad G) 73 TF F1 M2 L H [] := by rw [eF1, eM2]; exact hw
  refine W.widen (k := 11) (n := 410) (Nat.le_of_ble_eq_true rfl) (Nat.le_of_ble_eq_true rfl) ?_
  obtain ⟨F3, eF3, hD⟩ := g_let hD
  refine mr_putFR C hw kc_6 0 (by omega) tf_61 wd_228 dX6_init_13 (by decide) rfl rfl hnm rfl rfl rfl (fun H locs hw => ?_)
  replace hw : mw_W G (mw_ad G) 73 TF F3 M2 L H locs := by rw [eF3]; exact hw
  refine lv_aload_n C.1.1 C.1.2.1 dX6_init_16 rfl (lv_at hl 0 rfl) ?_
  refine lv_bipush (v := 6) C.1.1 C.1.2.1 dX6_init_17 (by decide) ?_
  refine lv_bipush (v := 40) C.1.1 C.1.2.1 dX6_init_19 (by decide) ?_
  refine mw_size hw (by omega) (fun hs => ?_)
  obtain ⟨F4, eF4, hD⟩ := g_let hD
  obtain ⟨M5, eM5, hD⟩ := g_let hD
  refine mr_mna (n := 6) (k := 40) C hw hs tf_73 (fun i hi => (fr_73 i hi).2.1) wd_227 (A (.array .int) (by decide)) wd_91 (by decide) (by decide) (by decide) (by decide) (by decide) (by decide) (Nat.le_of_ble_eq_true rfl) (Nat.le_of_ble_eq_true rfl) dX6_init_21 (fun H hw _ => ?_)
  replace hw : mw_W G (mw_ad G) 80 TF F4 M5 L H locs := by rw [eF4, eM5]; exact hw
  refine W.widen (k := 18) (n := 656) (Nat.le_of_ble_eq_true rfl) (Nat.le_of_ble_eq_true rfl) ?_
  obtain ⟨F6, eF6, hD⟩ := g_let hD
  refine mr_putFR C hw kc_6 1 (by omega) tf_61 wd_231 dX6_init_25 (by decide) rfl rfl hnm rfl rfl rfl (fun H locs hw => ?_)
  replace hw : mw_W G (mw_ad G) 80 TF F6 M5 L H locs := by rw [eF6]; exact hw
  refine lv_aload_n C.1.1 C.1.2.1 dX6_init_28 rfl (lv_at hl 0 rfl) ?_
  refine lv_bipush (v := 40) C.1.1 C.1.2.1 dX6_init_29 (by decide) ?_
  refine mw_size hw (by omega) (fun hs => ?_)
  obtain ⟨M7, eM7, hD⟩ := g_let hD
  refine mr_newI (atype := .int) (t := 0) (n := 40) C hw hs tf_80 (by decide) rfl wd_91 rfl (fun _ => rfl) (by decide) (by decide) (by decide) (Nat.le_of_ble_eq_true rfl) (Nat.le_of_ble_eq_true rfl) dX6_init_31 (fun H hw _ => ?_)
  replace hw : mw_W G (mw_ad G) 81 TF F6 M7 L H locs := by rw [eM7]; exact hw
  refine W.widen (k := 19) (n := 696) (Nat.le_of_ble_eq_true rfl) (Nat.le_of_ble_eq_true rfl) ?_
  obtain ⟨F8, eF8, hD⟩ := g_let hD
  refine mr_putFR C hw kc_6 2 (by omega) tf_61 wd_234 dX6_init_33 (by decide) rfl rfl hnm rfl rfl rfl (fun H locs hw => ?_)
  replace hw : mw_W G (mw_ad G) 81 TF F8 M7 L H locs := by rw [eF8]; exact hw
  refine lv_aload_n C.1.1 C.1.2.1 dX6_init_36 rfl (lv_at hl 0 rfl) ?_
  refine lv_iconst (v := 3) C.1.1 C.1.2.1 dX6_init_37 (by decide) ?_
  refine lv_sipush (v := 400) C.1.1 C.1.2.1 dX6_init_38 (by decide) ?_
  refine mw_size hw (by omega) (fun hs => ?_)
  obtain ⟨F9, eF9, hD⟩ := g_let hD
  obtain ⟨M10, eM10, hD⟩ := g_let hD
  refine mr_mna (n := 3) (k := 400) C hw hs tf_81 (fun i hi => (fr_81 i hi).2.1) wd_227 (A (.array .int) (by decide)) wd_91 (by decide) (by decide) (by decide) (by decide) (by decide) (by decide) (Nat.le_of_ble_eq_true rfl) (Nat.le_of_ble_eq_true rfl) dX6_init_41 (fun H hw _ => ?_)
  replace hw : mw_W G (mw_ad G) 85 TF F9 M10 L H locs := by rw [eF9, eM10]; exact hw
  refine W.widen (k := 23) (n := 1899) (Nat.le_of_ble_eq_true rfl) (Nat.le_of_ble_eq_true rfl) ?_
  obtain ⟨F11, eF11, hD⟩ := g_let hD
  refine mr_putFR C hw kc_6 3 (by omega) tf_61 wd_235 dX6_init_45 (by decide) rfl rfl hnm rfl rfl rfl (fun H locs hw => ?_)
  replace hw : mw_W G (mw_ad G) 85 TF F11 M10 L H locs := by rw [eF11]; exact hw
  refine lv_aload_n C.1.1 C.1.2.1 dX6_init_48 rfl (lv_at hl 0 rfl) ?_
  refine lv_bipush (v := 6) C.1.1 C.1.2.1 dX6_init_49 (by decide) ?_
  refine lv_bipush (v := 40) C.1.1 C.1.2.1 dX6_init_51 (by decide) ?_
  refine mw_size hw (by omega) (fun hs => ?_)
  obtain ⟨F12, eF12, hD⟩ := g_let hD
  obtain ⟨M13, eM13, hD⟩ := g_let hD
  refine mr_mna (n := 6) (k := 40) C hw hs tf_85 (fun i hi => (fr_85 i hi).2.1) wd_227 (A (.array .int) (by decide)) wd_91 (by decide) (by decide) (by decide) (by decide) (by decide) (by decide) (Nat.le_of_ble_eq_true rfl) (Nat.le_of_ble_eq_true rfl) dX6_init_53 (fun H hw _ => ?_)
  replace hw : mw_W G (mw_ad G) 92 TF F12 M13 L H locs := by rw [eF12, eM13]; exact hw
  refine W.widen (k := 30) (n := 2145) (Nat.le_of_ble_eq_true rfl) (Nat.le_of_ble_eq_true rfl) ?_
  obtain ⟨F14, eF14, hD⟩ := g_let hD
  refine mr_putFR C hw kc_6 4 (by omega) tf_61 wd_236 dX6_init_57 (by decide) rfl rfl hnm rfl rfl rfl (fun H locs hw => ?_)
  replace hw : mw_W G (mw_ad G) 92 TF F14 M13 L H locs := by rw [eF14]; exact hw
  refine lv_aload_n C.1.1 C.1.2.1 dX6_init_60 rfl (lv_at hl 0 rfl) ?_
  refine lv_bipush (v := 40) C.1.1 C.1.2.1 dX6_init_61 (by decide) ?_
  refine mw_size hw (by omega) (fun hs => ?_)
  obtain ⟨M15, eM15, hD⟩ := g_let hD
  refine mr_newI (atype := .int) (t := 0) (n := 40) C hw hs tf_92 (by decide) rfl wd_91 rfl (fun _ => rfl) (by decide) (by decide) (by decide) (Nat.le_of_ble_eq_true rfl) (Nat.le_of_ble_eq_true rfl) dX6_init_63 (fun H hw _ => ?_)
  replace hw : mw_W G (mw_ad G) 93 TF F14 M15 L H locs := by rw [eM15]; exact hw
  refine W.widen (k := 31) (n := 2185) (Nat.le_of_ble_eq_true rfl) (Nat.le_of_ble_eq_true rfl) ?_
  obtain ⟨F16, eF16, hD⟩ := g_let hD
  refine mr_putFR C hw kc_6 5 (by omega) tf_61 wd_237 dX6_init_65 (by decide) rfl rfl hnm rfl rfl rfl (fun H locs hw => ?_)
  replace hw : mw_W G (mw_ad G) 93 TF F16 M15 L H locs := by rw [eF16]; exact hw
  refine lv_aload_n C.1.1 C.1.2.1 dX6_init_68 rfl (lv_at hl 0 rfl) ?_
  refine lv_bipush (v := 40) C.1.1 C.1.2.1 dX6_init_69 (by decide) ?_
  refine mw_size hw (by omega) (fun hs => ?_)
  obtain ⟨M17, eM17, hD⟩ := g_let hD
  refine mr_newI (atype := .int) (t := 0) (n := 40) C hw hs tf_93 (by decide) rfl wd_91 rfl (fun _ => rfl) (by decide) (by decide) (by decide) (Nat.le_of_ble_eq_true rfl) (Nat.le_of_ble_eq_true rfl) dX6_init_71 (fun H hw _ => ?_)
  replace hw : mw_W G (mw_ad G) 94 TF F16 M17 L H locs := by rw [eM17]; exact hw
  refine W.widen (k := 32) (n := 2225) (Nat.le_of_ble_eq_true rfl) (Nat.le_of_ble_eq_true rfl) ?_
  obtain ⟨F18, eF18, hD⟩ := g_let hD
  refine mr_putFR C hw kc_6 6 (by omega) tf_61 wd_238 dX6_init_73 (by decide) rfl rfl hnm rfl rfl rfl (fun H locs hw => ?_)
  replace hw : mw_W G (mw_ad G) 94 TF F18 M17 L H locs := by rw [eF18]; exact hw
  refine lv_aload_n C.1.1 C.1.2.1 dX6_init_76 rfl (lv_at hl 0 rfl) ?_
  refine lv_bipush (v := 40) C.1.1 C.1.2.1 dX6_init_77 (by decide) ?_
  refine mw_size hw (by omega) (fun hs => ?_)
  obtain ⟨M19, eM19, hD⟩ := g_let hD
  refine mr_newI (atype := .int) (t := 0) (n := 40) C hw hs tf_94 (by decide) rfl wd_91 rfl (fun _ => rfl) (by decide) (by decide) (by decide) (Nat.le_of_ble_eq_true rfl) (Nat.le_of_ble_eq_true rfl) dX6_init_79 (fun H hw _ => ?_)
  replace hw : mw_W G (mw_ad G) 95 TF F18 M19 L H locs := by rw [eM19]; exact hw
  refine W.widen (k := 33) (n := 2265) (Nat.le_of_ble_eq_true rfl) (Nat.le_of_ble_eq_true rfl) ?_
  obtain ⟨F20, eF20, hD⟩ := g_let hD
  refine mr_putFR C hw kc_6 7 (by omega) tf_61 wd_239 dX6_init_81 (by decide) rfl rfl hnm rfl rfl rfl (fun H locs hw => ?_)
  replace hw : mw_W G (mw_ad G) 95 TF F20 M19 L H locs := by rw [eF20]; exact hw
  refine lv_aload_n C.1.1 C.1.2.1 dX6_init_84 rfl (lv_at hl 0 rfl) ?_
  refine lv_bipush (v := 8) C.1.1 C.1.2.1 dX6_init_85 (by decide) ?_
  refine mw_size hw (by omega) (fun hs => ?_)
  obtain ⟨M21, eM21, hD⟩ := g_let hD
  refine mr_newI (atype := .int) (t := 0) (n := 8) C hw hs tf_95 (by decide) rfl wd_91 rfl (fun _ => rfl) (by decide) (by decide) (by decide) (Nat.le_of_ble_eq_true rfl) (Nat.le_of_ble_eq_true rfl) dX6_init_87 (fun H hw _ => ?_)
  replace hw : mw_W G (mw_ad G) 96 TF F20 M21 L H locs := by rw [eM21]; exact hw
  refine W.widen (k := 34) (n := 2273) (Nat.le_of_ble_eq_true rfl) (Nat.le_of_ble_eq_true rfl) ?_
  obtain ⟨F22, eF22, hD⟩ := g_let hD
  refine mr_putFR C hw kc_6 8 (by omega) tf_61 wd_240 dX6_init_89 (by decide) rfl rfl hnm rfl rfl rfl (fun H locs hw => ?_)
  replace hw : mw_W G (mw_ad G) 96 TF F22 M21 L H locs := by rw [eF22]; exact hw
  refine lv_aload_n C.1.1 C.1.2.1 dX6_init_92 rfl (lv_at hl 0 rfl) ?_
  refine lv_bipush (v := 12) C.1.1 C.1.2.1 dX6_init_93 (by decide) ?_
  refine mw_size hw (by omega) (fun hs => ?_)
  obtain ⟨M23, eM23, hD⟩ := g_let hD
  refine mr_newI (atype := .int) (t := 0) (n := 12) C hw hs tf_96 (by decide) rfl wd_91 rfl (fun _ => rfl) (by decide) (by decide) (by decide) (Nat.le_of_ble_eq_true rfl) (Nat.le_of_ble_eq_true rfl) dX6_init_95 (fun H hw _ => ?_)
  replace hw : mw_W G (mw_ad G) 97 TF F22 M23 L H locs := by rw [eM23]; exact hw
  refine W.widen (k := 35) (n := 2285) (Nat.le_of_ble_eq_true rfl) (Nat.le_of_ble_eq_true rfl) ?_
  obtain ⟨F24, eF24, hD⟩ := g_let hD
  refine mr_putFR C hw kc_6 9 (by omega) tf_61 wd_242 dX6_init_97 (by decide) rfl rfl hnm rfl rfl rfl (fun H locs hw => ?_)
  replace hw : mw_W G (mw_ad G) 97 TF F24 M23 L H locs := by rw [eF24]; exact hw
  refine mw_size hw (by omega) (fun hs => ?_)
  exact mr_cret C hr hlocks hw hs (Option.some.inj hD) dX6_init_100

theorem dX2_init_0 : decode cX2_init 0 = .ok (.aload_n 0, 1) := by decide +kernel
theorem dX2_init_1 : decode cX2_init 1 = .ok (.invokespecial 3, 3) := by decide +kernel
theorem dX2_init_4 : decode cX2_init 4 = .ok (.aload_n 0, 1) := by decide +kernel
theorem dX2_init_5 : decode cX2_init 5 = .ok (.bipush 18, 2) := by decide +kernel
theorem dX2_init_7 : decode cX2_init 7 = .ok (.sipush 201, 3) := by decide +kernel
theorem dX2_init_10 : decode cX2_init 10 = .ok (.multianewarray 11 2, 4) := by decide +kernel
theorem dX2_init_14 : decode cX2_init 14 = .ok (.putfield 13, 3) := by decide +kernel
theorem dX2_init_17 : decode cX2_init 17 = .ok (.aload_n 0, 1) := by decide +kernel
theorem dX2_init_18 : decode cX2_init 18 = .ok (.bipush 7, 2) := by decide +kernel
theorem dX2_init_20 : decode cX2_init 20 = .ok (.sipush 401, 3) := by decide +kernel
theorem dX2_init_23 : decode cX2_init 23 = .ok (.multianewarray 11 2, 4) := by decide +kernel
theorem dX2_init_27 : decode cX2_init 27 = .ok (.putfield 16, 3) := by decide +kernel
theorem dX2_init_30 : decode cX2_init 30 = .ok (.aload_n 0, 1) := by decide +kernel
theorem dX2_init_31 : decode cX2_init 31 = .ok (.iconst 5, 1) := by decide +kernel
theorem dX2_init_32 : decode cX2_init 32 = .ok (.sipush 600, 3) := by decide +kernel
theorem dX2_init_35 : decode cX2_init 35 = .ok (.multianewarray 11 2, 4) := by decide +kernel
theorem dX2_init_39 : decode cX2_init 39 = .ok (.putfield 19, 3) := by decide +kernel
theorem dX2_init_42 : decode cX2_init 42 = .ok (.aload_n 0, 1) := by decide +kernel
theorem dX2_init_43 : decode cX2_init 43 = .ok (.bipush 32, 2) := by decide +kernel
theorem dX2_init_45 : decode cX2_init 45 = .ok (.newarray .long, 2) := by decide +kernel
theorem dX2_init_47 : decode cX2_init 47 = .ok (.putfield 22, 3) := by decide +kernel
theorem dX2_init_50 : decode cX2_init 50 = .ok (.aload_n 0, 1) := by decide +kernel
theorem dX2_init_51 : decode cX2_init 51 = .ok (.bipush 16, 2) := by decide +kernel
theorem dX2_init_53 : decode cX2_init 53 = .ok (.newarray .int, 2) := by decide +kernel
theorem dX2_init_55 : decode cX2_init 55 = .ok (.putfield 26, 3) := by decide +kernel
theorem dX2_init_58 : decode cX2_init 58 = .ok (.return_, 1) := by decide +kernel
theorem cwX2_init : mw_cw yX2_init cX2_init 1 none 0 := ⟨wd_12, wd_441, by decide +kernel⟩
noncomputable def DX2_init (fu : Nat) (k : Nat) (F : mwF) (M : mwM) (L : mwL) : Option (mwF × mwM × mwL) :=
  mlet (mrow F (k + 1) 18) (fun F1 => mlet (mzr M (k + 1) 18) (fun M2 => mlet (mset F1 k 0 (some (k + 1))) (fun F3 => mlet (mrow F3 (k + 20) 7) (fun F4 => mlet (mzr M2 (k + 20) 7) (fun M5 => mlet (mset F4 k 1 (some (k + 20))) (fun F6 => mlet (mrow F6 (k + 28) 5) (fun F7 => mlet (mzr M5 (k + 28) 5) (fun M8 => mlet (mset F7 k 2 (some (k + 28))) (fun F9 => mlet (mz 0 L (k + 34)) (fun L10 => mlet (mset F9 k 3 (some (k + 34))) (fun F11 => mlet (mz 0 M8 (k + 35)) (fun M12 => mlet (mset F11 k 4 (some (k + 35))) (fun F13 => some (F13, M12, L10))))))))))))))
set_option maxHeartbeats 4000000 in
theorem kX2_init {fu : Nat} {k : Nat} {F : mwF} {M : mwM} {L : mwL} {F9 : mwF} {M9 : mwM} {L9 : mwL} (hD : DX2_init fu k F M L = some (F9, M9, L9)) : ∀ a j, (a < k ∨ (k + 36) ≤ a) → F9 a j = F a j := by
  intro a j ha
  unfold DX2_init at hD
  obtain ⟨F1, eF1, hD⟩ := g_let hD
  obtain ⟨M2, eM2, hD⟩ := g_let hD
  obtain ⟨F3, eF3, hD⟩ := g_let hD
  obtain ⟨F4, eF4, hD⟩ := g_let hD
  obtain ⟨M5, eM5, hD⟩ := g_let hD
  obtain ⟨F6, eF6, hD⟩ := g_let hD
  obtain ⟨F7, eF7, hD⟩ := g_let hD
  obtain ⟨M8, eM8, hD⟩ := g_let hD
  obtain ⟨F9, eF9, hD⟩ := g_let hD
  obtain ⟨L10, eL10, hD⟩ := g_let hD
  obtain ⟨F11, eF11, hD⟩ := g_let hD
  obtain ⟨M12, eM12, hD⟩ := g_let hD
  obtain ⟨F13, eF13, hD⟩ := g_let hD
  have hf := congrArg (fun q => q.1) (Option.some.inj hD)
  dsimp only at hf
  rw [← hf]
  rw [eF13, mset_k (by omega)]
  rw [eF11, mset_k (by omega)]
  rw [eF9, mset_k (by omega)]
  rw [eF7, mrow_n (by omega)]
  rw [eF6, mset_k (by omega)]
  rw [eF4, mrow_n (by omega)]
  rw [eF3, mset_k (by omega)]
  rw [eF1, mrow_n (by omega)]
set_option maxHeartbeats 4000000 in
set_option maxRecDepth 100000 in
theorem tX2_init (l : Launch) (G : mwG) (fu : Nat) (k : Nat) (F : mwF) (M : mwM) (L : mwL) {F9 : mwF} {M9 : mwM} {L9 : mwL} (hD : DX2_init fu k F M L = some (F9, M9, L9)) (hk0 : isCh k) : Met l yX2_init (Cond.code yX2_init cX2_init 1 none :: GT) ({ frames := 1, cells := 35, slots := 9503, locals := 20 }) (mw_PreC G (k + 1) F M L [.ref (mw_ad G k)]) (mw_QC G (k + 36) F9 M9 L9) 35 9503 (mw_fr G) := by
  refine mw_enterC (by decide) (Nat.le_of_ble_eq_true rfl) ?_
  intro p e s m below meth c ls C A hr hlocks hnm hw hs0 hl
  have hl : lv_has ls 1 [(0, .ref (mw_ad G k))] := hl
  unfold DX2_init at hD
  refine lv_aload_n C.1.1 C.1.2.1 dX2_init_0 rfl (lv_at hl 0 rfl) ?_
  refine W.objInit C.1.1 C.1.2.1 C.1.2.2.2.1 (C.1.2.2.2.2 _ wd_442) (C.1.2.2.2.2 _ wd_39) (C.1.2.2.2.2 _ wd_40) rfl (by rw [C.1.2.2.1]; exact hl.1) rfl dX2_init_1 (Nat.le_of_ble_eq_true rfl) (Nat.le_of_ble_eq_true rfl) ?_
  refine W.eq (g2 := F0 m 4 ls []) rfl ?_
  refine lv_aload_n C.1.1 C.1.2.1 dX2_init_4 rfl (lv_at hl 0 rfl) ?_
  refine lv_bipush (v := 18) C.1.1 C.1.2.1 dX2_init_5 (by decide) ?_
  refine lv_sipush (v := 201) C.1.1 C.1.2.1 dX2_init_7 (by decide) ?_
  refine mw_size hw (by omega) (fun hs => ?_)
  obtain ⟨F1, eF1, hD⟩ := g_let hD
  obtain ⟨M2, eM2, hD⟩ := g_let hD
  refine mr_mna (n := 18) (k := 201) C hw hs (Ch_T1 hk0) (fun i hi => (Ch_R1 hk0 i hi).2.1) wd_443 (A (.array .int) (by decide)) wd_91 (by decide) (by decide) (by decide) (by decide) (by decide) (by decide) (Nat.le_of_ble_eq_true rfl) (Nat.le_of_ble_eq_true rfl) dX2_init_10 (fun H hw _ => ?_)
  replace hw : mw_W G (mw_ad G) (k + 20) TF F1 M2 L H [] := by rw [eF1, eM2]; exact hw
  refine W.widen (k := 19) (n := 3636) (Nat.le_of_ble_eq_true rfl) (Nat.le_of_ble_eq_true rfl) ?_
  obtain ⟨F3, eF3, hD⟩ := g_let hD
  refine mr_putFR C hw kc_2 0 (by omega) (Ch_T0 hk0) wd_444 dX2_init_14 (by decide) rfl rfl hnm rfl rfl rfl (fun H locs hw => ?_)
  replace hw : mw_W G (mw_ad G) (k + 20) TF F3 M2 L H locs := by rw [eF3]; exact hw
  refine lv_aload_n C.1.1 C.1.2.1 dX2_init_17 rfl (lv_at hl 0 rfl) ?_
  refine lv_bipush (v := 7) C.1.1 C.1.2.1 dX2_init_18 (by decide) ?_
  refine lv_sipush (v := 401) C.1.1 C.1.2.1 dX2_init_20 (by decide) ?_
  refine mw_size hw (by omega) (fun hs => ?_)
  obtain ⟨F4, eF4, hD⟩ := g_let hD
  obtain ⟨M5, eM5, hD⟩ := g_let hD
  refine mr_mna (n := 7) (k := 401) C hw hs (Ch_T20 hk0) (fun i hi => (Ch_R20 hk0 i hi).2.1) wd_443 (A (.array .int) (by decide)) wd_91 (by decide) (by decide) (by decide) (by decide) (by decide) (by decide) (Nat.le_of_ble_eq_true rfl) (Nat.le_of_ble_eq_true rfl) dX2_init_23 (fun H hw _ => ?_)
  replace hw : mw_W G (mw_ad G) (k + 28) TF F4 M5 L H locs := by rw [eF4, eM5]; exact hw
  refine W.widen (k := 27) (n := 6450) (Nat.le_of_ble_eq_true rfl) (Nat.le_of_ble_eq_true rfl) ?_
  obtain ⟨F6, eF6, hD⟩ := g_let hD
  refine mr_putFR C hw kc_2 1 (by omega) (Ch_T0 hk0) wd_445 dX2_init_27 (by decide) rfl rfl hnm rfl rfl rfl (fun H locs hw => ?_)
  replace hw : mw_W G (mw_ad G) (k + 28) TF F6 M5 L H locs := by rw [eF6]; exact hw
  refine lv_aload_n C.1.1 C.1.2.1 dX2_init_30 rfl (lv_at hl 0 rfl) ?_
  refine lv_iconst (v := 5) C.1.1 C.1.2.1 dX2_init_31 (by decide) ?_
  refine lv_sipush (v := 600) C.1.1 C.1.2.1 dX2_init_32 (by decide) ?_
  refine mw_size hw (by omega) (fun hs => ?_)
  obtain ⟨F7, eF7, hD⟩ := g_let hD
  obtain ⟨M8, eM8, hD⟩ := g_let hD
  refine mr_mna (n := 5) (k := 600) C hw hs (Ch_T28 hk0) (fun i hi => (Ch_R28 hk0 i hi).2.1) wd_443 (A (.array .int) (by decide)) wd_91 (by decide) (by decide) (by decide) (by decide) (by decide) (by decide) (Nat.le_of_ble_eq_true rfl) (Nat.le_of_ble_eq_true rfl) dX2_init_35 (fun H hw _ => ?_)
  replace hw : mw_W G (mw_ad G) (k + 34) TF F7 M8 L H locs := by rw [eF7, eM8]; exact hw
  refine W.widen (k := 33) (n := 9455) (Nat.le_of_ble_eq_true rfl) (Nat.le_of_ble_eq_true rfl) ?_
  obtain ⟨F9, eF9, hD⟩ := g_let hD
  refine mr_putFR C hw kc_2 2 (by omega) (Ch_T0 hk0) wd_446 dX2_init_39 (by decide) rfl rfl hnm rfl rfl rfl (fun H locs hw => ?_)
  replace hw : mw_W G (mw_ad G) (k + 34) TF F9 M8 L H locs := by rw [eF9]; exact hw
  refine lv_aload_n C.1.1 C.1.2.1 dX2_init_42 rfl (lv_at hl 0 rfl) ?_
  refine lv_bipush (v := 32) C.1.1 C.1.2.1 dX2_init_43 (by decide) ?_
  refine mw_size hw (by omega) (fun hs => ?_)
  obtain ⟨L10, eL10, hD⟩ := g_let hD
  refine mr_newL (n := 32) C hw hs (Ch_T34 hk0) wd_509 (by decide) (by decide) (by decide) (Nat.le_of_ble_eq_true rfl) (Nat.le_of_ble_eq_true rfl) dX2_init_45 (fun H hw _ => ?_)
  replace hw : mw_W G (mw_ad G) (k + 35) TF F9 M8 L10 H locs := by rw [eL10]; exact hw
  refine W.widen (k := 34) (n := 9487) (Nat.le_of_ble_eq_true rfl) (Nat.le_of_ble_eq_true rfl) ?_
  obtain ⟨F11, eF11, hD⟩ := g_let hD
  refine mr_putFR C hw kc_2 3 (by omega) (Ch_T0 hk0) wd_447 dX2_init_47 (by decide) rfl rfl hnm rfl rfl rfl (fun H locs hw => ?_)
  replace hw : mw_W G (mw_ad G) (k + 35) TF F11 M8 L10 H locs := by rw [eF11]; exact hw
  refine lv_aload_n C.1.1 C.1.2.1 dX2_init_50 rfl (lv_at hl 0 rfl) ?_
  refine lv_bipush (v := 16) C.1.1 C.1.2.1 dX2_init_51 (by decide) ?_
  refine mw_size hw (by omega) (fun hs => ?_)
  obtain ⟨M12, eM12, hD⟩ := g_let hD
  refine mr_newI (atype := .int) (t := 0) (n := 16) C hw hs (Ch_T35 hk0) (by decide) rfl wd_91 rfl (fun _ => rfl) (by decide) (by decide) (by decide) (Nat.le_of_ble_eq_true rfl) (Nat.le_of_ble_eq_true rfl) dX2_init_53 (fun H hw _ => ?_)
  replace hw : mw_W G (mw_ad G) (k + 36) TF F11 M12 L10 H locs := by rw [eM12]; exact hw
  refine W.widen (k := 35) (n := 9503) (Nat.le_of_ble_eq_true rfl) (Nat.le_of_ble_eq_true rfl) ?_
  obtain ⟨F13, eF13, hD⟩ := g_let hD
  refine mr_putFR C hw kc_2 4 (by omega) (Ch_T0 hk0) wd_452 dX2_init_55 (by decide) rfl rfl hnm rfl rfl rfl (fun H locs hw => ?_)
  replace hw : mw_W G (mw_ad G) (k + 36) TF F13 M12 L10 H locs := by rw [eF13]; exact hw
  refine mw_size hw (by omega) (fun hs => ?_)
  exact mr_cret C hr hlocks hw hs (Option.some.inj hD) dX2_init_58

theorem dX7_init_0 : decode cX7_init 0 = .ok (.aload_n 0, 1) := by decide +kernel
theorem dX7_init_1 : decode cX7_init 1 = .ok (.invokespecial 3, 3) := by decide +kernel
theorem dX7_init_4 : decode cX7_init 4 = .ok (.aload_n 0, 1) := by decide +kernel
theorem dX7_init_5 : decode cX7_init 5 = .ok (.bipush 6, 2) := by decide +kernel
theorem dX7_init_7 : decode cX7_init 7 = .ok (.newarray .int, 2) := by decide +kernel
theorem dX7_init_9 : decode cX7_init 9 = .ok (.putfield 9, 3) := by decide +kernel
theorem dX7_init_12 : decode cX7_init 12 = .ok (.aload_n 0, 1) := by decide +kernel
theorem dX7_init_13 : decode cX7_init 13 = .ok (.bipush 6, 2) := by decide +kernel
theorem dX7_init_15 : decode cX7_init 15 = .ok (.newarray .boolean, 2) := by decide +kernel
theorem dX7_init_17 : decode cX7_init 17 = .ok (.putfield 15, 3) := by decide +kernel
theorem dX7_init_20 : decode cX7_init 20 = .ok (.aload_n 0, 1) := by decide +kernel
theorem dX7_init_21 : decode cX7_init 21 = .ok (.bipush 6, 2) := by decide +kernel
theorem dX7_init_23 : decode cX7_init 23 = .ok (.newarray .boolean, 2) := by decide +kernel
theorem dX7_init_25 : decode cX7_init 25 = .ok (.putfield 19, 3) := by decide +kernel
theorem dX7_init_28 : decode cX7_init 28 = .ok (.aload_n 0, 1) := by decide +kernel
theorem dX7_init_29 : decode cX7_init 29 = .ok (.bipush 6, 2) := by decide +kernel
theorem dX7_init_31 : decode cX7_init 31 = .ok (.newarray .int, 2) := by decide +kernel
theorem dX7_init_33 : decode cX7_init 33 = .ok (.putfield 22, 3) := by decide +kernel
theorem dX7_init_36 : decode cX7_init 36 = .ok (.aload_n 0, 1) := by decide +kernel
theorem dX7_init_37 : decode cX7_init 37 = .ok (.bipush 6, 2) := by decide +kernel
theorem dX7_init_39 : decode cX7_init 39 = .ok (.newarray .int, 2) := by decide +kernel
theorem dX7_init_41 : decode cX7_init 41 = .ok (.putfield 25, 3) := by decide +kernel
theorem dX7_init_44 : decode cX7_init 44 = .ok (.aload_n 0, 1) := by decide +kernel
theorem dX7_init_45 : decode cX7_init 45 = .ok (.iconst 4, 1) := by decide +kernel
theorem dX7_init_46 : decode cX7_init 46 = .ok (.newarray .int, 2) := by decide +kernel
theorem dX7_init_48 : decode cX7_init 48 = .ok (.putfield 28, 3) := by decide +kernel
theorem dX7_init_51 : decode cX7_init 51 = .ok (.aload_n 0, 1) := by decide +kernel
theorem dX7_init_52 : decode cX7_init 52 = .ok (.bipush 20, 2) := by decide +kernel
theorem dX7_init_54 : decode cX7_init 54 = .ok (.newarray .int, 2) := by decide +kernel
theorem dX7_init_56 : decode cX7_init 56 = .ok (.putfield 31, 3) := by decide +kernel
theorem dX7_init_59 : decode cX7_init 59 = .ok (.return_, 1) := by decide +kernel
theorem cwX7_init : mw_cw yX7_init cX7_init 1 none 0 := ⟨wd_11, wd_405, by decide +kernel⟩
noncomputable def DX7_init (fu : Nat) (F : mwF) (M : mwM) (L : mwL) : Option (mwF × mwM × mwL) :=
  mlet (mz 0 M 276) (fun M1 => mlet (mset F 275 0 (some 276)) (fun F2 => mlet (mz 0 M1 277) (fun M3 => mlet (mset F2 275 1 (some 277)) (fun F4 => mlet (mz 0 M3 278) (fun M5 => mlet (mset F4 275 2 (some 278)) (fun F6 => mlet (mz 0 M5 279) (fun M7 => mlet (mset F6 275 3 (some 279)) (fun F8 => mlet (mz 0 M7 280) (fun M9 => mlet (mset F8 275 4 (some 280)) (fun F10 => mlet (mz 0 M9 281) (fun M11 => mlet (mset F10 275 5 (some 281)) (fun F12 => mlet (mz 0 M11 282) (fun M13 => mlet (mset F12 275 6 (some 282)) (fun F14 => some (F14, M13, L)))))))))))))))
set_option maxHeartbeats 4000000 in
theorem kX7_init {fu : Nat} {F : mwF} {M : mwM} {L : mwL} {F9 : mwF} {M9 : mwM} {L9 : mwL} (hD : DX7_init fu F M L = some (F9, M9, L9)) : ∀ a j, (a < 275 ∨ 283 ≤ a) → F9 a j = F a j := by
  intro a j ha
  unfold DX7_init at hD
  obtain ⟨M1, eM1, hD⟩ := g_let hD
  obtain ⟨F2, eF2, hD⟩ := g_let hD
  obtain ⟨M3, eM3, hD⟩ := g_let hD
  obtain ⟨F4, eF4, hD⟩ := g_let hD
  obtain ⟨M5, eM5, hD⟩ := g_let hD
  obtain ⟨F6, eF6, hD⟩ := g_let hD
  obtain ⟨M7, eM7, hD⟩ := g_let hD
  obtain ⟨F8, eF8, hD⟩ := g_let hD
  obtain ⟨M9, eM9, hD⟩ := g_let hD
  obtain ⟨F10, eF10, hD⟩ := g_let hD
  obtain ⟨M11, eM11, hD⟩ := g_let hD
  obtain ⟨F12, eF12, hD⟩ := g_let hD
  obtain ⟨M13, eM13, hD⟩ := g_let hD
  obtain ⟨F14, eF14, hD⟩ := g_let hD
  have hf := congrArg (fun q => q.1) (Option.some.inj hD)
  dsimp only at hf
  rw [← hf]
  rw [eF14, mset_k (by omega)]
  rw [eF12, mset_k (by omega)]
  rw [eF10, mset_k (by omega)]
  rw [eF8, mset_k (by omega)]
  rw [eF6, mset_k (by omega)]
  rw [eF4, mset_k (by omega)]
  rw [eF2, mset_k (by omega)]
set_option maxHeartbeats 4000000 in
set_option maxRecDepth 100000 in
theorem tX7_init (l : Launch) (G : mwG) (fu : Nat) (F : mwF) (M : mwM) (L : mwL) {F9 : mwF} {M9 : mwM} {L9 : mwL} (hD : DX7_init fu F M L = some (F9, M9, L9)) : Met l yX7_init (Cond.code yX7_init cX7_init 1 none :: GT) ({ frames := 1, cells := 7, slots := 54, locals := 20 }) (mw_PreC G 276 F M L [.ref (mw_ad G 275)]) (mw_QC G 283 F9 M9 L9) 7 54 (mw_fr G) := by
  refine mw_enterC (by decide) (Nat.le_of_ble_eq_true rfl) ?_
  intro p e s m below meth c ls C A hr hlocks hnm hw hs0 hl
  have hl : lv_has ls 1 [(0, .ref (mw_ad G 275))] := hl
  unfold DX7_init at hD
  refine lv_aload_n C.1.1 C.1.2.1 dX7_init_0 rfl (lv_at hl 0 rfl) ?_
  refine W.objInit C.1.1 C.1.2.1 C.1.2.2.2.1 (C.1.2.2.2.2 _ wd_406) (C.1.2.2.2.2 _ wd_39) (C.1.2.2.2.2 _ wd_40) rfl (by rw [C.1.2.2.1]; exact hl.1) rfl dX7_init_1 (Nat.le_of_ble_eq_true rfl) (Nat.le_of_ble_eq_true rfl) ?_
  refine W.eq (g2 := F0 m 4 ls []) rfl ?_
  refine lv_aload_n C.1.1 C.1.2.1 dX7_init_4 rfl (lv_at hl 0 rfl) ?_
  refine lv_bipush (v := 6) C.1.1 C.1.2.1 dX7_init_5 (by decide) ?_
  refine mw_size hw (by omega) (fun hs => ?_)
  obtain ⟨M1, eM1, hD⟩ := g_let hD
  refine mr_newI (atype := .int) (t := 0) (n := 6) C hw hs tf_276 (by decide) rfl wd_91 rfl (fun _ => rfl) (by decide) (by decide) (by decide) (Nat.le_of_ble_eq_true rfl) (Nat.le_of_ble_eq_true rfl) dX7_init_7 (fun H hw _ => ?_)
  replace hw : mw_W G (mw_ad G) 277 TF F M1 L H [] := by rw [eM1]; exact hw
  refine W.widen (k := 1) (n := 6) (Nat.le_of_ble_eq_true rfl) (Nat.le_of_ble_eq_true rfl) ?_
  obtain ⟨F2, eF2, hD⟩ := g_let hD
  refine mr_putFR C hw kc_7 0 (by omega) tf_275 wd_407 dX7_init_9 (by decide) rfl rfl hnm rfl rfl rfl (fun H locs hw => ?_)
  replace hw : mw_W G (mw_ad G) 277 TF F2 M1 L H locs := by rw [eF2]; exact hw
  refine lv_aload_n C.1.1 C.1.2.1 dX7_init_12 rfl (lv_at hl 0 rfl) ?_
  refine lv_bipush (v := 6) C.1.1 C.1.2.1 dX7_init_13 (by decide) ?_
  refine mw_size hw (by omega) (fun hs => ?_)
  obtain ⟨M3, eM3, hD⟩ := g_let hD
  refine mr_newI (atype := .boolean) (t := 2) (n := 6) C hw hs tf_277 (by decide) rfl wd_320 rfl (fun _ => rfl) (by decide) (by decide) (by decide) (Nat.le_of_ble_eq_true rfl) (Nat.le_of_ble_eq_true rfl) dX7_init_15 (fun H hw _ => ?_)
  replace hw : mw_W G (mw_ad G) 278 TF F2 M3 L H locs := by rw [eM3]; exact hw
  refine W.widen (k := 2) (n := 12) (Nat.le_of_ble_eq_true rfl) (Nat.le_of_ble_eq_true rfl) ?_
  obtain ⟨F4, eF4, hD⟩ := g_let hD
  refine mr_putFR C hw kc_7 1 (by omega) tf_275 wd_408 dX7_init_17 (by decide) rfl rfl hnm rfl rfl rfl (fun H locs hw => ?_)
  replace hw : mw_W G (mw_ad G) 278 TF F4 M3 L H locs := by rw [eF4]; exact hw
  refine lv_aload_n C.1.1 C.1.2.1 dX7_init_20 rfl (lv_at hl 0 rfl) ?_
  refine lv_bipush (v := 6) C.1.1 C.1.2.1 dX7_init_21 (by decide) ?_
  refine mw_size hw (by omega) (fun hs => ?_)
  obtain ⟨M5, eM5, hD⟩ := g_let hD
  refine mr_newI (atype := .boolean) (t := 2) (n := 6) C hw hs tf_278 (by decide) rfl wd_320 rfl (fun _ => rfl) (by decide) (by decide) (by decide) (Nat.le_of_ble_eq_true rfl) (Nat.le_of_ble_eq_true rfl) dX7_init_23 (fun H hw _ => ?_)
  replace hw : mw_W G (mw_ad G) 279 TF F4 M5 L H locs := by rw [eM5]; exact hw
  refine W.widen (k := 3) (n := 18) (Nat.le_of_ble_eq_true rfl) (Nat.le_of_ble_eq_true rfl) ?_
  obtain ⟨F6, eF6, hD⟩ := g_let hD
  refine mr_putFR C hw kc_7 2 (by omega) tf_275 wd_409 dX7_init_25 (by decide) rfl rfl hnm rfl rfl rfl (fun H locs hw => ?_)
  replace hw : mw_W G (mw_ad G) 279 TF F6 M5 L H locs := by rw [eF6]; exact hw
  refine lv_aload_n C.1.1 C.1.2.1 dX7_init_28 rfl (lv_at hl 0 rfl) ?_
  refine lv_bipush (v := 6) C.1.1 C.1.2.1 dX7_init_29 (by decide) ?_
  refine mw_size hw (by omega) (fun hs => ?_)
  obtain ⟨M7, eM7, hD⟩ := g_let hD
  refine mr_newI (atype := .int) (t := 0) (n := 6) C hw hs tf_279 (by decide) rfl wd_91 rfl (fun _ => rfl) (by decide) (by decide) (by decide) (Nat.le_of_ble_eq_true rfl) (Nat.le_of_ble_eq_true rfl) dX7_init_31 (fun H hw _ => ?_)
  replace hw : mw_W G (mw_ad G) 280 TF F6 M7 L H locs := by rw [eM7]; exact hw
  refine W.widen (k := 4) (n := 24) (Nat.le_of_ble_eq_true rfl) (Nat.le_of_ble_eq_true rfl) ?_
  obtain ⟨F8, eF8, hD⟩ := g_let hD
  refine mr_putFR C hw kc_7 3 (by omega) tf_275 wd_410 dX7_init_33 (by decide) rfl rfl hnm rfl rfl rfl (fun H locs hw => ?_)
  replace hw : mw_W G (mw_ad G) 280 TF F8 M7 L H locs := by rw [eF8]; exact hw
  refine lv_aload_n C.1.1 C.1.2.1 dX7_init_36 rfl (lv_at hl 0 rfl) ?_
  refine lv_bipush (v := 6) C.1.1 C.1.2.1 dX7_init_37 (by decide) ?_
  refine mw_size hw (by omega) (fun hs => ?_)
  obtain ⟨M9, eM9, hD⟩ := g_let hD
  refine mr_newI (atype := .int) (t := 0) (n := 6) C hw hs tf_280 (by decide) rfl wd_91 rfl (fun _ => rfl) (by decide) (by decide) (by decide) (Nat.le_of_ble_eq_true rfl) (Nat.le_of_ble_eq_true rfl) dX7_init_39 (fun H hw _ => ?_)
  replace hw : mw_W G (mw_ad G) 281 TF F8 M9 L H locs := by rw [eM9]; exact hw
  refine W.widen (k := 5) (n := 30) (Nat.le_of_ble_eq_true rfl) (Nat.le_of_ble_eq_true rfl) ?_
  obtain ⟨F10, eF10, hD⟩ := g_let hD
  refine mr_putFR C hw kc_7 4 (by omega) tf_275 wd_411 dX7_init_41 (by decide) rfl rfl hnm rfl rfl rfl (fun H locs hw => ?_)
  replace hw : mw_W G (mw_ad G) 281 TF F10 M9 L H locs := by rw [eF10]; exact hw
  refine lv_aload_n C.1.1 C.1.2.1 dX7_init_44 rfl (lv_at hl 0 rfl) ?_
  refine lv_iconst (v := 4) C.1.1 C.1.2.1 dX7_init_45 (by decide) ?_
  refine mw_size hw (by omega) (fun hs => ?_)
  obtain ⟨M11, eM11, hD⟩ := g_let hD
  refine mr_newI (atype := .int) (t := 0) (n := 4) C hw hs tf_281 (by decide) rfl wd_91 rfl (fun _ => rfl) (by decide) (by decide) (by decide) (Nat.le_of_ble_eq_true rfl) (Nat.le_of_ble_eq_true rfl) dX7_init_46 (fun H hw _ => ?_)
  replace hw : mw_W G (mw_ad G) 282 TF F10 M11 L H locs := by rw [eM11]; exact hw
  refine W.widen (k := 6) (n := 34) (Nat.le_of_ble_eq_true rfl) (Nat.le_of_ble_eq_true rfl) ?_
  obtain ⟨F12, eF12, hD⟩ := g_let hD
  refine mr_putFR C hw kc_7 5 (by omega) tf_275 wd_412 dX7_init_48 (by decide) rfl rfl hnm rfl rfl rfl (fun H locs hw => ?_)
  replace hw : mw_W G (mw_ad G) 282 TF F12 M11 L H locs := by rw [eF12]; exact hw
  refine lv_aload_n C.1.1 C.1.2.1 dX7_init_51 rfl (lv_at hl 0 rfl) ?_
  refine lv_bipush (v := 20) C.1.1 C.1.2.1 dX7_init_52 (by decide) ?_
  refine mw_size hw (by omega) (fun hs => ?_)
  obtain ⟨M13, eM13, hD⟩ := g_let hD
  refine mr_newI (atype := .int) (t := 0) (n := 20) C hw hs tf_282 (by decide) rfl wd_91 rfl (fun _ => rfl) (by decide) (by decide) (by decide) (Nat.le_of_ble_eq_true rfl) (Nat.le_of_ble_eq_true rfl) dX7_init_54 (fun H hw _ => ?_)
  replace hw : mw_W G (mw_ad G) 283 TF F12 M13 L H locs := by rw [eM13]; exact hw
  refine W.widen (k := 7) (n := 54) (Nat.le_of_ble_eq_true rfl) (Nat.le_of_ble_eq_true rfl) ?_
  obtain ⟨F14, eF14, hD⟩ := g_let hD
  refine mr_putFR C hw kc_7 6 (by omega) tf_275 wd_413 dX7_init_56 (by decide) rfl rfl hnm rfl rfl rfl (fun H locs hw => ?_)
  replace hw : mw_W G (mw_ad G) 283 TF F14 M13 L H locs := by rw [eF14]; exact hw
  refine mw_size hw (by omega) (fun hs => ?_)
  exact mr_cret C hr hlocks hw hs (Option.some.inj hD) dX7_init_59

theorem dX9_init_0 : decode cX9_init 0 = .ok (.aload_n 0, 1) := by decide +kernel
theorem dX9_init_1 : decode cX9_init 1 = .ok (.invokespecial 5, 3) := by decide +kernel
theorem dX9_init_4 : decode cX9_init 4 = .ok (.aload_n 0, 1) := by decide +kernel
theorem dX9_init_5 : decode cX9_init 5 = .ok (.iconst 5, 1) := by decide +kernel
theorem dX9_init_6 : decode cX9_init 6 = .ok (.bipush 101, 2) := by decide +kernel
theorem dX9_init_8 : decode cX9_init 8 = .ok (.multianewarray 11 2, 4) := by decide +kernel
theorem dX9_init_12 : decode cX9_init 12 = .ok (.putfield 13, 3) := by decide +kernel
theorem dX9_init_15 : decode cX9_init 15 = .ok (.aload_n 0, 1) := by decide +kernel
theorem dX9_init_16 : decode cX9_init 16 = .ok (.bipush 101, 2) := by decide +kernel
theorem dX9_init_18 : decode cX9_init 18 = .ok (.bipush 100, 2) := by decide +kernel
theorem dX9_init_20 : decode cX9_init 20 = .ok (.multianewarray 11 2, 4) := by decide +kernel
theorem dX9_init_24 : decode cX9_init 24 = .ok (.putfield 16, 3) := by decide +kernel
theorem dX9_init_27 : decode cX9_init 27 = .ok (.aload_n 0, 1) := by decide +kernel
theorem dX9_init_28 : decode cX9_init 28 = .ok (.iconst 5, 1) := by decide +kernel
theorem dX9_init_29 : decode cX9_init 29 = .ok (.iconst 4, 1) := by decide +kernel
theorem dX9_init_30 : decode cX9_init 30 = .ok (.multianewarray 11 2, 4) := by decide +kernel
theorem dX9_init_34 : decode cX9_init 34 = .ok (.putfield 19, 3) := by decide +kernel
theorem dX9_init_37 : decode cX9_init 37 = .ok (.aload_n 0, 1) := by decide +kernel
theorem dX9_init_38 : decode cX9_init 38 = .ok (.iconst 4, 1) := by decide +kernel
theorem dX9_init_39 : decode cX9_init 39 = .ok (.sipush 1600, 3) := by decide +kernel
theorem dX9_init_42 : decode cX9_init 42 = .ok (.multianewarray 11 2, 4) := by decide +kernel
theorem dX9_init_46 : decode cX9_init 46 = .ok (.putfield 22, 3) := by decide +kernel
theorem dX9_init_49 : decode cX9_init 49 = .ok (.aload_n 0, 1) := by decide +kernel
theorem dX9_init_50 : decode cX9_init 50 = .ok (.bipush 8, 2) := by decide +kernel
theorem dX9_init_52 : decode cX9_init 52 = .ok (.newarray .int, 2) := by decide +kernel
theorem dX9_init_54 : decode cX9_init 54 = .ok (.putfield 25, 3) := by decide +kernel
theorem dX9_init_57 : decode cX9_init 57 = .ok (.return_, 1) := by decide +kernel
theorem cwX9_init : mw_cw yX9_init cX9_init 1 none 0 := ⟨wd_10, wd_355, by decide +kernel⟩
noncomputable def DX9_init (fu : Nat) (F : mwF) (M : mwM) (L : mwL) : Option (mwF × mwM × mwL) :=
  mlet (mrow F 155 5) (fun F1 => mlet (mzr M 155 5) (fun M2 => mlet (mset F1 154 0 (some 155)) (fun F3 => mlet (mrow F3 161 101) (fun F4 => mlet (mzr M2 161 101) (fun M5 => mlet (mset F4 154 1 (some 161)) (fun F6 => mlet (mrow F6 263 5) (fun F7 => mlet (mzr M5 263 5) (fun M8 => mlet (mset F7 154 2 (some 263)) (fun F9 => mlet (mrow F9 269 4) (fun F10 => mlet (mzr M8 269 4) (fun M11 => mlet (mset F10 154 3 (some 269)) (fun F12 => mlet (mz 0 M11 274) (fun M13 => mlet (mset F12 154 4 (some 274)) (fun F14 => some (F14, M13, L)))))))))))))))
set_option maxHeartbeats 4000000 in
theorem kX9_init {fu : Nat} {F : mwF} {M : mwM} {L : mwL} {F9 : mwF} {M9 : mwM} {L9 : mwL} (hD : DX9_init fu F M L = some (F9, M9, L9)) : ∀ a j, (a < 154 ∨ 275 ≤ a) → F9 a j = F a j := by
  intro a j ha
  unfold DX9_init at hD
  obtain ⟨F1, eF1, hD⟩ := g_let hD
  obtain ⟨M2, eM2, hD⟩ := g_let hD
  obtain ⟨F3, eF3, hD⟩ := g_let hD
  obtain ⟨F4, eF4, hD⟩ := g_let hD
  obtain ⟨M5, eM5, hD⟩ := g_let hD
  obtain ⟨F6, eF6, hD⟩ := g_let hD
  obtain ⟨F7, eF7, hD⟩ := g_let hD
  obtain ⟨M8, eM8, hD⟩ := g_let hD
  obtain ⟨F9, eF9, hD⟩ := g_let hD
  obtain ⟨F10, eF10, hD⟩ := g_let hD
  obtain ⟨M11, eM11, hD⟩ := g_let hD
  obtain ⟨F12, eF12, hD⟩ := g_let hD
  obtain ⟨M13, eM13, hD⟩ := g_let hD
  obtain ⟨F14, eF14, hD⟩ := g_let hD
  have hf := congrArg (fun q => q.1) (Option.some.inj hD)
  dsimp only at hf
  rw [← hf]
  rw [eF14, mset_k (by omega)]
  rw [eF12, mset_k (by omega)]
  rw [eF10, mrow_n (by omega)]
  rw [eF9, mset_k (by omega)]
  rw [eF7, mrow_n (by omega)]
  rw [eF6, mset_k (by omega)]
  rw [eF4, mrow_n (by omega)]
  rw [eF3, mset_k (by omega)]
  rw [eF1, mrow_n (by omega)]
set_option maxHeartbeats 4000000 in
set_option maxRecDepth 100000 in
theorem tX9_init (l : Launch) (G : mwG) (fu : Nat) (F : mwF) (M : mwM) (L : mwL) {F9 : mwF} {M9 : mwM} {L9 : mwL} (hD : DX9_init fu F M L = some (F9, M9, L9)) : Met l yX9_init (Cond.code yX9_init cX9_init 1 none :: GT) ({ frames := 1, cells := 120, slots := 17148, locals := 20 }) (mw_PreC G 155 F M L [.ref (mw_ad G 154)]) (mw_QC G 275 F9 M9 L9) 120 17148 (mw_fr G) := by
  refine mw_enterC (by decide) (Nat.le_of_ble_eq_true rfl) ?_
  intro p e s m below meth c ls C A hr hlocks hnm hw hs0 hl
  have hl : lv_has ls 1 [(0, .ref (mw_ad G 154))] := hl
  unfold DX9_init at hD
  refine lv_aload_n C.1.1 C.1.2.1 dX9_init_0 rfl (lv_at hl 0 rfl) ?_
  refine W.objInit C.1.1 C.1.2.1 C.1.2.2.2.1 (C.1.2.2.2.2 _ wd_356) (C.1.2.2.2.2 _ wd_39) (C.1.2.2.2.2 _ wd_40) rfl (by rw [C.1.2.2.1]; exact hl.1) rfl dX9_init_1 (Nat.le_of_ble_eq_true rfl) (Nat.le_of_ble_eq_true rfl) ?_
  refine W.eq (g2 := F0 m 4 ls []) rfl ?_
  refine lv_aload_n C.1.1 C.1.2.1 dX9_init_4 rfl (lv_at hl 0 rfl) ?_
  refine lv_iconst (v := 5) C.1.1 C.1.2.1 dX9_init_5 (by decide) ?_
  refine lv_bipush (v := 101) C.1.1 C.1.2.1 dX9_init_6 (by decide) ?_
  refine mw_size hw (by omega) (fun hs => ?_)
  obtain ⟨F1, eF1, hD⟩ := g_let hD
  obtain ⟨M2, eM2, hD⟩ := g_let hD
  refine mr_mna (n := 5) (k := 101) C hw hs tf_155 (fun i hi => (fr_155 i hi).2.1) wd_357 (A (.array .int) (by decide)) wd_91 (by decide) (by decide) (by decide) (by decide) (by decide) (by decide) (Nat.le_of_ble_eq_true rfl) (Nat.le_of_ble_eq_true rfl) dX9_init_8 (fun H hw _ => ?_)
  replace hw : mw_W G (mw_ad G) 161 TF F1 M2 L H [] := by rw [eF1, eM2]; exact hw
  refine W.widen (k := 6) (n := 510) (Nat.le_of_ble_eq_true rfl) (Nat.le_of_ble_eq_true rfl) ?_
  obtain ⟨F3, eF3, hD⟩ := g_let hD
  refine mr_putFR C hw kc_9 0 (by omega) tf_154 wd_358 dX9_init_12 (by decide) rfl rfl hnm rfl rfl rfl (fun H locs hw => ?_)
  replace hw : mw_W G (mw_ad G) 161 TF F3 M2 L H locs := by rw [eF3]; exact hw
  refine lv_aload_n C.1.1 C.1.2.1 dX9_init_15 rfl (lv_at hl 0 rfl) ?_
  refine lv_bipush (v := 101) C.1.1 C.1.2.1 dX9_init_16 (by decide) ?_
  refine lv_bipush (v := 100) C.1.1 C.1.2.1 dX9_init_18 (by decide) ?_
  refine mw_size hw (by omega) (fun hs => ?_)
  obtain ⟨F4, eF4, hD⟩ := g_let hD
  obtain ⟨M5, eM5, hD⟩ := g_let hD
  refine mr_mna (n := 101) (k := 100) C hw hs tf_161 (fun i hi => (fr_161 i hi).2.1) wd_357 (A (.array .int) (by decide)) wd_91 (by decide) (by decide) (by decide) (by decide) (by decide) (by decide) (Nat.le_of_ble_eq_true rfl) (Nat.le_of_ble_eq_true rfl) dX9_init_20 (fun H hw _ => ?_)
  replace hw : mw_W G (mw_ad G) 263 TF F4 M5 L H locs := by rw [eF4, eM5]; exact hw
  refine W.widen (k := 108) (n := 10711) (Nat.le_of_ble_eq_true rfl) (Nat.le_of_ble_eq_true rfl) ?_
  obtain ⟨F6, eF6, hD⟩ := g_let hD
  refine mr_putFR C hw kc_9 1 (by omega) tf_154 wd_361 dX9_init_24 (by decide) rfl rfl hnm rfl rfl rfl (fun H locs hw => ?_)
  replace hw : mw_W G (mw_ad G) 263 TF F6 M5 L H locs := by rw [eF6]; exact hw
  refine lv_aload_n C.1.1 C.1.2.1 dX9_init_27 rfl (lv_at hl 0 rfl) ?_
  refine lv_iconst (v := 5) C.1.1 C.1.2.1 dX9_init_28 (by decide) ?_
  refine lv_iconst (v := 4) C.1.1 C.1.2.1 dX9_init_29 (by decide) ?_
  refine mw_size hw (by omega) (fun hs => ?_)
  obtain ⟨F7, eF7, hD⟩ := g_let hD
  obtain ⟨M8, eM8, hD⟩ := g_let hD
  refine mr_mna (n := 5) (k := 4) C hw hs tf_263 (fun i hi => (fr_263 i hi).2.1) wd_357 (A (.array .int) (by decide)) wd_91 (by decide) (by decide) (by decide) (by decide) (by decide) (by decide) (Nat.le_of_ble_eq_true rfl) (Nat.le_of_ble_eq_true rfl) dX9_init_30 (fun H hw _ => ?_)
  replace hw : mw_W G (mw_ad G) 269 TF F7 M8 L H locs := by rw [eF7, eM8]; exact hw
  refine W.widen (k := 114) (n := 10736) (Nat.le_of_ble_eq_true rfl) (Nat.le_of_ble_eq_true rfl) ?_
  obtain ⟨F9, eF9, hD⟩ := g_let hD
  refine mr_putFR C hw kc_9 2 (by omega) tf_154 wd_364 dX9_init_34 (by decide) rfl rfl hnm rfl rfl rfl (fun H locs hw => ?_)
  replace hw : mw_W G (mw_ad G) 269 TF F9 M8 L H locs := by rw [eF9]; exact hw
  refine lv_aload_n C.1.1 C.1.2.1 dX9_init_37 rfl (lv_at hl 0 rfl) ?_
  refine lv_iconst (v := 4) C.1.1 C.1.2.1 dX9_init_38 (by decide) ?_
  refine lv_sipush (v := 1600) C.1.1 C.1.2.1 dX9_init_39 (by decide) ?_
  refine mw_size hw (by omega) (fun hs => ?_)
  obtain ⟨F10, eF10, hD⟩ := g_let hD
  obtain ⟨M11, eM11, hD⟩ := g_let hD
  refine mr_mna (n := 4) (k := 1600) C hw hs tf_269 (fun i hi => (fr_269 i hi).2.1) wd_357 (A (.array .int) (by decide)) wd_91 (by decide) (by decide) (by decide) (by decide) (by decide) (by decide) (Nat.le_of_ble_eq_true rfl) (Nat.le_of_ble_eq_true rfl) dX9_init_42 (fun H hw _ => ?_)
  replace hw : mw_W G (mw_ad G) 274 TF F10 M11 L H locs := by rw [eF10, eM11]; exact hw
  refine W.widen (k := 119) (n := 17140) (Nat.le_of_ble_eq_true rfl) (Nat.le_of_ble_eq_true rfl) ?_
  obtain ⟨F12, eF12, hD⟩ := g_let hD
  refine mr_putFR C hw kc_9 3 (by omega) tf_154 wd_365 dX9_init_46 (by decide) rfl rfl hnm rfl rfl rfl (fun H locs hw => ?_)
  replace hw : mw_W G (mw_ad G) 274 TF F12 M11 L H locs := by rw [eF12]; exact hw
  refine lv_aload_n C.1.1 C.1.2.1 dX9_init_49 rfl (lv_at hl 0 rfl) ?_
  refine lv_bipush (v := 8) C.1.1 C.1.2.1 dX9_init_50 (by decide) ?_
  refine mw_size hw (by omega) (fun hs => ?_)
  obtain ⟨M13, eM13, hD⟩ := g_let hD
  refine mr_newI (atype := .int) (t := 0) (n := 8) C hw hs tf_274 (by decide) rfl wd_91 rfl (fun _ => rfl) (by decide) (by decide) (by decide) (Nat.le_of_ble_eq_true rfl) (Nat.le_of_ble_eq_true rfl) dX9_init_52 (fun H hw _ => ?_)
  replace hw : mw_W G (mw_ad G) 275 TF F12 M13 L H locs := by rw [eM13]; exact hw
  refine W.widen (k := 120) (n := 17148) (Nat.le_of_ble_eq_true rfl) (Nat.le_of_ble_eq_true rfl) ?_
  obtain ⟨F14, eF14, hD⟩ := g_let hD
  refine mr_putFR C hw kc_9 4 (by omega) tf_154 wd_366 dX9_init_54 (by decide) rfl rfl hnm rfl rfl rfl (fun H locs hw => ?_)
  replace hw : mw_W G (mw_ad G) 275 TF F14 M13 L H locs := by rw [eF14]; exact hw
  refine mw_size hw (by omega) (fun hs => ?_)
  exact mr_cret C hr hlocks hw hs (Option.some.inj hD) dX9_init_57

theorem dX10_init_0 : decode cX10_init 0 = .ok (.aload_n 0, 1) := by decide +kernel
theorem dX10_init_1 : decode cX10_init 1 = .ok (.invokespecial 3, 3) := by decide +kernel
theorem dX10_init_4 : decode cX10_init 4 = .ok (.aload_n 0, 1) := by decide +kernel
theorem dX10_init_5 : decode cX10_init 5 = .ok (.bipush 12, 2) := by decide +kernel
theorem dX10_init_7 : decode cX10_init 7 = .ok (.bipush 30, 2) := by decide +kernel
theorem dX10_init_9 : decode cX10_init 9 = .ok (.multianewarray 9 2, 4) := by decide +kernel
theorem dX10_init_13 : decode cX10_init 13 = .ok (.putfield 11, 3) := by decide +kernel
theorem dX10_init_16 : decode cX10_init 16 = .ok (.aload_n 0, 1) := by decide +kernel
theorem dX10_init_17 : decode cX10_init 17 = .ok (.bipush 8, 2) := by decide +kernel
theorem dX10_init_19 : decode cX10_init 19 = .ok (.newarray .int, 2) := by decide +kernel
theorem dX10_init_21 : decode cX10_init 21 = .ok (.putfield 16, 3) := by decide +kernel
theorem dX10_init_24 : decode cX10_init 24 = .ok (.return_, 1) := by decide +kernel
theorem cwX10_init : mw_cw yX10_init cX10_init 1 none 0 := ⟨wd_9, wd_325, by decide +kernel⟩
noncomputable def DX10_init (fu : Nat) (F : mwF) (M : mwM) (L : mwL) : Option (mwF × mwM × mwL) :=
  mlet (mrow F 140 12) (fun F1 => mlet (mzr M 140 12) (fun M2 => mlet (mset F1 139 0 (some 140)) (fun F3 => mlet (mz 0 M2 153) (fun M4 => mlet (mset F3 139 1 (some 153)) (fun F5 => some (F5, M4, L))))))
set_option maxHeartbeats 4000000 in
theorem kX10_init {fu : Nat} {F : mwF} {M : mwM} {L : mwL} {F9 : mwF} {M9 : mwM} {L9 : mwL} (hD : DX10_init fu F M L = some (F9, M9, L9)) : ∀ a j, (a < 139 ∨ 154 ≤ a) → F9 a j = F a j := by
  intro a j ha
  unfold DX10_init at hD
  obtain ⟨F1, eF1, hD⟩ := g_let hD
  obtain ⟨M2, eM2, hD⟩ := g_let hD
  obtain ⟨F3, eF3, hD⟩ := g_let hD
  obtain ⟨M4, eM4, hD⟩ := g_let hD
  obtain ⟨F5, eF5, hD⟩ := g_let hD
  have hf := congrArg (fun q => q.1) (Option.some.inj hD)
  dsimp only at hf
  rw [← hf]
  rw [eF5, mset_k (by omega)]
  rw [eF3, mset_k (by omega)]
  rw [eF1, mrow_n (by omega)]
set_option maxHeartbeats 4000000 in
set_option maxRecDepth 100000 in
theorem tX10_init (l : Launch) (G : mwG) (fu : Nat) (F : mwF) (M : mwM) (L : mwL) {F9 : mwF} {M9 : mwM} {L9 : mwL} (hD : DX10_init fu F M L = some (F9, M9, L9)) : Met l yX10_init (Cond.code yX10_init cX10_init 1 none :: GT) ({ frames := 1, cells := 14, slots := 380, locals := 20 }) (mw_PreC G 140 F M L [.ref (mw_ad G 139)]) (mw_QC G 154 F9 M9 L9) 14 380 (mw_fr G) := by
  refine mw_enterC (by decide) (Nat.le_of_ble_eq_true rfl) ?_
  intro p e s m below meth c ls C A hr hlocks hnm hw hs0 hl
  have hl : lv_has ls 1 [(0, .ref (mw_ad G 139))] := hl
  unfold DX10_init at hD
  refine lv_aload_n C.1.1 C.1.2.1 dX10_init_0 rfl (lv_at hl 0 rfl) ?_
  refine W.objInit C.1.1 C.1.2.1 C.1.2.2.2.1 (C.1.2.2.2.2 _ wd_326) (C.1.2.2.2.2 _ wd_39) (C.1.2.2.2.2 _ wd_40) rfl (by rw [C.1.2.2.1]; exact hl.1) rfl dX10_init_1 (Nat.le_of_ble_eq_true rfl) (Nat.le_of_ble_eq_true rfl) ?_
  refine W.eq (g2 := F0 m 4 ls []) rfl ?_
  refine lv_aload_n C.1.1 C.1.2.1 dX10_init_4 rfl (lv_at hl 0 rfl) ?_
  refine lv_bipush (v := 12) C.1.1 C.1.2.1 dX10_init_5 (by decide) ?_
  refine lv_bipush (v := 30) C.1.1 C.1.2.1 dX10_init_7 (by decide) ?_
  refine mw_size hw (by omega) (fun hs => ?_)
  obtain ⟨F1, eF1, hD⟩ := g_let hD
  obtain ⟨M2, eM2, hD⟩ := g_let hD
  refine mr_mna (n := 12) (k := 30) C hw hs tf_140 (fun i hi => (fr_140 i hi).2.1) wd_327 (A (.array .int) (by decide)) wd_91 (by decide) (by decide) (by decide) (by decide) (by decide) (by decide) (Nat.le_of_ble_eq_true rfl) (Nat.le_of_ble_eq_true rfl) dX10_init_9 (fun H hw _ => ?_)
  replace hw : mw_W G (mw_ad G) 153 TF F1 M2 L H [] := by rw [eF1, eM2]; exact hw
  refine W.widen (k := 13) (n := 372) (Nat.le_of_ble_eq_true rfl) (Nat.le_of_ble_eq_true rfl) ?_
  obtain ⟨F3, eF3, hD⟩ := g_let hD
  refine mr_putFR C hw kc_10 0 (by omega) tf_139 wd_328 dX10_init_13 (by decide) rfl rfl hnm rfl rfl rfl (fun H locs hw => ?_)
  replace hw : mw_W G (mw_ad G) 153 TF F3 M2 L H locs := by rw [eF3]; exact hw
  refine lv_aload_n C.1.1 C.1.2.1 dX10_init_16 rfl (lv_at hl 0 rfl) ?_
  refine lv_bipush (v := 8) C.1.1 C.1.2.1 dX10_init_17 (by decide) ?_
  refine mw_size hw (by omega) (fun hs => ?_)
  obtain ⟨M4, eM4, hD⟩ := g_let hD
  refine mr_newI (atype := .int) (t := 0) (n := 8) C hw hs tf_153 (by decide) rfl wd_91 rfl (fun _ => rfl) (by decide) (by decide) (by decide) (Nat.le_of_ble_eq_true rfl) (Nat.le_of_ble_eq_true rfl) dX10_init_19 (fun H hw _ => ?_)
  replace hw : mw_W G (mw_ad G) 154 TF F3 M4 L H locs := by rw [eM4]; exact hw
  refine W.widen (k := 14) (n := 380) (Nat.le_of_ble_eq_true rfl) (Nat.le_of_ble_eq_true rfl) ?_
  obtain ⟨F5, eF5, hD⟩ := g_let hD
  refine mr_putFR C hw kc_10 1 (by omega) tf_139 wd_329 dX10_init_21 (by decide) rfl rfl hnm rfl rfl rfl (fun H locs hw => ?_)
  replace hw : mw_W G (mw_ad G) 154 TF F5 M4 L H locs := by rw [eF5]; exact hw
  refine mw_size hw (by omega) (fun hs => ?_)
  exact mr_cret C hr hlocks hw hs (Option.some.inj hD) dX10_init_24

theorem dX12_init_0 : decode cX12_init 0 = .ok (.aload_n 0, 1) := by decide +kernel
theorem dX12_init_1 : decode cX12_init 1 = .ok (.invokespecial 1, 3) := by decide +kernel
theorem dX12_init_4 : decode cX12_init 4 = .ok (.aload_n 0, 1) := by decide +kernel
theorem dX12_init_5 : decode cX12_init 5 = .ok (.iconst 2, 1) := by decide +kernel
theorem dX12_init_6 : decode cX12_init 6 = .ok (.putfield 7, 3) := by decide +kernel
theorem dX12_init_9 : decode cX12_init 9 = .ok (.aload_n 0, 1) := by decide +kernel
theorem dX12_init_10 : decode cX12_init 10 = .ok (.sipush 20000, 3) := by decide +kernel
theorem dX12_init_13 : decode cX12_init 13 = .ok (.newarray .byte, 2) := by decide +kernel
theorem dX12_init_15 : decode cX12_init 15 = .ok (.putfield 13, 3) := by decide +kernel
theorem dX12_init_18 : decode cX12_init 18 = .ok (.aload_n 0, 1) := by decide +kernel
theorem dX12_init_19 : decode cX12_init 19 = .ok (.sipush 200, 3) := by decide +kernel
theorem dX12_init_22 : decode cX12_init 22 = .ok (.newarray .int, 2) := by decide +kernel
theorem dX12_init_24 : decode cX12_init 24 = .ok (.putfield 17, 3) := by decide +kernel
theorem dX12_init_27 : decode cX12_init 27 = .ok (.aload_n 0, 1) := by decide +kernel
theorem dX12_init_28 : decode cX12_init 28 = .ok (.sipush 200, 3) := by decide +kernel
theorem dX12_init_31 : decode cX12_init 31 = .ok (.newarray .int, 2) := by decide +kernel
theorem dX12_init_33 : decode cX12_init 33 = .ok (.putfield 21, 3) := by decide +kernel
theorem dX12_init_36 : decode cX12_init 36 = .ok (.aload_n 0, 1) := by decide +kernel
theorem dX12_init_37 : decode cX12_init 37 = .ok (.sipush 200, 3) := by decide +kernel
theorem dX12_init_40 : decode cX12_init 40 = .ok (.newarray .int, 2) := by decide +kernel
theorem dX12_init_42 : decode cX12_init 42 = .ok (.putfield 24, 3) := by decide +kernel
theorem dX12_init_45 : decode cX12_init 45 = .ok (.aload_n 0, 1) := by decide +kernel
theorem dX12_init_46 : decode cX12_init 46 = .ok (.sipush 200, 3) := by decide +kernel
theorem dX12_init_49 : decode cX12_init 49 = .ok (.newarray .int, 2) := by decide +kernel
theorem dX12_init_51 : decode cX12_init 51 = .ok (.putfield 27, 3) := by decide +kernel
theorem dX12_init_54 : decode cX12_init 54 = .ok (.aload_n 0, 1) := by decide +kernel
theorem dX12_init_55 : decode cX12_init 55 = .ok (.sipush 12800, 3) := by decide +kernel
theorem dX12_init_58 : decode cX12_init 58 = .ok (.newarray .int, 2) := by decide +kernel
theorem dX12_init_60 : decode cX12_init 60 = .ok (.putfield 30, 3) := by decide +kernel
theorem dX12_init_63 : decode cX12_init 63 = .ok (.aload_n 0, 1) := by decide +kernel
theorem dX12_init_64 : decode cX12_init 64 = .ok (.sipush 200, 3) := by decide +kernel
theorem dX12_init_67 : decode cX12_init 67 = .ok (.newarray .boolean, 2) := by decide +kernel
theorem dX12_init_69 : decode cX12_init 69 = .ok (.putfield 33, 3) := by decide +kernel
theorem dX12_init_72 : decode cX12_init 72 = .ok (.aload_n 0, 1) := by decide +kernel
theorem dX12_init_73 : decode cX12_init 73 = .ok (.sipush 200, 3) := by decide +kernel
theorem dX12_init_76 : decode cX12_init 76 = .ok (.newarray .int, 2) := by decide +kernel
theorem dX12_init_78 : decode cX12_init 78 = .ok (.putfield 37, 3) := by decide +kernel
theorem dX12_init_81 : decode cX12_init 81 = .ok (.aload_n 0, 1) := by decide +kernel
theorem dX12_init_82 : decode cX12_init 82 = .ok (.sipush 200, 3) := by decide +kernel
theorem dX12_init_85 : decode cX12_init 85 = .ok (.newarray .int, 2) := by decide +kernel
theorem dX12_init_87 : decode cX12_init 87 = .ok (.putfield 40, 3) := by decide +kernel
theorem dX12_init_90 : decode cX12_init 90 = .ok (.aload_n 0, 1) := by decide +kernel
theorem dX12_init_91 : decode cX12_init 91 = .ok (.bipush 32, 2) := by decide +kernel
theorem dX12_init_93 : decode cX12_init 93 = .ok (.newarray .int, 2) := by decide +kernel
theorem dX12_init_95 : decode cX12_init 95 = .ok (.putfield 43, 3) := by decide +kernel
theorem dX12_init_98 : decode cX12_init 98 = .ok (.aload_n 0, 1) := by decide +kernel
theorem dX12_init_99 : decode cX12_init 99 = .ok (.bipush 32, 2) := by decide +kernel
theorem dX12_init_101 : decode cX12_init 101 = .ok (.newarray .int, 2) := by decide +kernel
theorem dX12_init_103 : decode cX12_init 103 = .ok (.putfield 46, 3) := by decide +kernel
theorem dX12_init_106 : decode cX12_init 106 = .ok (.aload_n 0, 1) := by decide +kernel
theorem dX12_init_107 : decode cX12_init 107 = .ok (.bipush 32, 2) := by decide +kernel
theorem dX12_init_109 : decode cX12_init 109 = .ok (.newarray .int, 2) := by decide +kernel
theorem dX12_init_111 : decode cX12_init 111 = .ok (.putfield 49, 3) := by decide +kernel
theorem dX12_init_114 : decode cX12_init 114 = .ok (.aload_n 0, 1) := by decide +kernel
theorem dX12_init_115 : decode cX12_init 115 = .ok (.bipush 32, 2) := by decide +kernel
theorem dX12_init_117 : decode cX12_init 117 = .ok (.newarray .int, 2) := by decide +kernel
theorem dX12_init_119 : decode cX12_init 119 = .ok (.putfield 52, 3) := by decide +kernel
theorem dX12_init_122 : decode cX12_init 122 = .ok (.aload_n 0, 1) := by decide +kernel
theorem dX12_init_123 : decode cX12_init 123 = .ok (.bipush 32, 2) := by decide +kernel
theorem dX12_init_125 : decode cX12_init 125 = .ok (.newarray .int, 2) := by decide +kernel
theorem dX12_init_127 : decode cX12_init 127 = .ok (.putfield 55, 3) := by decide +kernel
theorem dX12_init_130 : decode cX12_init 130 = .ok (.aload_n 0, 1) := by decide +kernel
theorem dX12_init_131 : decode cX12_init 131 = .ok (.bipush 32, 2) := by decide +kernel
theorem dX12_init_133 : decode cX12_init 133 = .ok (.newarray .int, 2) := by decide +kernel
theorem dX12_init_135 : decode cX12_init 135 = .ok (.putfield 58, 3) := by decide +kernel
theorem dX12_init_138 : decode cX12_init 138 = .ok (.aload_n 0, 1) := by decide +kernel
theorem dX12_init_139 : decode cX12_init 139 = .ok (.sipush 8400, 3) := by decide +kernel
theorem dX12_init_142 : decode cX12_init 142 = .ok (.newarray .byte, 2) := by decide +kernel
theorem dX12_init_144 : decode cX12_init 144 = .ok (.putfield 61, 3) := by decide +kernel
theorem dX12_init_147 : decode cX12_init 147 = .ok (.aload_n 0, 1) := by decide +kernel
theorem dX12_init_148 : decode cX12_init 148 = .ok (.ldc 64, 2) := by decide +kernel
theorem dX12_init_150 : decode cX12_init 150 = .ok (.newarray .boolean, 2) := by decide +kernel
theorem dX12_init_152 : decode cX12_init 152 = .ok (.putfield 65, 3) := by decide +kernel
theorem dX12_init_155 : decode cX12_init 155 = .ok (.aload_n 0, 1) := by decide +kernel
theorem dX12_init_156 : decode cX12_init 156 = .ok (.sipush 4000, 3) := by decide +kernel
theorem dX12_init_159 : decode cX12_init 159 = .ok (.newarray .int, 2) := by decide +kernel
theorem dX12_init_161 : decode cX12_init 161 = .ok (.putfield 68, 3) := by decide +kernel
theorem dX12_init_164 : decode cX12_init 164 = .ok (.aload_n 0, 1) := by decide +kernel
theorem dX12_init_165 : decode cX12_init 165 = .ok (.sipush 4000, 3) := by decide +kernel
theorem dX12_init_168 : decode cX12_init 168 = .ok (.newarray .int, 2) := by decide +kernel
theorem dX12_init_170 : decode cX12_init 170 = .ok (.putfield 71, 3) := by decide +kernel
theorem dX12_init_173 : decode cX12_init 173 = .ok (.aload_n 0, 1) := by decide +kernel
theorem dX12_init_174 : decode cX12_init 174 = .ok (.sipush 4000, 3) := by decide +kernel
theorem dX12_init_177 : decode cX12_init 177 = .ok (.newarray .byte, 2) := by decide +kernel
theorem dX12_init_179 : decode cX12_init 179 = .ok (.putfield 74, 3) := by decide +kernel
theorem dX12_init_182 : decode cX12_init 182 = .ok (.aload_n 0, 1) := by decide +kernel
theorem dX12_init_183 : decode cX12_init 183 = .ok (.sipush 4000, 3) := by decide +kernel
theorem dX12_init_186 : decode cX12_init 186 = .ok (.newarray .byte, 2) := by decide +kernel
theorem dX12_init_188 : decode cX12_init 188 = .ok (.putfield 77, 3) := by decide +kernel
theorem dX12_init_191 : decode cX12_init 191 = .ok (.aload_n 0, 1) := by decide +kernel
theorem dX12_init_192 : decode cX12_init 192 = .ok (.sipush 4000, 3) := by decide +kernel
theorem dX12_init_195 : decode cX12_init 195 = .ok (.newarray .int, 2) := by decide +kernel
theorem dX12_init_197 : decode cX12_init 197 = .ok (.putfield 80, 3) := by decide +kernel
theorem dX12_init_200 : decode cX12_init 200 = .ok (.aload_n 0, 1) := by decide +kernel
theorem dX12_init_201 : decode cX12_init 201 = .ok (.ldc 83, 2) := by decide +kernel
theorem dX12_init_203 : decode cX12_init 203 = .ok (.newarray .byte, 2) := by decide +kernel
theorem dX12_init_205 : decode cX12_init 205 = .ok (.putfield 84, 3) := by decide +kernel
theorem dX12_init_208 : decode cX12_init 208 = .ok (.aload_n 0, 1) := by decide +kernel
theorem dX12_init_209 : decode cX12_init 209 = .ok (.sipush 17600, 3) := by decide +kernel
theorem dX12_init_212 : decode cX12_init 212 = .ok (.newarray .byte, 2) := by decide +kernel
theorem dX12_init_214 : decode cX12_init 214 = .ok (.putfield 87, 3) := by decide +kernel
theorem dX12_init_217 : decode cX12_init 217 = .ok (.aload_n 0, 1) := by decide +kernel
theorem dX12_init_218 : decode cX12_init 218 = .ok (.sipush 17600, 3) := by decide +kernel
theorem dX12_init_221 : decode cX12_init 221 = .ok (.newarray .byte, 2) := by decide +kernel
theorem dX12_init_223 : decode cX12_init 223 = .ok (.putfield 90, 3) := by decide +kernel
theorem dX12_init_226 : decode cX12_init 226 = .ok (.aload_n 0, 1) := by decide +kernel
theorem dX12_init_227 : decode cX12_init 227 = .ok (.sipush 17600, 3) := by decide +kernel
theorem dX12_init_230 : decode cX12_init 230 = .ok (.newarray .int, 2) := by decide +kernel
theorem dX12_init_232 : decode cX12_init 232 = .ok (.putfield 93, 3) := by decide +kernel
theorem dX12_init_235 : decode cX12_init 235 = .ok (.aload_n 0, 1) := by decide +kernel
theorem dX12_init_236 : decode cX12_init 236 = .ok (.sipush 700, 3) := by decide +kernel
theorem dX12_init_239 : decode cX12_init 239 = .ok (.newarray .byte, 2) := by decide +kernel
theorem dX12_init_241 : decode cX12_init 241 = .ok (.putfield 96, 3) := by decide +kernel
theorem dX12_init_244 : decode cX12_init 244 = .ok (.aload_n 0, 1) := by decide +kernel
theorem dX12_init_245 : decode cX12_init 245 = .ok (.sipush 1200, 3) := by decide +kernel
theorem dX12_init_248 : decode cX12_init 248 = .ok (.newarray .byte, 2) := by decide +kernel
theorem dX12_init_250 : decode cX12_init 250 = .ok (.putfield 99, 3) := by decide +kernel
theorem dX12_init_253 : decode cX12_init 253 = .ok (.aload_n 0, 1) := by decide +kernel
theorem dX12_init_254 : decode cX12_init 254 = .ok (.sipush 1200, 3) := by decide +kernel
theorem dX12_init_257 : decode cX12_init 257 = .ok (.newarray .boolean, 2) := by decide +kernel
theorem dX12_init_259 : decode cX12_init 259 = .ok (.putfield 102, 3) := by decide +kernel
theorem dX12_init_262 : decode cX12_init 262 = .ok (.aload_n 0, 1) := by decide +kernel
theorem dX12_init_263 : decode cX12_init 263 = .ok (.sipush 700, 3) := by decide +kernel
theorem dX12_init_266 : decode cX12_init 266 = .ok (.newarray .byte, 2) := by decide +kernel
theorem dX12_init_268 : decode cX12_init 268 = .ok (.putfield 105, 3) := by decide +kernel
theorem dX12_init_271 : decode cX12_init 271 = .ok (.aload_n 0, 1) := by decide +kernel
theorem dX12_init_272 : decode cX12_init 272 = .ok (.sipush 1200, 3) := by decide +kernel
theorem dX12_init_275 : decode cX12_init 275 = .ok (.newarray .byte, 2) := by decide +kernel
theorem dX12_init_277 : decode cX12_init 277 = .ok (.putfield 108, 3) := by decide +kernel
theorem dX12_init_280 : decode cX12_init 280 = .ok (.aload_n 0, 1) := by decide +kernel
theorem dX12_init_281 : decode cX12_init 281 = .ok (.sipush 1200, 3) := by decide +kernel
theorem dX12_init_284 : decode cX12_init 284 = .ok (.newarray .byte, 2) := by decide +kernel
theorem dX12_init_286 : decode cX12_init 286 = .ok (.putfield 111, 3) := by decide +kernel
theorem dX12_init_289 : decode cX12_init 289 = .ok (.aload_n 0, 1) := by decide +kernel
theorem dX12_init_290 : decode cX12_init 290 = .ok (.iconst (-1), 1) := by decide +kernel
theorem dX12_init_291 : decode cX12_init 291 = .ok (.putfield 114, 3) := by decide +kernel
theorem dX12_init_294 : decode cX12_init 294 = .ok (.aload_n 0, 1) := by decide +kernel
theorem dX12_init_295 : decode cX12_init 295 = .ok (.iconst (-1), 1) := by decide +kernel
theorem dX12_init_296 : decode cX12_init 296 = .ok (.putfield 117, 3) := by decide +kernel
theorem dX12_init_299 : decode cX12_init 299 = .ok (.return_, 1) := by decide +kernel
theorem cwX12_init : mw_cw yX12_init cX12_init 1 none 0 := ⟨wd_15, wd_2096, by decide +kernel⟩
noncomputable def DX12_init (fu : Nat) (F : mwF) (M : mwM) (L : mwL) : Option (mwF × mwM × mwL) :=
  mlet (mset M 821 1 2) (fun M1 => mlet (mz 0 M1 822) (fun M2 => mlet (mset F 821 3 (some 822)) (fun F3 => mlet (mz 0 M2 823) (fun M4 => mlet (mset F3 821 5 (some 823)) (fun F5 => mlet (mz 0 M4 824) (fun M6 => mlet (mset F5 821 6 (some 824)) (fun F7 => mlet (mz 0 M6 825) (fun M8 => mlet (mset F7 821 7 (some 825)) (fun F9 => mlet (mz 0 M8 826) (fun M10 => mlet (mset F9 821 8 (some 826)) (fun F11 => mlet (mz 0 M10 827) (fun M12 => mlet (mset F11 821 9 (some 827)) (fun F13 => mlet (mz 0 M12 828) (fun M14 => mlet (mset F13 821 10 (some 828)) (fun F15 => mlet (mz 0 M14 829) (fun M16 => mlet (mset F15 821 12 (some 829)) (fun F17 => mlet (mz 0 M16 830) (fun M18 => mlet (mset F17 821 13 (some 830)) (fun F19 => mlet (mz 0 M18 831) (fun M20 => mlet (mset F19 821 14 (some 831)) (fun F21 => mlet (mz 0 M20 832) (fun M22 => mlet (mset F21 821 15 (some 832)) (fun F23 => mlet (mz 0 M22 833) (fun M24 => mlet (mset F23 821 16 (some 833)) (fun F25 => mlet (mz 0 M24 834) (fun M26 => mlet (mset F25 821 17 (some 834)) (fun F27 => mlet (mz 0 M26 835) (fun M28 => mlet (mset F27 821 18 (some 835)) (fun F29 => mlet (mz 0 M28 836) (fun M30 => mlet (mset F29 821 19 (some 836)) (fun F31 => mlet (mz 0 M30 837) (fun M32 => mlet (mset F31 821 20 (some 837)) (fun F33 => mlet (mz 0 M32 838) (fun M34 => mlet (mset F33 821 21 (some 838)) (fun F35 => mlet (mz 0 M34 839) (fun M36 => mlet (mset F35 821 23 (some 839)) (fun F37 => mlet (mz 0 M36 840) (fun M38 => mlet (mset F37 821 24 (some 840)) (fun F39 => mlet (mz 0 M38 841) (fun M40 => mlet (mset F39 821 25 (some 841)) (fun F41 => mlet (mz 0 M40 842) (fun M42 => mlet (mset F41 821 26 (some 842)) (fun F43 => mlet (mz 0 M42 843) (fun M44 => mlet (mset F43 821 27 (some 843)) (fun F45 => mlet (mz 0 M44 844) (fun M46 => mlet (mset F45 821 28 (some 844)) (fun F47 => mlet (mz 0 M46 845) (fun M48 => mlet (mset F47 821 30 (some 845)) (fun F49 => mlet (mz 0 M48 846) (fun M50 => mlet (mset F49 821 31 (some 846)) (fun F51 => mlet (mz 0 M50 847) (fun M52 => mlet (mset F51 821 32 (some 847)) (fun F53 => mlet (mz 0 M52 848) (fun M54 => mlet (mset F53 821 33 (some 848)) (fun F55 => mlet (mz 0 M54 849) (fun M56 => mlet (mset F55 821 35 (some 849)) (fun F57 => mlet (mz 0 M56 850) (fun M58 => mlet (mset F57 821 36 (some 850)) (fun F59 => mlet (mz 0 M58 851) (fun M60 => mlet (mset F59 821 39 (some 851)) (fun F61 => mlet (mz 0 M60 852) (fun M62 => mlet (mset F61 821 40 (some 852)) (fun F63 => mlet (mz 0 M62 853) (fun M64 => mlet (mset F63 821 47 (some 853)) (fun F65 => mlet (mset M64 821 48 (-1)) (fun M66 => mlet (mset M66 821 50 (-1)) (fun M67 => some (F65, M67, L))))))))))))))))))))))))))))))))))))))))))))))))))))))))))))))))))))
set_option maxHeartbeats 4000000 in
theorem kX12_init {fu : Nat} {F : mwF} {M : mwM} {L : mwL} {F9 : mwF} {M9 : mwM} {L9 : mwL} (hD : DX12_init fu F M L = some (F9, M9, L9)) : ∀ a j, (a < 821 ∨ 854 ≤ a) → F9 a j = F a j := by
  intro a j ha
  unfold DX12_init at hD
  obtain ⟨M1, eM1, hD⟩ := g_let hD
  obtain ⟨M2, eM2, hD⟩ := g_let hD
  obtain ⟨F3, eF3, hD⟩ := g_let hD
  obtain ⟨M4, eM4, hD⟩ := g_let hD
  obtain ⟨F5, eF5, hD⟩ := g_let hD
  obtain ⟨M6, eM6, hD⟩ := g_let hD
  obtain ⟨F7, eF7, hD⟩ := g_let hD
  obtain ⟨M8, eM8, hD⟩ := g_let hD
  obtain ⟨F9, eF9, hD⟩ := g_let hD
  obtain ⟨M10, eM10, hD⟩ := g_let hD
  obtain ⟨F11, eF11, hD⟩ := g_let hD
  obtain ⟨M12, eM12, hD⟩ := g_let hD
  obtain ⟨F13, eF13, hD⟩ := g_let hD
  obtain ⟨M14, eM14, hD⟩ := g_let hD
  obtain ⟨F15, eF15, hD⟩ := g_let hD
  obtain ⟨M16, eM16, hD⟩ := g_let hD
  obtain ⟨F17, eF17, hD⟩ := g_let hD
  obtain ⟨M18, eM18, hD⟩ := g_let hD
  obtain ⟨F19, eF19, hD⟩ := g_let hD
  obtain ⟨M20, eM20, hD⟩ := g_let hD
  obtain ⟨F21, eF21, hD⟩ := g_let hD
  obtain ⟨M22, eM22, hD⟩ := g_let hD
  obtain ⟨F23, eF23, hD⟩ := g_let hD
  obtain ⟨M24, eM24, hD⟩ := g_let hD
  obtain ⟨F25, eF25, hD⟩ := g_let hD
  obtain ⟨M26, eM26, hD⟩ := g_let hD
  obtain ⟨F27, eF27, hD⟩ := g_let hD
  obtain ⟨M28, eM28, hD⟩ := g_let hD
  obtain ⟨F29, eF29, hD⟩ := g_let hD
  obtain ⟨M30, eM30, hD⟩ := g_let hD
  obtain ⟨F31, eF31, hD⟩ := g_let hD
  obtain ⟨M32, eM32, hD⟩ := g_let hD
  obtain ⟨F33, eF33, hD⟩ := g_let hD
  obtain ⟨M34, eM34, hD⟩ := g_let hD
  obtain ⟨F35, eF35, hD⟩ := g_let hD
  obtain ⟨M36, eM36, hD⟩ := g_let hD
  obtain ⟨F37, eF37, hD⟩ := g_let hD
  obtain ⟨M38, eM38, hD⟩ := g_let hD
  obtain ⟨F39, eF39, hD⟩ := g_let hD
  obtain ⟨M40, eM40, hD⟩ := g_let hD
  obtain ⟨F41, eF41, hD⟩ := g_let hD
  obtain ⟨M42, eM42, hD⟩ := g_let hD
  obtain ⟨F43, eF43, hD⟩ := g_let hD
  obtain ⟨M44, eM44, hD⟩ := g_let hD
  obtain ⟨F45, eF45, hD⟩ := g_let hD
  obtain ⟨M46, eM46, hD⟩ := g_let hD
  obtain ⟨F47, eF47, hD⟩ := g_let hD
  obtain ⟨M48, eM48, hD⟩ := g_let hD
  obtain ⟨F49, eF49, hD⟩ := g_let hD
  obtain ⟨M50, eM50, hD⟩ := g_let hD
  obtain ⟨F51, eF51, hD⟩ := g_let hD
  obtain ⟨M52, eM52, hD⟩ := g_let hD
  obtain ⟨F53, eF53, hD⟩ := g_let hD
  obtain ⟨M54, eM54, hD⟩ := g_let hD
  obtain ⟨F55, eF55, hD⟩ := g_let hD
  obtain ⟨M56, eM56, hD⟩ := g_let hD
  obtain ⟨F57, eF57, hD⟩ := g_let hD
  obtain ⟨M58, eM58, hD⟩ := g_let hD
  obtain ⟨F59, eF59, hD⟩ := g_let hD
  obtain ⟨M60, eM60, hD⟩ := g_let hD
  obtain ⟨F61, eF61, hD⟩ := g_let hD
  obtain ⟨M62, eM62, hD⟩ := g_let hD
  obtain ⟨F63, eF63, hD⟩ := g_let hD
  obtain ⟨M64, eM64, hD⟩ := g_let hD
  obtain ⟨F65, eF65, hD⟩ := g_let hD
  obtain ⟨M66, eM66, hD⟩ := g_let hD
  obtain ⟨M67, eM67, hD⟩ := g_let hD
  have hf := congrArg (fun q => q.1) (Option.some.inj hD)
  dsimp only at hf
  rw [← hf]
  rw [eF65, mset_k (by omega)]
  rw [eF63, mset_k (by omega)]
  rw [eF61, mset_k (by omega)]
  rw [eF59, mset_k (by omega)]
  rw [eF57, mset_k (by omega)]
  rw [eF55, mset_k (by omega)]
  rw [eF53, mset_k (by omega)]
  rw [eF51, mset_k (by omega)]
  rw [eF49, mset_k (by omega)]
  rw [eF47, mset_k (by omega)]
  rw [eF45, mset_k (by omega)]
  rw [eF43, mset_k (by omega)]
  rw [eF41, mset_k (by omega)]
  rw [eF39, mset_k (by omega)]
  rw [eF37, mset_k (by omega)]
  rw [eF35, mset_k (by omega)]
  rw [eF33, mset_k (by omega)]
  rw [eF31, mset_k (by omega)]
  rw [eF29, mset_k (by omega)]
  rw [eF27, mset_k (by omega)]
  rw [eF25, mset_k (by omega)]
  rw [eF23, mset_k (by omega)]
  rw [eF21, mset_k (by omega)]
  rw [eF19, mset_k (by omega)]
  rw [eF17, mset_k (by omega)]
  rw [eF15, mset_k (by omega)]
  rw [eF13, mset_k (by omega)]
  rw [eF11, mset_k (by omega)]
  rw [eF9, mset_k (by omega)]
  rw [eF7, mset_k (by omega)]
  rw [eF5, mset_k (by omega)]
  rw [eF3, mset_k (by omega)]
set_option maxHeartbeats 4000000 in
set_option maxRecDepth 100000 in
theorem tX12_init (l : Launch) (G : mwG) (fu : Nat) (F : mwF) (M : mwM) (L : mwL) {F9 : mwF} {M9 : mwM} {L9 : mwL} (hD : DX12_init fu F M L = some (F9, M9, L9)) : Met l yX12_init (Cond.code yX12_init cX12_init 1 none :: GT) ({ frames := 1, cells := 32, slots := 517792, locals := 20 }) (mw_PreC G 822 F M L [.ref (mw_ad G 821)]) (mw_QC G 854 F9 M9 L9) 32 517792 (mw_fr G) := by
  refine mw_enterC (by decide) (Nat.le_of_ble_eq_true rfl) ?_
  intro p e s m below meth c ls C A hr hlocks hnm hw hs0 hl
  have hl : lv_has ls 1 [(0, .ref (mw_ad G 821))] := hl
  unfold DX12_init at hD
  refine lv_aload_n C.1.1 C.1.2.1 dX12_init_0 rfl (lv_at hl 0 rfl) ?_
  refine W.objInit C.1.1 C.1.2.1 C.1.2.2.2.1 (C.1.2.2.2.2 _ wd_2097) (C.1.2.2.2.2 _ wd_39) (C.1.2.2.2.2 _ wd_40) rfl (by rw [C.1.2.2.1]; exact hl.1) rfl dX12_init_1 (Nat.le_of_ble_eq_true rfl) (Nat.le_of_ble_eq_true rfl) ?_
  refine W.eq (g2 := F0 m 4 ls []) rfl ?_
  refine lv_aload_n C.1.1 C.1.2.1 dX12_init_4 rfl (lv_at hl 0 rfl) ?_
  refine lv_iconst (v := 2) C.1.1 C.1.2.1 dX12_init_5 (by decide) ?_
  obtain ⟨M1, eM1, hD⟩ := g_let hD
  refine mr_putI C hw kc_12 1 (by omega) tf_821 wd_2101 dX12_init_6 (by decide) rfl rfl rfl rfl (fun H locs hw => ?_)
  replace hw : mw_W G (mw_ad G) 822 TF F M1 L H locs := by rw [eM1]; exact hw
  refine lv_aload_n C.1.1 C.1.2.1 dX12_init_9 rfl (lv_at hl 0 rfl) ?_
  refine lv_sipush (v := 20000) C.1.1 C.1.2.1 dX12_init_10 (by decide) ?_
  refine mw_size hw (by omega) (fun hs => ?_)
  obtain ⟨M2, eM2, hD⟩ := g_let hD
  refine mr_newI (atype := .byte) (t := 1) (n := 20000) C hw hs tf_822 (by decide) rfl wd_170 rfl (fun _ => rfl) (by decide) (by decide) (by decide) (Nat.le_of_ble_eq_true rfl) (Nat.le_of_ble_eq_true rfl) dX12_init_13 (fun H hw _ => ?_)
  replace hw : mw_W G (mw_ad G) 823 TF F M2 L H locs := by rw [eM2]; exact hw
  refine W.widen (k := 1) (n := 20000) (Nat.le_of_ble_eq_true rfl) (Nat.le_of_ble_eq_true rfl) ?_
  obtain ⟨F3, eF3, hD⟩ := g_let hD
  refine mr_putFR C hw kc_12 3 (by omega) tf_821 wd_2103 dX12_init_15 (by decide) rfl rfl hnm rfl rfl rfl (fun H locs hw => ?_)
  replace hw : mw_W G (mw_ad G) 823 TF F3 M2 L H locs := by rw [eF3]; exact hw
  refine lv_aload_n C.1.1 C.1.2.1 dX12_init_18 rfl (lv_at hl 0 rfl) ?_
  refine lv_sipush (v := 200) C.1.1 C.1.2.1 dX12_init_19 (by decide) ?_
  refine mw_size hw (by omega) (fun hs => ?_)
  obtain ⟨M4, eM4, hD⟩ := g_let hD
  refine mr_newI (atype := .int) (t := 0) (n := 200) C hw hs tf_823 (by decide) rfl wd_91 rfl (fun _ => rfl) (by decide) (by decide) (by decide) (Nat.le_of_ble_eq_true rfl) (Nat.le_of_ble_eq_true rfl) dX12_init_22 (fun H hw _ => ?_)
  replace hw : mw_W G (mw_ad G) 824 TF F3 M4 L H locs := by rw [eM4]; exact hw
  refine W.widen (k := 2) (n := 20200) (Nat.le_of_ble_eq_true rfl) (Nat.le_of_ble_eq_true rfl) ?_
  obtain ⟨F5, eF5, hD⟩ := g_let hD
  refine mr_putFR C hw kc_12 5 (by omega) tf_821 wd_2105 dX12_init_24 (by decide) rfl rfl hnm rfl rfl rfl (fun H locs hw => ?_)
  replace hw : mw_W G (mw_ad G) 824 TF F5 M4 L H locs := by rw [eF5]; exact hw
  refine lv_aload_n C.1.1 C.1.2.1 dX12_init_27 rfl (lv_at hl 0 rfl) ?_
  refine lv_sipush (v := 200) C.1.1 C.1.2.1 dX12_init_28 (by decide) ?_
  refine mw_size hw (by omega) (fun hs => ?_)
  obtain ⟨M6, eM6, hD⟩ := g_let hD
  refine mr_newI (atype := .int) (t := 0) (n := 200) C hw hs tf_824 (by decide) rfl wd_91 rfl (fun _ => rfl) (by decide) (by decide) (by decide) (Nat.le_of_ble_eq_true rfl) (Nat.le_of_ble_eq_true rfl) dX12_init_31 (fun H hw _ => ?_)
  replace hw : mw_W G (mw_ad G) 825 TF F5 M6 L H locs := by rw [eM6]; exact hw
  refine W.widen (k := 3) (n := 20400) (Nat.le_of_ble_eq_true rfl) (Nat.le_of_ble_eq_true rfl) ?_
  obtain ⟨F7, eF7, hD⟩ := g_let hD
  refine mr_putFR C hw kc_12 6 (by omega) tf_821 wd_2106 dX12_init_33 (by decide) rfl rfl hnm rfl rfl rfl (fun H locs hw => ?_)
  replace hw : mw_W G (mw_ad G) 825 TF F7 M6 L H locs := by rw [eF7]; exact hw
  refine lv_aload_n C.1.1 C.1.2.1 dX12_init_36 rfl (lv_at hl 0 rfl) ?_
  refine lv_sipush (v := 200) C.1.1 C.1.2.1 dX12_init_37 (by decide) ?_
  refine mw_size hw (by omega) (fun hs => ?_)
  obtain ⟨M8, eM8, hD⟩ := g_let hD
  refine mr_newI (atype := .int) (t := 0) (n := 200) C hw hs tf_825 (by decide) rfl wd_91 rfl (fun _ => rfl) (by decide) (by decide) (by decide) (Nat.le_of_ble_eq_true rfl) (Nat.le_of_ble_eq_true rfl) dX12_init_40 (fun H hw _ => ?_)
  replace hw : mw_W G (mw_ad G) 826 TF F7 M8 L H locs := by rw [eM8]; exact hw
  refine W.widen (k := 4) (n := 20600) (Nat.le_of_ble_eq_true rfl) (Nat.le_of_ble_eq_true rfl) ?_
  obtain ⟨F9, eF9, hD⟩ := g_let hD
  refine mr_putFR C hw kc_12 7 (by omega) tf_821 wd_2107 dX12_init_42 (by decide) rfl rfl hnm rfl rfl rfl (fun H locs hw => ?_)
  replace hw : mw_W G (mw_ad G) 826 TF F9 M8 L H locs := by rw [eF9]; exact hw
  refine lv_aload_n C.1.1 C.1.2.1 dX12_init_45 rfl (lv_at hl 0 rfl) ?_
  refine lv_sipush (v := 200) C.1.1 C.1.2.1 dX12_init_46 (by decide) ?_
  refine mw_size hw (by omega) (fun hs => ?_)
  obtain ⟨M10, eM10, hD⟩ := g_let hD
  refine mr_newI (atype := .int) (t := 0) (n := 200) C hw hs tf_826 (by decide) rfl wd_91 rfl (fun _ => rfl) (by decide) (by decide) (by decide) (Nat.le_of_ble_eq_true rfl) (Nat.le_of_ble_eq_true rfl) dX12_init_49 (fun H hw _ => ?_)
  replace hw : mw_W G (mw_ad G) 827 TF F9 M10 L H locs := by rw [eM10]; exact hw
  refine W.widen (k := 5) (n := 20800) (Nat.le_of_ble_eq_true rfl) (Nat.le_of_ble_eq_true rfl) ?_
  obtain ⟨F11, eF11, hD⟩ := g_let hD
  refine mr_putFR C hw kc_12 8 (by omega) tf_821 wd_2108 dX12_init_51 (by decide) rfl rfl hnm rfl rfl rfl (fun H locs hw => ?_)
  replace hw : mw_W G (mw_ad G) 827 TF F11 M10 L H locs := by rw [eF11]; exact hw
  refine lv_aload_n C.1.1 C.1.2.1 dX12_init_54 rfl (lv_at hl 0 rfl) ?_
  refine lv_sipush (v := 12800) C.1.1 C.1.2.1 dX12_init_55 (by decide) ?_
  refine mw_size hw (by omega) (fun hs => ?_)
  obtain ⟨M12, eM12, hD⟩ := g_let hD
  refine mr_newI (atype := .int) (t := 0) (n := 12800) C hw hs tf_827 (by decide) rfl wd_91 rfl (fun _ => rfl) (by decide) (by decide) (by decide) (Nat.le_of_ble_eq_true rfl) (Nat.le_of_ble_eq_true rfl) dX12_init_58 (fun H hw _ => ?_)
  replace hw : mw_W G (mw_ad G) 828 TF F11 M12 L H locs := by rw [eM12]; exact hw
  refine W.widen (k := 6) (n := 33600) (Nat.le_of_ble_eq_true rfl) (Nat.le_of_ble_eq_true rfl) ?_
  obtain ⟨F13, eF13, hD⟩ := g_let hD
  refine mr_putFR C hw kc_12 9 (by omega) tf_821 wd_2109 dX12_init_60 (by decide) rfl rfl hnm rfl rfl rfl (fun H locs hw => ?_)
  replace hw : mw_W G (mw_ad G) 828 TF F13 M12 L H locs := by rw [eF13]; exact hw
  refine lv_aload_n C.1.1 C.1.2.1 dX12_init_63 rfl (lv_at hl 0 rfl) ?_
  refine lv_sipush (v := 200) C.1.1 C.1.2.1 dX12_init_64 (by decide) ?_
  refine mw_size hw (by omega) (fun hs => ?_)
  obtain ⟨M14, eM14, hD⟩ := g_let hD
  refine mr_newI (atype := .boolean) (t := 2) (n := 200) C hw hs tf_828 (by decide) rfl wd_320 rfl (fun _ => rfl) (by decide) (by decide) (by decide) (Nat.le_of_ble_eq_true rfl) (Nat.le_of_ble_eq_true rfl) dX12_init_67 (fun H hw _ => ?_)
  replace hw : mw_W G (mw_ad G) 829 TF F13 M14 L H locs := by rw [eM14]; exact hw
  refine W.widen (k := 7) (n := 33800) (Nat.le_of_ble_eq_true rfl) (Nat.le_of_ble_eq_true rfl) ?_
  obtain ⟨F15, eF15, hD⟩ := g_let hD
  refine mr_putFR C hw kc_12 10 (by omega) tf_821 wd_2110 dX12_init_69 (by decide) rfl rfl hnm rfl rfl rfl (fun H locs hw => ?_)
  replace hw : mw_W G (mw_ad G) 829 TF F15 M14 L H locs := by rw [eF15]; exact hw
  refine lv_aload_n C.1.1 C.1.2.1 dX12_init_72 rfl (lv_at hl 0 rfl) ?_
  refine lv_sipush (v := 200) C.1.1 C.1.2.1 dX12_init_73 (by decide) ?_
  refine mw_size hw (by omega) (fun hs => ?_)
  obtain ⟨M16, eM16, hD⟩ := g_let hD
  refine mr_newI (atype := .int) (t := 0) (n := 200) C hw hs tf_829 (by decide) rfl wd_91 rfl (fun _ => rfl) (by decide) (by decide) (by decide) (Nat.le_of_ble_eq_true rfl) (Nat.le_of_ble_eq_true rfl) dX12_init_76 (fun H hw _ => ?_)
  replace hw : mw_W G (mw_ad G) 830 TF F15 M16 L H locs := by rw [eM16]; exact hw
  refine W.widen (k := 8) (n := 34000) (Nat.le_of_ble_eq_true rfl) (Nat.le_of_ble_eq_true rfl) ?_
  obtain ⟨F17, eF17, hD⟩ := g_let hD
  refine mr_putFR C hw kc_12 12 (by omega) tf_821 wd_2112 dX12_init_78 (by decide) rfl rfl hnm rfl rfl rfl (fun H locs hw => ?_)
  replace hw : mw_W G (mw_ad G) 830 TF F17 M16 L H locs := by rw [eF17]; exact hw
  refine lv_aload_n C.1.1 C.1.2.1 dX12_init_81 rfl (lv_at hl 0 rfl) ?_
  refine lv_sipush (v := 200) C.1.1 C.1.2.1 dX12_init_82 (by decide) ?_
  refine mw_size hw (by omega) (fun hs => ?_)
  obtain ⟨M18, eM18, hD⟩ := g_let hD
  refine mr_newI (atype := .int) (t := 0) (n := 200) C hw hs tf_830 (by decide) rfl wd_91 rfl (fun _ => rfl) (by decide) (by decide) (by decide) (Nat.le_of_ble_eq_true rfl) (Nat.le_of_ble_eq_true rfl) dX12_init_85 (fun H hw _ => ?_)
  replace hw : mw_W G (mw_ad G) 831 TF F17 M18 L H locs := by rw [eM18]; exact hw
  refine W.widen (k := 9) (n := 34200) (Nat.le_of_ble_eq_true rfl) (Nat.le_of_ble_eq_true rfl) ?_
  obtain ⟨F19, eF19, hD⟩ := g_let hD
  refine mr_putFR C hw kc_12 13 (by omega) tf_821 wd_2113 dX12_init_87 (by decide) rfl rfl hnm rfl rfl rfl (fun H locs hw => ?_)
  replace hw : mw_W G (mw_ad G) 831 TF F19 M18 L H locs := by rw [eF19]; exact hw
  refine lv_aload_n C.1.1 C.1.2.1 dX12_init_90 rfl (lv_at hl 0 rfl) ?_
  refine lv_bipush (v := 32) C.1.1 C.1.2.1 dX12_init_91 (by decide) ?_
  refine mw_size hw (by omega) (fun hs => ?_)
  obtain ⟨M20, eM20, hD⟩ := g_let hD
  refine mr_newI (atype := .int) (t := 0) (n := 32) C hw hs tf_831 (by decide) rfl wd_91 rfl (fun _ => rfl) (by decide) (by decide) (by decide) (Nat.le_of_ble_eq_true rfl) (Nat.le_of_ble_eq_true rfl) dX12_init_93 (fun H hw _ => ?_)
  replace hw : mw_W G (mw_ad G) 832 TF F19 M20 L H locs := by rw [eM20]; exact hw
  refine W.widen (k := 10) (n := 34232) (Nat.le_of_ble_eq_true rfl) (Nat.le_of_ble_eq_true rfl) ?_
  obtain ⟨F21, eF21, hD⟩ := g_let hD
  refine mr_putFR C hw kc_12 14 (by omega) tf_821 wd_2114 dX12_init_95 (by decide) rfl rfl hnm rfl rfl rfl (fun H locs hw => ?_)
  replace hw : mw_W G (mw_ad G) 832 TF F21 M20 L H locs := by rw [eF21]; exact hw
  refine lv_aload_n C.1.1 C.1.2.1 dX12_init_98 rfl (lv_at hl 0 rfl) ?_
  refine lv_bipush (v := 32) C.1.1 C.1.2.1 dX12_init_99 (by decide) ?_
  refine mw_size hw (by omega) (fun hs => ?_)
  obtain ⟨M22, eM22, hD⟩ := g_let hD
  refine mr_newI (atype := .int) (t := 0) (n := 32) C hw hs tf_832 (by decide) rfl wd_91 rfl (fun _ => rfl) (by decide) (by decide) (by decide) (Nat.le_of_ble_eq_true rfl) (Nat.le_of_ble_eq_true rfl) dX12_init_101 (fun H hw _ => ?_)
  replace hw : mw_W G (mw_ad G) 833 TF F21 M22 L H locs := by rw [eM22]; exact hw
  refine W.widen (k := 11) (n := 34264) (Nat.le_of_ble_eq_true rfl) (Nat.le_of_ble_eq_true rfl) ?_
  obtain ⟨F23, eF23, hD⟩ := g_let hD
  refine mr_putFR C hw kc_12 15 (by omega) tf_821 wd_2115 dX12_init_103 (by decide) rfl rfl hnm rfl rfl rfl (fun H locs hw => ?_)
  replace hw : mw_W G (mw_ad G) 833 TF F23 M22 L H locs := by rw [eF23]; exact hw
  refine lv_aload_n C.1.1 C.1.2.1 dX12_init_106 rfl (lv_at hl 0 rfl) ?_
  refine lv_bipush (v := 32) C.1.1 C.1.2.1 dX12_init_107 (by decide) ?_
  refine mw_size hw (by omega) (fun hs => ?_)
  obtain ⟨M24, eM24, hD⟩ := g_let hD
  refine mr_newI (atype := .int) (t := 0) (n := 32) C hw hs tf_833 (by decide) rfl wd_91 rfl (fun _ => rfl) (by decide) (by decide) (by decide) (Nat.le_of_ble_eq_true rfl) (Nat.le_of_ble_eq_true rfl) dX12_init_109 (fun H hw _ => ?_)
  replace hw : mw_W G (mw_ad G) 834 TF F23 M24 L H locs := by rw [eM24]; exact hw
  refine W.widen (k := 12) (n := 34296) (Nat.le_of_ble_eq_true rfl) (Nat.le_of_ble_eq_true rfl) ?_
  obtain ⟨F25, eF25, hD⟩ := g_let hD
  refine mr_putFR C hw kc_12 16 (by omega) tf_821 wd_2116 dX12_init_111 (by decide) rfl rfl hnm rfl rfl rfl (fun H locs hw => ?_)
  replace hw : mw_W G (mw_ad G) 834 TF F25 M24 L H locs := by rw [eF25]; exact hw
  refine lv_aload_n C.1.1 C.1.2.1 dX12_init_114 rfl (lv_at hl 0 rfl) ?_
  refine lv_bipush (v := 32) C.1.1 C.1.2.1 dX12_init_115 (by decide) ?_
  refine mw_size hw (by omega) (fun hs => ?_)
  obtain ⟨M26, eM26, hD⟩ := g_let hD
  refine mr_newI (atype := .int) (t := 0) (n := 32) C hw hs tf_834 (by decide) rfl wd_91 rfl (fun _ => rfl) (by decide) (by decide) (by decide) (Nat.le_of_ble_eq_true rfl) (Nat.le_of_ble_eq_true rfl) dX12_init_117 (fun H hw _ => ?_)
  replace hw : mw_W G (mw_ad G) 835 TF F25 M26 L H locs := by rw [eM26]; exact hw
  refine W.widen (k := 13) (n := 34328) (Nat.le_of_ble_eq_true rfl) (Nat.le_of_ble_eq_true rfl) ?_
  obtain ⟨F27, eF27, hD⟩ := g_let hD
  refine mr_putFR C hw kc_12 17 (by omega) tf_821 wd_2117 dX12_init_119 (by decide) rfl rfl hnm rfl rfl rfl (fun H locs hw => ?_)
  replace hw : mw_W G (mw_ad G) 835 TF F27 M26 L H locs := by rw [eF27]; exact hw
  refine lv_aload_n C.1.1 C.1.2.1 dX12_init_122 rfl (lv_at hl 0 rfl) ?_
  refine lv_bipush (v := 32) C.1.1 C.1.2.1 dX12_init_123 (by decide) ?_
  refine mw_size hw (by omega) (fun hs => ?_)
  obtain ⟨M28, eM28, hD⟩ := g_let hD
  refine mr_newI (atype := .int) (t := 0) (n := 32) C hw hs tf_835 (by decide) rfl wd_91 rfl (fun _ => rfl) (by decide) (by decide) (by decide) (Nat.le_of_ble_eq_true rfl) (Nat.le_of_ble_eq_true rfl) dX12_init_125 (fun H hw _ => ?_)
  replace hw : mw_W G (mw_ad G) 836 TF F27 M28 L H locs := by rw [eM28]; exact hw
  refine W.widen (k := 14) (n := 34360) (Nat.le_of_ble_eq_true rfl) (Nat.le_of_ble_eq_true rfl) ?_
  obtain ⟨F29, eF29, hD⟩ := g_let hD
  refine mr_putFR C hw kc_12 18 (by omega) tf_821 wd_2118 dX12_init_127 (by decide) rfl rfl hnm rfl rfl rfl (fun H locs hw => ?_)
  replace hw : mw_W G (mw_ad G) 836 TF F29 M28 L H locs := by rw [eF29]; exact hw
  refine lv_aload_n C.1.1 C.1.2.1 dX12_init_130 rfl (lv_at hl 0 rfl) ?_
  refine lv_bipush (v := 32) C.1.1 C.1.2.1 dX12_init_131 (by decide) ?_
  refine mw_size hw (by omega) (fun hs => ?_)
  obtain ⟨M30, eM30, hD⟩ := g_let hD
  refine mr_newI (atype := .int) (t := 0) (n := 32) C hw hs tf_836 (by decide) rfl wd_91 rfl (fun _ => rfl) (by decide) (by decide) (by decide) (Nat.le_of_ble_eq_true rfl) (Nat.le_of_ble_eq_true rfl) dX12_init_133 (fun H hw _ => ?_)
  replace hw : mw_W G (mw_ad G) 837 TF F29 M30 L H locs := by rw [eM30]; exact hw
  refine W.widen (k := 15) (n := 34392) (Nat.le_of_ble_eq_true rfl) (Nat.le_of_ble_eq_true rfl) ?_
  obtain ⟨F31, eF31, hD⟩ := g_let hD
  refine mr_putFR C hw kc_12 19 (by omega) tf_821 wd_2119 dX12_init_135 (by decide) rfl rfl hnm rfl rfl rfl (fun H locs hw => ?_)
  replace hw : mw_W G (mw_ad G) 837 TF F31 M30 L H locs := by rw [eF31]; exact hw
  refine lv_aload_n C.1.1 C.1.2.1 dX12_init_138 rfl (lv_at hl 0 rfl) ?_
  refine lv_sipush (v := 8400) C.1.1 C.1.2.1 dX12_init_139 (by decide) ?_
  refine mw_size hw (by omega) (fun hs => ?_)
  obtain ⟨M32, eM32, hD⟩ := g_let hD
  refine mr_newI (atype := .byte) (t := 1) (n := 8400) C hw hs tf_837 (by decide) rfl wd_170 rfl (fun _ => rfl) (by decide) (by decide) (by decide) (Nat.le_of_ble_eq_true rfl) (Nat.le_of_ble_eq_true rfl) dX12_init_142 (fun H hw _ => ?_)
  replace hw : mw_W G (mw_ad G) 838 TF F31 M32 L H locs := by rw [eM32]; exact hw
  refine W.widen (k := 16) (n := 42792) (Nat.le_of_ble_eq_true rfl) (Nat.le_of_ble_eq_true rfl) ?_
  obtain ⟨F33, eF33, hD⟩ := g_let hD
  refine mr_putFR C hw kc_12 20 (by omega) tf_821 wd_2120 dX12_init_144 (by decide) rfl rfl hnm rfl rfl rfl (fun H locs hw => ?_)
  replace hw : mw_W G (mw_ad G) 838 TF F33 M32 L H locs := by rw [eF33]; exact hw
  refine lv_aload_n C.1.1 C.1.2.1 dX12_init_147 rfl (lv_at hl 0 rfl) ?_
  refine lv_ldc (v := 140000) C.1.1 C.1.2.1 C.1.2.2.2.1 (C.1.2.2.2.2 _ wd_2098) dX12_init_148 ?_
  refine mw_size hw (by omega) (fun hs => ?_)
  obtain ⟨M34, eM34, hD⟩ := g_let hD
  refine mr_newI (atype := .boolean) (t := 2) (n := 140000) C hw hs tf_838 (by decide) rfl wd_320 rfl (fun _ => rfl) (by decide) (by decide) (by decide) (Nat.le_of_ble_eq_true rfl) (Nat.le_of_ble_eq_true rfl) dX12_init_150 (fun H hw _ => ?_)
  replace hw : mw_W G (mw_ad G) 839 TF F33 M34 L H locs := by rw [eM34]; exact hw
  refine W.widen (k := 17) (n := 182792) (Nat.le_of_ble_eq_true rfl) (Nat.le_of_ble_eq_true rfl) ?_
  obtain ⟨F35, eF35, hD⟩ := g_let hD
  refine mr_putFR C hw kc_12 21 (by omega) tf_821 wd_2121 dX12_init_152 (by decide) rfl rfl hnm rfl rfl rfl (fun H locs hw => ?_)
  replace hw : mw_W G (mw_ad G) 839 TF F35 M34 L H locs := by rw [eF35]; exact hw
  refine lv_aload_n C.1.1 C.1.2.1 dX12_init_155 rfl (lv_at hl 0 rfl) ?_
  refine lv_sipush (v := 4000) C.1.1 C.1.2.1 dX12_init_156 (by decide) ?_
  refine mw_size hw (by omega) (fun hs => ?_)
  obtain ⟨M36, eM36, hD⟩ := g_let hD
  refine mr_newI (atype := .int) (t := 0) (n := 4000) C hw hs tf_839 (by decide) rfl wd_91 rfl (fun _ => rfl) (by decide) (by decide) (by decide) (Nat.le_of_ble_eq_true rfl) (Nat.le_of_ble_eq_true rfl) dX12_init_159 (fun H hw _ => ?_)
  replace hw : mw_W G (mw_ad G) 840 TF F35 M36 L H locs := by rw [eM36]; exact hw
  refine W.widen (k := 18) (n := 186792) (Nat.le_of_ble_eq_true rfl) (Nat.le_of_ble_eq_true rfl) ?_
  obtain ⟨F37, eF37, hD⟩ := g_let hD
  refine mr_putFR C hw kc_12 23 (by omega) tf_821 wd_2123 dX12_init_161 (by decide) rfl rfl hnm rfl rfl rfl (fun H locs hw => ?_)
  replace hw : mw_W G (mw_ad G) 840 TF F37 M36 L H locs := by rw [eF37]; exact hw
  refine lv_aload_n C.1.1 C.1.2.1 dX12_init_164 rfl (lv_at hl 0 rfl) ?_
  refine lv_sipush (v := 4000) C.1.1 C.1.2.1 dX12_init_165 (by decide) ?_
  refine mw_size hw (by omega) (fun hs => ?_)
  obtain ⟨M38, eM38, hD⟩ := g_let hD
  refine mr_newI (atype := .int) (t := 0) (n := 4000) C hw hs tf_840 (by decide) rfl wd_91 rfl (fun _ => rfl) (by decide) (by decide) (by decide) (Nat.le_of_ble_eq_true rfl) (Nat.le_of_ble_eq_true rfl) dX12_init_168 (fun H hw _ => ?_)
  replace hw : mw_W G (mw_ad G) 841 TF F37 M38 L H locs := by rw [eM38]; exact hw
  refine W.widen (k := 19) (n := 190792) (Nat.le_of_ble_eq_true rfl) (Nat.le_of_ble_eq_true rfl) ?_
  obtain ⟨F39, eF39, hD⟩ := g_let hD
  refine mr_putFR C hw kc_12 24 (by omega) tf_821 wd_2124 dX12_init_170 (by decide) rfl rfl hnm rfl rfl rfl (fun H locs hw => ?_)
  replace hw : mw_W G (mw_ad G) 841 TF F39 M38 L H locs := by rw [eF39]; exact hw
  refine lv_aload_n C.1.1 C.1.2.1 dX12_init_173 rfl (lv_at hl 0 rfl) ?_
  refine lv_sipush (v := 4000) C.1.1 C.1.2.1 dX12_init_174 (by decide) ?_
  refine mw_size hw (by omega) (fun hs => ?_)
  obtain ⟨M40, eM40, hD⟩ := g_let hD
  refine mr_newI (atype := .byte) (t := 1) (n := 4000) C hw hs tf_841 (by decide) rfl wd_170 rfl (fun _ => rfl) (by decide) (by decide) (by decide) (Nat.le_of_ble_eq_true rfl) (Nat.le_of_ble_eq_true rfl) dX12_init_177 (fun H hw _ => ?_)
  replace hw : mw_W G (mw_ad G) 842 TF F39 M40 L H locs := by rw [eM40]; exact hw
  refine W.widen (k := 20) (n := 194792) (Nat.le_of_ble_eq_true rfl) (Nat.le_of_ble_eq_true rfl) ?_
  obtain ⟨F41, eF41, hD⟩ := g_let hD
  refine mr_putFR C hw kc_12 25 (by omega) tf_821 wd_2125 dX12_init_179 (by decide) rfl rfl hnm rfl rfl rfl (fun H locs hw => ?_)
  replace hw : mw_W G (mw_ad G) 842 TF F41 M40 L H locs := by rw [eF41]; exact hw
  refine lv_aload_n C.1.1 C.1.2.1 dX12_init_182 rfl (lv_at hl 0 rfl) ?_
  refine lv_sipush (v := 4000) C.1.1 C.1.2.1 dX12_init_183 (by decide) ?_
  refine mw_size hw (by omega) (fun hs => ?_)
  obtain ⟨M42, eM42, hD⟩ := g_let hD
  refine mr_newI (atype := .byte) (t := 1) (n := 4000) C hw hs tf_842 (by decide) rfl wd_170 rfl (fun _ => rfl) (by decide) (by decide) (by decide) (Nat.le_of_ble_eq_true rfl) (Nat.le_of_ble_eq_true rfl) dX12_init_186 (fun H hw _ => ?_)
  replace hw : mw_W G (mw_ad G) 843 TF F41 M42 L H locs := by rw [eM42]; exact hw
  refine W.widen (k := 21) (n := 198792) (Nat.le_of_ble_eq_true rfl) (Nat.le_of_ble_eq_true rfl) ?_
  obtain ⟨F43, eF43, hD⟩ := g_let hD
  refine mr_putFR C hw kc_12 26 (by omega) tf_821 wd_2126 dX12_init_188 (by decide) rfl rfl hnm rfl rfl rfl (fun H locs hw => ?_)
  replace hw : mw_W G (mw_ad G) 843 TF F43 M42 L H locs := by rw [eF43]; exact hw
  refine lv_aload_n C.1.1 C.1.2.1 dX12_init_191 rfl (lv_at hl 0 rfl) ?_
  refine lv_sipush (v := 4000) C.1.1 C.1.2.1 dX12_init_192 (by decide) ?_
  refine mw_size hw (by omega) (fun hs => ?_)
  obtain ⟨M44, eM44, hD⟩ := g_let hD
  refine mr_newI (atype := .int) (t := 0) (n := 4000) C hw hs tf_843 (by decide) rfl wd_91 rfl (fun _ => rfl) (by decide) (by decide) (by decide) (Nat.le_of_ble_eq_true rfl) (Nat.le_of_ble_eq_true rfl) dX12_init_195 (fun H hw _ => ?_)
  replace hw : mw_W G (mw_ad G) 844 TF F43 M44 L H locs := by rw [eM44]; exact hw
  refine W.widen (k := 22) (n := 202792) (Nat.le_of_ble_eq_true rfl) (Nat.le_of_ble_eq_true rfl) ?_
  obtain ⟨F45, eF45, hD⟩ := g_let hD
  refine mr_putFR C hw kc_12 27 (by omega) tf_821 wd_2127 dX12_init_197 (by decide) rfl rfl hnm rfl rfl rfl (fun H locs hw => ?_)
  replace hw : mw_W G (mw_ad G) 844 TF F45 M44 L H locs := by rw [eF45]; exact hw
  refine lv_aload_n C.1.1 C.1.2.1 dX12_init_200 rfl (lv_at hl 0 rfl) ?_
  refine lv_ldc (v := 256000) C.1.1 C.1.2.1 C.1.2.2.2.1 (C.1.2.2.2.2 _ wd_2099) dX12_init_201 ?_
  refine mw_size hw (by omega) (fun hs => ?_)
  obtain ⟨M46, eM46, hD⟩ := g_let hD
  refine mr_newI (atype := .byte) (t := 1) (n := 256000) C hw hs tf_844 (by decide) rfl wd_170 rfl (fun _ => rfl) (by decide) (by decide) (by decide) (Nat.le_of_ble_eq_true rfl) (Nat.le_of_ble_eq_true rfl) dX12_init_203 (fun H hw _ => ?_)
  replace hw : mw_W G (mw_ad G) 845 TF F45 M46 L H locs := by rw [eM46]; exact hw
  refine W.widen (k := 23) (n := 458792) (Nat.le_of_ble_eq_true rfl) (Nat.le_of_ble_eq_true rfl) ?_
  obtain ⟨F47, eF47, hD⟩ := g_let hD
  refine mr_putFR C hw kc_12 28 (by omega) tf_821 wd_2128 dX12_init_205 (by decide) rfl rfl hnm rfl rfl rfl (fun H locs hw => ?_)
  replace hw : mw_W G (mw_ad G) 845 TF F47 M46 L H locs := by rw [eF47]; exact hw
  refine lv_aload_n C.1.1 C.1.2.1 dX12_init_208 rfl (lv_at hl 0 rfl) ?_
  refine lv_sipush (v := 17600) C.1.1 C.1.2.1 dX12_init_209 (by decide) ?_
  refine mw_size hw (by omega) (fun hs => ?_)
  obtain ⟨M48, eM48, hD⟩ := g_let hD
  refine mr_newI (atype := .byte) (t := 1) (n := 17600) C hw hs tf_845 (by decide) rfl wd_170 rfl (fun _ => rfl) (by decide) (by decide) (by decide) (Nat.le_of_ble_eq_true rfl) (Nat.le_of_ble_eq_true rfl) dX12_init_212 (fun H hw _ => ?_)
  replace hw : mw_W G (mw_ad G) 846 TF F47 M48 L H locs := by rw [eM48]; exact hw
  refine W.widen (k := 24) (n := 476392) (Nat.le_of_ble_eq_true rfl) (Nat.le_of_ble_eq_true rfl) ?_
  obtain ⟨F49, eF49, hD⟩ := g_let hD
  refine mr_putFR C hw kc_12 30 (by omega) tf_821 wd_2130 dX12_init_214 (by decide) rfl rfl hnm rfl rfl rfl (fun H locs hw => ?_)
  replace hw : mw_W G (mw_ad G) 846 TF F49 M48 L H locs := by rw [eF49]; exact hw
  refine lv_aload_n C.1.1 C.1.2.1 dX12_init_217 rfl (lv_at hl 0 rfl) ?_
  refine lv_sipush (v := 17600) C.1.1 C.1.2.1 dX12_init_218 (by decide) ?_
  refine mw_size hw (by omega) (fun hs => ?_)
  obtain ⟨M50, eM50, hD⟩ := g_let hD
  refine mr_newI (atype := .byte) (t := 1) (n := 17600) C hw hs tf_846 (by decide) rfl wd_170 rfl (fun _ => rfl) (by decide) (by decide) (by decide) (Nat.le_of_ble_eq_true rfl) (Nat.le_of_ble_eq_true rfl) dX12_init_221 (fun H hw _ => ?_)
  replace hw : mw_W G (mw_ad G) 847 TF F49 M50 L H locs := by rw [eM50]; exact hw
  refine W.widen (k := 25) (n := 493992) (Nat.le_of_ble_eq_true rfl) (Nat.le_of_ble_eq_true rfl) ?_
  obtain ⟨F51, eF51, hD⟩ := g_let hD
  refine mr_putFR C hw kc_12 31 (by omega) tf_821 wd_2131 dX12_init_223 (by decide) rfl rfl hnm rfl rfl rfl (fun H locs hw => ?_)
  replace hw : mw_W G (mw_ad G) 847 TF F51 M50 L H locs := by rw [eF51]; exact hw
  refine lv_aload_n C.1.1 C.1.2.1 dX12_init_226 rfl (lv_at hl 0 rfl) ?_
  refine lv_sipush (v := 17600) C.1.1 C.1.2.1 dX12_init_227 (by decide) ?_
  refine mw_size hw (by omega) (fun hs => ?_)
  obtain ⟨M52, eM52, hD⟩ := g_let hD
  refine mr_newI (atype := .int) (t := 0) (n := 17600) C hw hs tf_847 (by decide) rfl wd_91 rfl (fun _ => rfl) (by decide) (by decide) (by decide) (Nat.le_of_ble_eq_true rfl) (Nat.le_of_ble_eq_true rfl) dX12_init_230 (fun H hw _ => ?_)
  replace hw : mw_W G (mw_ad G) 848 TF F51 M52 L H locs := by rw [eM52]; exact hw
  refine W.widen (k := 26) (n := 511592) (Nat.le_of_ble_eq_true rfl) (Nat.le_of_ble_eq_true rfl) ?_
  obtain ⟨F53, eF53, hD⟩ := g_let hD
  refine mr_putFR C hw kc_12 32 (by omega) tf_821 wd_2132 dX12_init_232 (by decide) rfl rfl hnm rfl rfl rfl (fun H locs hw => ?_)
  replace hw : mw_W G (mw_ad G) 848 TF F53 M52 L H locs := by rw [eF53]; exact hw
  refine lv_aload_n C.1.1 C.1.2.1 dX12_init_235 rfl (lv_at hl 0 rfl) ?_
  refine lv_sipush (v := 700) C.1.1 C.1.2.1 dX12_init_236 (by decide) ?_
  refine mw_size hw (by omega) (fun hs => ?_)
  obtain ⟨M54, eM54, hD⟩ := g_let hD
  refine mr_newI (atype := .byte) (t := 1) (n := 700) C hw hs tf_848 (by decide) rfl wd_170 rfl (fun _ => rfl) (by decide) (by decide) (by decide) (Nat.le_of_ble_eq_true rfl) (Nat.le_of_ble_eq_true rfl) dX12_init_239 (fun H hw _ => ?_)
  replace hw : mw_W G (mw_ad G) 849 TF F53 M54 L H locs := by rw [eM54]; exact hw
  refine W.widen (k := 27) (n := 512292) (Nat.le_of_ble_eq_true rfl) (Nat.le_of_ble_eq_true rfl) ?_
  obtain ⟨F55, eF55, hD⟩ := g_let hD
  refine mr_putFR C hw kc_12 33 (by omega) tf_821 wd_2133 dX12_init_241 (by decide) rfl rfl hnm rfl rfl rfl (fun H locs hw => ?_)
  replace hw : mw_W G (mw_ad G) 849 TF F55 M54 L H locs := by rw [eF55]; exact hw
  refine lv_aload_n C.1.1 C.1.2.1 dX12_init_244 rfl (lv_at hl 0 rfl) ?_
  refine lv_sipush (v := 1200) C.1.1 C.1.2.1 dX12_init_245 (by decide) ?_
  refine mw_size hw (by omega) (fun hs => ?_)
  obtain ⟨M56, eM56, hD⟩ := g_let hD
  refine mr_newI (atype := .byte) (t := 1) (n := 1200) C hw hs tf_849 (by decide) rfl wd_170 rfl (fun _ => rfl) (by decide) (by decide) (by decide) (Nat.le_of_ble_eq_true rfl) (Nat.le_of_ble_eq_true rfl) dX12_init_248 (fun H hw _ => ?_)
  replace hw : mw_W G (mw_ad G) 850 TF F55 M56 L H locs := by rw [eM56]; exact hw
  refine W.widen (k := 28) (n := 513492) (Nat.le_of_ble_eq_true rfl) (Nat.le_of_ble_eq_true rfl) ?_
  obtain ⟨F57, eF57, hD⟩ := g_let hD
  refine mr_putFR C hw kc_12 35 (by omega) tf_821 wd_2135 dX12_init_250 (by decide) rfl rfl hnm rfl rfl rfl (fun H locs hw => ?_)
  replace hw : mw_W G (mw_ad G) 850 TF F57 M56 L H locs := by rw [eF57]; exact hw
  refine lv_aload_n C.1.1 C.1.2.1 dX12_init_253 rfl (lv_at hl 0 rfl) ?_
  refine lv_sipush (v := 1200) C.1.1 C.1.2.1 dX12_init_254 (by decide) ?_
  refine mw_size hw (by omega) (fun hs => ?_)
  obtain ⟨M58, eM58, hD⟩ := g_let hD
  refine mr_newI (atype := .boolean) (t := 2) (n := 1200) C hw hs tf_850 (by decide) rfl wd_320 rfl (fun _ => rfl) (by decide) (by decide) (by decide) (Nat.le_of_ble_eq_true rfl) (Nat.le_of_ble_eq_true rfl) dX12_init_257 (fun H hw _ => ?_)
  replace hw : mw_W G (mw_ad G) 851 TF F57 M58 L H locs := by rw [eM58]; exact hw
  refine W.widen (k := 29) (n := 514692) (Nat.le_of_ble_eq_true rfl) (Nat.le_of_ble_eq_true rfl) ?_
  obtain ⟨F59, eF59, hD⟩ := g_let hD
  refine mr_putFR C hw kc_12 36 (by omega) tf_821 wd_2136 dX12_init_259 (by decide) rfl rfl hnm rfl rfl rfl (fun H locs hw => ?_)
  replace hw : mw_W G (mw_ad G) 851 TF F59 M58 L H locs := by rw [eF59]; exact hw
  refine lv_aload_n C.1.1 C.1.2.1 dX12_init_262 rfl (lv_at hl 0 rfl) ?_
  refine lv_sipush (v := 700) C.1.1 C.1.2.1 dX12_init_263 (by decide) ?_
  refine mw_size hw (by omega) (fun hs => ?_)
  obtain ⟨M60, eM60, hD⟩ := g_let hD
  refine mr_newI (atype := .byte) (t := 1) (n := 700) C hw hs tf_851 (by decide) rfl wd_170 rfl (fun _ => rfl) (by decide) (by decide) (by decide) (Nat.le_of_ble_eq_true rfl) (Nat.le_of_ble_eq_true rfl) dX12_init_266 (fun H hw _ => ?_)
  replace hw : mw_W G (mw_ad G) 852 TF F59 M60 L H locs := by rw [eM60]; exact hw
  refine W.widen (k := 30) (n := 515392) (Nat.le_of_ble_eq_true rfl) (Nat.le_of_ble_eq_true rfl) ?_
  obtain ⟨F61, eF61, hD⟩ := g_let hD
  refine mr_putFR C hw kc_12 39 (by omega) tf_821 wd_2139 dX12_init_268 (by decide) rfl rfl hnm rfl rfl rfl (fun H locs hw => ?_)
  replace hw : mw_W G (mw_ad G) 852 TF F61 M60 L H locs := by rw [eF61]; exact hw
  refine lv_aload_n C.1.1 C.1.2.1 dX12_init_271 rfl (lv_at hl 0 rfl) ?_
  refine lv_sipush (v := 1200) C.1.1 C.1.2.1 dX12_init_272 (by decide) ?_
  refine mw_size hw (by omega) (fun hs => ?_)
  obtain ⟨M62, eM62, hD⟩ := g_let hD
  refine mr_newI (atype := .byte) (t := 1) (n := 1200) C hw hs tf_852 (by decide) rfl wd_170 rfl (fun _ => rfl) (by decide) (by decide) (by decide) (Nat.le_of_ble_eq_true rfl) (Nat.le_of_ble_eq_true rfl) dX12_init_275 (fun H hw _ => ?_)
  replace hw : mw_W G (mw_ad G) 853 TF F61 M62 L H locs := by rw [eM62]; exact hw
  refine W.widen (k := 31) (n := 516592) (Nat.le_of_ble_eq_true rfl) (Nat.le_of_ble_eq_true rfl) ?_
  obtain ⟨F63, eF63, hD⟩ := g_let hD
  refine mr_putFR C hw kc_12 40 (by omega) tf_821 wd_2140 dX12_init_277 (by decide) rfl rfl hnm rfl rfl rfl (fun H locs hw => ?_)
  replace hw : mw_W G (mw_ad G) 853 TF F63 M62 L H locs := by rw [eF63]; exact hw
  refine lv_aload_n C.1.1 C.1.2.1 dX12_init_280 rfl (lv_at hl 0 rfl) ?_
  refine lv_sipush (v := 1200) C.1.1 C.1.2.1 dX12_init_281 (by decide) ?_
  refine mw_size hw (by omega) (fun hs => ?_)
  obtain ⟨M64, eM64, hD⟩ := g_let hD
  refine mr_newI (atype := .byte) (t := 1) (n := 1200) C hw hs tf_853 (by decide) rfl wd_170 rfl (fun _ => rfl) (by decide) (by decide) (by decide) (Nat.le_of_ble_eq_true rfl) (Nat.le_of_ble_eq_true rfl) dX12_init_284 (fun H hw _ => ?_)
  replace hw : mw_W G (mw_ad G) 854 TF F63 M64 L H locs := by rw [eM64]; exact hw
  refine W.widen (k := 32) (n := 517792) (Nat.le_of_ble_eq_true rfl) (Nat.le_of_ble_eq_true rfl) ?_
  obtain ⟨F65, eF65, hD⟩ := g_let hD
  refine mr_putFR C hw kc_12 47 (by omega) tf_821 wd_2147 dX12_init_286 (by decide) rfl rfl hnm rfl rfl rfl (fun H locs hw => ?_)
  replace hw : mw_W G (mw_ad G) 854 TF F65 M64 L H locs := by rw [eF65]; exact hw
  refine lv_aload_n C.1.1 C.1.2.1 dX12_init_289 rfl (lv_at hl 0 rfl) ?_
  refine lv_iconst (v := (-1)) C.1.1 C.1.2.1 dX12_init_290 (by decide) ?_
  obtain ⟨M66, eM66, hD⟩ := g_let hD
  refine mr_putI C hw kc_12 48 (by omega) tf_821 wd_2148 dX12_init_291 (by decide) rfl rfl rfl rfl (fun H locs hw => ?_)
  replace hw : mw_W G (mw_ad G) 854 TF F65 M66 L H locs := by rw [eM66]; exact hw
  refine lv_aload_n C.1.1 C.1.2.1 dX12_init_294 rfl (lv_at hl 0 rfl) ?_
  refine lv_iconst (v := (-1)) C.1.1 C.1.2.1 dX12_init_295 (by decide) ?_
  obtain ⟨M67, eM67, hD⟩ := g_let hD
  refine mr_putI C hw kc_12 50 (by omega) tf_821 wd_2150 dX12_init_296 (by decide) rfl rfl rfl rfl (fun H locs hw => ?_)
  replace hw : mw_W G (mw_ad G) 854 TF F65 M67 L H locs := by rw [eM67]; exact hw
  refine mw_size hw (by omega) (fun hs => ?_)
  exact mr_cret C hr hlocks hw hs (Option.some.inj hD) dX12_init_299

theorem dX13_init_0 : decode cX13_init 0 = .ok (.aload_n 0, 1) := by decide +kernel
theorem dX13_init_1 : decode cX13_init 1 = .ok (.invokespecial 1, 3) := by decide +kernel
theorem dX13_init_4 : decode cX13_init 4 = .ok (.aload_n 0, 1) := by decide +kernel
theorem dX13_init_5 : decode cX13_init 5 = .ok (.sipush 201, 3) := by decide +kernel
theorem dX13_init_8 : decode cX13_init 8 = .ok (.newarray .int, 2) := by decide +kernel
theorem dX13_init_10 : decode cX13_init 10 = .ok (.putfield 7, 3) := by decide +kernel
theorem dX13_init_13 : decode cX13_init 13 = .ok (.aload_n 0, 1) := by decide +kernel
theorem dX13_init_14 : decode cX13_init 14 = .ok (.sipush 201, 3) := by decide +kernel
theorem dX13_init_17 : decode cX13_init 17 = .ok (.newarray .int, 2) := by decide +kernel
theorem dX13_init_19 : decode cX13_init 19 = .ok (.putfield 13, 3) := by decide +kernel
theorem dX13_init_22 : decode cX13_init 22 = .ok (.aload_n 0, 1) := by decide +kernel
theorem dX13_init_23 : decode cX13_init 23 = .ok (.sipush 201, 3) := by decide +kernel
theorem dX13_init_26 : decode cX13_init 26 = .ok (.newarray .int, 2) := by decide +kernel
theorem dX13_init_28 : decode cX13_init 28 = .ok (.putfield 16, 3) := by decide +kernel
theorem dX13_init_31 : decode cX13_init 31 = .ok (.aload_n 0, 1) := by decide +kernel
theorem dX13_init_32 : decode cX13_init 32 = .ok (.sipush 201, 3) := by decide +kernel
theorem dX13_init_35 : decode cX13_init 35 = .ok (.newarray .int, 2) := by decide +kernel
theorem dX13_init_37 : decode cX13_init 37 = .ok (.putfield 19, 3) := by decide +kernel
theorem dX13_init_40 : decode cX13_init 40 = .ok (.aload_n 0, 1) := by decide +kernel
theorem dX13_init_41 : decode cX13_init 41 = .ok (.sipush 201, 3) := by decide +kernel
theorem dX13_init_44 : decode cX13_init 44 = .ok (.newarray .long, 2) := by decide +kernel
theorem dX13_init_46 : decode cX13_init 46 = .ok (.putfield 22, 3) := by decide +kernel
theorem dX13_init_49 : decode cX13_init 49 = .ok (.aload_n 0, 1) := by decide +kernel
theorem dX13_init_50 : decode cX13_init 50 = .ok (.sipush 201, 3) := by decide +kernel
theorem dX13_init_53 : decode cX13_init 53 = .ok (.newarray .long, 2) := by decide +kernel
theorem dX13_init_55 : decode cX13_init 55 = .ok (.putfield 26, 3) := by decide +kernel
theorem dX13_init_58 : decode cX13_init 58 = .ok (.aload_n 0, 1) := by decide +kernel
theorem dX13_init_59 : decode cX13_init 59 = .ok (.sipush 201, 3) := by decide +kernel
theorem dX13_init_62 : decode cX13_init 62 = .ok (.newarray .boolean, 2) := by decide +kernel
theorem dX13_init_64 : decode cX13_init 64 = .ok (.putfield 29, 3) := by decide +kernel
theorem dX13_init_67 : decode cX13_init 67 = .ok (.aload_n 0, 1) := by decide +kernel
theorem dX13_init_68 : decode cX13_init 68 = .ok (.sipush 201, 3) := by decide +kernel
theorem dX13_init_71 : decode cX13_init 71 = .ok (.newarray .boolean, 2) := by decide +kernel
theorem dX13_init_73 : decode cX13_init 73 = .ok (.putfield 33, 3) := by decide +kernel
theorem dX13_init_76 : decode cX13_init 76 = .ok (.aload_n 0, 1) := by decide +kernel
theorem dX13_init_77 : decode cX13_init 77 = .ok (.sipush 201, 3) := by decide +kernel
theorem dX13_init_80 : decode cX13_init 80 = .ok (.newarray .boolean, 2) := by decide +kernel
theorem dX13_init_82 : decode cX13_init 82 = .ok (.putfield 36, 3) := by decide +kernel
theorem dX13_init_85 : decode cX13_init 85 = .ok (.aload_n 0, 1) := by decide +kernel
theorem dX13_init_86 : decode cX13_init 86 = .ok (.sipush 401, 3) := by decide +kernel
theorem dX13_init_89 : decode cX13_init 89 = .ok (.newarray .int, 2) := by decide +kernel
theorem dX13_init_91 : decode cX13_init 91 = .ok (.putfield 39, 3) := by decide +kernel
theorem dX13_init_94 : decode cX13_init 94 = .ok (.aload_n 0, 1) := by decide +kernel
theorem dX13_init_95 : decode cX13_init 95 = .ok (.sipush 401, 3) := by decide +kernel
theorem dX13_init_98 : decode cX13_init 98 = .ok (.newarray .int, 2) := by decide +kernel
theorem dX13_init_100 : decode cX13_init 100 = .ok (.putfield 42, 3) := by decide +kernel
theorem dX13_init_103 : decode cX13_init 103 = .ok (.aload_n 0, 1) := by decide +kernel
theorem dX13_init_104 : decode cX13_init 104 = .ok (.sipush 401, 3) := by decide +kernel
theorem dX13_init_107 : decode cX13_init 107 = .ok (.newarray .int, 2) := by decide +kernel
theorem dX13_init_109 : decode cX13_init 109 = .ok (.putfield 45, 3) := by decide +kernel
theorem dX13_init_112 : decode cX13_init 112 = .ok (.aload_n 0, 1) := by decide +kernel
theorem dX13_init_113 : decode cX13_init 113 = .ok (.sipush 401, 3) := by decide +kernel
theorem dX13_init_116 : decode cX13_init 116 = .ok (.newarray .int, 2) := by decide +kernel
theorem dX13_init_118 : decode cX13_init 118 = .ok (.putfield 48, 3) := by decide +kernel
theorem dX13_init_121 : decode cX13_init 121 = .ok (.aload_n 0, 1) := by decide +kernel
theorem dX13_init_122 : decode cX13_init 122 = .ok (.sipush 401, 3) := by decide +kernel
theorem dX13_init_125 : decode cX13_init 125 = .ok (.newarray .boolean, 2) := by decide +kernel
theorem dX13_init_127 : decode cX13_init 127 = .ok (.putfield 51, 3) := by decide +kernel
theorem dX13_init_130 : decode cX13_init 130 = .ok (.aload_n 0, 1) := by decide +kernel
theorem dX13_init_131 : decode cX13_init 131 = .ok (.sipush 401, 3) := by decide +kernel
theorem dX13_init_134 : decode cX13_init 134 = .ok (.newarray .boolean, 2) := by decide +kernel
theorem dX13_init_136 : decode cX13_init 136 = .ok (.putfield 54, 3) := by decide +kernel
theorem dX13_init_139 : decode cX13_init 139 = .ok (.aload_n 0, 1) := by decide +kernel
theorem dX13_init_140 : decode cX13_init 140 = .ok (.sipush 401, 3) := by decide +kernel
theorem dX13_init_143 : decode cX13_init 143 = .ok (.newarray .boolean, 2) := by decide +kernel
theorem dX13_init_145 : decode cX13_init 145 = .ok (.putfield 57, 3) := by decide +kernel
theorem dX13_init_148 : decode cX13_init 148 = .ok (.aload_n 0, 1) := by decide +kernel
theorem dX13_init_149 : decode cX13_init 149 = .ok (.sipush 600, 3) := by decide +kernel
theorem dX13_init_152 : decode cX13_init 152 = .ok (.newarray .int, 2) := by decide +kernel
theorem dX13_init_154 : decode cX13_init 154 = .ok (.putfield 60, 3) := by decide +kernel
theorem dX13_init_157 : decode cX13_init 157 = .ok (.aload_n 0, 1) := by decide +kernel
theorem dX13_init_158 : decode cX13_init 158 = .ok (.sipush 600, 3) := by decide +kernel
theorem dX13_init_161 : decode cX13_init 161 = .ok (.newarray .int, 2) := by decide +kernel
theorem dX13_init_163 : decode cX13_init 163 = .ok (.putfield 63, 3) := by decide +kernel
theorem dX13_init_166 : decode cX13_init 166 = .ok (.aload_n 0, 1) := by decide +kernel
theorem dX13_init_167 : decode cX13_init 167 = .ok (.sipush 600, 3) := by decide +kernel
theorem dX13_init_170 : decode cX13_init 170 = .ok (.newarray .int, 2) := by decide +kernel
theorem dX13_init_172 : decode cX13_init 172 = .ok (.putfield 66, 3) := by decide +kernel
theorem dX13_init_175 : decode cX13_init 175 = .ok (.aload_n 0, 1) := by decide +kernel
theorem dX13_init_176 : decode cX13_init 176 = .ok (.sipush 600, 3) := by decide +kernel
theorem dX13_init_179 : decode cX13_init 179 = .ok (.newarray .long, 2) := by decide +kernel
theorem dX13_init_181 : decode cX13_init 181 = .ok (.putfield 69, 3) := by decide +kernel
theorem dX13_init_184 : decode cX13_init 184 = .ok (.aload_n 0, 1) := by decide +kernel
theorem dX13_init_185 : decode cX13_init 185 = .ok (.bipush 32, 2) := by decide +kernel
theorem dX13_init_187 : decode cX13_init 187 = .ok (.newarray .long, 2) := by decide +kernel
theorem dX13_init_189 : decode cX13_init 189 = .ok (.putfield 72, 3) := by decide +kernel
theorem dX13_init_192 : decode cX13_init 192 = .ok (.aload_n 0, 1) := by decide +kernel
theorem dX13_init_193 : decode cX13_init 193 = .ok (.sipush 1500, 3) := by decide +kernel
theorem dX13_init_196 : decode cX13_init 196 = .ok (.newarray .int, 2) := by decide +kernel
theorem dX13_init_198 : decode cX13_init 198 = .ok (.putfield 75, 3) := by decide +kernel
theorem dX13_init_201 : decode cX13_init 201 = .ok (.aload_n 0, 1) := by decide +kernel
theorem dX13_init_202 : decode cX13_init 202 = .ok (.sipush 400, 3) := by decide +kernel
theorem dX13_init_205 : decode cX13_init 205 = .ok (.newarray .int, 2) := by decide +kernel
theorem dX13_init_207 : decode cX13_init 207 = .ok (.putfield 78, 3) := by decide +kernel
theorem dX13_init_210 : decode cX13_init 210 = .ok (.aload_n 0, 1) := by decide +kernel
theorem dX13_init_211 : decode cX13_init 211 = .ok (.sipush 400, 3) := by decide +kernel
theorem dX13_init_214 : decode cX13_init 214 = .ok (.newarray .int, 2) := by decide +kernel
theorem dX13_init_216 : decode cX13_init 216 = .ok (.putfield 81, 3) := by decide +kernel
theorem dX13_init_219 : decode cX13_init 219 = .ok (.aload_n 0, 1) := by decide +kernel
theorem dX13_init_220 : decode cX13_init 220 = .ok (.sipush 201, 3) := by decide +kernel
theorem dX13_init_223 : decode cX13_init 223 = .ok (.newarray .boolean, 2) := by decide +kernel
theorem dX13_init_225 : decode cX13_init 225 = .ok (.putfield 84, 3) := by decide +kernel
theorem dX13_init_228 : decode cX13_init 228 = .ok (.aload_n 0, 1) := by decide +kernel
theorem dX13_init_229 : decode cX13_init 229 = .ok (.sipush 201, 3) := by decide +kernel
theorem dX13_init_232 : decode cX13_init 232 = .ok (.newarray .boolean, 2) := by decide +kernel
theorem dX13_init_234 : decode cX13_init 234 = .ok (.putfield 87, 3) := by decide +kernel
theorem dX13_init_237 : decode cX13_init 237 = .ok (.aload_n 0, 1) := by decide +kernel
theorem dX13_init_238 : decode cX13_init 238 = .ok (.sipush 201, 3) := by decide +kernel
theorem dX13_init_241 : decode cX13_init 241 = .ok (.newarray .boolean, 2) := by decide +kernel
theorem dX13_init_243 : decode cX13_init 243 = .ok (.putfield 90, 3) := by decide +kernel
theorem dX13_init_246 : decode cX13_init 246 = .ok (.aload_n 0, 1) := by decide +kernel
theorem dX13_init_247 : decode cX13_init 247 = .ok (.sipush 201, 3) := by decide +kernel
theorem dX13_init_250 : decode cX13_init 250 = .ok (.newarray .boolean, 2) := by decide +kernel
theorem dX13_init_252 : decode cX13_init 252 = .ok (.putfield 93, 3) := by decide +kernel
theorem dX13_init_255 : decode cX13_init 255 = .ok (.aload_n 0, 1) := by decide +kernel
theorem dX13_init_256 : decode cX13_init 256 = .ok (.sipush 201, 3) := by decide +kernel
theorem dX13_init_259 : decode cX13_init 259 = .ok (.newarray .boolean, 2) := by decide +kernel
theorem dX13_init_261 : decode cX13_init 261 = .ok (.putfield 96, 3) := by decide +kernel
theorem dX13_init_264 : decode cX13_init 264 = .ok (.return_, 1) := by decide +kernel
theorem cwX13_init : mw_cw yX13_init cX13_init 1 none 0 := ⟨wd_20, wd_2640, by decide +kernel⟩
noncomputable def DX13_init (fu : Nat) (k : Nat) (F : mwF) (M : mwM) (L : mwL) : Option (mwF × mwM × mwL) :=
  mlet (mz 0 M (k + 1)) (fun M1 => mlet (mset F k 3 (some (k + 1))) (fun F2 => mlet (mz 0 M1 (k + 2)) (fun M3 => mlet (mset F2 k 4 (some (k + 2))) (fun F4 => mlet (mz 0 M3 (k + 3)) (fun M5 => mlet (mset F4 k 5 (some (k + 3))) (fun F6 => mlet (mz 0 M5 (k + 4)) (fun M7 => mlet (mset F6 k 6 (some (k + 4))) (fun F8 => mlet (mz 0 L (k + 5)) (fun L9 => mlet (mset F8 k 7 (some (k + 5))) (fun F10 => mlet (mz 0 L9 (k + 6)) (fun L11 => mlet (mset F10 k 8 (some (k + 6))) (fun F12 => mlet (mz 0 M7 (k + 7)) (fun M13 => mlet (mset F12 k 9 (some (k + 7))) (fun F14 => mlet (mz 0 M13 (k + 8)) (fun M15 => mlet (mset F14 k 10 (some (k + 8))) (fun F16 => mlet (mz 0 M15 (k + 9)) (fun M17 => mlet (mset F16 k 11 (some (k + 9))) (fun F18 => mlet (mz 0 M17 (k + 10)) (fun M19 => mlet (mset F18 k 13 (some (k + 10))) (fun F20 => mlet (mz 0 M19 (k + 11)) (fun M21 => mlet (mset F20 k 14 (some (k + 11))) (fun F22 => mlet (mz 0 M21 (k + 12)) (fun M23 => mlet (mset F22 k 15 (some (k + 12))) (fun F24 => mlet (mz 0 M23 (k + 13)) (fun M25 => mlet (mset F24 k 16 (some (k + 13))) (fun F26 => mlet (mz 0 M25 (k + 14)) (fun M27 => mlet (mset F26 k 17 (some (k + 14))) (fun F28 => mlet (mz 0 M27 (k + 15)) (fun M29 => mlet (mset F28 k 18 (some (k + 15))) (fun F30 => mlet (mz 0 M29 (k + 16)) (fun M31 => mlet (mset F30 k 19 (some (k + 16))) (fun F32 => mlet (mz 0 M31 (k + 17)) (fun M33 => mlet (mset F32 k 21 (some (k + 17))) (fun F34 => mlet (mz 0 M33 (k + 18)) (fun M35 => mlet (mset F34 k 22 (some (k + 18))) (fun F36 => mlet (mz 0 M35 (k + 19)) (fun M37 => mlet (mset F36 k 23 (some (k + 19))) (fun F38 => mlet (mz 0 L11 (k + 20)) (fun L39 => mlet (mset F38 k 24 (some (k + 20))) (fun F40 => mlet (mz 0 L39 (k + 21)) (fun L41 => mlet (mset F40 k 25 (some (k + 21))) (fun F42 => mlet (mz 0 M37 (k + 22)) (fun M43 => mlet (mset F42 k 32 (some (k + 22))) (fun F44 => mlet (mz 0 M43 (k + 23)) (fun M45 => mlet (mset F44 k 34 (some (k + 23))) (fun F46 => mlet (mz 0 M45 (k + 24)) (fun M47 => mlet (mset F46 k 36 (some (k + 24))) (fun F48 => mlet (mz 0 M47 (k + 25)) (fun M49 => mlet (mset F48 k 37 (some (k + 25))) (fun F50 => mlet (mz 0 M49 (k + 26)) (fun M51 => mlet (mset F50 k 38 (some (k + 26))) (fun F52 => mlet (mz 0 M51 (k + 27)) (fun M53 => mlet (mset F52 k 39 (some (k + 27))) (fun F54 => mlet (mz 0 M53 (k + 28)) (fun M55 => mlet (mset F54 k 40 (some (k + 28))) (fun F56 => mlet (mz 0 M55 (k + 29)) (fun M57 => mlet (mset F56 k 41 (some (k + 29))) (fun F58 => some (F58, M57, L41)))))))))))))))))))))))))))))))))))))))))))))))))))))))))))
set_option maxHeartbeats 4000000 in
theorem kX13_init {fu : Nat} {k : Nat} {F : mwF} {M : mwM} {L : mwL} {F9 : mwF} {M9 : mwM} {L9 : mwL} (hD : DX13_init fu k F M L = some (F9, M9, L9)) : ∀ a j, (a < k ∨ (k + 30) ≤ a) → F9 a j = F a j := by
  intro a j ha
  unfold DX13_init at hD
  obtain ⟨M1, eM1, hD⟩ := g_let hD
  obtain ⟨F2, eF2, hD⟩ := g_let hD
  obtain ⟨M3, eM3, hD⟩ := g_let hD
  obtain ⟨F4, eF4, hD⟩ := g_let hD
  obtain ⟨M5, eM5, hD⟩ := g_let hD
  obtain ⟨F6, eF6, hD⟩ := g_let hD
  obtain ⟨M7, eM7, hD⟩ := g_let hD
  obtain ⟨F8, eF8, hD⟩ := g_let hD
  obtain ⟨L9, eL9, hD⟩ := g_let hD
  obtain ⟨F10, eF10, hD⟩ := g_let hD
  obtain ⟨L11, eL11, hD⟩ := g_let hD
  obtain ⟨F12, eF12, hD⟩ := g_let hD
  obtain ⟨M13, eM13, hD⟩ := g_let hD
  obtain ⟨F14, eF14, hD⟩ := g_let hD
  obtain ⟨M15, eM15, hD⟩ := g_let hD
  obtain ⟨F16, eF16, hD⟩ := g_let hD
  obtain ⟨M17, eM17, hD⟩ := g_let hD
  obtain ⟨F18, eF18, hD⟩ := g_let hD
  obtain ⟨M19, eM19, hD⟩ := g_let hD
  obtain ⟨F20, eF20, hD⟩ := g_let hD
  obtain ⟨M21, eM21, hD⟩ := g_let hD
  obtain ⟨F22, eF22, hD⟩ := g_let hD
  obtain ⟨M23, eM23, hD⟩ := g_let hD
  obtain ⟨F24, eF24, hD⟩ := g_let hD
  obtain ⟨M25, eM25, hD⟩ := g_let hD
  obtain ⟨F26, eF26, hD⟩ := g_let hD
  obtain ⟨M27, eM27, hD⟩ := g_let hD
  obtain ⟨F28, eF28, hD⟩ := g_let hD
  obtain ⟨M29, eM29, hD⟩ := g_let hD
  obtain ⟨F30, eF30, hD⟩ := g_let hD
  obtain ⟨M31, eM31, hD⟩ := g_let hD
  obtain ⟨F32, eF32, hD⟩ := g_let hD
  obtain ⟨M33, eM33, hD⟩ := g_let hD
  obtain ⟨F34, eF34, hD⟩ := g_let hD
  obtain ⟨M35, eM35, hD⟩ := g_let hD
  obtain ⟨F36, eF36, hD⟩ := g_let hD
  obtain ⟨M37, eM37, hD⟩ := g_let hD
  obtain ⟨F38, eF38, hD⟩ := g_let hD
  obtain ⟨L39, eL39, hD⟩ := g_let hD
  obtain ⟨F40, eF40, hD⟩ := g_let hD
  obtain ⟨L41, eL41, hD⟩ := g_let hD
  obtain ⟨F42, eF42, hD⟩ := g_let hD
  obtain ⟨M43, eM43, hD⟩ := g_let hD
  obtain ⟨F44, eF44, hD⟩ := g_let hD
  obtain ⟨M45, eM45, hD⟩ := g_let hD
  obtain ⟨F46, eF46, hD⟩ := g_let hD
  obtain ⟨M47, eM47, hD⟩ := g_let hD
  obtain ⟨F48, eF48, hD⟩ := g_let hD
  obtain ⟨M49, eM49, hD⟩ := g_let hD
  obtain ⟨F50, eF50, hD⟩ := g_let hD
  obtain ⟨M51, eM51, hD⟩ := g_let hD
  obtain ⟨F52, eF52, hD⟩ := g_let hD
  obtain ⟨M53, eM53, hD⟩ := g_let hD
  obtain ⟨F54, eF54, hD⟩ := g_let hD
  obtain ⟨M55, eM55, hD⟩ := g_let hD
  obtain ⟨F56, eF56, hD⟩ := g_let hD
  obtain ⟨M57, eM57, hD⟩ := g_let hD
  obtain ⟨F58, eF58, hD⟩ := g_let hD
  have hf := congrArg (fun q => q.1) (Option.some.inj hD)
  dsimp only at hf
  rw [← hf]
  rw [eF58, mset_k (by omega)]
  rw [eF56, mset_k (by omega)]
  rw [eF54, mset_k (by omega)]
  rw [eF52, mset_k (by omega)]
  rw [eF50, mset_k (by omega)]
  rw [eF48, mset_k (by omega)]
  rw [eF46, mset_k (by omega)]
  rw [eF44, mset_k (by omega)]
  rw [eF42, mset_k (by omega)]
  rw [eF40, mset_k (by omega)]
  rw [eF38, mset_k (by omega)]
  rw [eF36, mset_k (by omega)]
  rw [eF34, mset_k (by omega)]
  rw [eF32, mset_k (by omega)]
  rw [eF30, mset_k (by omega)]
  rw [eF28, mset_k (by omega)]
  rw [eF26, mset_k (by omega)]
  rw [eF24, mset_k (by omega)]
  rw [eF22, mset_k (by omega)]
  rw [eF20, mset_k (by omega)]
  rw [eF18, mset_k (by omega)]
  rw [eF16, mset_k (by omega)]
  rw [eF14, mset_k (by omega)]
  rw [eF12, mset_k (by omega)]
  rw [eF10, mset_k (by omega)]
  rw [eF8, mset_k (by omega)]
  rw [eF6, mset_k (by omega)]
  rw [eF4, mset_k (by omega)]
  rw [eF2, mset_k (by omega)]
set_option maxHeartbeats 4000000 in
set_option maxRecDepth 100000 in
theorem tX13_init (l : Launch) (G : mwG) (fu : Nat) (k : Nat) (F : mwF) (M : mwM) (L : mwL) {F9 : mwF} {M9 : mwM} {L9 : mwL} (hD : DX13_init fu k F M L = some (F9, M9, L9)) (hk0 : isMc k) : Met l yX13_init (Cond.code yX13_init cX13_init 1 none :: GT) ({ frames := 1, cells := 29, slots := 10353, locals := 20 }) (mw_PreC G (k + 1) F M L [.ref (mw_ad G k)]) (mw_QC G (k + 30) F9 M9 L9) 29 10353 (mw_fr G) := by
  refine mw_enterC (by decide) (Nat.le_of_ble_eq_true rfl) ?_
  intro p e s m below meth c ls C A hr hlocks hnm hw hs0 hl
  have hl : lv_has ls 1 [(0, .ref (mw_ad G k))] := hl
  unfold DX13_init at hD
  refine lv_aload_n C.1.1 C.1.2.1 dX13_init_0 rfl (lv_at hl 0 rfl) ?_
  refine W.objInit C.1.1 C.1.2.1 C.1.2.2.2.1 (C.1.2.2.2.2 _ wd_2641) (C.1.2.2.2.2 _ wd_39) (C.1.2.2.2.2 _ wd_40) rfl (by rw [C.1.2.2.1]; exact hl.1) rfl dX13_init_1 (Nat.le_of_ble_eq_true rfl) (Nat.le_of_ble_eq_true rfl) ?_
  refine W.eq (g2 := F0 m 4 ls []) rfl ?_
  refine lv_aload_n C.1.1 C.1.2.1 dX13_init_4 rfl (lv_at hl 0 rfl) ?_
  refine lv_sipush (v := 201) C.1.1 C.1.2.1 dX13_init_5 (by decide) ?_
  refine mw_size hw (by omega) (fun hs => ?_)
  obtain ⟨M1, eM1, hD⟩ := g_let hD
  refine mr_newI (atype := .int) (t := 0) (n := 201) C hw hs (Mc_T1 hk0) (by decide) rfl wd_91 rfl (fun _ => rfl) (by decide) (by decide) (by decide) (Nat.le_of_ble_eq_true rfl) (Nat.le_of_ble_eq_true rfl) dX13_init_8 (fun H hw _ => ?_)
  replace hw : mw_W G (mw_ad G) (k + 2) TF F M1 L H [] := by rw [eM1]; exact hw
  refine W.widen (k := 1) (n := 201) (Nat.le_of_ble_eq_true rfl) (Nat.le_of_ble_eq_true rfl) ?_
  obtain ⟨F2, eF2, hD⟩ := g_let hD
  refine mr_putFR C hw kc_13 3 (by omega) (Mc_T0 hk0) wd_2645 dX13_init_10 (by decide) rfl rfl hnm rfl rfl rfl (fun H locs hw => ?_)
  replace hw : mw_W G (mw_ad G) (k + 2) TF F2 M1 L H locs := by rw [eF2]; exact hw
  refine lv_aload_n C.1.1 C.1.2.1 dX13_init_13 rfl (lv_at hl 0 rfl) ?_
  refine lv_sipush (v := 201) C.1.1 C.1.2.1 dX13_init_14 (by decide) ?_
  refine mw_size hw (by omega) (fun hs => ?_)
  obtain ⟨M3, eM3, hD⟩ := g_let hD
  refine mr_newI (atype := .int) (t := 0) (n := 201) C hw hs (Mc_T2 hk0) (by decide) rfl wd_91 rfl (fun _ => rfl) (by decide) (by decide) (by decide) (Nat.le_of_ble_eq_true rfl) (Nat.le_of_ble_eq_true rfl) dX13_init_17 (fun H hw _ => ?_)
  replace hw : mw_W G (mw_ad G) (k + 3) TF F2 M3 L H locs := by rw [eM3]; exact hw
  refine W.widen (k := 2) (n := 402) (Nat.le_of_ble_eq_true rfl) (Nat.le_of_ble_eq_true rfl) ?_
  obtain ⟨F4, eF4, hD⟩ := g_let hD
  refine mr_putFR C hw kc_13 4 (by omega) (Mc_T0 hk0) wd_2646 dX13_init_19 (by decide) rfl rfl hnm rfl rfl rfl (fun H locs hw => ?_)
  replace hw : mw_W G (mw_ad G) (k + 3) TF F4 M3 L H locs := by rw [eF4]; exact hw
  refine lv_aload_n C.1.1 C.1.2.1 dX13_init_22 rfl (lv_at hl 0 rfl) ?_
  refine lv_sipush (v := 201) C.1.1 C.1.2.1 dX13_init_23 (by decide) ?_
  refine mw_size hw (by omega) (fun hs => ?_)
  obtain ⟨M5, eM5, hD⟩ := g_let hD
  refine mr_newI (atype := .int) (t := 0) (n := 201) C hw hs (Mc_T3 hk0) (by decide) rfl wd_91 rfl (fun _ => rfl) (by decide) (by decide) (by decide) (Nat.le_of_ble_eq_true rfl) (Nat.le_of_ble_eq_true rfl) dX13_init_26 (fun H hw _ => ?_)
  replace hw : mw_W G (mw_ad G) (k + 4) TF F4 M5 L H locs := by rw [eM5]; exact hw
  refine W.widen (k := 3) (n := 603) (Nat.le_of_ble_eq_true rfl) (Nat.le_of_ble_eq_true rfl) ?_
  obtain ⟨F6, eF6, hD⟩ := g_let hD
  refine mr_putFR C hw kc_13 5 (by omega) (Mc_T0 hk0) wd_2647 dX13_init_28 (by decide) rfl rfl hnm rfl rfl rfl (fun H locs hw => ?_)
  replace hw : mw_W G (mw_ad G) (k + 4) TF F6 M5 L H locs := by rw [eF6]; exact hw
  refine lv_aload_n C.1.1 C.1.2.1 dX13_init_31 rfl (lv_at hl 0 rfl) ?_
  refine lv_sipush (v := 201) C.1.1 C.1.2.1 dX13_init_32 (by decide) ?_
  refine mw_size hw (by omega) (fun hs => ?_)
  obtain ⟨M7, eM7, hD⟩ := g_let hD
  refine mr_newI (atype := .int) (t := 0) (n := 201) C hw hs (Mc_T4 hk0) (by decide) rfl wd_91 rfl (fun _ => rfl) (by decide) (by decide) (by decide) (Nat.le_of_ble_eq_true rfl) (Nat.le_of_ble_eq_true rfl) dX13_init_35 (fun H hw _ => ?_)
  replace hw : mw_W G (mw_ad G) (k + 5) TF F6 M7 L H locs := by rw [eM7]; exact hw
  refine W.widen (k := 4) (n := 804) (Nat.le_of_ble_eq_true rfl) (Nat.le_of_ble_eq_true rfl) ?_
  obtain ⟨F8, eF8, hD⟩ := g_let hD
  refine mr_putFR C hw kc_13 6 (by omega) (Mc_T0 hk0) wd_2648 dX13_init_37 (by decide) rfl rfl hnm rfl rfl rfl (fun H locs hw => ?_)
  replace hw : mw_W G (mw_ad G) (k + 5) TF F8 M7 L H locs := by rw [eF8]; exact hw
  refine lv_aload_n C.1.1 C.1.2.1 dX13_init_40 rfl (lv_at hl 0 rfl) ?_
  refine lv_sipush (v := 201) C.1.1 C.1.2.1 dX13_init_41 (by decide) ?_
  refine mw_size hw (by omega) (fun hs => ?_)
  obtain ⟨L9, eL9, hD⟩ := g_let hD
  refine mr_newL (n := 201) C hw hs (Mc_T5 hk0) wd_509 (by decide) (by decide) (by decide) (Nat.le_of_ble_eq_true rfl) (Nat.le_of_ble_eq_true rfl) dX13_init_44 (fun H hw _ => ?_)
  replace hw : mw_W G (mw_ad G) (k + 6) TF F8 M7 L9 H locs := by rw [eL9]; exact hw
  refine W.widen (k := 5) (n := 1005) (Nat.le_of_ble_eq_true rfl) (Nat.le_of_ble_eq_true rfl) ?_
  obtain ⟨F10, eF10, hD⟩ := g_let hD
  refine mr_putFR C hw kc_13 7 (by omega) (Mc_T0 hk0) wd_2649 dX13_init_46 (by decide) rfl rfl hnm rfl rfl rfl (fun H locs hw => ?_)
  replace hw : mw_W G (mw_ad G) (k + 6) TF F10 M7 L9 H locs := by rw [eF10]; exact hw
  refine lv_aload_n C.1.1 C.1.2.1 dX13_init_49 rfl (lv_at hl 0 rfl) ?_
  refine lv_sipush (v := 201) C.1.1 C.1.2.1 dX13_init_50 (by decide) ?_
  refine mw_size hw (by omega) (fun hs => ?_)
  obtain ⟨L11, eL11, hD⟩ := g_let hD
  refine mr_newL (n := 201) C hw hs (Mc_T6 hk0) wd_509 (by decide) (by decide) (by decide) (Nat.le_of_ble_eq_true rfl) (Nat.le_of_ble_eq_true rfl) dX13_init_53 (fun H hw _ => ?_)
  replace hw : mw_W G (mw_ad G) (k + 7) TF F10 M7 L11 H locs := by rw [eL11]; exact hw
  refine W.widen (k := 6) (n := 1206) (Nat.le_of_ble_eq_true rfl) (Nat.le_of_ble_eq_true rfl) ?_
  obtain ⟨F12, eF12, hD⟩ := g_let hD
  refine mr_putFR C hw kc_13 8 (by omega) (Mc_T0 hk0) wd_2650 dX13_init_55 (by decide) rfl rfl hnm rfl rfl rfl (fun H locs hw => ?_)
  replace hw : mw_W G (mw_ad G) (k + 7) TF F12 M7 L11 H locs := by rw [eF12]; exact hw
  refine lv_aload_n C.1.1 C.1.2.1 dX13_init_58 rfl (lv_at hl 0 rfl) ?_
  refine lv_sipush (v := 201) C.1.1 C.1.2.1 dX13_init_59 (by decide) ?_
  refine mw_size hw (by omega) (fun hs => ?_)
  obtain ⟨M13, eM13, hD⟩ := g_let hD
  refine mr_newI (atype := .boolean) (t := 2) (n := 201) C hw hs (Mc_T7 hk0) (by decide) rfl wd_320 rfl (fun _ => rfl) (by decide) (by decide) (by decide) (Nat.le_of_ble_eq_true rfl) (Nat.le_of_ble_eq_true rfl) dX13_init_62 (fun H hw _ => ?_)
  replace hw : mw_W G (mw_ad G) (k + 8) TF F12 M13 L11 H locs := by rw [eM13]; exact hw
  refine W.widen (k := 7) (n := 1407) (Nat.le_of_ble_eq_true rfl) (Nat.le_of_ble_eq_true rfl) ?_
  obtain ⟨F14, eF14, hD⟩ := g_let hD
  refine mr_putFR C hw kc_13 9 (by omega) (Mc_T0 hk0) wd_2651 dX13_init_64 (by decide) rfl rfl hnm rfl rfl rfl (fun H locs hw => ?_)
  replace hw : mw_W G (mw_ad G) (k + 8) TF F14 M13 L11 H locs := by rw [eF14]; exact hw
  refine lv_aload_n C.1.1 C.1.2.1 dX13_init_67 rfl (lv_at hl 0 rfl) ?_
  refine lv_sipush (v := 201) C.1.1 C.1.2.1 dX13_init_68 (by decide) ?_
  refine mw_size hw (by omega) (fun hs => ?_)
  obtain ⟨M15, eM15, hD⟩ := g_let hD
  refine mr_newI (atype := .boolean) (t := 2) (n := 201) C hw hs (Mc_T8 hk0) (by decide) rfl wd_320 rfl (fun _ => rfl) (by decide) (by decide) (by decide) (Nat.le_of_ble_eq_true rfl) (Nat.le_of_ble_eq_true rfl) dX13_init_71 (fun H hw _ => ?_)
  replace hw : mw_W G (mw_ad G) (k + 9) TF F14 M15 L11 H locs := by rw [eM15]; exact hw
  refine W.widen (k := 8) (n := 1608) (Nat.le_of_ble_eq_true rfl) (Nat.le_of_ble_eq_true rfl) ?_
  obtain ⟨F16, eF16, hD⟩ := g_let hD
  refine mr_putFR C hw kc_13 10 (by omega) (Mc_T0 hk0) wd_2652 dX13_init_73 (by decide) rfl rfl hnm rfl rfl rfl (fun H locs hw => ?_)
  replace hw : mw_W G (mw_ad G) (k + 9) TF F16 M15 L11 H locs := by rw [eF16]; exact hw
  refine lv_aload_n C.1.1 C.1.2.1 dX13_init_76 rfl (lv_at hl 0 rfl) ?_
  refine lv_sipush (v := 201) C.1.1 C.1.2.1 dX13_init_77 (by decide) ?_
  refine mw_size hw (by omega) (fun hs => ?_)
  obtain ⟨M17, eM17, hD⟩ := g_let hD
  refine mr_newI (atype := .boolean) (t := 2) (n := 201) C hw hs (Mc_T9 hk0) (by decide) rfl wd_320 rfl (fun _ => rfl) (by decide) (by decide) (by decide) (Nat.le_of_ble_eq_true rfl) (Nat.le_of_ble_eq_true rfl) dX13_init_80 (fun H hw _ => ?_)
  replace hw : mw_W G (mw_ad G) (k + 10) TF F16 M17 L11 H locs := by rw [eM17]; exact hw
  refine W.widen (k := 9) (n := 1809) (Nat.le_of_ble_eq_true rfl) (Nat.le_of_ble_eq_true rfl) ?_
  obtain ⟨F18, eF18, hD⟩ := g_let hD
  refine mr_putFR C hw kc_13 11 (by omega) (Mc_T0 hk0) wd_2653 dX13_init_82 (by decide) rfl rfl hnm rfl rfl rfl (fun H locs hw => ?_)
  replace hw : mw_W G (mw_ad G) (k + 10) TF F18 M17 L11 H locs := by rw [eF18]; exact hw
  refine lv_aload_n C.1.1 C.1.2.1 dX13_init_85 rfl (lv_at hl 0 rfl) ?_
  refine lv_sipush (v := 401) C.1.1 C.1.2.1 dX13_init_86 (by decide) ?_
  refine mw_size hw (by omega) (fun hs => ?_)
  obtain ⟨M19, eM19, hD⟩ := g_let hD
  refine mr_newI (atype := .int) (t := 0) (n := 401) C hw hs (Mc_T10 hk0) (by decide) rfl wd_91 rfl (fun _ => rfl) (by decide) (by decide) (by decide) (Nat.le_of_ble_eq_true rfl) (Nat.le_of_ble_eq_true rfl) dX13_init_89 (fun H hw _ => ?_)
  replace hw : mw_W G (mw_ad G) (k + 11) TF F18 M19 L11 H locs := by rw [eM19]; exact hw
  refine W.widen (k := 10) (n := 2210) (Nat.le_of_ble_eq_true rfl) (Nat.le_of_ble_eq_true rfl) ?_
  obtain ⟨F20, eF20, hD⟩ := g_let hD
  refine mr_putFR C hw kc_13 13 (by omega) (Mc_T0 hk0) wd_2655 dX13_init_91 (by decide) rfl rfl hnm rfl rfl rfl (fun H locs hw => ?_)
  replace hw : mw_W G (mw_ad G) (k + 11) TF F20 M19 L11 H locs := by rw [eF20]; exact hw
  refine lv_aload_n C.1.1 C.1.2.1 dX13_init_94 rfl (lv_at hl 0 rfl) ?_
  refine lv_sipush (v := 401) C.1.1 C.1.2.1 dX13_init_95 (by decide) ?_
  refine mw_size hw (by omega) (fun hs => ?_)
  obtain ⟨M21, eM21, hD⟩ := g_let hD
  refine mr_newI (atype := .int) (t := 0) (n := 401) C hw hs (Mc_T11 hk0) (by decide) rfl wd_91 rfl (fun _ => rfl) (by decide) (by decide) (by decide) (Nat.le_of_ble_eq_true rfl) (Nat.le_of_ble_eq_true rfl) dX13_init_98 (fun H hw _ => ?_)
  replace hw : mw_W G (mw_ad G) (k + 12) TF F20 M21 L11 H locs := by rw [eM21]; exact hw
  refine W.widen (k := 11) (n := 2611) (Nat.le_of_ble_eq_true rfl) (Nat.le_of_ble_eq_true rfl) ?_
  obtain ⟨F22, eF22, hD⟩ := g_let hD
  refine mr_putFR C hw kc_13 14 (by omega) (Mc_T0 hk0) wd_2656 dX13_init_100 (by decide) rfl rfl hnm rfl rfl rfl (fun H locs hw => ?_)
  replace hw : mw_W G (mw_ad G) (k + 12) TF F22 M21 L11 H locs := by rw [eF22]; exact hw
  refine lv_aload_n C.1.1 C.1.2.1 dX13_init_103 rfl (lv_at hl 0 rfl) ?_
  refine lv_sipush (v := 401) C.1.1 C.1.2.1 dX13_init_104 (by decide) ?_
  refine mw_size hw (by omega) (fun hs => ?_)
  obtain ⟨M23, eM23, hD⟩ := g_let hD
  refine mr_newI (atype := .int) (t := 0) (n := 401) C hw hs (Mc_T12 hk0) (by decide) rfl wd_91 rfl (fun _ => rfl) (by decide) (by decide) (by decide) (Nat.le_of_ble_eq_true rfl) (Nat.le_of_ble_eq_true rfl) dX13_init_107 (fun H hw _ => ?_)
  replace hw : mw_W G (mw_ad G) (k + 13) TF F22 M23 L11 H locs := by rw [eM23]; exact hw
  refine W.widen (k := 12) (n := 3012) (Nat.le_of_ble_eq_true rfl) (Nat.le_of_ble_eq_true rfl) ?_
  obtain ⟨F24, eF24, hD⟩ := g_let hD
  refine mr_putFR C hw kc_13 15 (by omega) (Mc_T0 hk0) wd_2657 dX13_init_109 (by decide) rfl rfl hnm rfl rfl rfl (fun H locs hw => ?_)
  replace hw : mw_W G (mw_ad G) (k + 13) TF F24 M23 L11 H locs := by rw [eF24]; exact hw
  refine lv_aload_n C.1.1 C.1.2.1 dX13_init_112 rfl (lv_at hl 0 rfl) ?_
  refine lv_sipush (v := 401) C.1.1 C.1.2.1 dX13_init_113 (by decide) ?_
  refine mw_size hw (by omega) (fun hs => ?_)
  obtain ⟨M25, eM25, hD⟩ := g_let hD
  refine mr_newI (atype := .int) (t := 0) (n := 401) C hw hs (Mc_T13 hk0) (by decide) rfl wd_91 rfl (fun _ => rfl) (by decide) (by decide) (by decide) (Nat.le_of_ble_eq_true rfl) (Nat.le_of_ble_eq_true rfl) dX13_init_116 (fun H hw _ => ?_)
  replace hw : mw_W G (mw_ad G) (k + 14) TF F24 M25 L11 H locs := by rw [eM25]; exact hw
  refine W.widen (k := 13) (n := 3413) (Nat.le_of_ble_eq_true rfl) (Nat.le_of_ble_eq_true rfl) ?_
  obtain ⟨F26, eF26, hD⟩ := g_let hD
  refine mr_putFR C hw kc_13 16 (by omega) (Mc_T0 hk0) wd_2658 dX13_init_118 (by decide) rfl rfl hnm rfl rfl rfl (fun H locs hw => ?_)
  replace hw : mw_W G (mw_ad G) (k + 14) TF F26 M25 L11 H locs := by rw [eF26]; exact hw
  refine lv_aload_n C.1.1 C.1.2.1 dX13_init_121 rfl (lv_at hl 0 rfl) ?_
  refine lv_sipush (v := 401) C.1.1 C.1.2.1 dX13_init_122 (by decide) ?_
  refine mw_size hw (by omega) (fun hs => ?_)
  obtain ⟨M27, eM27, hD⟩ := g_let hD
  refine mr_newI (atype := .boolean) (t := 2) (n := 401) C hw hs (Mc_T14 hk0) (by decide) rfl wd_320 rfl (fun _ => rfl) (by decide) (by decide) (by decide) (Nat.le_of_ble_eq_true rfl) (Nat.le_of_ble_eq_true rfl) dX13_init_125 (fun H hw _ => ?_)
  replace hw : mw_W G (mw_ad G) (k + 15) TF F26 M27 L11 H locs := by rw [eM27]; exact hw
  refine W.widen (k := 14) (n := 3814) (Nat.le_of_ble_eq_true rfl) (Nat.le_of_ble_eq_true rfl) ?_
  obtain ⟨F28, eF28, hD⟩ := g_let hD
  refine mr_putFR C hw kc_13 17 (by omega) (Mc_T0 hk0) wd_2659 dX13_init_127 (by decide) rfl rfl hnm rfl rfl rfl (fun H locs hw => ?_)
  replace hw : mw_W G (mw_ad G) (k + 15) TF F28 M27 L11 H locs := by rw [eF28]; exact hw
  refine lv_aload_n C.1.1 C.1.2.1 dX13_init_130 rfl (lv_at hl 0 rfl) ?_
  refine lv_sipush (v := 401) C.1.1 C.1.2.1 dX13_init_131 (by decide) ?_
  refine mw_size hw (by omega) (fun hs => ?_)
  obtain ⟨M29, eM29, hD⟩ := g_let hD
  refine mr_newI (atype := .boolean) (t := 2) (n := 401) C hw hs (Mc_T15 hk0) (by decide) rfl wd_320 rfl (fun _ => rfl) (by decide) (by decide) (by decide) (Nat.le_of_ble_eq_true rfl) (Nat.le_of_ble_eq_true rfl) dX13_init_134 (fun H hw _ => ?_)
  replace hw : mw_W G (mw_ad G) (k + 16) TF F28 M29 L11 H locs := by rw [eM29]; exact hw
  refine W.widen (k := 15) (n := 4215) (Nat.le_of_ble_eq_true rfl) (Nat.le_of_ble_eq_true rfl) ?_
  obtain ⟨F30, eF30, hD⟩ := g_let hD
  refine mr_putFR C hw kc_13 18 (by omega) (Mc_T0 hk0) wd_2660 dX13_init_136 (by decide) rfl rfl hnm rfl rfl rfl (fun H locs hw => ?_)
  replace hw : mw_W G (mw_ad G) (k + 16) TF F30 M29 L11 H locs := by rw [eF30]; exact hw
  refine lv_aload_n C.1.1 C.1.2.1 dX13_init_139 rfl (lv_at hl 0 rfl) ?_
  refine lv_sipush (v := 401) C.1.1 C.1.2.1 dX13_init_140 (by decide) ?_
  refine mw_size hw (by omega) (fun hs => ?_)
  obtain ⟨M31, eM31, hD⟩ := g_let hD
  refine mr_newI (atype := .boolean) (t := 2) (n := 401) C hw hs (Mc_T16 hk0) (by decide) rfl wd_320 rfl (fun _ => rfl) (by decide) (by decide) (by decide) (Nat.le_of_ble_eq_true rfl) (Nat.le_of_ble_eq_true rfl) dX13_init_143 (fun H hw _ => ?_)
  replace hw : mw_W G (mw_ad G) (k + 17) TF F30 M31 L11 H locs := by rw [eM31]; exact hw
  refine W.widen (k := 16) (n := 4616) (Nat.le_of_ble_eq_true rfl) (Nat.le_of_ble_eq_true rfl) ?_
  obtain ⟨F32, eF32, hD⟩ := g_let hD
  refine mr_putFR C hw kc_13 19 (by omega) (Mc_T0 hk0) wd_2661 dX13_init_145 (by decide) rfl rfl hnm rfl rfl rfl (fun H locs hw => ?_)
  replace hw : mw_W G (mw_ad G) (k + 17) TF F32 M31 L11 H locs := by rw [eF32]; exact hw
  refine lv_aload_n C.1.1 C.1.2.1 dX13_init_148 rfl (lv_at hl 0 rfl) ?_
  refine lv_sipush (v := 600) C.1.1 C.1.2.1 dX13_init_149 (by decide) ?_
  refine mw_size hw (by omega) (fun hs => ?_)
  obtain ⟨M33, eM33, hD⟩ := g_let hD
  refine mr_newI (atype := .int) (t := 0) (n := 600) C hw hs (Mc_T17 hk0) (by decide) rfl wd_91 rfl (fun _ => rfl) (by decide) (by decide) (by decide) (Nat.le_of_ble_eq_true rfl) (Nat.le_of_ble_eq_true rfl) dX13_init_152 (fun H hw _ => ?_)
  replace hw : mw_W G (mw_ad G) (k + 18) TF F32 M33 L11 H locs := by rw [eM33]; exact hw
  refine W.widen (k := 17) (n := 5216) (Nat.le_of_ble_eq_true rfl) (Nat.le_of_ble_eq_true rfl) ?_
  obtain ⟨F34, eF34, hD⟩ := g_let hD
  refine mr_putFR C hw kc_13 21 (by omega) (Mc_T0 hk0) wd_2663 dX13_init_154 (by decide) rfl rfl hnm rfl rfl rfl (fun H locs hw => ?_)
  replace hw : mw_W G (mw_ad G) (k + 18) TF F34 M33 L11 H locs := by rw [eF34]; exact hw
  refine lv_aload_n C.1.1 C.1.2.1 dX13_init_157 rfl (lv_at hl 0 rfl) ?_
  refine lv_sipush (v := 600) C.1.1 C.1.2.1 dX13_init_158 (by decide) ?_
  refine mw_size hw (by omega) (fun hs => ?_)
  obtain ⟨M35, eM35, hD⟩ := g_let hD
  refine mr_newI (atype := .int) (t := 0) (n := 600) C hw hs (Mc_T18 hk0) (by decide) rfl wd_91 rfl (fun _ => rfl) (by decide) (by decide) (by decide) (Nat.le_of_ble_eq_true rfl) (Nat.le_of_ble_eq_true rfl) dX13_init_161 (fun H hw _ => ?_)
  replace hw : mw_W G (mw_ad G) (k + 19) TF F34 M35 L11 H locs := by rw [eM35]; exact hw
  refine W.widen (k := 18) (n := 5816) (Nat.le_of_ble_eq_true rfl) (Nat.le_of_ble_eq_true rfl) ?_
  obtain ⟨F36, eF36, hD⟩ := g_let hD
  refine mr_putFR C hw kc_13 22 (by omega) (Mc_T0 hk0) wd_2664 dX13_init_163 (by decide) rfl rfl hnm rfl rfl rfl (fun H locs hw => ?_)
  replace hw : mw_W G (mw_ad G) (k + 19) TF F36 M35 L11 H locs := by rw [eF36]; exact hw
  refine lv_aload_n C.1.1 C.1.2.1 dX13_init_166 rfl (lv_at hl 0 rfl) ?_
  refine lv_sipush (v := 600) C.1.1 C.1.2.1 dX13_init_167 (by decide) ?_
  refine mw_size hw (by omega) (fun hs => ?_)
  obtain ⟨M37, eM37, hD⟩ := g_let hD
  refine mr_newI (atype := .int) (t := 0) (n := 600) C hw hs (Mc_T19 hk0) (by decide) rfl wd_91 rfl (fun _ => rfl) (by decide) (by decide) (by decide) (Nat.le_of_ble_eq_true rfl) (Nat.le_of_ble_eq_true rfl) dX13_init_170 (fun H hw _ => ?_)
  replace hw : mw_W G (mw_ad G) (k + 20) TF F36 M37 L11 H locs := by rw [eM37]; exact hw
  refine W.widen (k := 19) (n := 6416) (Nat.le_of_ble_eq_true rfl) (Nat.le_of_ble_eq_true rfl) ?_
  obtain ⟨F38, eF38, hD⟩ := g_let hD
  refine mr_putFR C hw kc_13 23 (by omega) (Mc_T0 hk0) wd_2665 dX13_init_172 (by decide) rfl rfl hnm rfl rfl rfl (fun H locs hw => ?_)
  replace hw : mw_W G (mw_ad G) (k + 20) TF F38 M37 L11 H locs := by rw [eF38]; exact hw
  refine lv_aload_n C.1.1 C.1.2.1 dX13_init_175 rfl (lv_at hl 0 rfl) ?_
  refine lv_sipush (v := 600) C.1.1 C.1.2.1 dX13_init_176 (by decide) ?_
  refine mw_size hw (by omega) (fun hs => ?_)
  obtain ⟨L39, eL39, hD⟩ := g_let hD
  refine mr_newL (n := 600) C hw hs (Mc_T20 hk0) wd_509 (by decide) (by decide) (by decide) (Nat.le_of_ble_eq_true rfl) (Nat.le_of_ble_eq_true rfl) dX13_init_179 (fun H hw _ => ?_)
  replace hw : mw_W G (mw_ad G) (k + 21) TF F38 M37 L39 H locs := by rw [eL39]; exact hw
  refine W.widen (k := 20) (n := 7016) (Nat.le_of_ble_eq_true rfl) (Nat.le_of_ble_eq_true rfl) ?_
  obtain ⟨F40, eF40, hD⟩ := g_let hD
  refine mr_putFR C hw kc_13 24 (by omega) (Mc_T0 hk0) wd_2666 dX13_init_181 (by decide) rfl rfl hnm rfl rfl rfl (fun H locs hw => ?_)
  replace hw : mw_W G (mw_ad G) (k + 21) TF F40 M37 L39 H locs := by rw [eF40]; exact hw
  refine lv_aload_n C.1.1 C.1.2.1 dX13_init_184 rfl (lv_at hl 0 rfl) ?_
  refine lv_bipush (v := 32) C.1.1 C.1.2.1 dX13_init_185 (by decide) ?_
  refine mw_size hw (by omega) (fun hs => ?_)
  obtain ⟨L41, eL41, hD⟩ := g_let hD
  refine mr_newL (n := 32) C hw hs (Mc_T21 hk0) wd_509 (by decide) (by decide) (by decide) (Nat.le_of_ble_eq_true rfl) (Nat.le_of_ble_eq_true rfl) dX13_init_187 (fun H hw _ => ?_)
  replace hw : mw_W G (mw_ad G) (k + 22) TF F40 M37 L41 H locs := by rw [eL41]; exact hw
  refine W.widen (k := 21) (n := 7048) (Nat.le_of_ble_eq_true rfl) (Nat.le_of_ble_eq_true rfl) ?_
  obtain ⟨F42, eF42, hD⟩ := g_let hD
  refine mr_putFR C hw kc_13 25 (by omega) (Mc_T0 hk0) wd_2667 dX13_init_189 (by decide) rfl rfl hnm rfl rfl rfl (fun H locs hw => ?_)
  replace hw : mw_W G (mw_ad G) (k + 22) TF F42 M37 L41 H locs := by rw [eF42]; exact hw
  refine lv_aload_n C.1.1 C.1.2.1 dX13_init_192 rfl (lv_at hl 0 rfl) ?_
  refine lv_sipush (v := 1500) C.1.1 C.1.2.1 dX13_init_193 (by decide) ?_
  refine mw_size hw (by omega) (fun hs => ?_)
  obtain ⟨M43, eM43, hD⟩ := g_let hD
  refine mr_newI (atype := .int) (t := 0) (n := 1500) C hw hs (Mc_T22 hk0) (by decide) rfl wd_91 rfl (fun _ => rfl) (by decide) (by decide) (by decide) (Nat.le_of_ble_eq_true rfl) (Nat.le_of_ble_eq_true rfl) dX13_init_196 (fun H hw _ => ?_)
  replace hw : mw_W G (mw_ad G) (k + 23) TF F42 M43 L41 H locs := by rw [eM43]; exact hw
  refine W.widen (k := 22) (n := 8548) (Nat.le_of_ble_eq_true rfl) (Nat.le_of_ble_eq_true rfl) ?_
  obtain ⟨F44, eF44, hD⟩ := g_let hD
  refine mr_putFR C hw kc_13 32 (by omega) (Mc_T0 hk0) wd_2674 dX13_init_198 (by decide) rfl rfl hnm rfl rfl rfl (fun H locs hw => ?_)
  replace hw : mw_W G (mw_ad G) (k + 23) TF F44 M43 L41 H locs := by rw [eF44]; exact hw
  refine lv_aload_n C.1.1 C.1.2.1 dX13_init_201 rfl (lv_at hl 0 rfl) ?_
  refine lv_sipush (v := 400) C.1.1 C.1.2.1 dX13_init_202 (by decide) ?_
  refine mw_size hw (by omega) (fun hs => ?_)
  obtain ⟨M45, eM45, hD⟩ := g_let hD
  refine mr_newI (atype := .int) (t := 0) (n := 400) C hw hs (Mc_T23 hk0) (by decide) rfl wd_91 rfl (fun _ => rfl) (by decide) (by decide) (by decide) (Nat.le_of_ble_eq_true rfl) (Nat.le_of_ble_eq_true rfl) dX13_init_205 (fun H hw _ => ?_)
  replace hw : mw_W G (mw_ad G) (k + 24) TF F44 M45 L41 H locs := by rw [eM45]; exact hw
  refine W.widen (k := 23) (n := 8948) (Nat.le_of_ble_eq_true rfl) (Nat.le_of_ble_eq_true rfl) ?_
  obtain ⟨F46, eF46, hD⟩ := g_let hD
  refine mr_putFR C hw kc_13 34 (by omega) (Mc_T0 hk0) wd_2676 dX13_init_207 (by decide) rfl rfl hnm rfl rfl rfl (fun H locs hw => ?_)
  replace hw : mw_W G (mw_ad G) (k + 24) TF F46 M45 L41 H locs := by rw [eF46]; exact hw
  refine lv_aload_n C.1.1 C.1.2.1 dX13_init_210 rfl (lv_at hl 0 rfl) ?_
  refine lv_sipush (v := 400) C.1.1 C.1.2.1 dX13_init_211 (by decide) ?_
  refine mw_size hw (by omega) (fun hs => ?_)
  obtain ⟨M47, eM47, hD⟩ := g_let hD
  refine mr_newI (atype := .int) (t := 0) (n := 400) C hw hs (Mc_T24 hk0) (by decide) rfl wd_91 rfl (fun _ => rfl) (by decide) (by decide) (by decide) (Nat.le_of_ble_eq_true rfl) (Nat.le_of_ble_eq_true rfl) dX13_init_214 (fun H hw _ => ?_)
  replace hw : mw_W G (mw_ad G) (k + 25) TF F46 M47 L41 H locs := by rw [eM47]; exact hw
  refine W.widen (k := 24) (n := 9348) (Nat.le_of_ble_eq_true rfl) (Nat.le_of_ble_eq_true rfl) ?_
  obtain ⟨F48, eF48, hD⟩ := g_let hD
  refine mr_putFR C hw kc_13 36 (by omega) (Mc_T0 hk0) wd_2678 dX13_init_216 (by decide) rfl rfl hnm rfl rfl rfl (fun H locs hw => ?_)
  replace hw : mw_W G (mw_ad G) (k + 25) TF F48 M47 L41 H locs := by rw [eF48]; exact hw
  refine lv_aload_n C.1.1 C.1.2.1 dX13_init_219 rfl (lv_at hl 0 rfl) ?_
  refine lv_sipush (v := 201) C.1.1 C.1.2.1 dX13_init_220 (by decide) ?_
  refine mw_size hw (by omega) (fun hs => ?_)
  obtain ⟨M49, eM49, hD⟩ := g_let hD
  refine mr_newI (atype := .boolean) (t := 2) (n := 201) C hw hs (Mc_T25 hk0) (by decide) rfl wd_320 rfl (fun _ => rfl) (by decide) (by decide) (by decide) (Nat.le_of_ble_eq_true rfl) (Nat.le_of_ble_eq_true rfl) dX13_init_223 (fun H hw _ => ?_)
  replace hw : mw_W G (mw_ad G) (k + 26) TF F48 M49 L41 H locs := by rw [eM49]; exact hw
  refine W.widen (k := 25) (n := 9549) (Nat.le_of_ble_eq_true rfl) (Nat.le_of_ble_eq_true rfl) ?_
  obtain ⟨F50, eF50, hD⟩ := g_let hD
  refine mr_putFR C hw kc_13 37 (by omega) (Mc_T0 hk0) wd_2679 dX13_init_225 (by decide) rfl rfl hnm rfl rfl rfl (fun H locs hw => ?_)
  replace hw : mw_W G (mw_ad G) (k + 26) TF F50 M49 L41 H locs := by rw [eF50]; exact hw
  refine lv_aload_n C.1.1 C.1.2.1 dX13_init_228 rfl (lv_at hl 0 rfl) ?_
  refine lv_sipush (v := 201) C.1.1 C.1.2.1 dX13_init_229 (by decide) ?_
  refine mw_size hw (by omega) (fun hs => ?_)
  obtain ⟨M51, eM51, hD⟩ := g_let hD
  refine mr_newI (atype := .boolean) (t := 2) (n := 201) C hw hs (Mc_T26 hk0) (by decide) rfl wd_320 rfl (fun _ => rfl) (by decide) (by decide) (by decide) (Nat.le_of_ble_eq_true rfl) (Nat.le_of_ble_eq_true rfl) dX13_init_232 (fun H hw _ => ?_)
  replace hw : mw_W G (mw_ad G) (k + 27) TF F50 M51 L41 H locs := by rw [eM51]; exact hw
  refine W.widen (k := 26) (n := 9750) (Nat.le_of_ble_eq_true rfl) (Nat.le_of_ble_eq_true rfl) ?_
  obtain ⟨F52, eF52, hD⟩ := g_let hD
  refine mr_putFR C hw kc_13 38 (by omega) (Mc_T0 hk0) wd_2680 dX13_init_234 (by decide) rfl rfl hnm rfl rfl rfl (fun H locs hw => ?_)
  replace hw : mw_W G (mw_ad G) (k + 27) TF F52 M51 L41 H locs := by rw [eF52]; exact hw
  refine lv_aload_n C.1.1 C.1.2.1 dX13_init_237 rfl (lv_at hl 0 rfl) ?_
  refine lv_sipush (v := 201) C.1.1 C.1.2.1 dX13_init_238 (by decide) ?_
  refine mw_size hw (by omega) (fun hs => ?_)
  obtain ⟨M53, eM53, hD⟩ := g_let hD
  refine mr_newI (atype := .boolean) (t := 2) (n := 201) C hw hs (Mc_T27 hk0) (by decide) rfl wd_320 rfl (fun _ => rfl) (by decide) (by decide) (by decide) (Nat.le_of_ble_eq_true rfl) (Nat.le_of_ble_eq_true rfl) dX13_init_241 (fun H hw _ => ?_)
  replace hw : mw_W G (mw_ad G) (k + 28) TF F52 M53 L41 H locs := by rw [eM53]; exact hw
  refine W.widen (k := 27) (n := 9951) (Nat.le_of_ble_eq_true rfl) (Nat.le_of_ble_eq_true rfl) ?_
  obtain ⟨F54, eF54, hD⟩ := g_let hD
  refine mr_putFR C hw kc_13 39 (by omega) (Mc_T0 hk0) wd_2681 dX13_init_243 (by decide) rfl rfl hnm rfl rfl rfl (fun H locs hw => ?_)
  replace hw : mw_W G (mw_ad G) (k + 28) TF F54 M53 L41 H locs := by rw [eF54]; exact hw
  refine lv_aload_n C.1.1 C.1.2.1 dX13_init_246 rfl (lv_at hl 0 rfl) ?_
  refine lv_sipush (v := 201) C.1.1 C.1.2.1 dX13_init_247 (by decide) ?_
  refine mw_size hw (by omega) (fun hs => ?_)
  obtain ⟨M55, eM55, hD⟩ := g_let hD
  refine mr_newI (atype := .boolean) (t := 2) (n := 201) C hw hs (Mc_T28 hk0) (by decide) rfl wd_320 rfl (fun _ => rfl) (by decide) (by decide) (by decide) (Nat.le_of_ble_eq_true rfl) (Nat.le_of_ble_eq_true rfl) dX13_init_250 (fun H hw _ => ?_)
  replace hw : mw_W G (mw_ad G) (k + 29) TF F54 M55 L41 H locs := by rw [eM55]; exact hw
  refine W.widen (k := 28) (n := 10152) (Nat.le_of_ble_eq_true rfl) (Nat.le_of_ble_eq_true rfl) ?_
  obtain ⟨F56, eF56, hD⟩ := g_let hD
  refine mr_putFR C hw kc_13 40 (by omega) (Mc_T0 hk0) wd_2682 dX13_init_252 (by decide) rfl rfl hnm rfl rfl rfl (fun H locs hw => ?_)
  replace hw : mw_W G (mw_ad G) (k + 29) TF F56 M55 L41 H locs := by rw [eF56]; exact hw
  refine lv_aload_n C.1.1 C.1.2.1 dX13_init_255 rfl (lv_at hl 0 rfl) ?_
  refine lv_sipush (v := 201) C.1.1 C.1.2.1 dX13_init_256 (by decide) ?_
  refine mw_size hw (by omega) (fun hs => ?_)
  obtain ⟨M57, eM57, hD⟩ := g_let hD
  refine mr_newI (atype := .boolean) (t := 2) (n := 201) C hw hs (Mc_T29 hk0) (by decide) rfl wd_320 rfl (fun _ => rfl) (by decide) (by decide) (by decide) (Nat.le_of_ble_eq_true rfl) (Nat.le_of_ble_eq_true rfl) dX13_init_259 (fun H hw _ => ?_)
  replace hw : mw_W G (mw_ad G) (k + 30) TF F56 M57 L41 H locs := by rw [eM57]; exact hw
  refine W.widen (k := 29) (n := 10353) (Nat.le_of_ble_eq_true rfl) (Nat.le_of_ble_eq_true rfl) ?_
  obtain ⟨F58, eF58, hD⟩ := g_let hD
  refine mr_putFR C hw kc_13 41 (by omega) (Mc_T0 hk0) wd_2683 dX13_init_261 (by decide) rfl rfl hnm rfl rfl rfl (fun H locs hw => ?_)
  replace hw : mw_W G (mw_ad G) (k + 30) TF F58 M57 L41 H locs := by rw [eF58]; exact hw
  refine mw_size hw (by omega) (fun hs => ?_)
  exact mr_cret C hr hlocks hw hs (Option.some.inj hD) dX13_init_264

theorem dX15_init_0 : decode cX15_init 0 = .ok (.aload_n 0, 1) := by decide +kernel
theorem dX15_init_1 : decode cX15_init 1 = .ok (.invokespecial 1, 3) := by decide +kernel
theorem dX15_init_4 : decode cX15_init 4 = .ok (.aload_n 0, 1) := by decide +kernel
theorem dX15_init_5 : decode cX15_init 5 = .ok (.bipush 101, 2) := by decide +kernel
theorem dX15_init_7 : decode cX15_init 7 = .ok (.newarray .int, 2) := by decide +kernel
theorem dX15_init_9 : decode cX15_init 9 = .ok (.putfield 7, 3) := by decide +kernel
theorem dX15_init_12 : decode cX15_init 12 = .ok (.aload_n 0, 1) := by decide +kernel
theorem dX15_init_13 : decode cX15_init 13 = .ok (.bipush 101, 2) := by decide +kernel
theorem dX15_init_15 : decode cX15_init 15 = .ok (.newarray .int, 2) := by decide +kernel
theorem dX15_init_17 : decode cX15_init 17 = .ok (.putfield 13, 3) := by decide +kernel
theorem dX15_init_20 : decode cX15_init 20 = .ok (.aload_n 0, 1) := by decide +kernel
theorem dX15_init_21 : decode cX15_init 21 = .ok (.bipush 101, 2) := by decide +kernel
theorem dX15_init_23 : decode cX15_init 23 = .ok (.newarray .int, 2) := by decide +kernel
theorem dX15_init_25 : decode cX15_init 25 = .ok (.putfield 16, 3) := by decide +kernel
theorem dX15_init_28 : decode cX15_init 28 = .ok (.aload_n 0, 1) := by decide +kernel
theorem dX15_init_29 : decode cX15_init 29 = .ok (.bipush 101, 2) := by decide +kernel
theorem dX15_init_31 : decode cX15_init 31 = .ok (.newarray .boolean, 2) := by decide +kernel
theorem dX15_init_33 : decode cX15_init 33 = .ok (.putfield 19, 3) := by decide +kernel
theorem dX15_init_36 : decode cX15_init 36 = .ok (.aload_n 0, 1) := by decide +kernel
theorem dX15_init_37 : decode cX15_init 37 = .ok (.bipush 101, 2) := by decide +kernel
theorem dX15_init_39 : decode cX15_init 39 = .ok (.newarray .boolean, 2) := by decide +kernel
theorem dX15_init_41 : decode cX15_init 41 = .ok (.putfield 23, 3) := by decide +kernel
theorem dX15_init_44 : decode cX15_init 44 = .ok (.aload_n 0, 1) := by decide +kernel
theorem dX15_init_45 : decode cX15_init 45 = .ok (.sipush 500, 3) := by decide +kernel
theorem dX15_init_48 : decode cX15_init 48 = .ok (.newarray .int, 2) := by decide +kernel
theorem dX15_init_50 : decode cX15_init 50 = .ok (.putfield 26, 3) := by decide +kernel
theorem dX15_init_53 : decode cX15_init 53 = .ok (.aload_n 0, 1) := by decide +kernel
theorem dX15_init_54 : decode cX15_init 54 = .ok (.sipush 500, 3) := by decide +kernel
theorem dX15_init_57 : decode cX15_init 57 = .ok (.newarray .int, 2) := by decide +kernel
theorem dX15_init_59 : decode cX15_init 59 = .ok (.putfield 29, 3) := by decide +kernel
theorem dX15_init_62 : decode cX15_init 62 = .ok (.aload_n 0, 1) := by decide +kernel
theorem dX15_init_63 : decode cX15_init 63 = .ok (.sipush 500, 3) := by decide +kernel
theorem dX15_init_66 : decode cX15_init 66 = .ok (.newarray .long, 2) := by decide +kernel
theorem dX15_init_68 : decode cX15_init 68 = .ok (.putfield 32, 3) := by decide +kernel
theorem dX15_init_71 : decode cX15_init 71 = .ok (.aload_n 0, 1) := by decide +kernel
theorem dX15_init_72 : decode cX15_init 72 = .ok (.bipush 101, 2) := by decide +kernel
theorem dX15_init_74 : decode cX15_init 74 = .ok (.newarray .int, 2) := by decide +kernel
theorem dX15_init_76 : decode cX15_init 76 = .ok (.putfield 36, 3) := by decide +kernel
theorem dX15_init_79 : decode cX15_init 79 = .ok (.aload_n 0, 1) := by decide +kernel
theorem dX15_init_80 : decode cX15_init 80 = .ok (.bipush 101, 2) := by decide +kernel
theorem dX15_init_82 : decode cX15_init 82 = .ok (.newarray .long, 2) := by decide +kernel
theorem dX15_init_84 : decode cX15_init 84 = .ok (.putfield 39, 3) := by decide +kernel
theorem dX15_init_87 : decode cX15_init 87 = .ok (.aload_n 0, 1) := by decide +kernel
theorem dX15_init_88 : decode cX15_init 88 = .ok (.bipush 101, 2) := by decide +kernel
theorem dX15_init_90 : decode cX15_init 90 = .ok (.newarray .int, 2) := by decide +kernel
theorem dX15_init_92 : decode cX15_init 92 = .ok (.putfield 42, 3) := by decide +kernel
theorem dX15_init_95 : decode cX15_init 95 = .ok (.aload_n 0, 1) := by decide +kernel
theorem dX15_init_96 : decode cX15_init 96 = .ok (.bipush 101, 2) := by decide +kernel
theorem dX15_init_98 : decode cX15_init 98 = .ok (.newarray .int, 2) := by decide +kernel
theorem dX15_init_100 : decode cX15_init 100 = .ok (.putfield 45, 3) := by decide +kernel
theorem dX15_init_103 : decode cX15_init 103 = .ok (.aload_n 0, 1) := by decide +kernel
theorem dX15_init_104 : decode cX15_init 104 = .ok (.bipush 101, 2) := by decide +kernel
theorem dX15_init_106 : decode cX15_init 106 = .ok (.newarray .long, 2) := by decide +kernel
theorem dX15_init_108 : decode cX15_init 108 = .ok (.putfield 48, 3) := by decide +kernel
theorem dX15_init_111 : decode cX15_init 111 = .ok (.aload_n 0, 1) := by decide +kernel
theorem dX15_init_112 : decode cX15_init 112 = .ok (.bipush 101, 2) := by decide +kernel
theorem dX15_init_114 : decode cX15_init 114 = .ok (.newarray .boolean, 2) := by decide +kernel
theorem dX15_init_116 : decode cX15_init 116 = .ok (.putfield 51, 3) := by decide +kernel
theorem dX15_init_119 : decode cX15_init 119 = .ok (.aload_n 0, 1) := by decide +kernel
theorem dX15_init_120 : decode cX15_init 120 = .ok (.bipush 101, 2) := by decide +kernel
theorem dX15_init_122 : decode cX15_init 122 = .ok (.newarray .int, 2) := by decide +kernel
theorem dX15_init_124 : decode cX15_init 124 = .ok (.putfield 54, 3) := by decide +kernel
theorem dX15_init_127 : decode cX15_init 127 = .ok (.aload_n 0, 1) := by decide +kernel
theorem dX15_init_128 : decode cX15_init 128 = .ok (.bipush 101, 2) := by decide +kernel
theorem dX15_init_130 : decode cX15_init 130 = .ok (.newarray .int, 2) := by decide +kernel
theorem dX15_init_132 : decode cX15_init 132 = .ok (.putfield 57, 3) := by decide +kernel
theorem dX15_init_135 : decode cX15_init 135 = .ok (.aload_n 0, 1) := by decide +kernel
theorem dX15_init_136 : decode cX15_init 136 = .ok (.bipush 101, 2) := by decide +kernel
theorem dX15_init_138 : decode cX15_init 138 = .ok (.newarray .boolean, 2) := by decide +kernel
theorem dX15_init_140 : decode cX15_init 140 = .ok (.putfield 60, 3) := by decide +kernel
theorem dX15_init_143 : decode cX15_init 143 = .ok (.aload_n 0, 1) := by decide +kernel
theorem dX15_init_144 : decode cX15_init 144 = .ok (.bipush 101, 2) := by decide +kernel
theorem dX15_init_146 : decode cX15_init 146 = .ok (.newarray .long, 2) := by decide +kernel
theorem dX15_init_148 : decode cX15_init 148 = .ok (.putfield 63, 3) := by decide +kernel
theorem dX15_init_151 : decode cX15_init 151 = .ok (.aload_n 0, 1) := by decide +kernel
theorem dX15_init_152 : decode cX15_init 152 = .ok (.bipush 33, 2) := by decide +kernel
theorem dX15_init_154 : decode cX15_init 154 = .ok (.newarray .int, 2) := by decide +kernel
theorem dX15_init_156 : decode cX15_init 156 = .ok (.putfield 66, 3) := by decide +kernel
theorem dX15_init_159 : decode cX15_init 159 = .ok (.aload_n 0, 1) := by decide +kernel
theorem dX15_init_160 : decode cX15_init 160 = .ok (.bipush 33, 2) := by decide +kernel
theorem dX15_init_162 : decode cX15_init 162 = .ok (.newarray .long, 2) := by decide +kernel
theorem dX15_init_164 : decode cX15_init 164 = .ok (.putfield 69, 3) := by decide +kernel
theorem dX15_init_167 : decode cX15_init 167 = .ok (.aload_n 0, 1) := by decide +kernel
theorem dX15_init_168 : decode cX15_init 168 = .ok (.bipush 33, 2) := by decide +kernel
theorem dX15_init_170 : decode cX15_init 170 = .ok (.newarray .int, 2) := by decide +kernel
theorem dX15_init_172 : decode cX15_init 172 = .ok (.putfield 72, 3) := by decide +kernel
theorem dX15_init_175 : decode cX15_init 175 = .ok (.aload_n 0, 1) := by decide +kernel
theorem dX15_init_176 : decode cX15_init 176 = .ok (.bipush 17, 2) := by decide +kernel
theorem dX15_init_178 : decode cX15_init 178 = .ok (.newarray .int, 2) := by decide +kernel
theorem dX15_init_180 : decode cX15_init 180 = .ok (.putfield 75, 3) := by decide +kernel
theorem dX15_init_183 : decode cX15_init 183 = .ok (.aload_n 0, 1) := by decide +kernel
theorem dX15_init_184 : decode cX15_init 184 = .ok (.bipush 101, 2) := by decide +kernel
theorem dX15_init_186 : decode cX15_init 186 = .ok (.newarray .int, 2) := by decide +kernel
theorem dX15_init_188 : decode cX15_init 188 = .ok (.putfield 78, 3) := by decide +kernel
theorem dX15_init_191 : decode cX15_init 191 = .ok (.aload_n 0, 1) := by decide +kernel
theorem dX15_init_192 : decode cX15_init 192 = .ok (.bipush 101, 2) := by decide +kernel
theorem dX15_init_194 : decode cX15_init 194 = .ok (.newarray .long, 2) := by decide +kernel
theorem dX15_init_196 : decode cX15_init 196 = .ok (.putfield 81, 3) := by decide +kernel
theorem dX15_init_199 : decode cX15_init 199 = .ok (.aload_n 0, 1) := by decide +kernel
theorem dX15_init_200 : decode cX15_init 200 = .ok (.sipush 500, 3) := by decide +kernel
theorem dX15_init_203 : decode cX15_init 203 = .ok (.newarray .int, 2) := by decide +kernel
theorem dX15_init_205 : decode cX15_init 205 = .ok (.putfield 84, 3) := by decide +kernel
theorem dX15_init_208 : decode cX15_init 208 = .ok (.aload_n 0, 1) := by decide +kernel
theorem dX15_init_209 : decode cX15_init 209 = .ok (.sipush 500, 3) := by decide +kernel
theorem dX15_init_212 : decode cX15_init 212 = .ok (.newarray .long, 2) := by decide +kernel
theorem dX15_init_214 : decode cX15_init 214 = .ok (.putfield 87, 3) := by decide +kernel
theorem dX15_init_217 : decode cX15_init 217 = .ok (.aload_n 0, 1) := by decide +kernel
theorem dX15_init_218 : decode cX15_init 218 = .ok (.sipush 500, 3) := by decide +kernel
theorem dX15_init_221 : decode cX15_init 221 = .ok (.newarray .int, 2) := by decide +kernel
theorem dX15_init_223 : decode cX15_init 223 = .ok (.putfield 90, 3) := by decide +kernel
theorem dX15_init_226 : decode cX15_init 226 = .ok (.aload_n 0, 1) := by decide +kernel
theorem dX15_init_227 : decode cX15_init 227 = .ok (.sipush 500, 3) := by decide +kernel
theorem dX15_init_230 : decode cX15_init 230 = .ok (.newarray .long, 2) := by decide +kernel
theorem dX15_init_232 : decode cX15_init 232 = .ok (.putfield 93, 3) := by decide +kernel
theorem dX15_init_235 : decode cX15_init 235 = .ok (.aload_n 0, 1) := by decide +kernel
theorem dX15_init_236 : decode cX15_init 236 = .ok (.sipush 500, 3) := by decide +kernel
theorem dX15_init_239 : decode cX15_init 239 = .ok (.newarray .long, 2) := by decide +kernel
theorem dX15_init_241 : decode cX15_init 241 = .ok (.putfield 96, 3) := by decide +kernel
theorem dX15_init_244 : decode cX15_init 244 = .ok (.aload_n 0, 1) := by decide +kernel
theorem dX15_init_245 : decode cX15_init 245 = .ok (.sipush 1000, 3) := by decide +kernel
theorem dX15_init_248 : decode cX15_init 248 = .ok (.newarray .int, 2) := by decide +kernel
theorem dX15_init_250 : decode cX15_init 250 = .ok (.putfield 99, 3) := by decide +kernel
theorem dX15_init_253 : decode cX15_init 253 = .ok (.aload_n 0, 1) := by decide +kernel
theorem dX15_init_254 : decode cX15_init 254 = .ok (.sipush 1000, 3) := by decide +kernel
theorem dX15_init_257 : decode cX15_init 257 = .ok (.newarray .int, 2) := by decide +kernel
theorem dX15_init_259 : decode cX15_init 259 = .ok (.putfield 102, 3) := by decide +kernel
theorem dX15_init_262 : decode cX15_init 262 = .ok (.aload_n 0, 1) := by decide +kernel
theorem dX15_init_263 : decode cX15_init 263 = .ok (.sipush 1000, 3) := by decide +kernel
theorem dX15_init_266 : decode cX15_init 266 = .ok (.newarray .long, 2) := by decide +kernel
theorem dX15_init_268 : decode cX15_init 268 = .ok (.putfield 105, 3) := by decide +kernel
theorem dX15_init_271 : decode cX15_init 271 = .ok (.aload_n 0, 1) := by decide +kernel
theorem dX15_init_272 : decode cX15_init 272 = .ok (.ldc 108, 2) := by decide +kernel
theorem dX15_init_274 : decode cX15_init 274 = .ok (.newarray .short, 2) := by decide +kernel
theorem dX15_init_276 : decode cX15_init 276 = .ok (.putfield 109, 3) := by decide +kernel
theorem dX15_init_279 : decode cX15_init 279 = .ok (.return_, 1) := by decide +kernel
theorem cwX15_init : mw_cw yX15_init cX15_init 1 none 0 := ⟨wd_14, wd_1952, by decide +kernel⟩
noncomputable def DX15_init (fu : Nat) (F : mwF) (M : mwM) (L : mwL) : Option (mwF × mwM × mwL) :=
  mlet (mz 0 M 788) (fun M1 => mlet (mset F 787 2 (some 788)) (fun F2 => mlet (mz 0 M1 789) (fun M3 => mlet (mset F2 787 3 (some 789)) (fun F4 => mlet (mz 0 M3 790) (fun M5 => mlet (mset F4 787 4 (some 790)) (fun F6 => mlet (mz 0 M5 791) (fun M7 => mlet (mset F6 787 5 (some 791)) (fun F8 => mlet (mz 0 M7 792) (fun M9 => mlet (mset F8 787 6 (some 792)) (fun F10 => mlet (mz 0 M9 793) (fun M11 => mlet (mset F10 787 8 (some 793)) (fun F12 => mlet (mz 0 M11 794) (fun M13 => mlet (mset F12 787 9 (some 794)) (fun F14 => mlet (mz 0 L 795) (fun L15 => mlet (mset F14 787 10 (some 795)) (fun F16 => mlet (mz 0 M13 796) (fun M17 => mlet (mset F16 787 11 (some 796)) (fun F18 => mlet (mz 0 L15 797) (fun L19 => mlet (mset F18 787 12 (some 797)) (fun F20 => mlet (mz 0 M17 798) (fun M21 => mlet (mset F20 787 13 (some 798)) (fun F22 => mlet (mz 0 M21 799) (fun M23 => mlet (mset F22 787 14 (some 799)) (fun F24 => mlet (mz 0 L19 800) (fun L25 => mlet (mset F24 787 15 (some 800)) (fun F26 => mlet (mz 0 M23 801) (fun M27 => mlet (mset F26 787 16 (some 801)) (fun F28 => mlet (mz 0 M27 802) (fun M29 => mlet (mset F28 787 17 (some 802)) (fun F30 => mlet (mz 0 M29 803) (fun M31 => mlet (mset F30 787 18 (some 803)) (fun F32 => mlet (mz 0 M31 804) (fun M33 => mlet (mset F32 787 19 (some 804)) (fun F34 => mlet (mz 0 L25 805) (fun L35 => mlet (mset F34 787 20 (some 805)) (fun F36 => mlet (mz 0 M33 806) (fun M37 => mlet (mset F36 787 22 (some 806)) (fun F38 => mlet (mz 0 L35 807) (fun L39 => mlet (mset F38 787 23 (some 807)) (fun F40 => mlet (mz 0 M37 808) (fun M41 => mlet (mset F40 787 24 (some 808)) (fun F42 => mlet (mz 0 M41 809) (fun M43 => mlet (mset F42 787 25 (some 809)) (fun F44 => mlet (mz 0 M43 810) (fun M45 => mlet (mset F44 787 26 (some 810)) (fun F46 => mlet (mz 0 L39 811) (fun L47 => mlet (mset F46 787 27 (some 811)) (fun F48 => mlet (mz 0 M45 812) (fun M49 => mlet (mset F48 787 33 (some 812)) (fun F50 => mlet (mz 0 L47 813) (fun L51 => mlet (mset F50 787 34 (some 813)) (fun F52 => mlet (mz 0 M49 814) (fun M53 => mlet (mset F52 787 36 (some 814)) (fun F54 => mlet (mz 0 L51 815) (fun L55 => mlet (mset F54 787 37 (some 815)) (fun F56 => mlet (mz 0 L55 816) (fun L57 => mlet (mset F56 787 38 (some 816)) (fun F58 => mlet (mz 0 M53 817) (fun M59 => mlet (mset F58 787 40 (some 817)) (fun F60 => mlet (mz 0 M59 818) (fun M61 => mlet (mset F60 787 41 (some 818)) (fun F62 => mlet (mz 0 L57 819) (fun L63 => mlet (mset F62 787 42 (some 819)) (fun F64 => mlet (mz 0 M61 820) (fun M65 => mlet (mset F64 787 44 (some 820)) (fun F66 => some (F66, M65, L63)))))))))))))))))))))))))))))))))))))))))))))))))))))))))))))))))))
set_option maxHeartbeats 4000000 in
theorem kX15_init {fu : Nat} {F : mwF} {M : mwM} {L : mwL} {F9 : mwF} {M9 : mwM} {L9 : mwL} (hD : DX15_init fu F M L = some (F9, M9, L9)) : ∀ a j, (a < 787 ∨ 821 ≤ a) → F9 a j = F a j := by
  intro a j ha
  unfold DX15_init at hD
  obtain ⟨M1, eM1, hD⟩ := g_let hD
  obtain ⟨F2, eF2, hD⟩ := g_let hD
  obtain ⟨M3, eM3, hD⟩ := g_let hD
  obtain ⟨F4, eF4, hD⟩ := g_let hD
  obtain ⟨M5, eM5, hD⟩ := g_let hD
  obtain ⟨F6, eF6, hD⟩ := g_let hD
  obtain ⟨M7, eM7, hD⟩ := g_let hD
  obtain ⟨F8, eF8, hD⟩ := g_let hD
  obtain ⟨M9, eM9, hD⟩ := g_let hD
  obtain ⟨F10, eF10, hD⟩ := g_let hD
  obtain ⟨M11, eM11, hD⟩ := g_let hD
  obtain ⟨F12, eF12, hD⟩ := g_let hD
  obtain ⟨M13, eM13, hD⟩ := g_let hD
  obtain ⟨F14, eF14, hD⟩ := g_let hD
  obtain ⟨L15, eL15, hD⟩ := g_let hD
  obtain ⟨F16, eF16, hD⟩ := g_let hD
  obtain ⟨M17, eM17, hD⟩ := g_let hD
  obtain ⟨F18, eF18, hD⟩ := g_let hD
  obtain ⟨L19, eL19, hD⟩ := g_let hD
  obtain ⟨F20, eF20, hD⟩ := g_let hD
  obtain ⟨M21, eM21, hD⟩ := g_let hD
  obtain ⟨F22, eF22, hD⟩ := g_let hD
  obtain ⟨M23, eM23, hD⟩ := g_let hD
  obtain ⟨F24, eF24, hD⟩ := g_let hD
  obtain ⟨L25, eL25, hD⟩ := g_let hD
  obtain ⟨F26, eF26, hD⟩ := g_let hD
  obtain ⟨M27, eM27, hD⟩ := g_let hD
  obtain ⟨F28, eF28, hD⟩ := g_let hD
  obtain ⟨M29, eM29, hD⟩ := g_let hD
  obtain ⟨F30, eF30, hD⟩ := g_let hD
  obtain ⟨M31, eM31, hD⟩ := g_let hD
  obtain ⟨F32, eF32, hD⟩ := g_let hD
  obtain ⟨M33, eM33, hD⟩ := g_let hD
  obtain ⟨F34, eF34, hD⟩ := g_let hD
  obtain ⟨L35, eL35, hD⟩ := g_let hD
  obtain ⟨F36, eF36, hD⟩ := g_let hD
  obtain ⟨M37, eM37, hD⟩ := g_let hD
  obtain ⟨F38, eF38, hD⟩ := g_let hD
  obtain ⟨L39, eL39, hD⟩ := g_let hD
  obtain ⟨F40, eF40, hD⟩ := g_let hD
  obtain ⟨M41, eM41, hD⟩ := g_let hD
  obtain ⟨F42, eF42, hD⟩ := g_let hD
  obtain ⟨M43, eM43, hD⟩ := g_let hD
  obtain ⟨F44, eF44, hD⟩ := g_let hD
  obtain ⟨M45, eM45, hD⟩ := g_let hD
  obtain ⟨F46, eF46, hD⟩ := g_let hD
  obtain ⟨L47, eL47, hD⟩ := g_let hD
  obtain ⟨F48, eF48, hD⟩ := g_let hD
  obtain ⟨M49, eM49, hD⟩ := g_let hD
  obtain ⟨F50, eF50, hD⟩ := g_let hD
  obtain ⟨L51, eL51, hD⟩ := g_let hD
  obtain ⟨F52, eF52, hD⟩ := g_let hD
  obtain ⟨M53, eM53, hD⟩ := g_let hD
  obtain ⟨F54, eF54, hD⟩ := g_let hD
  obtain ⟨L55, eL55, hD⟩ := g_let hD
  obtain ⟨F56, eF56, hD⟩ := g_let hD
  obtain ⟨L57, eL57, hD⟩ := g_let hD
  obtain ⟨F58, eF58, hD⟩ := g_let hD
  obtain ⟨M59, eM59, hD⟩ := g_let hD
  obtain ⟨F60, eF60, hD⟩ := g_let hD
  obtain ⟨M61, eM61, hD⟩ := g_let hD
  obtain ⟨F62, eF62, hD⟩ := g_let hD
  obtain ⟨L63, eL63, hD⟩ := g_let hD
  obtain ⟨F64, eF64, hD⟩ := g_let hD
  obtain ⟨M65, eM65, hD⟩ := g_let hD
  obtain ⟨F66, eF66, hD⟩ := g_let hD
  have hf := congrArg (fun q => q.1) (Option.some.inj hD)
  dsimp only at hf
  rw [← hf]
  rw [eF66, mset_k (by omega)]
  rw [eF64, mset_k (by omega)]
  rw [eF62, mset_k (by omega)]
  rw [eF60, mset_k (by omega)]
  rw [eF58, mset_k (by omega)]
  rw [eF56, mset_k (by omega)]
  rw [eF54, mset_k (by omega)]
  rw [eF52, mset_k (by omega)]
  rw [eF50, mset_k (by omega)]
  rw [eF48, mset_k (by omega)]
  rw [eF46, mset_k (by omega)]
  rw [eF44, mset_k (by omega)]
  rw [eF42, mset_k (by omega)]
  rw [eF40, mset_k (by omega)]
  rw [eF38, mset_k (by omega)]
  rw [eF36, mset_k (by omega)]
  rw [eF34, mset_k (by omega)]
  rw [eF32, mset_k (by omega)]
  rw [eF30, mset_k (by omega)]
  rw [eF28, mset_k (by omega)]
  rw [eF26, mset_k (by omega)]
  rw [eF24, mset_k (by omega)]
  rw [eF22, mset_k (by omega)]
  rw [eF20, mset_k (by omega)]
  rw [eF18, mset_k (by omega)]
  rw [eF16, mset_k (by omega)]
  rw [eF14, mset_k (by omega)]
  rw [eF12, mset_k (by omega)]
  rw [eF10, mset_k (by omega)]
  rw [eF8, mset_k (by omega)]
  rw [eF6, mset_k (by omega)]
  rw [eF4, mset_k (by omega)]
  rw [eF2, mset_k (by omega)]
set_option maxHeartbeats 4000000 in
set_option maxRecDepth 100000 in
theorem tX15_init (l : Launch) (G : mwG) (fu : Nat) (F : mwF) (M : mwM) (L : mwL) {F9 : mwF} {M9 : mwM} {L9 : mwL} (hD : DX15_init fu F M L = some (F9, M9, L9)) : Met l yX15_init (Cond.code yX15_init cX15_init 1 none :: GT) ({ frames := 1, cells := 33, slots := 128833, locals := 20 }) (mw_PreC G 788 F M L [.ref (mw_ad G 787)]) (mw_QC G 821 F9 M9 L9) 33 128833 (mw_fr G) := by
  refine mw_enterC (by decide) (Nat.le_of_ble_eq_true rfl) ?_
  intro p e s m below meth c ls C A hr hlocks hnm hw hs0 hl
  have hl : lv_has ls 1 [(0, .ref (mw_ad G 787))] := hl
  unfold DX15_init at hD
  refine lv_aload_n C.1.1 C.1.2.1 dX15_init_0 rfl (lv_at hl 0 rfl) ?_
  refine W.objInit C.1.1 C.1.2.1 C.1.2.2.2.1 (C.1.2.2.2.2 _ wd_1953) (C.1.2.2.2.2 _ wd_39) (C.1.2.2.2.2 _ wd_40) rfl (by rw [C.1.2.2.1]; exact hl.1) rfl dX15_init_1 (Nat.le_of_ble_eq_true rfl) (Nat.le_of_ble_eq_true rfl) ?_
  refine W.eq (g2 := F0 m 4 ls []) rfl ?_
  refine lv_aload_n C.1.1 C.1.2.1 dX15_init_4 rfl (lv_at hl 0 rfl) ?_
  refine lv_bipush (v := 101) C.1.1 C.1.2.1 dX15_init_5 (by decide) ?_
  refine mw_size hw (by omega) (fun hs => ?_)
  obtain ⟨M1, eM1, hD⟩ := g_let hD
  refine mr_newI (atype := .int) (t := 0) (n := 101) C hw hs tf_788 (by decide) rfl wd_91 rfl (fun _ => rfl) (by decide) (by decide) (by decide) (Nat.le_of_ble_eq_true rfl) (Nat.le_of_ble_eq_true rfl) dX15_init_7 (fun H hw _ => ?_)
  replace hw : mw_W G (mw_ad G) 789 TF F M1 L H [] := by rw [eM1]; exact hw
  refine W.widen (k := 1) (n := 101) (Nat.le_of_ble_eq_true rfl) (Nat.le_of_ble_eq_true rfl) ?_
  obtain ⟨F2, eF2, hD⟩ := g_let hD
  refine mr_putFR C hw kc_15 2 (by omega) tf_787 wd_1957 dX15_init_9 (by decide) rfl rfl hnm rfl rfl rfl (fun H locs hw => ?_)
  replace hw : mw_W G (mw_ad G) 789 TF F2 M1 L H locs := by rw [eF2]; exact hw
  refine lv_aload_n C.1.1 C.1.2.1 dX15_init_12 rfl (lv_at hl 0 rfl) ?_
  refine lv_bipush (v := 101) C.1.1 C.1.2.1 dX15_init_13 (by decide) ?_
  refine mw_size hw (by omega) (fun hs => ?_)
  obtain ⟨M3, eM3, hD⟩ := g_let hD
  refine mr_newI (atype := .int) (t := 0) (n := 101) C hw hs tf_789 (by decide) rfl wd_91 rfl (fun _ => rfl) (by decide) (by decide) (by decide) (Nat.le_of_ble_eq_true rfl) (Nat.le_of_ble_eq_true rfl) dX15_init_15 (fun H hw _ => ?_)
  replace hw : mw_W G (mw_ad G) 790 TF F2 M3 L H locs := by rw [eM3]; exact hw
  refine W.widen (k := 2) (n := 202) (Nat.le_of_ble_eq_true rfl) (Nat.le_of_ble_eq_true rfl) ?_
  obtain ⟨F4, eF4, hD⟩ := g_let hD
  refine mr_putFR C hw kc_15 3 (by omega) tf_787 wd_1958 dX15_init_17 (by decide) rfl rfl hnm rfl rfl rfl (fun H locs hw => ?_)
  replace hw : mw_W G (mw_ad G) 790 TF F4 M3 L H locs := by rw [eF4]; exact hw
  refine lv_aload_n C.1.1 C.1.2.1 dX15_init_20 rfl (lv_at hl 0 rfl) ?_
  refine lv_bipush (v := 101) C.1.1 C.1.2.1 dX15_init_21 (by decide) ?_
  refine mw_size hw (by omega) (fun hs => ?_)
  obtain ⟨M5, eM5, hD⟩ := g_let hD
  refine mr_newI (atype := .int) (t := 0) (n := 101) C hw hs tf_790 (by decide) rfl wd_91 rfl (fun _ => rfl) (by decide) (by decide) (by decide) (Nat.le_of_ble_eq_true rfl) (Nat.le_of_ble_eq_true rfl) dX15_init_23 (fun H hw _ => ?_)
  replace hw : mw_W G (mw_ad G) 791 TF F4 M5 L H locs := by rw [eM5]; exact hw
  refine W.widen (k := 3) (n := 303) (Nat.le_of_ble_eq_true rfl) (Nat.le_of_ble_eq_true rfl) ?_
  obtain ⟨F6, eF6, hD⟩ := g_let hD
  refine mr_putFR C hw kc_15 4 (by omega) tf_787 wd_1959 dX15_init_25 (by decide) rfl rfl hnm rfl rfl rfl (fun H locs hw => ?_)
  replace hw : mw_W G (mw_ad G) 791 TF F6 M5 L H locs := by rw [eF6]; exact hw
  refine lv_aload_n C.1.1 C.1.2.1 dX15_init_28 rfl (lv_at hl 0 rfl) ?_
  refine lv_bipush (v := 101) C.1.1 C.1.2.1 dX15_init_29 (by decide) ?_
  refine mw_size hw (by omega) (fun hs => ?_)
  obtain ⟨M7, eM7, hD⟩ := g_let hD
  refine mr_newI (atype := .boolean) (t := 2) (n := 101) C hw hs tf_791 (by decide) rfl wd_320 rfl (fun _ => rfl) (by decide) (by decide) (by decide) (Nat.le_of_ble_eq_true rfl) (Nat.le_of_ble_eq_true rfl) dX15_init_31 (fun H hw _ => ?_)
  replace hw : mw_W G (mw_ad G) 792 TF F6 M7 L H locs := by rw [eM7]; exact hw
  refine W.widen (k := 4) (n := 404) (Nat.le_of_ble_eq_true rfl) (Nat.le_of_ble_eq_true rfl) ?_
  obtain ⟨F8, eF8, hD⟩ := g_let hD
  refine mr_putFR C hw kc_15 5 (by omega) tf_787 wd_1960 dX15_init_33 (by decide) rfl rfl hnm rfl rfl rfl (fun H locs hw => ?_)
  replace hw : mw_W G (mw_ad G) 792 TF F8 M7 L H locs := by rw [eF8]; exact hw
  refine lv_aload_n C.1.1 C.1.2.1 dX15_init_36 rfl (lv_at hl 0 rfl) ?_
  refine lv_bipush (v := 101) C.1.1 C.1.2.1 dX15_init_37 (by decide) ?_
  refine mw_size hw (by omega) (fun hs => ?_)
  obtain ⟨M9, eM9, hD⟩ := g_let hD
  refine mr_newI (atype := .boolean) (t := 2) (n := 101) C hw hs tf_792 (by decide) rfl wd_320 rfl (fun _ => rfl) (by decide) (by decide) (by decide) (Nat.le_of_ble_eq_true rfl) (Nat.le_of_ble_eq_true rfl) dX15_init_39 (fun H hw _ => ?_)
  replace hw : mw_W G (mw_ad G) 793 TF F8 M9 L H locs := by rw [eM9]; exact hw
  refine W.widen (k := 5) (n := 505) (Nat.le_of_ble_eq_true rfl) (Nat.le_of_ble_eq_true rfl) ?_
  obtain ⟨F10, eF10, hD⟩ := g_let hD
  refine mr_putFR C hw kc_15 6 (by omega) tf_787 wd_1961 dX15_init_41 (by decide) rfl rfl hnm rfl rfl rfl (fun H locs hw => ?_)
  replace hw : mw_W G (mw_ad G) 793 TF F10 M9 L H locs := by rw [eF10]; exact hw
  refine lv_aload_n C.1.1 C.1.2.1 dX15_init_44 rfl (lv_at hl 0 rfl) ?_
  refine lv_sipush (v := 500) C.1.1 C.1.2.1 dX15_init_45 (by decide) ?_
  refine mw_size hw (by omega) (fun hs => ?_)
  obtain ⟨M11, eM11, hD⟩ := g_let hD
  refine mr_newI (atype := .int) (t := 0) (n := 500) C hw hs tf_793 (by decide) rfl wd_91 rfl (fun _ => rfl) (by decide) (by decide) (by decide) (Nat.le_of_ble_eq_true rfl) (Nat.le_of_ble_eq_true rfl) dX15_init_48 (fun H hw _ => ?_)
  replace hw : mw_W G (mw_ad G) 794 TF F10 M11 L H locs := by rw [eM11]; exact hw
  refine W.widen (k := 6) (n := 1005) (Nat.le_of_ble_eq_true rfl) (Nat.le_of_ble_eq_true rfl) ?_
  obtain ⟨F12, eF12, hD⟩ := g_let hD
  refine mr_putFR C hw kc_15 8 (by omega) tf_787 wd_1963 dX15_init_50 (by decide) rfl rfl hnm rfl rfl rfl (fun H locs hw => ?_)
  replace hw : mw_W G (mw_ad G) 794 TF F12 M11 L H locs := by rw [eF12]; exact hw
  refine lv_aload_n C.1.1 C.1.2.1 dX15_init_53 rfl (lv_at hl 0 rfl) ?_
  refine lv_sipush (v := 500) C.1.1 C.1.2.1 dX15_init_54 (by decide) ?_
  refine mw_size hw (by omega) (fun hs => ?_)
  obtain ⟨M13, eM13, hD⟩ := g_let hD
  refine mr_newI (atype := .int) (t := 0) (n := 500) C hw hs tf_794 (by decide) rfl wd_91 rfl (fun _ => rfl) (by decide) (by decide) (by decide) (Nat.le_of_ble_eq_true rfl) (Nat.le_of_ble_eq_true rfl) dX15_init_57 (fun H hw _ => ?_)
  replace hw : mw_W G (mw_ad G) 795 TF F12 M13 L H locs := by rw [eM13]; exact hw
  refine W.widen (k := 7) (n := 1505) (Nat.le_of_ble_eq_true rfl) (Nat.le_of_ble_eq_true rfl) ?_
  obtain ⟨F14, eF14, hD⟩ := g_let hD
  refine mr_putFR C hw kc_15 9 (by omega) tf_787 wd_1964 dX15_init_59 (by decide) rfl rfl hnm rfl rfl rfl (fun H locs hw => ?_)
  replace hw : mw_W G (mw_ad G) 795 TF F14 M13 L H locs := by rw [eF14]; exact hw
  refine lv_aload_n C.1.1 C.1.2.1 dX15_init_62 rfl (lv_at hl 0 rfl) ?_
  refine lv_sipush (v := 500) C.1.1 C.1.2.1 dX15_init_63 (by decide) ?_
  refine mw_size hw (by omega) (fun hs => ?_)
  obtain ⟨L15, eL15, hD⟩ := g_let hD
  refine mr_newL (n := 500) C hw hs tf_795 wd_509 (by decide) (by decide) (by decide) (Nat.le_of_ble_eq_true rfl) (Nat.le_of_ble_eq_true rfl) dX15_init_66 (fun H hw _ => ?_)
  replace hw : mw_W G (mw_ad G) 796 TF F14 M13 L15 H locs := by rw [eL15]; exact hw
  refine W.widen (k := 8) (n := 2005) (Nat.le_of_ble_eq_true rfl) (Nat.le_of_ble_eq_true rfl) ?_
  obtain ⟨F16, eF16, hD⟩ := g_let hD
  refine mr_putFR C hw kc_15 10 (by omega) tf_787 wd_1965 dX15_init_68 (by decide) rfl rfl hnm rfl rfl rfl (fun H locs hw => ?_)
  replace hw : mw_W G (mw_ad G) 796 TF F16 M13 L15 H locs := by rw [eF16]; exact hw
  refine lv_aload_n C.1.1 C.1.2.1 dX15_init_71 rfl (lv_at hl 0 rfl) ?_
  refine lv_bipush (v := 101) C.1.1 C.1.2.1 dX15_init_72 (by decide) ?_
  refine mw_size hw (by omega) (fun hs => ?_)
  obtain ⟨M17, eM17, hD⟩ := g_let hD
  refine mr_newI (atype := .int) (t := 0) (n := 101) C hw hs tf_796 (by decide) rfl wd_91 rfl (fun _ => rfl) (by decide) (by decide) (by decide) (Nat.le_of_ble_eq_true rfl) (Nat.le_of_ble_eq_true rfl) dX15_init_74 (fun H hw _ => ?_)
  replace hw : mw_W G (mw_ad G) 797 TF F16 M17 L15 H locs := by rw [eM17]; exact hw
  refine W.widen (k := 9) (n := 2106) (Nat.le_of_ble_eq_true rfl) (Nat.le_of_ble_eq_true rfl) ?_
  obtain ⟨F18, eF18, hD⟩ := g_let hD
  refine mr_putFR C hw kc_15 11 (by omega) tf_787 wd_1966 dX15_init_76 (by decide) rfl rfl hnm rfl rfl rfl (fun H locs hw => ?_)
  replace hw : mw_W G (mw_ad G) 797 TF F18 M17 L15 H locs := by rw [eF18]; exact hw
  refine lv_aload_n C.1.1 C.1.2.1 dX15_init_79 rfl (lv_at hl 0 rfl) ?_
  refine lv_bipush (v := 101) C.1.1 C.1.2.1 dX15_init_80 (by decide) ?_
  refine mw_size hw (by omega) (fun hs => ?_)
  obtain ⟨L19, eL19, hD⟩ := g_let hD
  refine mr_newL (n := 101) C hw hs tf_797 wd_509 (by decide) (by decide) (by decide) (Nat.le_of_ble_eq_true rfl) (Nat.le_of_ble_eq_true rfl) dX15_init_82 (fun H hw _ => ?_)
  replace hw : mw_W G (mw_ad G) 798 TF F18 M17 L19 H locs := by rw [eL19]; exact hw
  refine W.widen (k := 10) (n := 2207) (Nat.le_of_ble_eq_true rfl) (Nat.le_of_ble_eq_true rfl) ?_
  obtain ⟨F20, eF20, hD⟩ := g_let hD
  refine mr_putFR C hw kc_15 12 (by omega) tf_787 wd_1967 dX15_init_84 (by decide) rfl rfl hnm rfl rfl rfl (fun H locs hw => ?_)
  replace hw : mw_W G (mw_ad G) 798 TF F20 M17 L19 H locs := by rw [eF20]; exact hw
  refine lv_aload_n C.1.1 C.1.2.1 dX15_init_87 rfl (lv_at hl 0 rfl) ?_
  refine lv_bipush (v := 101) C.1.1 C.1.2.1 dX15_init_88 (by decide) ?_
  refine mw_size hw (by omega) (fun hs => ?_)
  obtain ⟨M21, eM21, hD⟩ := g_let hD
  refine mr_newI (atype := .int) (t := 0) (n := 101) C hw hs tf_798 (by decide) rfl wd_91 rfl (fun _ => rfl) (by decide) (by decide) (by decide) (Nat.le_of_ble_eq_true rfl) (Nat.le_of_ble_eq_true rfl) dX15_init_90 (fun H hw _ => ?_)
  replace hw : mw_W G (mw_ad G) 799 TF F20 M21 L19 H locs := by rw [eM21]; exact hw
  refine W.widen (k := 11) (n := 2308) (Nat.le_of_ble_eq_true rfl) (Nat.le_of_ble_eq_true rfl) ?_
  obtain ⟨F22, eF22, hD⟩ := g_let hD
  refine mr_putFR C hw kc_15 13 (by omega) tf_787 wd_1968 dX15_init_92 (by decide) rfl rfl hnm rfl rfl rfl (fun H locs hw => ?_)
  replace hw : mw_W G (mw_ad G) 799 TF F22 M21 L19 H locs := by rw [eF22]; exact hw
  refine lv_aload_n C.1.1 C.1.2.1 dX15_init_95 rfl (lv_at hl 0 rfl) ?_
  refine lv_bipush (v := 101) C.1.1 C.1.2.1 dX15_init_96 (by decide) ?_
  refine mw_size hw (by omega) (fun hs => ?_)
  obtain ⟨M23, eM23, hD⟩ := g_let hD
  refine mr_newI (atype := .int) (t := 0) (n := 101) C hw hs tf_799 (by decide) rfl wd_91 rfl (fun _ => rfl) (by decide) (by decide) (by decide) (Nat.le_of_ble_eq_true rfl) (Nat.le_of_ble_eq_true rfl) dX15_init_98 (fun H hw _ => ?_)
  replace hw : mw_W G (mw_ad G) 800 TF F22 M23 L19 H locs := by rw [eM23]; exact hw
  refine W.widen (k := 12) (n := 2409) (Nat.le_of_ble_eq_true rfl) (Nat.le_of_ble_eq_true rfl) ?_
  obtain ⟨F24, eF24, hD⟩ := g_let hD
  refine mr_putFR C hw kc_15 14 (by omega) tf_787 wd_1969 dX15_init_100 (by decide) rfl rfl hnm rfl rfl rfl (fun H locs hw => ?_)
  replace hw : mw_W G (mw_ad G) 800 TF F24 M23 L19 H locs := by rw [eF24]; exact hw
  refine lv_aload_n C.1.1 C.1.2.1 dX15_init_103 rfl (lv_at hl 0 rfl) ?_
  refine lv_bipush (v := 101) C.1.1 C.1.2.1 dX15_init_104 (by decide) ?_
  refine mw_size hw (by omega) (fun hs => ?_)
  obtain ⟨L25, eL25, hD⟩ := g_let hD
  refine mr_newL (n := 101) C hw hs tf_800 wd_509 (by decide) (by decide) (by decide) (Nat.le_of_ble_eq_true rfl) (Nat.le_of_ble_eq_true rfl) dX15_init_106 (fun H hw _ => ?_)
  replace hw : mw_W G (mw_ad G) 801 TF F24 M23 L25 H locs := by rw [eL25]; exact hw
  refine W.widen (k := 13) (n := 2510) (Nat.le_of_ble_eq_true rfl) (Nat.le_of_ble_eq_true rfl) ?_
  obtain ⟨F26, eF26, hD⟩ := g_let hD
  refine mr_putFR C hw kc_15 15 (by omega) tf_787 wd_1970 dX15_init_108 (by decide) rfl rfl hnm rfl rfl rfl (fun H locs hw => ?_)
  replace hw : mw_W G (mw_ad G) 801 TF F26 M23 L25 H locs := by rw [eF26]; exact hw
  refine lv_aload_n C.1.1 C.1.2.1 dX15_init_111 rfl (lv_at hl 0 rfl) ?_
  refine lv_bipush (v := 101) C.1.1 C.1.2.1 dX15_init_112 (by decide) ?_
  refine mw_size hw (by omega) (fun hs => ?_)
  obtain ⟨M27, eM27, hD⟩ := g_let hD
  refine mr_newI (atype := .boolean) (t := 2) (n := 101) C hw hs tf_801 (by decide) rfl wd_320 rfl (fun _ => rfl) (by decide) (by decide) (by decide) (Nat.le_of_ble_eq_true rfl) (Nat.le_of_ble_eq_true rfl) dX15_init_114 (fun H hw _ => ?_)
  replace hw : mw_W G (mw_ad G) 802 TF F26 M27 L25 H locs := by rw [eM27]; exact hw
  refine W.widen (k := 14) (n := 2611) (Nat.le_of_ble_eq_true rfl) (Nat.le_of_ble_eq_true rfl) ?_
  obtain ⟨F28, eF28, hD⟩ := g_let hD
  refine mr_putFR C hw kc_15 16 (by omega) tf_787 wd_1971 dX15_init_116 (by decide) rfl rfl hnm rfl rfl rfl (fun H locs hw => ?_)
  replace hw : mw_W G (mw_ad G) 802 TF F28 M27 L25 H locs := by rw [eF28]; exact hw
  refine lv_aload_n C.1.1 C.1.2.1 dX15_init_119 rfl (lv_at hl 0 rfl) ?_
  refine lv_bipush (v := 101) C.1.1 C.1.2.1 dX15_init_120 (by decide) ?_
  refine mw_size hw (by omega) (fun hs => ?_)
  obtain ⟨M29, eM29, hD⟩ := g_let hD
  refine mr_newI (atype := .int) (t := 0) (n := 101) C hw hs tf_802 (by decide) rfl wd_91 rfl (fun _ => rfl) (by decide) (by decide) (by decide) (Nat.le_of_ble_eq_true rfl) (Nat.le_of_ble_eq_true rfl) dX15_init_122 (fun H hw _ => ?_)
  replace hw : mw_W G (mw_ad G) 803 TF F28 M29 L25 H locs := by rw [eM29]; exact hw
  refine W.widen (k := 15) (n := 2712) (Nat.le_of_ble_eq_true rfl) (Nat.le_of_ble_eq_true rfl) ?_
  obtain ⟨F30, eF30, hD⟩ := g_let hD
  refine mr_putFR C hw kc_15 17 (by omega) tf_787 wd_1972 dX15_init_124 (by decide) rfl rfl hnm rfl rfl rfl (fun H locs hw => ?_)
  replace hw : mw_W G (mw_ad G) 803 TF F30 M29 L25 H locs := by rw [eF30]; exact hw
  refine lv_aload_n C.1.1 C.1.2.1 dX15_init_127 rfl (lv_at hl 0 rfl) ?_
  refine lv_bipush (v := 101) C.1.1 C.1.2.1 dX15_init_128 (by decide) ?_
  refine mw_size hw (by omega) (fun hs => ?_)
  obtain ⟨M31, eM31, hD⟩ := g_let hD
  refine mr_newI (atype := .int) (t := 0) (n := 101) C hw hs tf_803 (by decide) rfl wd_91 rfl (fun _ => rfl) (by decide) (by decide) (by decide) (Nat.le_of_ble_eq_true rfl) (Nat.le_of_ble_eq_true rfl) dX15_init_130 (fun H hw _ => ?_)
  replace hw : mw_W G (mw_ad G) 804 TF F30 M31 L25 H locs := by rw [eM31]; exact hw
  refine W.widen (k := 16) (n := 2813) (Nat.le_of_ble_eq_true rfl) (Nat.le_of_ble_eq_true rfl) ?_
  obtain ⟨F32, eF32, hD⟩ := g_let hD
  refine mr_putFR C hw kc_15 18 (by omega) tf_787 wd_1973 dX15_init_132 (by decide) rfl rfl hnm rfl rfl rfl (fun H locs hw => ?_)
  replace hw : mw_W G (mw_ad G) 804 TF F32 M31 L25 H locs := by rw [eF32]; exact hw
  refine lv_aload_n C.1.1 C.1.2.1 dX15_init_135 rfl (lv_at hl 0 rfl) ?_
  refine lv_bipush (v := 101) C.1.1 C.1.2.1 dX15_init_136 (by decide) ?_
  refine mw_size hw (by omega) (fun hs => ?_)
  obtain ⟨M33, eM33, hD⟩ := g_let hD
  refine mr_newI (atype := .boolean) (t := 2) (n := 101) C hw hs tf_804 (by decide) rfl wd_320 rfl (fun _ => rfl) (by decide) (by decide) (by decide) (Nat.le_of_ble_eq_true rfl) (Nat.le_of_ble_eq_true rfl) dX15_init_138 (fun H hw _ => ?_)
  replace hw : mw_W G (mw_ad G) 805 TF F32 M33 L25 H locs := by rw [eM33]; exact hw
  refine W.widen (k := 17) (n := 2914) (Nat.le_of_ble_eq_true rfl) (Nat.le_of_ble_eq_true rfl) ?_
  obtain ⟨F34, eF34, hD⟩ := g_let hD
  refine mr_putFR C hw kc_15 19 (by omega) tf_787 wd_1974 dX15_init_140 (by decide) rfl rfl hnm rfl rfl rfl (fun H locs hw => ?_)
  replace hw : mw_W G (mw_ad G) 805 TF F34 M33 L25 H locs := by rw [eF34]; exact hw
  refine lv_aload_n C.1.1 C.1.2.1 dX15_init_143 rfl (lv_at hl 0 rfl) ?_
  refine lv_bipush (v := 101) C.1.1 C.1.2.1 dX15_init_144 (by decide) ?_
  refine mw_size hw (by omega) (fun hs => ?_)
  obtain ⟨L35, eL35, hD⟩ := g_let hD
  refine mr_newL (n := 101) C hw hs tf_805 wd_509 (by decide) (by decide) (by decide) (Nat.le_of_ble_eq_true rfl) (Nat.le_of_ble_eq_true rfl) dX15_init_146 (fun H hw _ => ?_)
  replace hw : mw_W G (mw_ad G) 806 TF F34 M33 L35 H locs := by rw [eL35]; exact hw
  refine W.widen (k := 18) (n := 3015) (Nat.le_of_ble_eq_true rfl) (Nat.le_of_ble_eq_true rfl) ?_
  obtain ⟨F36, eF36, hD⟩ := g_let hD
  refine mr_putFR C hw kc_15 20 (by omega) tf_787 wd_1975 dX15_init_148 (by decide) rfl rfl hnm rfl rfl rfl (fun H locs hw => ?_)
  replace hw : mw_W G (mw_ad G) 806 TF F36 M33 L35 H locs := by rw [eF36]; exact hw
  refine lv_aload_n C.1.1 C.1.2.1 dX15_init_151 rfl (lv_at hl 0 rfl) ?_
  refine lv_bipush (v := 33) C.1.1 C.1.2.1 dX15_init_152 (by decide) ?_
  refine mw_size hw (by omega) (fun hs => ?_)
  obtain ⟨M37, eM37, hD⟩ := g_let hD
  refine mr_newI (atype := .int) (t := 0) (n := 33) C hw hs tf_806 (by decide) rfl wd_91 rfl (fun _ => rfl) (by decide) (by decide) (by decide) (Nat.le_of_ble_eq_true rfl) (Nat.le_of_ble_eq_true rfl) dX15_init_154 (fun H hw _ => ?_)
  replace hw : mw_W G (mw_ad G) 807 TF F36 M37 L35 H locs := by rw [eM37]; exact hw
  refine W.widen (k := 19) (n := 3048) (Nat.le_of_ble_eq_true rfl) (Nat.le_of_ble_eq_true rfl) ?_
  obtain ⟨F38, eF38, hD⟩ := g_let hD
  refine mr_putFR C hw kc_15 22 (by omega) tf_787 wd_1977 dX15_init_156 (by decide) rfl rfl hnm rfl rfl rfl (fun H locs hw => ?_)
  replace hw : mw_W G (mw_ad G) 807 TF F38 M37 L35 H locs := by rw [eF38]; exact hw
  refine lv_aload_n C.1.1 C.1.2.1 dX15_init_159 rfl (lv_at hl 0 rfl) ?_
  refine lv_bipush (v := 33) C.1.1 C.1.2.1 dX15_init_160 (by decide) ?_
  refine mw_size hw (by omega) (fun hs => ?_)
  obtain ⟨L39, eL39, hD⟩ := g_let hD
  refine mr_newL (n := 33) C hw hs tf_807 wd_509 (by decide) (by decide) (by decide) (Nat.le_of_ble_eq_true rfl) (Nat.le_of_ble_eq_true rfl) dX15_init_162 (fun H hw _ => ?_)
  replace hw : mw_W G (mw_ad G) 808 TF F38 M37 L39 H locs := by rw [eL39]; exact hw
  refine W.widen (k := 20) (n := 3081) (Nat.le_of_ble_eq_true rfl) (Nat.le_of_ble_eq_true rfl) ?_
  obtain ⟨F40, eF40, hD⟩ := g_let hD
  refine mr_putFR C hw kc_15 23 (by omega) tf_787 wd_1978 dX15_init_164 (by decide) rfl rfl hnm rfl rfl rfl (fun H locs hw => ?_)
  replace hw : mw_W G (mw_ad G) 808 TF F40 M37 L39 H locs := by rw [eF40]; exact hw
  refine lv_aload_n C.1.1 C.1.2.1 dX15_init_167 rfl (lv_at hl 0 rfl) ?_
  refine lv_bipush (v := 33) C.1.1 C.1.2.1 dX15_init_168 (by decide) ?_
  refine mw_size hw (by omega) (fun hs => ?_)
  obtain ⟨M41, eM41, hD⟩ := g_let hD
  refine mr_newI (atype := .int) (t := 0) (n := 33) C hw hs tf_808 (by decide) rfl wd_91 rfl (fun _ => rfl) (by decide) (by decide) (by decide) (Nat.le_of_ble_eq_true rfl) (Nat.le_of_ble_eq_true rfl) dX15_init_170 (fun H hw _ => ?_)
  replace hw : mw_W G (mw_ad G) 809 TF F40 M41 L39 H locs := by rw [eM41]; exact hw
  refine W.widen (k := 21) (n := 3114) (Nat.le_of_ble_eq_true rfl) (Nat.le_of_ble_eq_true rfl) ?_
  obtain ⟨F42, eF42, hD⟩ := g_let hD
  refine mr_putFR C hw kc_15 24 (by omega) tf_787 wd_1979 dX15_init_172 (by decide) rfl rfl hnm rfl rfl rfl (fun H locs hw => ?_)
  replace hw : mw_W G (mw_ad G) 809 TF F42 M41 L39 H locs := by rw [eF42]; exact hw
  refine lv_aload_n C.1.1 C.1.2.1 dX15_init_175 rfl (lv_at hl 0 rfl) ?_
  refine lv_bipush (v := 17) C.1.1 C.1.2.1 dX15_init_176 (by decide) ?_
  refine mw_size hw (by omega) (fun hs => ?_)
  obtain ⟨M43, eM43, hD⟩ := g_let hD
  refine mr_newI (atype := .int) (t := 0) (n := 17) C hw hs tf_809 (by decide) rfl wd_91 rfl (fun _ => rfl) (by decide) (by decide) (by decide) (Nat.le_of_ble_eq_true rfl) (Nat.le_of_ble_eq_true rfl) dX15_init_178 (fun H hw _ => ?_)
  replace hw : mw_W G (mw_ad G) 810 TF F42 M43 L39 H locs := by rw [eM43]; exact hw
  refine W.widen (k := 22) (n := 3131) (Nat.le_of_ble_eq_true rfl) (Nat.le_of_ble_eq_true rfl) ?_
  obtain ⟨F44, eF44, hD⟩ := g_let hD
  refine mr_putFR C hw kc_15 25 (by omega) tf_787 wd_1980 dX15_init_180 (by decide) rfl rfl hnm rfl rfl rfl (fun H locs hw => ?_)
  replace hw : mw_W G (mw_ad G) 810 TF F44 M43 L39 H locs := by rw [eF44]; exact hw
  refine lv_aload_n C.1.1 C.1.2.1 dX15_init_183 rfl (lv_at hl 0 rfl) ?_
  refine lv_bipush (v := 101) C.1.1 C.1.2.1 dX15_init_184 (by decide) ?_
  refine mw_size hw (by omega) (fun hs => ?_)
  obtain ⟨M45, eM45, hD⟩ := g_let hD
  refine mr_newI (atype := .int) (t := 0) (n := 101) C hw hs tf_810 (by decide) rfl wd_91 rfl (fun _ => rfl) (by decide) (by decide) (by decide) (Nat.le_of_ble_eq_true rfl) (Nat.le_of_ble_eq_true rfl) dX15_init_186 (fun H hw _ => ?_)
  replace hw : mw_W G (mw_ad G) 811 TF F44 M45 L39 H locs := by rw [eM45]; exact hw
  refine W.widen (k := 23) (n := 3232) (Nat.le_of_ble_eq_true rfl) (Nat.le_of_ble_eq_true rfl) ?_
  obtain ⟨F46, eF46, hD⟩ := g_let hD
  refine mr_putFR C hw kc_15 26 (by omega) tf_787 wd_1981 dX15_init_188 (by decide) rfl rfl hnm rfl rfl rfl (fun H locs hw => ?_)
  replace hw : mw_W G (mw_ad G) 811 TF F46 M45 L39 H locs := by rw [eF46]; exact hw
  refine lv_aload_n C.1.1 C.1.2.1 dX15_init_191 rfl (lv_at hl 0 rfl) ?_
  refine lv_bipush (v := 101) C.1.1 C.1.2.1 dX15_init_192 (by decide) ?_
  refine mw_size hw (by omega) (fun hs => ?_)
  obtain ⟨L47, eL47, hD⟩ := g_let hD
  refine mr_newL (n := 101) C hw hs tf_811 wd_509 (by decide) (by decide) (by decide) (Nat.le_of_ble_eq_true rfl) (Nat.le_of_ble_eq_true rfl) dX15_init_194 (fun H hw _ => ?_)
  replace hw : mw_W G (mw_ad G) 812 TF F46 M45 L47 H locs := by rw [eL47]; exact hw
  refine W.widen (k := 24) (n := 3333) (Nat.le_of_ble_eq_true rfl) (Nat.le_of_ble_eq_true rfl) ?_
  obtain ⟨F48, eF48, hD⟩ := g_let hD
  refine mr_putFR C hw kc_15 27 (by omega) tf_787 wd_1982 dX15_init_196 (by decide) rfl rfl hnm rfl rfl rfl (fun H locs hw => ?_)
  replace hw : mw_W G (mw_ad G) 812 TF F48 M45 L47 H locs := by rw [eF48]; exact hw
  refine lv_aload_n C.1.1 C.1.2.1 dX15_init_199 rfl (lv_at hl 0 rfl) ?_
  refine lv_sipush (v := 500) C.1.1 C.1.2.1 dX15_init_200 (by decide) ?_
  refine mw_size hw (by omega) (fun hs => ?_)
  obtain ⟨M49, eM49, hD⟩ := g_let hD
  refine mr_newI (atype := .int) (t := 0) (n := 500) C hw hs tf_812 (by decide) rfl wd_91 rfl (fun _ => rfl) (by decide) (by decide) (by decide) (Nat.le_of_ble_eq_true rfl) (Nat.le_of_ble_eq_true rfl) dX15_init_203 (fun H hw _ => ?_)
  replace hw : mw_W G (mw_ad G) 813 TF F48 M49 L47 H locs := by rw [eM49]; exact hw
  refine W.widen (k := 25) (n := 3833) (Nat.le_of_ble_eq_true rfl) (Nat.le_of_ble_eq_true rfl) ?_
  obtain ⟨F50, eF50, hD⟩ := g_let hD
  refine mr_putFR C hw kc_15 33 (by omega) tf_787 wd_1988 dX15_init_205 (by decide) rfl rfl hnm rfl rfl rfl (fun H locs hw => ?_)
  replace hw : mw_W G (mw_ad G) 813 TF F50 M49 L47 H locs := by rw [eF50]; exact hw
  refine lv_aload_n C.1.1 C.1.2.1 dX15_init_208 rfl (lv_at hl 0 rfl) ?_
  refine lv_sipush (v := 500) C.1.1 C.1.2.1 dX15_init_209 (by decide) ?_
  refine mw_size hw (by omega) (fun hs => ?_)
  obtain ⟨L51, eL51, hD⟩ := g_let hD
  refine mr_newL (n := 500) C hw hs tf_813 wd_509 (by decide) (by decide) (by decide) (Nat.le_of_ble_eq_true rfl) (Nat.le_of_ble_eq_true rfl) dX15_init_212 (fun H hw _ => ?_)
  replace hw : mw_W G (mw_ad G) 814 TF F50 M49 L51 H locs := by rw [eL51]; exact hw
  refine W.widen (k := 26) (n := 4333) (Nat.le_of_ble_eq_true rfl) (Nat.le_of_ble_eq_true rfl) ?_
  obtain ⟨F52, eF52, hD⟩ := g_let hD
  refine mr_putFR C hw kc_15 34 (by omega) tf_787 wd_1989 dX15_init_214 (by decide) rfl rfl hnm rfl rfl rfl (fun H locs hw => ?_)
  replace hw : mw_W G (mw_ad G) 814 TF F52 M49 L51 H locs := by rw [eF52]; exact hw
  refine lv_aload_n C.1.1 C.1.2.1 dX15_init_217 rfl (lv_at hl 0 rfl) ?_
  refine lv_sipush (v := 500) C.1.1 C.1.2.1 dX15_init_218 (by decide) ?_
  refine mw_size hw (by omega) (fun hs => ?_)
  obtain ⟨M53, eM53, hD⟩ := g_let hD
  refine mr_newI (atype := .int) (t := 0) (n := 500) C hw hs tf_814 (by decide) rfl wd_91 rfl (fun _ => rfl) (by decide) (by decide) (by decide) (Nat.le_of_ble_eq_true rfl) (Nat.le_of_ble_eq_true rfl) dX15_init_221 (fun H hw _ => ?_)
  replace hw : mw_W G (mw_ad G) 815 TF F52 M53 L51 H locs := by rw [eM53]; exact hw
  refine W.widen (k := 27) (n := 4833) (Nat.le_of_ble_eq_true rfl) (Nat.le_of_ble_eq_true rfl) ?_
  obtain ⟨F54, eF54, hD⟩ := g_let hD
  refine mr_putFR C hw kc_15 36 (by omega) tf_787 wd_1991 dX15_init_223 (by decide) rfl rfl hnm rfl rfl rfl (fun H locs hw => ?_)
  replace hw : mw_W G (mw_ad G) 815 TF F54 M53 L51 H locs := by rw [eF54]; exact hw
  refine lv_aload_n C.1.1 C.1.2.1 dX15_init_226 rfl (lv_at hl 0 rfl) ?_
  refine lv_sipush (v := 500) C.1.1 C.1.2.1 dX15_init_227 (by decide) ?_
  refine mw_size hw (by omega) (fun hs => ?_)
  obtain ⟨L55, eL55, hD⟩ := g_let hD
  refine mr_newL (n := 500) C hw hs tf_815 wd_509 (by decide) (by decide) (by decide) (Nat.le_of_ble_eq_true rfl) (Nat.le_of_ble_eq_true rfl) dX15_init_230 (fun H hw _ => ?_)
  replace hw : mw_W G (mw_ad G) 816 TF F54 M53 L55 H locs := by rw [eL55]; exact hw
  refine W.widen (k := 28) (n := 5333) (Nat.le_of_ble_eq_true rfl) (Nat.le_of_ble_eq_true rfl) ?_
  obtain ⟨F56, eF56, hD⟩ := g_let hD
  refine mr_putFR C hw kc_15 37 (by omega) tf_787 wd_1992 dX15_init_232 (by decide) rfl rfl hnm rfl rfl rfl (fun H locs hw => ?_)
  replace hw : mw_W G (mw_ad G) 816 TF F56 M53 L55 H locs := by rw [eF56]; exact hw
  refine lv_aload_n C.1.1 C.1.2.1 dX15_init_235 rfl (lv_at hl 0 rfl) ?_
  refine lv_sipush (v := 500) C.1.1 C.1.2.1 dX15_init_236 (by decide) ?_
  refine mw_size hw (by omega) (fun hs => ?_)
  obtain ⟨L57, eL57, hD⟩ := g_let hD
  refine mr_newL (n := 500) C hw hs tf_816 wd_509 (by decide) (by decide) (by decide) (Nat.le_of_ble_eq_true rfl) (Nat.le_of_ble_eq_true rfl) dX15_init_239 (fun H hw _ => ?_)
  replace hw : mw_W G (mw_ad G) 817 TF F56 M53 L57 H locs := by rw [eL57]; exact hw
  refine W.widen (k := 29) (n := 5833) (Nat.le_of_ble_eq_true rfl) (Nat.le_of_ble_eq_true rfl) ?_
  obtain ⟨F58, eF58, hD⟩ := g_let hD
  refine mr_putFR C hw kc_15 38 (by omega) tf_787 wd_1993 dX15_init_241 (by decide) rfl rfl hnm rfl rfl rfl (fun H locs hw => ?_)
  replace hw : mw_W G (mw_ad G) 817 TF F58 M53 L57 H locs := by rw [eF58]; exact hw
  refine lv_aload_n C.1.1 C.1.2.1 dX15_init_244 rfl (lv_at hl 0 rfl) ?_
  refine lv_sipush (v := 1000) C.1.1 C.1.2.1 dX15_init_245 (by decide) ?_
  refine mw_size hw (by omega) (fun hs => ?_)
  obtain ⟨M59, eM59, hD⟩ := g_let hD
  refine mr_newI (atype := .int) (t := 0) (n := 1000) C hw hs tf_817 (by decide) rfl wd_91 rfl (fun _ => rfl) (by decide) (by decide) (by decide) (Nat.le_of_ble_eq_true rfl) (Nat.le_of_ble_eq_true rfl) dX15_init_248 (fun H hw _ => ?_)
  replace hw : mw_W G (mw_ad G) 818 TF F58 M59 L57 H locs := by rw [eM59]; exact hw
  refine W.widen (k := 30) (n := 6833) (Nat.le_of_ble_eq_true rfl) (Nat.le_of_ble_eq_true rfl) ?_
  obtain ⟨F60, eF60, hD⟩ := g_let hD
  refine mr_putFR C hw kc_15 40 (by omega) tf_787 wd_1995 dX15_init_250 (by decide) rfl rfl hnm rfl rfl rfl (fun H locs hw => ?_)
  replace hw : mw_W G (mw_ad G) 818 TF F60 M59 L57 H locs := by rw [eF60]; exact hw
  refine lv_aload_n C.1.1 C.1.2.1 dX15_init_253 rfl (lv_at hl 0 rfl) ?_
  refine lv_sipush (v := 1000) C.1.1 C.1.2.1 dX15_init_254 (by decide) ?_
  refine mw_size hw (by omega) (fun hs => ?_)
  obtain ⟨M61, eM61, hD⟩ := g_let hD
  refine mr_newI (atype := .int) (t := 0) (n := 1000) C hw hs tf_818 (by decide) rfl wd_91 rfl (fun _ => rfl) (by decide) (by decide) (by decide) (Nat.le_of_ble_eq_true rfl) (Nat.le_of_ble_eq_true rfl) dX15_init_257 (fun H hw _ => ?_)
  replace hw : mw_W G (mw_ad G) 819 TF F60 M61 L57 H locs := by rw [eM61]; exact hw
  refine W.widen (k := 31) (n := 7833) (Nat.le_of_ble_eq_true rfl) (Nat.le_of_ble_eq_true rfl) ?_
  obtain ⟨F62, eF62, hD⟩ := g_let hD
  refine mr_putFR C hw kc_15 41 (by omega) tf_787 wd_1996 dX15_init_259 (by decide) rfl rfl hnm rfl rfl rfl (fun H locs hw => ?_)
  replace hw : mw_W G (mw_ad G) 819 TF F62 M61 L57 H locs := by rw [eF62]; exact hw
  refine lv_aload_n C.1.1 C.1.2.1 dX15_init_262 rfl (lv_at hl 0 rfl) ?_
  refine lv_sipush (v := 1000) C.1.1 C.1.2.1 dX15_init_263 (by decide) ?_
  refine mw_size hw (by omega) (fun hs => ?_)
  obtain ⟨L63, eL63, hD⟩ := g_let hD
  refine mr_newL (n := 1000) C hw hs tf_819 wd_509 (by decide) (by decide) (by decide) (Nat.le_of_ble_eq_true rfl) (Nat.le_of_ble_eq_true rfl) dX15_init_266 (fun H hw _ => ?_)
  replace hw : mw_W G (mw_ad G) 820 TF F62 M61 L63 H locs := by rw [eL63]; exact hw
  refine W.widen (k := 32) (n := 8833) (Nat.le_of_ble_eq_true rfl) (Nat.le_of_ble_eq_true rfl) ?_
  obtain ⟨F64, eF64, hD⟩ := g_let hD
  refine mr_putFR C hw kc_15 42 (by omega) tf_787 wd_1997 dX15_init_268 (by decide) rfl rfl hnm rfl rfl rfl (fun H locs hw => ?_)
  replace hw : mw_W G (mw_ad G) 820 TF F64 M61 L63 H locs := by rw [eF64]; exact hw
  refine lv_aload_n C.1.1 C.1.2.1 dX15_init_271 rfl (lv_at hl 0 rfl) ?_
  refine lv_ldc (v := 120000) C.1.1 C.1.2.1 C.1.2.2.2.1 (C.1.2.2.2.2 _ wd_1954) dX15_init_272 ?_
  refine mw_size hw (by omega) (fun hs => ?_)
  obtain ⟨M65, eM65, hD⟩ := g_let hD
  refine mr_newI (atype := .short) (t := 4) (n := 120000) C hw hs tf_820 (by decide) rfl wd_2091 rfl (fun _ => rfl) (by decide) (by decide) (by decide) (Nat.le_of_ble_eq_true rfl) (Nat.le_of_ble_eq_true rfl) dX15_init_274 (fun H hw _ => ?_)
  replace hw : mw_W G (mw_ad G) 821 TF F64 M65 L63 H locs := by rw [eM65]; exact hw
  refine W.widen (k := 33) (n := 128833) (Nat.le_of_ble_eq_true rfl) (Nat.le_of_ble_eq_true rfl) ?_
  obtain ⟨F66, eF66, hD⟩ := g_let hD
  refine mr_putFR C hw kc_15 44 (by omega) tf_787 wd_1999 dX15_init_276 (by decide) rfl rfl hnm rfl rfl rfl (fun H locs hw => ?_)
  replace hw : mw_W G (mw_ad G) 821 TF F66 M65 L63 H locs := by rw [eF66]; exact hw
  refine mw_size hw (by omega) (fun hs => ?_)
  exact mr_cret C hr hlocks hw hs (Option.some.inj hD) dX15_init_279

theorem dX16_init_0 : decode cX16_init 0 = .ok (.aload_n 0, 1) := by decide +kernel
theorem dX16_init_1 : decode cX16_init 1 = .ok (.invokespecial 1, 3) := by decide +kernel
theorem dX16_init_4 : decode cX16_init 4 = .ok (.aload_n 0, 1) := by decide +kernel
theorem dX16_init_5 : decode cX16_init 5 = .ok (.sipush 129, 3) := by decide +kernel
theorem dX16_init_8 : decode cX16_init 8 = .ok (.newarray .int, 2) := by decide +kernel
theorem dX16_init_10 : decode cX16_init 10 = .ok (.putfield 7, 3) := by decide +kernel
theorem dX16_init_13 : decode cX16_init 13 = .ok (.aload_n 0, 1) := by decide +kernel
theorem dX16_init_14 : decode cX16_init 14 = .ok (.sipush 129, 3) := by decide +kernel
theorem dX16_init_17 : decode cX16_init 17 = .ok (.newarray .int, 2) := by decide +kernel
theorem dX16_init_19 : decode cX16_init 19 = .ok (.putfield 13, 3) := by decide +kernel
theorem dX16_init_22 : decode cX16_init 22 = .ok (.aload_n 0, 1) := by decide +kernel
theorem dX16_init_23 : decode cX16_init 23 = .ok (.sipush 129, 3) := by decide +kernel
theorem dX16_init_26 : decode cX16_init 26 = .ok (.newarray .boolean, 2) := by decide +kernel
theorem dX16_init_28 : decode cX16_init 28 = .ok (.putfield 16, 3) := by decide +kernel
theorem dX16_init_31 : decode cX16_init 31 = .ok (.aload_n 0, 1) := by decide +kernel
theorem dX16_init_32 : decode cX16_init 32 = .ok (.sipush 129, 3) := by decide +kernel
theorem dX16_init_35 : decode cX16_init 35 = .ok (.newarray .int, 2) := by decide +kernel
theorem dX16_init_37 : decode cX16_init 37 = .ok (.putfield 20, 3) := by decide +kernel
theorem dX16_init_40 : decode cX16_init 40 = .ok (.aload_n 0, 1) := by decide +kernel
theorem dX16_init_41 : decode cX16_init 41 = .ok (.sipush 129, 3) := by decide +kernel
theorem dX16_init_44 : decode cX16_init 44 = .ok (.newarray .int, 2) := by decide +kernel
theorem dX16_init_46 : decode cX16_init 46 = .ok (.putfield 23, 3) := by decide +kernel
theorem dX16_init_49 : decode cX16_init 49 = .ok (.aload_n 0, 1) := by decide +kernel
theorem dX16_init_50 : decode cX16_init 50 = .ok (.sipush 129, 3) := by decide +kernel
theorem dX16_init_53 : decode cX16_init 53 = .ok (.newarray .int, 2) := by decide +kernel
theorem dX16_init_55 : decode cX16_init 55 = .ok (.putfield 26, 3) := by decide +kernel
theorem dX16_init_58 : decode cX16_init 58 = .ok (.aload_n 0, 1) := by decide +kernel
theorem dX16_init_59 : decode cX16_init 59 = .ok (.sipush 129, 3) := by decide +kernel
theorem dX16_init_62 : decode cX16_init 62 = .ok (.newarray .int, 2) := by decide +kernel
theorem dX16_init_64 : decode cX16_init 64 = .ok (.putfield 29, 3) := by decide +kernel
theorem dX16_init_67 : decode cX16_init 67 = .ok (.aload_n 0, 1) := by decide +kernel
theorem dX16_init_68 : decode cX16_init 68 = .ok (.sipush 129, 3) := by decide +kernel
theorem dX16_init_71 : decode cX16_init 71 = .ok (.newarray .int, 2) := by decide +kernel
theorem dX16_init_73 : decode cX16_init 73 = .ok (.putfield 32, 3) := by decide +kernel
theorem dX16_init_76 : decode cX16_init 76 = .ok (.aload_n 0, 1) := by decide +kernel
theorem dX16_init_77 : decode cX16_init 77 = .ok (.sipush 129, 3) := by decide +kernel
theorem dX16_init_80 : decode cX16_init 80 = .ok (.newarray .int, 2) := by decide +kernel
theorem dX16_init_82 : decode cX16_init 82 = .ok (.putfield 35, 3) := by decide +kernel
theorem dX16_init_85 : decode cX16_init 85 = .ok (.aload_n 0, 1) := by decide +kernel
theorem dX16_init_86 : decode cX16_init 86 = .ok (.sipush 129, 3) := by decide +kernel
theorem dX16_init_89 : decode cX16_init 89 = .ok (.newarray .int, 2) := by decide +kernel
theorem dX16_init_91 : decode cX16_init 91 = .ok (.putfield 38, 3) := by decide +kernel
theorem dX16_init_94 : decode cX16_init 94 = .ok (.aload_n 0, 1) := by decide +kernel
theorem dX16_init_95 : decode cX16_init 95 = .ok (.sipush 129, 3) := by decide +kernel
theorem dX16_init_98 : decode cX16_init 98 = .ok (.newarray .boolean, 2) := by decide +kernel
theorem dX16_init_100 : decode cX16_init 100 = .ok (.putfield 41, 3) := by decide +kernel
theorem dX16_init_103 : decode cX16_init 103 = .ok (.aload_n 0, 1) := by decide +kernel
theorem dX16_init_104 : decode cX16_init 104 = .ok (.sipush 2193, 3) := by decide +kernel
theorem dX16_init_107 : decode cX16_init 107 = .ok (.newarray .int, 2) := by decide +kernel
theorem dX16_init_109 : decode cX16_init 109 = .ok (.putfield 44, 3) := by decide +kernel
theorem dX16_init_112 : decode cX16_init 112 = .ok (.aload_n 0, 1) := by decide +kernel
theorem dX16_init_113 : decode cX16_init 113 = .ok (.sipush 2193, 3) := by decide +kernel
theorem dX16_init_116 : decode cX16_init 116 = .ok (.newarray .int, 2) := by decide +kernel
theorem dX16_init_118 : decode cX16_init 118 = .ok (.putfield 47, 3) := by decide +kernel
theorem dX16_init_121 : decode cX16_init 121 = .ok (.aload_n 0, 1) := by decide +kernel
theorem dX16_init_122 : decode cX16_init 122 = .ok (.bipush 65, 2) := by decide +kernel
theorem dX16_init_124 : decode cX16_init 124 = .ok (.newarray .int, 2) := by decide +kernel
theorem dX16_init_126 : decode cX16_init 126 = .ok (.putfield 50, 3) := by decide +kernel
theorem dX16_init_129 : decode cX16_init 129 = .ok (.aload_n 0, 1) := by decide +kernel
theorem dX16_init_130 : decode cX16_init 130 = .ok (.sipush 512, 3) := by decide +kernel
theorem dX16_init_133 : decode cX16_init 133 = .ok (.newarray .int, 2) := by decide +kernel
theorem dX16_init_135 : decode cX16_init 135 = .ok (.putfield 53, 3) := by decide +kernel
theorem dX16_init_138 : decode cX16_init 138 = .ok (.aload_n 0, 1) := by decide +kernel
theorem dX16_init_139 : decode cX16_init 139 = .ok (.sipush 129, 3) := by decide +kernel
theorem dX16_init_142 : decode cX16_init 142 = .ok (.newarray .int, 2) := by decide +kernel
theorem dX16_init_144 : decode cX16_init 144 = .ok (.putfield 56, 3) := by decide +kernel
theorem dX16_init_147 : decode cX16_init 147 = .ok (.aload_n 0, 1) := by decide +kernel
theorem dX16_init_148 : decode cX16_init 148 = .ok (.sipush 129, 3) := by decide +kernel
theorem dX16_init_151 : decode cX16_init 151 = .ok (.newarray .int, 2) := by decide +kernel
theorem dX16_init_153 : decode cX16_init 153 = .ok (.putfield 59, 3) := by decide +kernel
theorem dX16_init_156 : decode cX16_init 156 = .ok (.aload_n 0, 1) := by decide +kernel
theorem dX16_init_157 : decode cX16_init 157 = .ok (.sipush 129, 3) := by decide +kernel
theorem dX16_init_160 : decode cX16_init 160 = .ok (.newarray .int, 2) := by decide +kernel
theorem dX16_init_162 : decode cX16_init 162 = .ok (.putfield 62, 3) := by decide +kernel
theorem dX16_init_165 : decode cX16_init 165 = .ok (.aload_n 0, 1) := by decide +kernel
theorem dX16_init_166 : decode cX16_init 166 = .ok (.bipush 65, 2) := by decide +kernel
theorem dX16_init_168 : decode cX16_init 168 = .ok (.newarray .int, 2) := by decide +kernel
theorem dX16_init_170 : decode cX16_init 170 = .ok (.putfield 65, 3) := by decide +kernel
theorem dX16_init_173 : decode cX16_init 173 = .ok (.aload_n 0, 1) := by decide +kernel
theorem dX16_init_174 : decode cX16_init 174 = .ok (.sipush 129, 3) := by decide +kernel
theorem dX16_init_177 : decode cX16_init 177 = .ok (.newarray .int, 2) := by decide +kernel
theorem dX16_init_179 : decode cX16_init 179 = .ok (.putfield 68, 3) := by decide +kernel
theorem dX16_init_182 : decode cX16_init 182 = .ok (.aload_n 0, 1) := by decide +kernel
theorem dX16_init_183 : decode cX16_init 183 = .ok (.sipush 129, 3) := by decide +kernel
theorem dX16_init_186 : decode cX16_init 186 = .ok (.newarray .boolean, 2) := by decide +kernel
theorem dX16_init_188 : decode cX16_init 188 = .ok (.putfield 71, 3) := by decide +kernel
theorem dX16_init_191 : decode cX16_init 191 = .ok (.aload_n 0, 1) := by decide +kernel
theorem dX16_init_192 : decode cX16_init 192 = .ok (.sipush 129, 3) := by decide +kernel
theorem dX16_init_195 : decode cX16_init 195 = .ok (.newarray .int, 2) := by decide +kernel
theorem dX16_init_197 : decode cX16_init 197 = .ok (.putfield 74, 3) := by decide +kernel
theorem dX16_init_200 : decode cX16_init 200 = .ok (.return_, 1) := by decide +kernel
theorem cwX16_init : mw_cw yX16_init cX16_init 1 none 0 := ⟨wd_19, wd_2553, by decide +kernel⟩
noncomputable def DX16_init (fu : Nat) (k : Nat) (F : mwF) (M : mwM) (L : mwL) : Option (mwF × mwM × mwL) :=
  mlet (mz 0 M (k + 1)) (fun M1 => mlet (mset F k 3 (some (k + 1))) (fun F2 => mlet (mz 0 M1 (k + 2)) (fun M3 => mlet (mset F2 k 4 (some (k + 2))) (fun F4 => mlet (mz 0 M3 (k + 3)) (fun M5 => mlet (mset F4 k 5 (some (k + 3))) (fun F6 => mlet (mz 0 M5 (k + 4)) (fun M7 => mlet (mset F6 k 6 (some (k + 4))) (fun F8 => mlet (mz 0 M7 (k + 5)) (fun M9 => mlet (mset F8 k 7 (some (k + 5))) (fun F10 => mlet (mz 0 M9 (k + 6)) (fun M11 => mlet (mset F10 k 8 (some (k + 6))) (fun F12 => mlet (mz 0 M11 (k + 7)) (fun M13 => mlet (mset F12 k 9 (some (k + 7))) (fun F14 => mlet (mz 0 M13 (k + 8)) (fun M15 => mlet (mset F14 k 10 (some (k + 8))) (fun F16 => mlet (mz 0 M15 (k + 9)) (fun M17 => mlet (mset F16 k 11 (some (k + 9))) (fun F18 => mlet (mz 0 M17 (k + 10)) (fun M19 => mlet (mset F18 k 12 (some (k + 10))) (fun F20 => mlet (mz 0 M19 (k + 11)) (fun M21 => mlet (mset F20 k 13 (some (k + 11))) (fun F22 => mlet (mz 0 M21 (k + 12)) (fun M23 => mlet (mset F22 k 16 (some (k + 12))) (fun F24 => mlet (mz 0 M23 (k + 13)) (fun M25 => mlet (mset F24 k 17 (some (k + 13))) (fun F26 => mlet (mz 0 M25 (k + 14)) (fun M27 => mlet (mset F26 k 18 (some (k + 14))) (fun F28 => mlet (mz 0 M27 (k + 15)) (fun M29 => mlet (mset F28 k 19 (some (k + 15))) (fun F30 => mlet (mz 0 M29 (k + 16)) (fun M31 => mlet (mset F30 k 20 (some (k + 16))) (fun F32 => mlet (mz 0 M31 (k + 17)) (fun M33 => mlet (mset F32 k 21 (some (k + 17))) (fun F34 => mlet (mz 0 M33 (k + 18)) (fun M35 => mlet (mset F34 k 22 (some (k + 18))) (fun F36 => mlet (mz 0 M35 (k + 19)) (fun M37 => mlet (mset F36 k 23 (some (k + 19))) (fun F38 => mlet (mz 0 M37 (k + 20)) (fun M39 => mlet (mset F38 k 24 (some (k + 20))) (fun F40 => mlet (mz 0 M39 (k + 21)) (fun M41 => mlet (mset F40 k 25 (some (k + 21))) (fun F42 => mlet (mz 0 M41 (k + 22)) (fun M43 => mlet (mset F42 k 26 (some (k + 22))) (fun F44 => some (F44, M43, L)))))))))))))))))))))))))))))))))))))))))))))
set_option maxHeartbeats 4000000 in
theorem kX16_init {fu : Nat} {k : Nat} {F : mwF} {M : mwM} {L : mwL} {F9 : mwF} {M9 : mwM} {L9 : mwL} (hD : DX16_init fu k F M L = some (F9, M9, L9)) : ∀ a j, (a < k ∨ (k + 23) ≤ a) → F9 a j = F a j := by
  intro a j ha
  unfold DX16_init at hD
  obtain ⟨M1, eM1, hD⟩ := g_let hD
  obtain ⟨F2, eF2, hD⟩ := g_let hD
  obtain ⟨M3, eM3, hD⟩ := g_let hD
  obtain ⟨F4, eF4, hD⟩ := g_let hD
  obtain ⟨M5, eM5, hD⟩ := g_let hD
  obtain ⟨F6, eF6, hD⟩ := g_let hD
  obtain ⟨M7, eM7, hD⟩ := g_let hD
  obtain ⟨F8, eF8, hD⟩ := g_let hD
  obtain ⟨M9, eM9, hD⟩ := g_let hD
  obtain ⟨F10, eF10, hD⟩ := g_let hD
  obtain ⟨M11, eM11, hD⟩ := g_let hD
  obtain ⟨F12, eF12, hD⟩ := g_let hD
  obtain ⟨M13, eM13, hD⟩ := g_let hD
  obtain ⟨F14, eF14, hD⟩ := g_let hD
  obtain ⟨M15, eM15, hD⟩ := g_let hD
  obtain ⟨F16, eF16, hD⟩ := g_let hD
  obtain ⟨M17, eM17, hD⟩ := g_let hD
  obtain ⟨F18, eF18, hD⟩ := g_let hD
  obtain ⟨M19, eM19, hD⟩ := g_let hD
  obtain ⟨F20, eF20, hD⟩ := g_let hD
  obtain ⟨M21, eM21, hD⟩ := g_let hD
  obtain ⟨F22, eF22, hD⟩ := g_let hD
  obtain ⟨M23, eM23, hD⟩ := g_let hD
  obtain ⟨F24, eF24, hD⟩ := g_let hD
  obtain ⟨M25, eM25, hD⟩ := g_let hD
  obtain ⟨F26, eF26, hD⟩ := g_let hD
  obtain ⟨M27, eM27, hD⟩ := g_let hD
  obtain ⟨F28, eF28, hD⟩ := g_let hD
  obtain ⟨M29, eM29, hD⟩ := g_let hD
  obtain ⟨F30, eF30, hD⟩ := g_let hD
  obtain ⟨M31, eM31, hD⟩ := g_let hD
  obtain ⟨F32, eF32, hD⟩ := g_let hD
  obtain ⟨M33, eM33, hD⟩ := g_let hD
  obtain ⟨F34, eF34, hD⟩ := g_let hD
  obtain ⟨M35, eM35, hD⟩ := g_let hD
  obtain ⟨F36, eF36, hD⟩ := g_let hD
  obtain ⟨M37, eM37, hD⟩ := g_let hD
  obtain ⟨F38, eF38, hD⟩ := g_let hD
  obtain ⟨M39, eM39, hD⟩ := g_let hD
  obtain ⟨F40, eF40, hD⟩ := g_let hD
  obtain ⟨M41, eM41, hD⟩ := g_let hD
  obtain ⟨F42, eF42, hD⟩ := g_let hD
  obtain ⟨M43, eM43, hD⟩ := g_let hD
  obtain ⟨F44, eF44, hD⟩ := g_let hD
  have hf := congrArg (fun q => q.1) (Option.some.inj hD)
  dsimp only at hf
  rw [← hf]
  rw [eF44, mset_k (by omega)]
  rw [eF42, mset_k (by omega)]
  rw [eF40, mset_k (by omega)]
  rw [eF38, mset_k (by omega)]
  rw [eF36, mset_k (by omega)]
  rw [eF34, mset_k (by omega)]
  rw [eF32, mset_k (by omega)]
  rw [eF30, mset_k (by omega)]
  rw [eF28, mset_k (by omega)]
  rw [eF26, mset_k (by omega)]
  rw [eF24, mset_k (by omega)]
  rw [eF22, mset_k (by omega)]
  rw [eF20, mset_k (by omega)]
  rw [eF18, mset_k (by omega)]
  rw [eF16, mset_k (by omega)]
  rw [eF14, mset_k (by omega)]
  rw [eF12, mset_k (by omega)]
  rw [eF10, mset_k (by omega)]
  rw [eF8, mset_k (by omega)]
  rw [eF6, mset_k (by omega)]
  rw [eF4, mset_k (by omega)]
  rw [eF2, mset_k (by omega)]
set_option maxHeartbeats 4000000 in
set_option maxRecDepth 100000 in
theorem tX16_init (l : Launch) (G : mwG) (fu : Nat) (k : Nat) (F : mwF) (M : mwM) (L : mwL) {F9 : mwF} {M9 : mwM} {L9 : mwL} (hD : DX16_init fu k F M L = some (F9, M9, L9)) (hk0 : isMp k) : Met l yX16_init (Cond.code yX16_init cX16_init 1 none :: GT) ({ frames := 1, cells := 22, slots := 7221, locals := 20 }) (mw_PreC G (k + 1) F M L [.ref (mw_ad G k)]) (mw_QC G (k + 23) F9 M9 L9) 22 7221 (mw_fr G) := by
  refine mw_enterC (by decide) (Nat.le_of_ble_eq_true rfl) ?_
  intro p e s m below meth c ls C A hr hlocks hnm hw hs0 hl
  have hl : lv_has ls 1 [(0, .ref (mw_ad G k))] := hl
  unfold DX16_init at hD
  refine lv_aload_n C.1.1 C.1.2.1 dX16_init_0 rfl (lv_at hl 0 rfl) ?_
  refine W.objInit C.1.1 C.1.2.1 C.1.2.2.2.1 (C.1.2.2.2.2 _ wd_2554) (C.1.2.2.2.2 _ wd_39) (C.1.2.2.2.2 _ wd_40) rfl (by rw [C.1.2.2.1]; exact hl.1) rfl dX16_init_1 (Nat.le_of_ble_eq_true rfl) (Nat.le_of_ble_eq_true rfl) ?_
  refine W.eq (g2 := F0 m 4 ls []) rfl ?_
  refine lv_aload_n C.1.1 C.1.2.1 dX16_init_4 rfl (lv_at hl 0 rfl) ?_
  refine lv_sipush (v := 129) C.1.1 C.1.2.1 dX16_init_5 (by decide) ?_
  refine mw_size hw (by omega) (fun hs => ?_)
  obtain ⟨M1, eM1, hD⟩ := g_let hD
  refine mr_newI (atype := .int) (t := 0) (n := 129) C hw hs (Mp_T1 hk0) (by decide) rfl wd_91 rfl (fun _ => rfl) (by decide) (by decide) (by decide) (Nat.le_of_ble_eq_true rfl) (Nat.le_of_ble_eq_true rfl) dX16_init_8 (fun H hw _ => ?_)
  replace hw : mw_W G (mw_ad G) (k + 2) TF F M1 L H [] := by rw [eM1]; exact hw
  refine W.widen (k := 1) (n := 129) (Nat.le_of_ble_eq_true rfl) (Nat.le_of_ble_eq_true rfl) ?_
  obtain ⟨F2, eF2, hD⟩ := g_let hD
  refine mr_putFR C hw kc_16 3 (by omega) (Mp_T0 hk0) wd_2558 dX16_init_10 (by decide) rfl rfl hnm rfl rfl rfl (fun H locs hw => ?_)
  replace hw : mw_W G (mw_ad G) (k + 2) TF F2 M1 L H locs := by rw [eF2]; exact hw
  refine lv_aload_n C.1.1 C.1.2.1 dX16_init_13 rfl (lv_at hl 0 rfl) ?_
  refine lv_sipush (v := 129) C.1.1 C.1.2.1 dX16_init_14 (by decide) ?_
  refine mw_size hw (by omega) (fun hs => ?_)
  obtain ⟨M3, eM3, hD⟩ := g_let hD
  refine mr_newI (atype := .int) (t := 0) (n := 129) C hw hs (Mp_T2 hk0) (by decide) rfl wd_91 rfl (fun _ => rfl) (by decide) (by decide) (by decide) (Nat.le_of_ble_eq_true rfl) (Nat.le_of_ble_eq_true rfl) dX16_init_17 (fun H hw _ => ?_)
  replace hw : mw_W G (mw_ad G) (k + 3) TF F2 M3 L H locs := by rw [eM3]; exact hw
  refine W.widen (k := 2) (n := 258) (Nat.le_of_ble_eq_true rfl) (Nat.le_of_ble_eq_true rfl) ?_
  obtain ⟨F4, eF4, hD⟩ := g_let hD
  refine mr_putFR C hw kc_16 4 (by omega) (Mp_T0 hk0) wd_2559 dX16_init_19 (by decide) rfl rfl hnm rfl rfl rfl (fun H locs hw => ?_)
  replace hw : mw_W G (mw_ad G) (k + 3) TF F4 M3 L H locs := by rw [eF4]; exact hw
  refine lv_aload_n C.1.1 C.1.2.1 dX16_init_22 rfl (lv_at hl 0 rfl) ?_
  refine lv_sipush (v := 129) C.1.1 C.1.2.1 dX16_init_23 (by decide) ?_
  refine mw_size hw (by omega) (fun hs => ?_)
  obtain ⟨M5, eM5, hD⟩ := g_let hD
  refine mr_newI (atype := .boolean) (t := 2) (n := 129) C hw hs (Mp_T3 hk0) (by decide) rfl wd_320 rfl (fun _ => rfl) (by decide) (by decide) (by decide) (Nat.le_of_ble_eq_true rfl) (Nat.le_of_ble_eq_true rfl) dX16_init_26 (fun H hw _ => ?_)
  replace hw : mw_W G (mw_ad G) (k + 4) TF F4 M5 L H locs := by rw [eM5]; exact hw
  refine W.widen (k := 3) (n := 387) (Nat.le_of_ble_eq_true rfl) (Nat.le_of_ble_eq_true rfl) ?_
  obtain ⟨F6, eF6, hD⟩ := g_let hD
  refine mr_putFR C hw kc_16 5 (by omega) (Mp_T0 hk0) wd_2560 dX16_init_28 (by decide) rfl rfl hnm rfl rfl rfl (fun H locs hw => ?_)
  replace hw : mw_W G (mw_ad G) (k + 4) TF F6 M5 L H locs := by rw [eF6]; exact hw
  refine lv_aload_n C.1.1 C.1.2.1 dX16_init_31 rfl (lv_at hl 0 rfl) ?_
  refine lv_sipush (v := 129) C.1.1 C.1.2.1 dX16_init_32 (by decide) ?_
  refine mw_size hw (by omega) (fun hs => ?_)
  obtain ⟨M7, eM7, hD⟩ := g_let hD
  refine mr_newI (atype := .int) (t := 0) (n := 129) C hw hs (Mp_T4 hk0) (by decide) rfl wd_91 rfl (fun _ => rfl) (by decide) (by decide) (by decide) (Nat.le_of_ble_eq_true rfl) (Nat.le_of_ble_eq_true rfl) dX16_init_35 (fun H hw _ => ?_)
  replace hw : mw_W G (mw_ad G) (k + 5) TF F6 M7 L H locs := by rw [eM7]; exact hw
  refine W.widen (k := 4) (n := 516) (Nat.le_of_ble_eq_true rfl) (Nat.le_of_ble_eq_true rfl) ?_
  obtain ⟨F8, eF8, hD⟩ := g_let hD
  refine mr_putFR C hw kc_16 6 (by omega) (Mp_T0 hk0) wd_2561 dX16_init_37 (by decide) rfl rfl hnm rfl rfl rfl (fun H locs hw => ?_)
  replace hw : mw_W G (mw_ad G) (k + 5) TF F8 M7 L H locs := by rw [eF8]; exact hw
  refine lv_aload_n C.1.1 C.1.2.1 dX16_init_40 rfl (lv_at hl 0 rfl) ?_
  refine lv_sipush (v := 129) C.1.1 C.1.2.1 dX16_init_41 (by decide) ?_
  refine mw_size hw (by omega) (fun hs => ?_)
  obtain ⟨M9, eM9, hD⟩ := g_let hD
  refine mr_newI (atype := .int) (t := 0) (n := 129) C hw hs (Mp_T5 hk0) (by decide) rfl wd_91 rfl (fun _ => rfl) (by decide) (by decide) (by decide) (Nat.le_of_ble_eq_true rfl) (Nat.le_of_ble_eq_true rfl) dX16_init_44 (fun H hw _ => ?_)
  replace hw : mw_W G (mw_ad G) (k + 6) TF F8 M9 L H locs := by rw [eM9]; exact hw
  refine W.widen (k := 5) (n := 645) (Nat.le_of_ble_eq_true rfl) (Nat.le_of_ble_eq_true rfl) ?_
  obtain ⟨F10, eF10, hD⟩ := g_let hD
  refine mr_putFR C hw kc_16 7 (by omega) (Mp_T0 hk0) wd_2562 dX16_init_46 (by decide) rfl rfl hnm rfl rfl rfl (fun H locs hw => ?_)
  replace hw : mw_W G (mw_ad G) (k + 6) TF F10 M9 L H locs := by rw [eF10]; exact hw
  refine lv_aload_n C.1.1 C.1.2.1 dX16_init_49 rfl (lv_at hl 0 rfl) ?_
  refine lv_sipush (v := 129) C.1.1 C.1.2.1 dX16_init_50 (by decide) ?_
  refine mw_size hw (by omega) (fun hs => ?_)
  obtain ⟨M11, eM11, hD⟩ := g_let hD
  refine mr_newI (atype := .int) (t := 0) (n := 129) C hw hs (Mp_T6 hk0) (by decide) rfl wd_91 rfl (fun _ => rfl) (by decide) (by decide) (by decide) (Nat.le_of_ble_eq_true rfl) (Nat.le_of_ble_eq_true rfl) dX16_init_53 (fun H hw _ => ?_)
  replace hw : mw_W G (mw_ad G) (k + 7) TF F10 M11 L H locs := by rw [eM11]; exact hw
  refine W.widen (k := 6) (n := 774) (Nat.le_of_ble_eq_true rfl) (Nat.le_of_ble_eq_true rfl) ?_
  obtain ⟨F12, eF12, hD⟩ := g_let hD
  refine mr_putFR C hw kc_16 8 (by omega) (Mp_T0 hk0) wd_2563 dX16_init_55 (by decide) rfl rfl hnm rfl rfl rfl (fun H locs hw => ?_)
  replace hw : mw_W G (mw_ad G) (k + 7) TF F12 M11 L H locs := by rw [eF12]; exact hw
  refine lv_aload_n C.1.1 C.1.2.1 dX16_init_58 rfl (lv_at hl 0 rfl) ?_
  refine lv_sipush (v := 129) C.1.1 C.1.2.1 dX16_init_59 (by decide) ?_
  refine mw_size hw (by omega) (fun hs => ?_)
  obtain ⟨M13, eM13, hD⟩ := g_let hD
  refine mr_newI (atype := .int) (t := 0) (n := 129) C hw hs (Mp_T7 hk0) (by decide) rfl wd_91 rfl (fun _ => rfl) (by decide) (by decide) (by decide) (Nat.le_of_ble_eq_true rfl) (Nat.le_of_ble_eq_true rfl) dX16_init_62 (fun H hw _ => ?_)
  replace hw : mw_W G (mw_ad G) (k + 8) TF F12 M13 L H locs := by rw [eM13]; exact hw
  refine W.widen (k := 7) (n := 903) (Nat.le_of_ble_eq_true rfl) (Nat.le_of_ble_eq_true rfl) ?_
  obtain ⟨F14, eF14, hD⟩ := g_let hD
  refine mr_putFR C hw kc_16 9 (by omega) (Mp_T0 hk0) wd_2564 dX16_init_64 (by decide) rfl rfl hnm rfl rfl rfl (fun H locs hw => ?_)
  replace hw : mw_W G (mw_ad G) (k + 8) TF F14 M13 L H locs := by rw [eF14]; exact hw
  refine lv_aload_n C.1.1 C.1.2.1 dX16_init_67 rfl (lv_at hl 0 rfl) ?_
  refine lv_sipush (v := 129) C.1.1 C.1.2.1 dX16_init_68 (by decide) ?_
  refine mw_size hw (by omega) (fun hs => ?_)
  obtain ⟨M15, eM15, hD⟩ := g_let hD
  refine mr_newI (atype := .int) (t := 0) (n := 129) C hw hs (Mp_T8 hk0) (by decide) rfl wd_91 rfl (fun _ => rfl) (by decide) (by decide) (by decide) (Nat.le_of_ble_eq_true rfl) (Nat.le_of_ble_eq_true rfl) dX16_init_71 (fun H hw _ => ?_)
  replace hw : mw_W G (mw_ad G) (k + 9) TF F14 M15 L H locs := by rw [eM15]; exact hw
  refine W.widen (k := 8) (n := 1032) (Nat.le_of_ble_eq_true rfl) (Nat.le_of_ble_eq_true rfl) ?_
  obtain ⟨F16, eF16, hD⟩ := g_let hD
  refine mr_putFR C hw kc_16 10 (by omega) (Mp_T0 hk0) wd_2565 dX16_init_73 (by decide) rfl rfl hnm rfl rfl rfl (fun H locs hw => ?_)
  replace hw : mw_W G (mw_ad G) (k + 9) TF F16 M15 L H locs := by rw [eF16]; exact hw
  refine lv_aload_n C.1.1 C.1.2.1 dX16_init_76 rfl (lv_at hl 0 rfl) ?_
  refine lv_sipush (v := 129) C.1.1 C.1.2.1 dX16_init_77 (by decide) ?_
  refine mw_size hw (by omega) (fun hs => ?_)
  obtain ⟨M17, eM17, hD⟩ := g_let hD
  refine mr_newI (atype := .int) (t := 0) (n := 129) C hw hs (Mp_T9 hk0) (by decide) rfl wd_91 rfl (fun _ => rfl) (by decide) (by decide) (by decide) (Nat.le_of_ble_eq_true rfl) (Nat.le_of_ble_eq_true rfl) dX16_init_80 (fun H hw _ => ?_)
  replace hw : mw_W G (mw_ad G) (k + 10) TF F16 M17 L H locs := by rw [eM17]; exact hw
  refine W.widen (k := 9) (n := 1161) (Nat.le_of_ble_eq_true rfl) (Nat.le_of_ble_eq_true rfl) ?_
  obtain ⟨F18, eF18, hD⟩ := g_let hD
  refine mr_putFR C hw kc_16 11 (by omega) (Mp_T0 hk0) wd_2566 dX16_init_82 (by decide) rfl rfl hnm rfl rfl rfl (fun H locs hw => ?_)
  replace hw : mw_W G (mw_ad G) (k + 10) TF F18 M17 L H locs := by rw [eF18]; exact hw
  refine lv_aload_n C.1.1 C.1.2.1 dX16_init_85 rfl (lv_at hl 0 rfl) ?_
  refine lv_sipush (v := 129) C.1.1 C.1.2.1 dX16_init_86 (by decide) ?_
  refine mw_size hw (by omega) (fun hs => ?_)
  obtain ⟨M19, eM19, hD⟩ := g_let hD
  refine mr_newI (atype := .int) (t := 0) (n := 129) C hw hs (Mp_T10 hk0) (by decide) rfl wd_91 rfl (fun _ => rfl) (by decide) (by decide) (by decide) (Nat.le_of_ble_eq_true rfl) (Nat.le_of_ble_eq_true rfl) dX16_init_89 (fun H hw _ => ?_)
  replace hw : mw_W G (mw_ad G) (k + 11) TF F18 M19 L H locs := by rw [eM19]; exact hw
  refine W.widen (k := 10) (n := 1290) (Nat.le_of_ble_eq_true rfl) (Nat.le_of_ble_eq_true rfl) ?_
  obtain ⟨F20, eF20, hD⟩ := g_let hD
  refine mr_putFR C hw kc_16 12 (by omega) (Mp_T0 hk0) wd_2567 dX16_init_91 (by decide) rfl rfl hnm rfl rfl rfl (fun H locs hw => ?_)
  replace hw : mw_W G (mw_ad G) (k + 11) TF F20 M19 L H locs := by rw [eF20]; exact hw
  refine lv_aload_n C.1.1 C.1.2.1 dX16_init_94 rfl (lv_at hl 0 rfl) ?_
  refine lv_sipush (v := 129) C.1.1 C.1.2.1 dX16_init_95 (by decide) ?_
  refine mw_size hw (by omega) (fun hs => ?_)
  obtain ⟨M21, eM21, hD⟩ := g_let hD
  refine mr_newI (atype := .boolean) (t := 2) (n := 129) C hw hs (Mp_T11 hk0) (by decide) rfl wd_320 rfl (fun _ => rfl) (by decide) (by decide) (by decide) (Nat.le_of_ble_eq_true rfl) (Nat.le_of_ble_eq_true rfl) dX16_init_98 (fun H hw _ => ?_)
  replace hw : mw_W G (mw_ad G) (k + 12) TF F20 M21 L H locs := by rw [eM21]; exact hw
  refine W.widen (k := 11) (n := 1419) (Nat.le_of_ble_eq_true rfl) (Nat.le_of_ble_eq_true rfl) ?_
  obtain ⟨F22, eF22, hD⟩ := g_let hD
  refine mr_putFR C hw kc_16 13 (by omega) (Mp_T0 hk0) wd_2568 dX16_init_100 (by decide) rfl rfl hnm rfl rfl rfl (fun H locs hw => ?_)
  replace hw : mw_W G (mw_ad G) (k + 12) TF F22 M21 L H locs := by rw [eF22]; exact hw
  refine lv_aload_n C.1.1 C.1.2.1 dX16_init_103 rfl (lv_at hl 0 rfl) ?_
  refine lv_sipush (v := 2193) C.1.1 C.1.2.1 dX16_init_104 (by decide) ?_
  refine mw_size hw (by omega) (fun hs => ?_)
  obtain ⟨M23, eM23, hD⟩ := g_let hD
  refine mr_newI (atype := .int) (t := 0) (n := 2193) C hw hs (Mp_T12 hk0) (by decide) rfl wd_91 rfl (fun _ => rfl) (by decide) (by decide) (by decide) (Nat.le_of_ble_eq_true rfl) (Nat.le_of_ble_eq_true rfl) dX16_init_107 (fun H hw _ => ?_)
  replace hw : mw_W G (mw_ad G) (k + 13) TF F22 M23 L H locs := by rw [eM23]; exact hw
  refine W.widen (k := 12) (n := 3612) (Nat.le_of_ble_eq_true rfl) (Nat.le_of_ble_eq_true rfl) ?_
  obtain ⟨F24, eF24, hD⟩ := g_let hD
  refine mr_putFR C hw kc_16 16 (by omega) (Mp_T0 hk0) wd_2571 dX16_init_109 (by decide) rfl rfl hnm rfl rfl rfl (fun H locs hw => ?_)
  replace hw : mw_W G (mw_ad G) (k + 13) TF F24 M23 L H locs := by rw [eF24]; exact hw
  refine lv_aload_n C.1.1 C.1.2.1 dX16_init_112 rfl (lv_at hl 0 rfl) ?_
  refine lv_sipush (v := 2193) C.1.1 C.1.2.1 dX16_init_113 (by decide) ?_
  refine mw_size hw (by omega) (fun hs => ?_)
  obtain ⟨M25, eM25, hD⟩ := g_let hD
  refine mr_newI (atype := .int) (t := 0) (n := 2193) C hw hs (Mp_T13 hk0) (by decide) rfl wd_91 rfl (fun _ => rfl) (by decide) (by decide) (by decide) (Nat.le_of_ble_eq_true rfl) (Nat.le_of_ble_eq_true rfl) dX16_init_116 (fun H hw _ => ?_)
  replace hw : mw_W G (mw_ad G) (k + 14) TF F24 M25 L H locs := by rw [eM25]; exact hw
  refine W.widen (k := 13) (n := 5805) (Nat.le_of_ble_eq_true rfl) (Nat.le_of_ble_eq_true rfl) ?_
  obtain ⟨F26, eF26, hD⟩ := g_let hD
  refine mr_putFR C hw kc_16 17 (by omega) (Mp_T0 hk0) wd_2572 dX16_init_118 (by decide) rfl rfl hnm rfl rfl rfl (fun H locs hw => ?_)
  replace hw : mw_W G (mw_ad G) (k + 14) TF F26 M25 L H locs := by rw [eF26]; exact hw
  refine lv_aload_n C.1.1 C.1.2.1 dX16_init_121 rfl (lv_at hl 0 rfl) ?_
  refine lv_bipush (v := 65) C.1.1 C.1.2.1 dX16_init_122 (by decide) ?_
  refine mw_size hw (by omega) (fun hs => ?_)
  obtain ⟨M27, eM27, hD⟩ := g_let hD
  refine mr_newI (atype := .int) (t := 0) (n := 65) C hw hs (Mp_T14 hk0) (by decide) rfl wd_91 rfl (fun _ => rfl) (by decide) (by decide) (by decide) (Nat.le_of_ble_eq_true rfl) (Nat.le_of_ble_eq_true rfl) dX16_init_124 (fun H hw _ => ?_)
  replace hw : mw_W G (mw_ad G) (k + 15) TF F26 M27 L H locs := by rw [eM27]; exact hw
  refine W.widen (k := 14) (n := 5870) (Nat.le_of_ble_eq_true rfl) (Nat.le_of_ble_eq_true rfl) ?_
  obtain ⟨F28, eF28, hD⟩ := g_let hD
  refine mr_putFR C hw kc_16 18 (by omega) (Mp_T0 hk0) wd_2573 dX16_init_126 (by decide) rfl rfl hnm rfl rfl rfl (fun H locs hw => ?_)
  replace hw : mw_W G (mw_ad G) (k + 15) TF F28 M27 L H locs := by rw [eF28]; exact hw
  refine lv_aload_n C.1.1 C.1.2.1 dX16_init_129 rfl (lv_at hl 0 rfl) ?_
  refine lv_sipush (v := 512) C.1.1 C.1.2.1 dX16_init_130 (by decide) ?_
  refine mw_size hw (by omega) (fun hs => ?_)
  obtain ⟨M29, eM29, hD⟩ := g_let hD
  refine mr_newI (atype := .int) (t := 0) (n := 512) C hw hs (Mp_T15 hk0) (by decide) rfl wd_91 rfl (fun _ => rfl) (by decide) (by decide) (by decide) (Nat.le_of_ble_eq_true rfl) (Nat.le_of_ble_eq_true rfl) dX16_init_133 (fun H hw _ => ?_)
  replace hw : mw_W G (mw_ad G) (k + 16) TF F28 M29 L H locs := by rw [eM29]; exact hw
  refine W.widen (k := 15) (n := 6382) (Nat.le_of_ble_eq_true rfl) (Nat.le_of_ble_eq_true rfl) ?_
  obtain ⟨F30, eF30, hD⟩ := g_let hD
  refine mr_putFR C hw kc_16 19 (by omega) (Mp_T0 hk0) wd_2574 dX16_init_135 (by decide) rfl rfl hnm rfl rfl rfl (fun H locs hw => ?_)
  replace hw : mw_W G (mw_ad G) (k + 16) TF F30 M29 L H locs := by rw [eF30]; exact hw
  refine lv_aload_n C.1.1 C.1.2.1 dX16_init_138 rfl (lv_at hl 0 rfl) ?_
  refine lv_sipush (v := 129) C.1.1 C.1.2.1 dX16_init_139 (by decide) ?_
  refine mw_size hw (by omega) (fun hs => ?_)
  obtain ⟨M31, eM31, hD⟩ := g_let hD
  refine mr_newI (atype := .int) (t := 0) (n := 129) C hw hs (Mp_T16 hk0) (by decide) rfl wd_91 rfl (fun _ => rfl) (by decide) (by decide) (by decide) (Nat.le_of_ble_eq_true rfl) (Nat.le_of_ble_eq_true rfl) dX16_init_142 (fun H hw _ => ?_)
  replace hw : mw_W G (mw_ad G) (k + 17) TF F30 M31 L H locs := by rw [eM31]; exact hw
  refine W.widen (k := 16) (n := 6511) (Nat.le_of_ble_eq_true rfl) (Nat.le_of_ble_eq_true rfl) ?_
  obtain ⟨F32, eF32, hD⟩ := g_let hD
  refine mr_putFR C hw kc_16 20 (by omega) (Mp_T0 hk0) wd_2575 dX16_init_144 (by decide) rfl rfl hnm rfl rfl rfl (fun H locs hw => ?_)
  replace hw : mw_W G (mw_ad G) (k + 17) TF F32 M31 L H locs := by rw [eF32]; exact hw
  refine lv_aload_n C.1.1 C.1.2.1 dX16_init_147 rfl (lv_at hl 0 rfl) ?_
  refine lv_sipush (v := 129) C.1.1 C.1.2.1 dX16_init_148 (by decide) ?_
  refine mw_size hw (by omega) (fun hs => ?_)
  obtain ⟨M33, eM33, hD⟩ := g_let hD
  refine mr_newI (atype := .int) (t := 0) (n := 129) C hw hs (Mp_T17 hk0) (by decide) rfl wd_91 rfl (fun _ => rfl) (by decide) (by decide) (by decide) (Nat.le_of_ble_eq_true rfl) (Nat.le_of_ble_eq_true rfl) dX16_init_151 (fun H hw _ => ?_)
  replace hw : mw_W G (mw_ad G) (k + 18) TF F32 M33 L H locs := by rw [eM33]; exact hw
  refine W.widen (k := 17) (n := 6640) (Nat.le_of_ble_eq_true rfl) (Nat.le_of_ble_eq_true rfl) ?_
  obtain ⟨F34, eF34, hD⟩ := g_let hD
  refine mr_putFR C hw kc_16 21 (by omega) (Mp_T0 hk0) wd_2576 dX16_init_153 (by decide) rfl rfl hnm rfl rfl rfl (fun H locs hw => ?_)
  replace hw : mw_W G (mw_ad G) (k + 18) TF F34 M33 L H locs := by rw [eF34]; exact hw
  refine lv_aload_n C.1.1 C.1.2.1 dX16_init_156 rfl (lv_at hl 0 rfl) ?_
  refine lv_sipush (v := 129) C.1.1 C.1.2.1 dX16_init_157 (by decide) ?_
  refine mw_size hw (by omega) (fun hs => ?_)
  obtain ⟨M35, eM35, hD⟩ := g_let hD
  refine mr_newI (atype := .int) (t := 0) (n := 129) C hw hs (Mp_T18 hk0) (by decide) rfl wd_91 rfl (fun _ => rfl) (by decide) (by decide) (by decide) (Nat.le_of_ble_eq_true rfl) (Nat.le_of_ble_eq_true rfl) dX16_init_160 (fun H hw _ => ?_)
  replace hw : mw_W G (mw_ad G) (k + 19) TF F34 M35 L H locs := by rw [eM35]; exact hw
  refine W.widen (k := 18) (n := 6769) (Nat.le_of_ble_eq_true rfl) (Nat.le_of_ble_eq_true rfl) ?_
  obtain ⟨F36, eF36, hD⟩ := g_let hD
  refine mr_putFR C hw kc_16 22 (by omega) (Mp_T0 hk0) wd_2577 dX16_init_162 (by decide) rfl rfl hnm rfl rfl rfl (fun H locs hw => ?_)
  replace hw : mw_W G (mw_ad G) (k + 19) TF F36 M35 L H locs := by rw [eF36]; exact hw
  refine lv_aload_n C.1.1 C.1.2.1 dX16_init_165 rfl (lv_at hl 0 rfl) ?_
  refine lv_bipush (v := 65) C.1.1 C.1.2.1 dX16_init_166 (by decide) ?_
  refine mw_size hw (by omega) (fun hs => ?_)
  obtain ⟨M37, eM37, hD⟩ := g_let hD
  refine mr_newI (atype := .int) (t := 0) (n := 65) C hw hs (Mp_T19 hk0) (by decide) rfl wd_91 rfl (fun _ => rfl) (by decide) (by decide) (by decide) (Nat.le_of_ble_eq_true rfl) (Nat.le_of_ble_eq_true rfl) dX16_init_168 (fun H hw _ => ?_)
  replace hw : mw_W G (mw_ad G) (k + 20) TF F36 M37 L H locs := by rw [eM37]; exact hw
  refine W.widen (k := 19) (n := 6834) (Nat.le_of_ble_eq_true rfl) (Nat.le_of_ble_eq_true rfl) ?_
  obtain ⟨F38, eF38, hD⟩ := g_let hD
  refine mr_putFR C hw kc_16 23 (by omega) (Mp_T0 hk0) wd_2578 dX16_init_170 (by decide) rfl rfl hnm rfl rfl rfl (fun H locs hw => ?_)
  replace hw : mw_W G (mw_ad G) (k + 20) TF F38 M37 L H locs := by rw [eF38]; exact hw
  refine lv_aload_n C.1.1 C.1.2.1 dX16_init_173 rfl (lv_at hl 0 rfl) ?_
  refine lv_sipush (v := 129) C.1.1 C.1.2.1 dX16_init_174 (by decide) ?_
  refine mw_size hw (by omega) (fun hs => ?_)
  obtain ⟨M39, eM39, hD⟩ := g_let hD
  refine mr_newI (atype := .int) (t := 0) (n := 129) C hw hs (Mp_T20 hk0) (by decide) rfl wd_91 rfl (fun _ => rfl) (by decide) (by decide) (by decide) (Nat.le_of_ble_eq_true rfl) (Nat.le_of_ble_eq_true rfl) dX16_init_177 (fun H hw _ => ?_)
  replace hw : mw_W G (mw_ad G) (k + 21) TF F38 M39 L H locs := by rw [eM39]; exact hw
  refine W.widen (k := 20) (n := 6963) (Nat.le_of_ble_eq_true rfl) (Nat.le_of_ble_eq_true rfl) ?_
  obtain ⟨F40, eF40, hD⟩ := g_let hD
  refine mr_putFR C hw kc_16 24 (by omega) (Mp_T0 hk0) wd_2579 dX16_init_179 (by decide) rfl rfl hnm rfl rfl rfl (fun H locs hw => ?_)
  replace hw : mw_W G (mw_ad G) (k + 21) TF F40 M39 L H locs := by rw [eF40]; exact hw
  refine lv_aload_n C.1.1 C.1.2.1 dX16_init_182 rfl (lv_at hl 0 rfl) ?_
  refine lv_sipush (v := 129) C.1.1 C.1.2.1 dX16_init_183 (by decide) ?_
  refine mw_size hw (by omega) (fun hs => ?_)
  obtain ⟨M41, eM41, hD⟩ := g_let hD
  refine mr_newI (atype := .boolean) (t := 2) (n := 129) C hw hs (Mp_T21 hk0) (by decide) rfl wd_320 rfl (fun _ => rfl) (by decide) (by decide) (by decide) (Nat.le_of_ble_eq_true rfl) (Nat.le_of_ble_eq_true rfl) dX16_init_186 (fun H hw _ => ?_)
  replace hw : mw_W G (mw_ad G) (k + 22) TF F40 M41 L H locs := by rw [eM41]; exact hw
  refine W.widen (k := 21) (n := 7092) (Nat.le_of_ble_eq_true rfl) (Nat.le_of_ble_eq_true rfl) ?_
  obtain ⟨F42, eF42, hD⟩ := g_let hD
  refine mr_putFR C hw kc_16 25 (by omega) (Mp_T0 hk0) wd_2580 dX16_init_188 (by decide) rfl rfl hnm rfl rfl rfl (fun H locs hw => ?_)
  replace hw : mw_W G (mw_ad G) (k + 22) TF F42 M41 L H locs := by rw [eF42]; exact hw
  refine lv_aload_n C.1.1 C.1.2.1 dX16_init_191 rfl (lv_at hl 0 rfl) ?_
  refine lv_sipush (v := 129) C.1.1 C.1.2.1 dX16_init_192 (by decide) ?_
  refine mw_size hw (by omega) (fun hs => ?_)
  obtain ⟨M43, eM43, hD⟩ := g_let hD
  refine mr_newI (atype := .int) (t := 0) (n := 129) C hw hs (Mp_T22 hk0) (by decide) rfl wd_91 rfl (fun _ => rfl) (by decide) (by decide) (by decide) (Nat.le_of_ble_eq_true rfl) (Nat.le_of_ble_eq_true rfl) dX16_init_195 (fun H hw _ => ?_)
  replace hw : mw_W G (mw_ad G) (k + 23) TF F42 M43 L H locs := by rw [eM43]; exact hw
  refine W.widen (k := 22) (n := 7221) (Nat.le_of_ble_eq_true rfl) (Nat.le_of_ble_eq_true rfl) ?_
  obtain ⟨F44, eF44, hD⟩ := g_let hD
  refine mr_putFR C hw kc_16 26 (by omega) (Mp_T0 hk0) wd_2581 dX16_init_197 (by decide) rfl rfl hnm rfl rfl rfl (fun H locs hw => ?_)
  replace hw : mw_W G (mw_ad G) (k + 23) TF F44 M43 L H locs := by rw [eF44]; exact hw
  refine mw_size hw (by omega) (fun hs => ?_)
  exact mr_cret C hr hlocks hw hs (Option.some.inj hD) dX16_init_200

theorem dX17_init_0 : decode cX17_init 0 = .ok (.aload_n 0, 1) := by decide +kernel
theorem dX17_init_1 : decode cX17_init 1 = .ok (.invokespecial 1, 3) := by decide +kernel
theorem dX17_init_4 : decode cX17_init 4 = .ok (.aload_n 0, 1) := by decide +kernel
theorem dX17_init_5 : decode cX17_init 5 = .ok (.bipush 102, 2) := by decide +kernel
theorem dX17_init_7 : decode cX17_init 7 = .ok (.newarray .int, 2) := by decide +kernel
theorem dX17_init_9 : decode cX17_init 9 = .ok (.putfield 7, 3) := by decide +kernel
theorem dX17_init_12 : decode cX17_init 12 = .ok (.aload_n 0, 1) := by decide +kernel
theorem dX17_init_13 : decode cX17_init 13 = .ok (.sipush 20000, 3) := by decide +kernel
theorem dX17_init_16 : decode cX17_init 16 = .ok (.newarray .byte, 2) := by decide +kernel
theorem dX17_init_18 : decode cX17_init 18 = .ok (.putfield 13, 3) := by decide +kernel
theorem dX17_init_21 : decode cX17_init 21 = .ok (.aload_n 0, 1) := by decide +kernel
theorem dX17_init_22 : decode cX17_init 22 = .ok (.bipush 101, 2) := by decide +kernel
theorem dX17_init_24 : decode cX17_init 24 = .ok (.newarray .boolean, 2) := by decide +kernel
theorem dX17_init_26 : decode cX17_init 26 = .ok (.putfield 17, 3) := by decide +kernel
theorem dX17_init_29 : decode cX17_init 29 = .ok (.aload_n 0, 1) := by decide +kernel
theorem dX17_init_30 : decode cX17_init 30 = .ok (.bipush 101, 2) := by decide +kernel
theorem dX17_init_32 : decode cX17_init 32 = .ok (.newarray .int, 2) := by decide +kernel
theorem dX17_init_34 : decode cX17_init 34 = .ok (.putfield 21, 3) := by decide +kernel
theorem dX17_init_37 : decode cX17_init 37 = .ok (.aload_n 0, 1) := by decide +kernel
theorem dX17_init_38 : decode cX17_init 38 = .ok (.bipush 101, 2) := by decide +kernel
theorem dX17_init_40 : decode cX17_init 40 = .ok (.newarray .int, 2) := by decide +kernel
theorem dX17_init_42 : decode cX17_init 42 = .ok (.putfield 24, 3) := by decide +kernel
theorem dX17_init_45 : decode cX17_init 45 = .ok (.aload_n 0, 1) := by decide +kernel
theorem dX17_init_46 : decode cX17_init 46 = .ok (.bipush 101, 2) := by decide +kernel
theorem dX17_init_48 : decode cX17_init 48 = .ok (.newarray .int, 2) := by decide +kernel
theorem dX17_init_50 : decode cX17_init 50 = .ok (.putfield 27, 3) := by decide +kernel
theorem dX17_init_53 : decode cX17_init 53 = .ok (.aload_n 0, 1) := by decide +kernel
theorem dX17_init_54 : decode cX17_init 54 = .ok (.bipush 101, 2) := by decide +kernel
theorem dX17_init_56 : decode cX17_init 56 = .ok (.newarray .int, 2) := by decide +kernel
theorem dX17_init_58 : decode cX17_init 58 = .ok (.putfield 30, 3) := by decide +kernel
theorem dX17_init_61 : decode cX17_init 61 = .ok (.aload_n 0, 1) := by decide +kernel
theorem dX17_init_62 : decode cX17_init 62 = .ok (.bipush 101, 2) := by decide +kernel
theorem dX17_init_64 : decode cX17_init 64 = .ok (.newarray .int, 2) := by decide +kernel
theorem dX17_init_66 : decode cX17_init 66 = .ok (.putfield 33, 3) := by decide +kernel
theorem dX17_init_69 : decode cX17_init 69 = .ok (.aload_n 0, 1) := by decide +kernel
theorem dX17_init_70 : decode cX17_init 70 = .ok (.bipush 101, 2) := by decide +kernel
theorem dX17_init_72 : decode cX17_init 72 = .ok (.newarray .int, 2) := by decide +kernel
theorem dX17_init_74 : decode cX17_init 74 = .ok (.putfield 36, 3) := by decide +kernel
theorem dX17_init_77 : decode cX17_init 77 = .ok (.aload_n 0, 1) := by decide +kernel
theorem dX17_init_78 : decode cX17_init 78 = .ok (.bipush 101, 2) := by decide +kernel
theorem dX17_init_80 : decode cX17_init 80 = .ok (.newarray .int, 2) := by decide +kernel
theorem dX17_init_82 : decode cX17_init 82 = .ok (.putfield 39, 3) := by decide +kernel
theorem dX17_init_85 : decode cX17_init 85 = .ok (.aload_n 0, 1) := by decide +kernel
theorem dX17_init_86 : decode cX17_init 86 = .ok (.bipush 101, 2) := by decide +kernel
theorem dX17_init_88 : decode cX17_init 88 = .ok (.newarray .long, 2) := by decide +kernel
theorem dX17_init_90 : decode cX17_init 90 = .ok (.putfield 42, 3) := by decide +kernel
theorem dX17_init_93 : decode cX17_init 93 = .ok (.aload_n 0, 1) := by decide +kernel
theorem dX17_init_94 : decode cX17_init 94 = .ok (.bipush 101, 2) := by decide +kernel
theorem dX17_init_96 : decode cX17_init 96 = .ok (.newarray .long, 2) := by decide +kernel
theorem dX17_init_98 : decode cX17_init 98 = .ok (.putfield 46, 3) := by decide +kernel
theorem dX17_init_101 : decode cX17_init 101 = .ok (.aload_n 0, 1) := by decide +kernel
theorem dX17_init_102 : decode cX17_init 102 = .ok (.iconst 4, 1) := by decide +kernel
theorem dX17_init_103 : decode cX17_init 103 = .ok (.newarray .int, 2) := by decide +kernel
theorem dX17_init_105 : decode cX17_init 105 = .ok (.putfield 49, 3) := by decide +kernel
theorem dX17_init_108 : decode cX17_init 108 = .ok (.aload_n 0, 1) := by decide +kernel
theorem dX17_init_109 : decode cX17_init 109 = .ok (.iconst 4, 1) := by decide +kernel
theorem dX17_init_110 : decode cX17_init 110 = .ok (.newarray .int, 2) := by decide +kernel
theorem dX17_init_112 : decode cX17_init 112 = .ok (.putfield 52, 3) := by decide +kernel
theorem dX17_init_115 : decode cX17_init 115 = .ok (.aload_n 0, 1) := by decide +kernel
theorem dX17_init_116 : decode cX17_init 116 = .ok (.iconst 4, 1) := by decide +kernel
theorem dX17_init_117 : decode cX17_init 117 = .ok (.newarray .int, 2) := by decide +kernel
theorem dX17_init_119 : decode cX17_init 119 = .ok (.putfield 55, 3) := by decide +kernel
theorem dX17_init_122 : decode cX17_init 122 = .ok (.aload_n 0, 1) := by decide +kernel
theorem dX17_init_123 : decode cX17_init 123 = .ok (.iconst 4, 1) := by decide +kernel
theorem dX17_init_124 : decode cX17_init 124 = .ok (.newarray .int, 2) := by decide +kernel
theorem dX17_init_126 : decode cX17_init 126 = .ok (.putfield 58, 3) := by decide +kernel
theorem dX17_init_129 : decode cX17_init 129 = .ok (.aload_n 0, 1) := by decide +kernel
theorem dX17_init_130 : decode cX17_init 130 = .ok (.iconst 4, 1) := by decide +kernel
theorem dX17_init_131 : decode cX17_init 131 = .ok (.newarray .int, 2) := by decide +kernel
theorem dX17_init_133 : decode cX17_init 133 = .ok (.putfield 61, 3) := by decide +kernel
theorem dX17_init_136 : decode cX17_init 136 = .ok (.aload_n 0, 1) := by decide +kernel
theorem dX17_init_137 : decode cX17_init 137 = .ok (.iconst 4, 1) := by decide +kernel
theorem dX17_init_138 : decode cX17_init 138 = .ok (.newarray .int, 2) := by decide +kernel
theorem dX17_init_140 : decode cX17_init 140 = .ok (.putfield 64, 3) := by decide +kernel
theorem dX17_init_143 : decode cX17_init 143 = .ok (.aload_n 0, 1) := by decide +kernel
theorem dX17_init_144 : decode cX17_init 144 = .ok (.iconst 4, 1) := by decide +kernel
theorem dX17_init_145 : decode cX17_init 145 = .ok (.newarray .int, 2) := by decide +kernel
theorem dX17_init_147 : decode cX17_init 147 = .ok (.putfield 67, 3) := by decide +kernel
theorem dX17_init_150 : decode cX17_init 150 = .ok (.aload_n 0, 1) := by decide +kernel
theorem dX17_init_151 : decode cX17_init 151 = .ok (.iconst 4, 1) := by decide +kernel
theorem dX17_init_152 : decode cX17_init 152 = .ok (.newarray .long, 2) := by decide +kernel
theorem dX17_init_154 : decode cX17_init 154 = .ok (.putfield 70, 3) := by decide +kernel
theorem dX17_init_157 : decode cX17_init 157 = .ok (.aload_n 0, 1) := by decide +kernel
theorem dX17_init_158 : decode cX17_init 158 = .ok (.iconst 4, 1) := by decide +kernel
theorem dX17_init_159 : decode cX17_init 159 = .ok (.newarray .boolean, 2) := by decide +kernel
theorem dX17_init_161 : decode cX17_init 161 = .ok (.putfield 73, 3) := by decide +kernel
theorem dX17_init_164 : decode cX17_init 164 = .ok (.aload_n 0, 1) := by decide +kernel
theorem dX17_init_165 : decode cX17_init 165 = .ok (.ldc 76, 2) := by decide +kernel
theorem dX17_init_167 : decode cX17_init 167 = .ok (.newarray .byte, 2) := by decide +kernel
theorem dX17_init_169 : decode cX17_init 169 = .ok (.putfield 77, 3) := by decide +kernel
theorem dX17_init_172 : decode cX17_init 172 = .ok (.aload_n 0, 1) := by decide +kernel
theorem dX17_init_173 : decode cX17_init 173 = .ok (.sipush 6001, 3) := by decide +kernel
theorem dX17_init_176 : decode cX17_init 176 = .ok (.newarray .int, 2) := by decide +kernel
theorem dX17_init_178 : decode cX17_init 178 = .ok (.putfield 80, 3) := by decide +kernel
theorem dX17_init_181 : decode cX17_init 181 = .ok (.aload_n 0, 1) := by decide +kernel
theorem dX17_init_182 : decode cX17_init 182 = .ok (.sipush 6001, 3) := by decide +kernel
theorem dX17_init_185 : decode cX17_init 185 = .ok (.newarray .int, 2) := by decide +kernel
theorem dX17_init_187 : decode cX17_init 187 = .ok (.putfield 83, 3) := by decide +kernel
theorem dX17_init_190 : decode cX17_init 190 = .ok (.aload_n 0, 1) := by decide +kernel
theorem dX17_init_191 : decode cX17_init 191 = .ok (.sipush 6001, 3) := by decide +kernel
theorem dX17_init_194 : decode cX17_init 194 = .ok (.newarray .int, 2) := by decide +kernel
theorem dX17_init_196 : decode cX17_init 196 = .ok (.putfield 86, 3) := by decide +kernel
theorem dX17_init_199 : decode cX17_init 199 = .ok (.aload_n 0, 1) := by decide +kernel
theorem dX17_init_200 : decode cX17_init 200 = .ok (.sipush 6001, 3) := by decide +kernel
theorem dX17_init_203 : decode cX17_init 203 = .ok (.newarray .int, 2) := by decide +kernel
theorem dX17_init_205 : decode cX17_init 205 = .ok (.putfield 89, 3) := by decide +kernel
theorem dX17_init_208 : decode cX17_init 208 = .ok (.aload_n 0, 1) := by decide +kernel
theorem dX17_init_209 : decode cX17_init 209 = .ok (.sipush 6001, 3) := by decide +kernel
theorem dX17_init_212 : decode cX17_init 212 = .ok (.newarray .int, 2) := by decide +kernel
theorem dX17_init_214 : decode cX17_init 214 = .ok (.putfield 92, 3) := by decide +kernel
theorem dX17_init_217 : decode cX17_init 217 = .ok (.aload_n 0, 1) := by decide +kernel
theorem dX17_init_218 : decode cX17_init 218 = .ok (.sipush 6001, 3) := by decide +kernel
theorem dX17_init_221 : decode cX17_init 221 = .ok (.newarray .long, 2) := by decide +kernel
theorem dX17_init_223 : decode cX17_init 223 = .ok (.putfield 95, 3) := by decide +kernel
theorem dX17_init_226 : decode cX17_init 226 = .ok (.aload_n 0, 1) := by decide +kernel
theorem dX17_init_227 : decode cX17_init 227 = .ok (.sipush 6001, 3) := by decide +kernel
theorem dX17_init_230 : decode cX17_init 230 = .ok (.newarray .boolean, 2) := by decide +kernel
theorem dX17_init_232 : decode cX17_init 232 = .ok (.putfield 98, 3) := by decide +kernel
theorem dX17_init_235 : decode cX17_init 235 = .ok (.aload_n 0, 1) := by decide +kernel
theorem dX17_init_236 : decode cX17_init 236 = .ok (.ldc 101, 2) := by decide +kernel
theorem dX17_init_238 : decode cX17_init 238 = .ok (.newarray .byte, 2) := by decide +kernel
theorem dX17_init_240 : decode cX17_init 240 = .ok (.putfield 102, 3) := by decide +kernel
theorem dX17_init_243 : decode cX17_init 243 = .ok (.aload_n 0, 1) := by decide +kernel
theorem dX17_init_244 : decode cX17_init 244 = .ok (.iconst 3, 1) := by decide +kernel
theorem dX17_init_245 : decode cX17_init 245 = .ok (.putfield 105, 3) := by decide +kernel
theorem dX17_init_248 : decode cX17_init 248 = .ok (.aload_n 0, 1) := by decide +kernel
theorem dX17_init_249 : decode cX17_init 249 = .ok (.sipush 10000, 3) := by decide +kernel
theorem dX17_init_252 : decode cX17_init 252 = .ok (.newarray .byte, 2) := by decide +kernel
theorem dX17_init_254 : decode cX17_init 254 = .ok (.putfield 109, 3) := by decide +kernel
theorem dX17_init_257 : decode cX17_init 257 = .ok (.aload_n 0, 1) := by decide +kernel
theorem dX17_init_258 : decode cX17_init 258 = .ok (.bipush 8, 2) := by decide +kernel
theorem dX17_init_260 : decode cX17_init 260 = .ok (.newarray .int, 2) := by decide +kernel
theorem dX17_init_262 : decode cX17_init 262 = .ok (.putfield 112, 3) := by decide +kernel
theorem dX17_init_265 : decode cX17_init 265 = .ok (.return_, 1) := by decide +kernel
theorem cwX17_init : mw_cw yX17_init cX17_init 1 none 0 := ⟨wd_17, wd_2327, by decide +kernel⟩
noncomputable def DX17_init (fu : Nat) (F : mwF) (M : mwM) (L : mwL) : Option (mwF × mwM × mwL) :=
  mlet (mz 0 M 870) (fun M1 => mlet (mset F 869 4 (some 870)) (fun F2 => mlet (mz 0 M1 871) (fun M3 => mlet (mset F2 869 5 (some 871)) (fun F4 => mlet (mz 0 M3 872) (fun M5 => mlet (mset F4 869 6 (some 872)) (fun F6 => mlet (mz 0 M5 873) (fun M7 => mlet (mset F6 869 7 (some 873)) (fun F8 => mlet (mz 0 M7 874) (fun M9 => mlet (mset F8 869 8 (some 874)) (fun F10 => mlet (mz 0 M9 875) (fun M11 => mlet (mset F10 869 9 (some 875)) (fun F12 => mlet (mz 0 M11 876) (fun M13 => mlet (mset F12 869 10 (some 876)) (fun F14 => mlet (mz 0 M13 877) (fun M15 => mlet (mset F14 869 11 (some 877)) (fun F16 => mlet (mz 0 M15 878) (fun M17 => mlet (mset F16 869 12 (some 878)) (fun F18 => mlet (mz 0 M17 879) (fun M19 => mlet (mset F18 869 13 (some 879)) (fun F20 => mlet (mz 0 L 880) (fun L21 => mlet (mset F20 869 14 (some 880)) (fun F22 => mlet (mz 0 L21 881) (fun L23 => mlet (mset F22 869 15 (some 881)) (fun F24 => mlet (mz 0 M19 882) (fun M25 => mlet (mset F24 869 16 (some 882)) (fun F26 => mlet (mz 0 M25 883) (fun M27 => mlet (mset F26 869 17 (some 883)) (fun F28 => mlet (mz 0 M27 884) (fun M29 => mlet (mset F28 869 18 (some 884)) (fun F30 => mlet (mz 0 M29 885) (fun M31 => mlet (mset F30 869 19 (some 885)) (fun F32 => mlet (mz 0 M31 886) (fun M33 => mlet (mset F32 869 20 (some 886)) (fun F34 => mlet (mz 0 M33 887) (fun M35 => mlet (mset F34 869 21 (some 887)) (fun F36 => mlet (mz 0 M35 888) (fun M37 => mlet (mset F36 869 22 (some 888)) (fun F38 => mlet (mz 0 L23 889) (fun L39 => mlet (mset F38 869 23 (some 889)) (fun F40 => mlet (mz 0 M37 890) (fun M41 => mlet (mset F40 869 24 (some 890)) (fun F42 => mlet (mz 0 M41 891) (fun M43 => mlet (mset F42 869 25 (some 891)) (fun F44 => mlet (mz 0 M43 892) (fun M45 => mlet (mset F44 869 27 (some 892)) (fun F46 => mlet (mz 0 M45 893) (fun M47 => mlet (mset F46 869 28 (some 893)) (fun F48 => mlet (mz 0 M47 894) (fun M49 => mlet (mset F48 869 29 (some 894)) (fun F50 => mlet (mz 0 M49 895) (fun M51 => mlet (mset F50 869 30 (some 895)) (fun F52 => mlet (mz 0 M51 896) (fun M53 => mlet (mset F52 869 31 (some 896)) (fun F54 => mlet (mz 0 L39 897) (fun L55 => mlet (mset F54 869 32 (some 897)) (fun F56 => mlet (mz 0 M53 898) (fun M57 => mlet (mset F56 869 33 (some 898)) (fun F58 => mlet (mz 0 M57 899) (fun M59 => mlet (mset F58 869 34 (some 899)) (fun F60 => mlet (mset M59 869 38 3) (fun M61 => mlet (mz 0 M61 900) (fun M62 => mlet (mset F60 869 41 (some 900)) (fun F63 => mlet (mz 0 M62 901) (fun M64 => mlet (mset F63 869 42 (some 901)) (fun F65 => some (F65, M64, L55))))))))))))))))))))))))))))))))))))))))))))))))))))))))))))))))))
set_option maxHeartbeats 4000000 in
theorem kX17_init {fu : Nat} {F : mwF} {M : mwM} {L : mwL} {F9 : mwF} {M9 : mwM} {L9 : mwL} (hD : DX17_init fu F M L = some (F9, M9, L9)) : ∀ a j, (a < 869 ∨ 902 ≤ a) → F9 a j = F a j := by
  intro a j ha
  unfold DX17_init at hD
  obtain ⟨M1, eM1, hD⟩ := g_let hD
  obtain ⟨F2, eF2, hD⟩ := g_let hD
  obtain ⟨M3, eM3, hD⟩ := g_let hD
  obtain ⟨F4, eF4, hD⟩ := g_let hD
  obtain ⟨M5, eM5, hD⟩ := g_let hD
  obtain ⟨F6, eF6, hD⟩ := g_let hD
  obtain ⟨M7, eM7, hD⟩ := g_let hD
  obtain ⟨F8, eF8, hD⟩ := g_let hD
  obtain ⟨M9, eM9, hD⟩ := g_let hD
  obtain ⟨F10, eF10, hD⟩ := g_let hD
  obtain ⟨M11, eM11, hD⟩ := g_let hD
  obtain ⟨F12, eF12, hD⟩ := g_let hD
  obtain ⟨M13, eM13, hD⟩ := g_let hD
  obtain ⟨F14, eF14, hD⟩ := g_let hD
  obtain ⟨M15, eM15, hD⟩ := g_let hD
  obtain ⟨F16, eF16, hD⟩ := g_let hD
  obtain ⟨M17, eM17, hD⟩ := g_let hD
  obtain ⟨F18, eF18, hD⟩ := g_let hD
  obtain ⟨M19, eM19, hD⟩ := g_let hD
  obtain ⟨F20, eF20, hD⟩ := g_let hD
  obtain ⟨L21, eL21, hD⟩ := g_let hD
  obtain ⟨F22, eF22, hD⟩ := g_let hD
  obtain ⟨L23, eL23, hD⟩ := g_let hD
  obtain ⟨F24, eF24, hD⟩ := g_let hD
  obtain ⟨M25, eM25, hD⟩ := g_let hD
  obtain ⟨F26, eF26, hD⟩ := g_let hD
  obtain ⟨M27, eM27, hD⟩ := g_let hD
  obtain ⟨F28, eF28, hD⟩ := g_let hD
  obtain ⟨M29, eM29, hD⟩ := g_let hD
  obtain ⟨F30, eF30, hD⟩ := g_let hD
  obtain ⟨M31, eM31, hD⟩ := g_let hD
  obtain ⟨F32, eF32, hD⟩ := g_let hD
  obtain ⟨M33, eM33, hD⟩ := g_let hD
  obtain ⟨F34, eF34, hD⟩ := g_let hD
  obtain ⟨M35, eM35, hD⟩ := g_let hD
  obtain ⟨F36, eF36, hD⟩ := g_let hD
  obtain ⟨M37, eM37, hD⟩ := g_let hD
  obtain ⟨F38, eF38, hD⟩ := g_let hD
  obtain ⟨L39, eL39, hD⟩ := g_let hD
  obtain ⟨F40, eF40, hD⟩ := g_let hD
  obtain ⟨M41, eM41, hD⟩ := g_let hD
  obtain ⟨F42, eF42, hD⟩ := g_let hD
  obtain ⟨M43, eM43, hD⟩ := g_let hD
  obtain ⟨F44, eF44, hD⟩ := g_let hD
  obtain ⟨M45, eM45, hD⟩ := g_let hD
  obtain ⟨F46, eF46, hD⟩ := g_let hD
  obtain ⟨M47, eM47, hD⟩ := g_let hD
  obtain ⟨F48, eF48, hD⟩ := g_let hD
  obtain ⟨M49, eM49, hD⟩ := g_let hD
  obtain ⟨F50, eF50, hD⟩ := g_let hD
  obtain ⟨M51, eM51, hD⟩ := g_let hD
  obtain ⟨F52, eF52, hD⟩ := g_let hD
  obtain ⟨M53, eM53, hD⟩ := g_let hD
  obtain ⟨F54, eF54, hD⟩ := g_let hD
  obtain ⟨L55, eL55, hD⟩ := g_let hD
  obtain ⟨F56, eF56, hD⟩ := g_let hD
  obtain ⟨M57, eM57, hD⟩ := g_let hD
  obtain ⟨F58, eF58, hD⟩ := g_let hD
  obtain ⟨M59, eM59, hD⟩ := g_let hD
  obtain ⟨F60, eF60, hD⟩ := g_let hD
  obtain ⟨M61, eM61, hD⟩ := g_let hD
  obtain ⟨M62, eM62, hD⟩ := g_let hD
  obtain ⟨F63, eF63, hD⟩ := g_let hD
  obtain ⟨M64, eM64, hD⟩ := g_let hD
  obtain ⟨F65, eF65, hD⟩ := g_let hD
  have hf := congrArg (fun q => q.1) (Option.some.inj hD)
  dsimp only at hf
  rw [← hf]
  rw [eF65, mset_k (by omega)]
  rw [eF63, mset_k (by omega)]
  rw [eF60, mset_k (by omega)]
  rw [eF58, mset_k (by omega)]
  rw [eF56, mset_k (by omega)]
  rw [eF54, mset_k (by omega)]
  rw [eF52, mset_k (by omega)]
  rw [eF50, mset_k (by omega)]
  rw [eF48, mset_k (by omega)]
  rw [eF46, mset_k (by omega)]
  rw [eF44, mset_k (by omega)]
  rw [eF42, mset_k (by omega)]
  rw [eF40, mset_k (by omega)]
  rw [eF38, mset_k (by omega)]
  rw [eF36, mset_k (by omega)]
  rw [eF34, mset_k (by omega)]
  rw [eF32, mset_k (by omega)]
  rw [eF30, mset_k (by omega)]
  rw [eF28, mset_k (by omega)]
  rw [eF26, mset_k (by omega)]
  rw [eF24, mset_k (by omega)]
  rw [eF22, mset_k (by omega)]
  rw [eF20, mset_k (by omega)]
  rw [eF18, mset_k (by omega)]
  rw [eF16, mset_k (by omega)]
  rw [eF14, mset_k (by omega)]
  rw [eF12, mset_k (by omega)]
  rw [eF10, mset_k (by omega)]
  rw [eF8, mset_k (by omega)]
  rw [eF6, mset_k (by omega)]
  rw [eF4, mset_k (by omega)]
  rw [eF2, mset_k (by omega)]
set_option maxHeartbeats 4000000 in
set_option maxRecDepth 100000 in
theorem tX17_init (l : Launch) (G : mwG) (fu : Nat) (F : mwF) (M : mwM) (L : mwL) {F9 : mwF} {M9 : mwM} {L9 : mwL} (hD : DX17_init fu F M L = some (F9, M9, L9)) : Met l yX17_init (Cond.code yX17_init cX17_init 1 none :: GT) ({ frames := 1, cells := 32, slots := 155170, locals := 20 }) (mw_PreC G 870 F M L [.ref (mw_ad G 869)]) (mw_QC G 902 F9 M9 L9) 32 155170 (mw_fr G) := by
  refine mw_enterC (by decide) (Nat.le_of_ble_eq_true rfl) ?_
  intro p e s m below meth c ls C A hr hlocks hnm hw hs0 hl
  have hl : lv_has ls 1 [(0, .ref (mw_ad G 869))] := hl
  unfold DX17_init at hD
  refine lv_aload_n C.1.1 C.1.2.1 dX17_init_0 rfl (lv_at hl 0 rfl) ?_
  refine W.objInit C.1.1 C.1.2.1 C.1.2.2.2.1 (C.1.2.2.2.2 _ wd_2328) (C.1.2.2.2.2 _ wd_39) (C.1.2.2.2.2 _ wd_40) rfl (by rw [C.1.2.2.1]; exact hl.1) rfl dX17_init_1 (Nat.le_of_ble_eq_true rfl) (Nat.le_of_ble_eq_true rfl) ?_
  refine W.eq (g2 := F0 m 4 ls []) rfl ?_
  refine lv_aload_n C.1.1 C.1.2.1 dX17_init_4 rfl (lv_at hl 0 rfl) ?_
  refine lv_bipush (v := 102) C.1.1 C.1.2.1 dX17_init_5 (by decide) ?_
  refine mw_size hw (by omega) (fun hs => ?_)
  obtain ⟨M1, eM1, hD⟩ := g_let hD
  refine mr_newI (atype := .int) (t := 0) (n := 102) C hw hs tf_870 (by decide) rfl wd_91 rfl (fun _ => rfl) (by decide) (by decide) (by decide) (Nat.le_of_ble_eq_true rfl) (Nat.le_of_ble_eq_true rfl) dX17_init_7 (fun H hw _ => ?_)
  replace hw : mw_W G (mw_ad G) 871 TF F M1 L H [] := by rw [eM1]; exact hw
  refine W.widen (k := 1) (n := 102) (Nat.le_of_ble_eq_true rfl) (Nat.le_of_ble_eq_true rfl) ?_
  obtain ⟨F2, eF2, hD⟩ := g_let hD
  refine mr_putFR C hw kc_17 4 (by omega) tf_869 wd_2335 dX17_init_9 (by decide) rfl rfl hnm rfl rfl rfl (fun H locs hw => ?_)
  replace hw : mw_W G (mw_ad G) 871 TF F2 M1 L H locs := by rw [eF2]; exact hw
  refine lv_aload_n C.1.1 C.1.2.1 dX17_init_12 rfl (lv_at hl 0 rfl) ?_
  refine lv_sipush (v := 20000) C.1.1 C.1.2.1 dX17_init_13 (by decide) ?_
  refine mw_size hw (by omega) (fun hs => ?_)
  obtain ⟨M3, eM3, hD⟩ := g_let hD
  refine mr_newI (atype := .byte) (t := 1) (n := 20000) C hw hs tf_871 (by decide) rfl wd_170 rfl (fun _ => rfl) (by decide) (by decide) (by decide) (Nat.le_of_ble_eq_true rfl) (Nat.le_of_ble_eq_true rfl) dX17_init_16 (fun H hw _ => ?_)
  replace hw : mw_W G (mw_ad G) 872 TF F2 M3 L H locs := by rw [eM3]; exact hw
  refine W.widen (k := 2) (n := 20102) (Nat.le_of_ble_eq_true rfl) (Nat.le_of_ble_eq_true rfl) ?_
  obtain ⟨F4, eF4, hD⟩ := g_let hD
  refine mr_putFR C hw kc_17 5 (by omega) tf_869 wd_2336 dX17_init_18 (by decide) rfl rfl hnm rfl rfl rfl (fun H locs hw => ?_)
  replace hw : mw_W G (mw_ad G) 872 TF F4 M3 L H locs := by rw [eF4]; exact hw
  refine lv_aload_n C.1.1 C.1.2.1 dX17_init_21 rfl (lv_at hl 0 rfl) ?_
  refine lv_bipush (v := 101) C.1.1 C.1.2.1 dX17_init_22 (by decide) ?_
  refine mw_size hw (by omega) (fun hs => ?_)
  obtain ⟨M5, eM5, hD⟩ := g_let hD
  refine mr_newI (atype := .boolean) (t := 2) (n := 101) C hw hs tf_872 (by decide) rfl wd_320 rfl (fun _ => rfl) (by decide) (by decide) (by decide) (Nat.le_of_ble_eq_true rfl) (Nat.le_of_ble_eq_true rfl) dX17_init_24 (fun H hw _ => ?_)
  replace hw : mw_W G (mw_ad G) 873 TF F4 M5 L H locs := by rw [eM5]; exact hw
  refine W.widen (k := 3) (n := 20203) (Nat.le_of_ble_eq_true rfl) (Nat.le_of_ble_eq_true rfl) ?_
  obtain ⟨F6, eF6, hD⟩ := g_let hD
  refine mr_putFR C hw kc_17 6 (by omega) tf_869 wd_2337 dX17_init_26 (by decide) rfl rfl hnm rfl rfl rfl (fun H locs hw => ?_)
  replace hw : mw_W G (mw_ad G) 873 TF F6 M5 L H locs := by rw [eF6]; exact hw
  refine lv_aload_n C.1.1 C.1.2.1 dX17_init_29 rfl (lv_at hl 0 rfl) ?_
  refine lv_bipush (v := 101) C.1.1 C.1.2.1 dX17_init_30 (by decide) ?_
  refine mw_size hw (by omega) (fun hs => ?_)
  obtain ⟨M7, eM7, hD⟩ := g_let hD
  refine mr_newI (atype := .int) (t := 0) (n := 101) C hw hs tf_873 (by decide) rfl wd_91 rfl (fun _ => rfl) (by decide) (by decide) (by decide) (Nat.le_of_ble_eq_true rfl) (Nat.le_of_ble_eq_true rfl) dX17_init_32 (fun H hw _ => ?_)
  replace hw : mw_W G (mw_ad G) 874 TF F6 M7 L H locs := by rw [eM7]; exact hw
  refine W.widen (k := 4) (n := 20304) (Nat.le_of_ble_eq_true rfl) (Nat.le_of_ble_eq_true rfl) ?_
  obtain ⟨F8, eF8, hD⟩ := g_let hD
  refine mr_putFR C hw kc_17 7 (by omega) tf_869 wd_2338 dX17_init_34 (by decide) rfl rfl hnm rfl rfl rfl (fun H locs hw => ?_)
  replace hw : mw_W G (mw_ad G) 874 TF F8 M7 L H locs := by rw [eF8]; exact hw
  refine lv_aload_n C.1.1 C.1.2.1 dX17_init_37 rfl (lv_at hl 0 rfl) ?_
  refine lv_bipush (v := 101) C.1.1 C.1.2.1 dX17_init_38 (by decide) ?_
  refine mw_size hw (by omega) (fun hs => ?_)
  obtain ⟨M9, eM9, hD⟩ := g_let hD
  refine mr_newI (atype := .int) (t := 0) (n := 101) C hw hs tf_874 (by decide) rfl wd_91 rfl (fun _ => rfl) (by decide) (by decide) (by decide) (Nat.le_of_ble_eq_true rfl) (Nat.le_of_ble_eq_true rfl) dX17_init_40 (fun H hw _ => ?_)
  replace hw : mw_W G (mw_ad G) 875 TF F8 M9 L H locs := by rw [eM9]; exact hw
  refine W.widen (k := 5) (n := 20405) (Nat.le_of_ble_eq_true rfl) (Nat.le_of_ble_eq_true rfl) ?_
  obtain ⟨F10, eF10, hD⟩ := g_let hD
  refine mr_putFR C hw kc_17 8 (by omega) tf_869 wd_2339 dX17_init_42 (by decide) rfl rfl hnm rfl rfl rfl (fun H locs hw => ?_)
  replace hw : mw_W G (mw_ad G) 875 TF F10 M9 L H locs := by rw [eF10]; exact hw
  refine lv_aload_n C.1.1 C.1.2.1 dX17_init_45 rfl (lv_at hl 0 rfl) ?_
  refine lv_bipush (v := 101) C.1.1 C.1.2.1 dX17_init_46 (by decide) ?_
  refine mw_size hw (by omega) (fun hs => ?_)
  obtain ⟨M11, eM11, hD⟩ := g_let hD
  refine mr_newI (atype := .int) (t := 0) (n := 101) C hw hs tf_875 (by decide) rfl wd_91 rfl (fun _ => rfl) (by decide) (by decide) (by decide) (Nat.le_of_ble_eq_true rfl) (Nat.le_of_ble_eq_true rfl) dX17_init_48 (fun H hw _ => ?_)
  replace hw : mw_W G (mw_ad G) 876 TF F10 M11 L H locs := by rw [eM11]; exact hw
  refine W.widen (k := 6) (n := 20506) (Nat.le_of_ble_eq_true rfl) (Nat.le_of_ble_eq_true rfl) ?_
  obtain ⟨F12, eF12, hD⟩ := g_let hD
  refine mr_putFR C hw kc_17 9 (by omega) tf_869 wd_2340 dX17_init_50 (by decide) rfl rfl hnm rfl rfl rfl (fun H locs hw => ?_)
  replace hw : mw_W G (mw_ad G) 876 TF F12 M11 L H locs := by rw [eF12]; exact hw
  refine lv_aload_n C.1.1 C.1.2.1 dX17_init_53 rfl (lv_at hl 0 rfl) ?_
  refine lv_bipush (v := 101) C.1.1 C.1.2.1 dX17_init_54 (by decide) ?_
  refine mw_size hw (by omega) (fun hs => ?_)
  obtain ⟨M13, eM13, hD⟩ := g_let hD
  refine mr_newI (atype := .int) (t := 0) (n := 101) C hw hs tf_876 (by decide) rfl wd_91 rfl (fun _ => rfl) (by decide) (by decide) (by decide) (Nat.le_of_ble_eq_true rfl) (Nat.le_of_ble_eq_true rfl) dX17_init_56 (fun H hw _ => ?_)
  replace hw : mw_W G (mw_ad G) 877 TF F12 M13 L H locs := by rw [eM13]; exact hw
  refine W.widen (k := 7) (n := 20607) (Nat.le_of_ble_eq_true rfl) (Nat.le_of_ble_eq_true rfl) ?_
  obtain ⟨F14, eF14, hD⟩ := g_let hD
  refine mr_putFR C hw kc_17 10 (by omega) tf_869 wd_2341 dX17_init_58 (by decide) rfl rfl hnm rfl rfl rfl (fun H locs hw => ?_)
  replace hw : mw_W G (mw_ad G) 877 TF F14 M13 L H locs := by rw [eF14]; exact hw
  refine lv_aload_n C.1.1 C.1.2.1 dX17_init_61 rfl (lv_at hl 0 rfl) ?_
  refine lv_bipush (v := 101) C.1.1 C.1.2.1 dX17_init_62 (by decide) ?_
  refine mw_size hw (by omega) (fun hs => ?_)
  obtain ⟨M15, eM15, hD⟩ := g_let hD
  refine mr_newI (atype := .int) (t := 0) (n := 101) C hw hs tf_877 (by decide) rfl wd_91 rfl (fun _ => rfl) (by decide) (by decide) (by decide) (Nat.le_of_ble_eq_true rfl) (Nat.le_of_ble_eq_true rfl) dX17_init_64 (fun H hw _ => ?_)
  replace hw : mw_W G (mw_ad G) 878 TF F14 M15 L H locs := by rw [eM15]; exact hw
  refine W.widen (k := 8) (n := 20708) (Nat.le_of_ble_eq_true rfl) (Nat.le_of_ble_eq_true rfl) ?_
  obtain ⟨F16, eF16, hD⟩ := g_let hD
  refine mr_putFR C hw kc_17 11 (by omega) tf_869 wd_2342 dX17_init_66 (by decide) rfl rfl hnm rfl rfl rfl (fun H locs hw => ?_)
  replace hw : mw_W G (mw_ad G) 878 TF F16 M15 L H locs := by rw [eF16]; exact hw
  refine lv_aload_n C.1.1 C.1.2.1 dX17_init_69 rfl (lv_at hl 0 rfl) ?_
  refine lv_bipush (v := 101) C.1.1 C.1.2.1 dX17_init_70 (by decide) ?_
  refine mw_size hw (by omega) (fun hs => ?_)
  obtain ⟨M17, eM17, hD⟩ := g_let hD
  refine mr_newI (atype := .int) (t := 0) (n := 101) C hw hs tf_878 (by decide) rfl wd_91 rfl (fun _ => rfl) (by decide) (by decide) (by decide) (Nat.le_of_ble_eq_true rfl) (Nat.le_of_ble_eq_true rfl) dX17_init_72 (fun H hw _ => ?_)
  replace hw : mw_W G (mw_ad G) 879 TF F16 M17 L H locs := by rw [eM17]; exact hw
  refine W.widen (k := 9) (n := 20809) (Nat.le_of_ble_eq_true rfl) (Nat.le_of_ble_eq_true rfl) ?_
  obtain ⟨F18, eF18, hD⟩ := g_let hD
  refine mr_putFR C hw kc_17 12 (by omega) tf_869 wd_2343 dX17_init_74 (by decide) rfl rfl hnm rfl rfl rfl (fun H locs hw => ?_)
  replace hw : mw_W G (mw_ad G) 879 TF F18 M17 L H locs := by rw [eF18]; exact hw
  refine lv_aload_n C.1.1 C.1.2.1 dX17_init_77 rfl (lv_at hl 0 rfl) ?_
  refine lv_bipush (v := 101) C.1.1 C.1.2.1 dX17_init_78 (by decide) ?_
  refine mw_size hw (by omega) (fun hs => ?_)
  obtain ⟨M19, eM19, hD⟩ := g_let hD
  refine mr_newI (atype := .int) (t := 0) (n := 101) C hw hs tf_879 (by decide) rfl wd_91 rfl (fun _ => rfl) (by decide) (by decide) (by decide) (Nat.le_of_ble_eq_true rfl) (Nat.le_of_ble_eq_true rfl) dX17_init_80 (fun H hw _ => ?_)
  replace hw : mw_W G (mw_ad G) 880 TF F18 M19 L H locs := by rw [eM19]; exact hw
  refine W.widen (k := 10) (n := 20910) (Nat.le_of_ble_eq_true rfl) (Nat.le_of_ble_eq_true rfl) ?_
  obtain ⟨F20, eF20, hD⟩ := g_let hD
  refine mr_putFR C hw kc_17 13 (by omega) tf_869 wd_2344 dX17_init_82 (by decide) rfl rfl hnm rfl rfl rfl (fun H locs hw => ?_)
  replace hw : mw_W G (mw_ad G) 880 TF F20 M19 L H locs := by rw [eF20]; exact hw
  refine lv_aload_n C.1.1 C.1.2.1 dX17_init_85 rfl (lv_at hl 0 rfl) ?_
  refine lv_bipush (v := 101) C.1.1 C.1.2.1 dX17_init_86 (by decide) ?_
  refine mw_size hw (by omega) (fun hs => ?_)
  obtain ⟨L21, eL21, hD⟩ := g_let hD
  refine mr_newL (n := 101) C hw hs tf_880 wd_509 (by decide) (by decide) (by decide) (Nat.le_of_ble_eq_true rfl) (Nat.le_of_ble_eq_true rfl) dX17_init_88 (fun H hw _ => ?_)
  replace hw : mw_W G (mw_ad G) 881 TF F20 M19 L21 H locs := by rw [eL21]; exact hw
  refine W.widen (k := 11) (n := 21011) (Nat.le_of_ble_eq_true rfl) (Nat.le_of_ble_eq_true rfl) ?_
  obtain ⟨F22, eF22, hD⟩ := g_let hD
  refine mr_putFR C hw kc_17 14 (by omega) tf_869 wd_2345 dX17_init_90 (by decide) rfl rfl hnm rfl rfl rfl (fun H locs hw => ?_)
  replace hw : mw_W G (mw_ad G) 881 TF F22 M19 L21 H locs := by rw [eF22]; exact hw
  refine lv_aload_n C.1.1 C.1.2.1 dX17_init_93 rfl (lv_at hl 0 rfl) ?_
  refine lv_bipush (v := 101) C.1.1 C.1.2.1 dX17_init_94 (by decide) ?_
  refine mw_size hw (by omega) (fun hs => ?_)
  obtain ⟨L23, eL23, hD⟩ := g_let hD
  refine mr_newL (n := 101) C hw hs tf_881 wd_509 (by decide) (by decide) (by decide) (Nat.le_of_ble_eq_true rfl) (Nat.le_of_ble_eq_true rfl) dX17_init_96 (fun H hw _ => ?_)
  replace hw : mw_W G (mw_ad G) 882 TF F22 M19 L23 H locs := by rw [eL23]; exact hw
  refine W.widen (k := 12) (n := 21112) (Nat.le_of_ble_eq_true rfl) (Nat.le_of_ble_eq_true rfl) ?_
  obtain ⟨F24, eF24, hD⟩ := g_let hD
  refine mr_putFR C hw kc_17 15 (by omega) tf_869 wd_2346 dX17_init_98 (by decide) rfl rfl hnm rfl rfl rfl (fun H locs hw => ?_)
  replace hw : mw_W G (mw_ad G) 882 TF F24 M19 L23 H locs := by rw [eF24]; exact hw
  refine lv_aload_n C.1.1 C.1.2.1 dX17_init_101 rfl (lv_at hl 0 rfl) ?_
  refine lv_iconst (v := 4) C.1.1 C.1.2.1 dX17_init_102 (by decide) ?_
  refine mw_size hw (by omega) (fun hs => ?_)
  obtain ⟨M25, eM25, hD⟩ := g_let hD
  refine mr_newI (atype := .int) (t := 0) (n := 4) C hw hs tf_882 (by decide) rfl wd_91 rfl (fun _ => rfl) (by decide) (by decide) (by decide) (Nat.le_of_ble_eq_true rfl) (Nat.le_of_ble_eq_true rfl) dX17_init_103 (fun H hw _ => ?_)
  replace hw : mw_W G (mw_ad G) 883 TF F24 M25 L23 H locs := by rw [eM25]; exact hw
  refine W.widen (k := 13) (n := 21116) (Nat.le_of_ble_eq_true rfl) (Nat.le_of_ble_eq_true rfl) ?_
  obtain ⟨F26, eF26, hD⟩ := g_let hD
  refine mr_putFR C hw kc_17 16 (by omega) tf_869 wd_2347 dX17_init_105 (by decide) rfl rfl hnm rfl rfl rfl (fun H locs hw => ?_)
  replace hw : mw_W G (mw_ad G) 883 TF F26 M25 L23 H locs := by rw [eF26]; exact hw
  refine lv_aload_n C.1.1 C.1.2.1 dX17_init_108 rfl (lv_at hl 0 rfl) ?_
  refine lv_iconst (v := 4) C.1.1 C.1.2.1 dX17_init_109 (by decide) ?_
  refine mw_size hw (by omega) (fun hs => ?_)
  obtain ⟨M27, eM27, hD⟩ := g_let hD
  refine mr_newI (atype := .int) (t := 0) (n := 4) C hw hs tf_883 (by decide) rfl wd_91 rfl (fun _ => rfl) (by decide) (by decide) (by decide) (Nat.le_of_ble_eq_true rfl) (Nat.le_of_ble_eq_true rfl) dX17_init_110 (fun H hw _ => ?_)
  replace hw : mw_W G (mw_ad G) 884 TF F26 M27 L23 H locs := by rw [eM27]; exact hw
  refine W.widen (k := 14) (n := 21120) (Nat.le_of_ble_eq_true rfl) (Nat.le_of_ble_eq_true rfl) ?_
  obtain ⟨F28, eF28, hD⟩ := g_let hD
  refine mr_putFR C hw kc_17 17 (by omega) tf_869 wd_2348 dX17_init_112 (by decide) rfl rfl hnm rfl rfl rfl (fun H locs hw => ?_)
  replace hw : mw_W G (mw_ad G) 884 TF F28 M27 L23 H locs := by rw [eF28]; exact hw
  refine lv_aload_n C.1.1 C.1.2.1 dX17_init_115 rfl (lv_at hl 0 rfl) ?_
  refine lv_iconst (v := 4) C.1.1 C.1.2.1 dX17_init_116 (by decide) ?_
  refine mw_size hw (by omega) (fun hs => ?_)
  obtain ⟨M29, eM29, hD⟩ := g_let hD
  refine mr_newI (atype := .int) (t := 0) (n := 4) C hw hs tf_884 (by decide) rfl wd_91 rfl (fun _ => rfl) (by decide) (by decide) (by decide) (Nat.le_of_ble_eq_true rfl) (Nat.le_of_ble_eq_true rfl) dX17_init_117 (fun H hw _ => ?_)
  replace hw : mw_W G (mw_ad G) 885 TF F28 M29 L23 H locs := by rw [eM29]; exact hw
  refine W.widen (k := 15) (n := 21124) (Nat.le_of_ble_eq_true rfl) (Nat.le_of_ble_eq_true rfl) ?_
  obtain ⟨F30, eF30, hD⟩ := g_let hD
  refine mr_putFR C hw kc_17 18 (by omega) tf_869 wd_2349 dX17_init_119 (by decide) rfl rfl hnm rfl rfl rfl (fun H locs hw => ?_)
  replace hw : mw_W G (mw_ad G) 885 TF F30 M29 L23 H locs := by rw [eF30]; exact hw
  refine lv_aload_n C.1.1 C.1.2.1 dX17_init_122 rfl (lv_at hl 0 rfl) ?_
  refine lv_iconst (v := 4) C.1.1 C.1.2.1 dX17_init_123 (by decide) ?_
  refine mw_size hw (by omega) (fun hs => ?_)
  obtain ⟨M31, eM31, hD⟩ := g_let hD
  refine mr_newI (atype := .int) (t := 0) (n := 4) C hw hs tf_885 (by decide) rfl wd_91 rfl (fun _ => rfl) (by decide) (by decide) (by decide) (Nat.le_of_ble_eq_true rfl) (Nat.le_of_ble_eq_true rfl) dX17_init_124 (fun H hw _ => ?_)
  replace hw : mw_W G (mw_ad G) 886 TF F30 M31 L23 H locs := by rw [eM31]; exact hw
  refine W.widen (k := 16) (n := 21128) (Nat.le_of_ble_eq_true rfl) (Nat.le_of_ble_eq_true rfl) ?_
  obtain ⟨F32, eF32, hD⟩ := g_let hD
  refine mr_putFR C hw kc_17 19 (by omega) tf_869 wd_2350 dX17_init_126 (by decide) rfl rfl hnm rfl rfl rfl (fun H locs hw => ?_)
  replace hw : mw_W G (mw_ad G) 886 TF F32 M31 L23 H locs := by rw [eF32]; exact hw
  refine lv_aload_n C.1.1 C.1.2.1 dX17_init_129 rfl (lv_at hl 0 rfl) ?_
  refine lv_iconst (v := 4) C.1.1 C.1.2.1 dX17_init_130 (by decide) ?_
  refine mw_size hw (by omega) (fun hs => ?_)
  obtain ⟨M33, eM33, hD⟩ := g_let hD
  refine mr_newI (atype := .int) (t := 0) (n := 4) C hw hs tf_886 (by decide) rfl wd_91 rfl (fun _ => rfl) (by decide) (by decide) (by decide) (Nat.le_of_ble_eq_true rfl) (Nat.le_of_ble_eq_true rfl) dX17_init_131 (fun H hw _ => ?_)
  replace hw : mw_W G (mw_ad G) 887 TF F32 M33 L23 H locs := by rw [eM33]; exact hw
  refine W.widen (k := 17) (n := 21132) (Nat.le_of_ble_eq_true rfl) (Nat.le_of_ble_eq_true rfl) ?_
  obtain ⟨F34, eF34, hD⟩ := g_let hD
  refine mr_putFR C hw kc_17 20 (by omega) tf_869 wd_2351 dX17_init_133 (by decide) rfl rfl hnm rfl rfl rfl (fun H locs hw => ?_)
  replace hw : mw_W G (mw_ad G) 887 TF F34 M33 L23 H locs := by rw [eF34]; exact hw
  refine lv_aload_n C.1.1 C.1.2.1 dX17_init_136 rfl (lv_at hl 0 rfl) ?_
  refine lv_iconst (v := 4) C.1.1 C.1.2.1 dX17_init_137 (by decide) ?_
  refine mw_size hw (by omega) (fun hs => ?_)
  obtain ⟨M35, eM35, hD⟩ := g_let hD
  refine mr_newI (atype := .int) (t := 0) (n := 4) C hw hs tf_887 (by decide) rfl wd_91 rfl (fun _ => rfl) (by decide) (by decide) (by decide) (Nat.le_of_ble_eq_true rfl) (Nat.le_of_ble_eq_true rfl) dX17_init_138 (fun H hw _ => ?_)
  replace hw : mw_W G (mw_ad G) 888 TF F34 M35 L23 H locs := by rw [eM35]; exact hw
  refine W.widen (k := 18) (n := 21136) (Nat.le_of_ble_eq_true rfl) (Nat.le_of_ble_eq_true rfl) ?_
  obtain ⟨F36, eF36, hD⟩ := g_let hD
  refine mr_putFR C hw kc_17 21 (by omega) tf_869 wd_2352 dX17_init_140 (by decide) rfl rfl hnm rfl rfl rfl (fun H locs hw => ?_)
  replace hw : mw_W G (mw_ad G) 888 TF F36 M35 L23 H locs := by rw [eF36]; exact hw
  refine lv_aload_n C.1.1 C.1.2.1 dX17_init_143 rfl (lv_at hl 0 rfl) ?_
  refine lv_iconst (v := 4) C.1.1 C.1.2.1 dX17_init_144 (by decide) ?_
  refine mw_size hw (by omega) (fun hs => ?_)
  obtain ⟨M37, eM37, hD⟩ := g_let hD
  refine mr_newI (atype := .int) (t := 0) (n := 4) C hw hs tf_888 (by decide) rfl wd_91 rfl (fun _ => rfl) (by decide) (by decide) (by decide) (Nat.le_of_ble_eq_true rfl) (Nat.le_of_ble_eq_true rfl) dX17_init_145 (fun H hw _ => ?_)
  replace hw : mw_W G (mw_ad G) 889 TF F36 M37 L23 H locs := by rw [eM37]; exact hw
  refine W.widen (k := 19) (n := 21140) (Nat.le_of_ble_eq_true rfl) (Nat.le_of_ble_eq_true rfl) ?_
  obtain ⟨F38, eF38, hD⟩ := g_let hD
  refine mr_putFR C hw kc_17 22 (by omega) tf_869 wd_2353 dX17_init_147 (by decide) rfl rfl hnm rfl rfl rfl (fun H locs hw => ?_)
  replace hw : mw_W G (mw_ad G) 889 TF F38 M37 L23 H locs := by rw [eF38]; exact hw
  refine lv_aload_n C.1.1 C.1.2.1 dX17_init_150 rfl (lv_at hl 0 rfl) ?_
  refine lv_iconst (v := 4) C.1.1 C.1.2.1 dX17_init_151 (by decide) ?_
  refine mw_size hw (by omega) (fun hs => ?_)
  obtain ⟨L39, eL39, hD⟩ := g_let hD
  refine mr_newL (n := 4) C hw hs tf_889 wd_509 (by decide) (by decide) (by decide) (Nat.le_of_ble_eq_true rfl) (Nat.le_of_ble_eq_true rfl) dX17_init_152 (fun H hw _ => ?_)
  replace hw : mw_W G (mw_ad G) 890 TF F38 M37 L39 H locs := by rw [eL39]; exact hw
  refine W.widen (k := 20) (n := 21144) (Nat.le_of_ble_eq_true rfl) (Nat.le_of_ble_eq_true rfl) ?_
  obtain ⟨F40, eF40, hD⟩ := g_let hD
  refine mr_putFR C hw kc_17 23 (by omega) tf_869 wd_2354 dX17_init_154 (by decide) rfl rfl hnm rfl rfl rfl (fun H locs hw => ?_)
  replace hw : mw_W G (mw_ad G) 890 TF F40 M37 L39 H locs := by rw [eF40]; exact hw
  refine lv_aload_n C.1.1 C.1.2.1 dX17_init_157 rfl (lv_at hl 0 rfl) ?_
  refine lv_iconst (v := 4) C.1.1 C.1.2.1 dX17_init_158 (by decide) ?_
  refine mw_size hw (by omega) (fun hs => ?_)
  obtain ⟨M41, eM41, hD⟩ := g_let hD
  refine mr_newI (atype := .boolean) (t := 2) (n := 4) C hw hs tf_890 (by decide) rfl wd_320 rfl (fun _ => rfl) (by decide) (by decide) (by decide) (Nat.le_of_ble_eq_true rfl) (Nat.le_of_ble_eq_true rfl) dX17_init_159 (fun H hw _ => ?_)
  replace hw : mw_W G (mw_ad G) 891 TF F40 M41 L39 H locs := by rw [eM41]; exact hw
  refine W.widen (k := 21) (n := 21148) (Nat.le_of_ble_eq_true rfl) (Nat.le_of_ble_eq_true rfl) ?_
  obtain ⟨F42, eF42, hD⟩ := g_let hD
  refine mr_putFR C hw kc_17 24 (by omega) tf_869 wd_2355 dX17_init_161 (by decide) rfl rfl hnm rfl rfl rfl (fun H locs hw => ?_)
  replace hw : mw_W G (mw_ad G) 891 TF F42 M41 L39 H locs := by rw [eF42]; exact hw
  refine lv_aload_n C.1.1 C.1.2.1 dX17_init_164 rfl (lv_at hl 0 rfl) ?_
  refine lv_ldc (v := 40000) C.1.1 C.1.2.1 C.1.2.2.2.1 (C.1.2.2.2.2 _ wd_2329) dX17_init_165 ?_
  refine mw_size hw (by omega) (fun hs => ?_)
  obtain ⟨M43, eM43, hD⟩ := g_let hD
  refine mr_newI (atype := .byte) (t := 1) (n := 40000) C hw hs tf_891 (by decide) rfl wd_170 rfl (fun _ => rfl) (by decide) (by decide) (by decide) (Nat.le_of_ble_eq_true rfl) (Nat.le_of_ble_eq_true rfl) dX17_init_167 (fun H hw _ => ?_)
  replace hw : mw_W G (mw_ad G) 892 TF F42 M43 L39 H locs := by rw [eM43]; exact hw
  refine W.widen (k := 22) (n := 61148) (Nat.le_of_ble_eq_true rfl) (Nat.le_of_ble_eq_true rfl) ?_
  obtain ⟨F44, eF44, hD⟩ := g_let hD
  refine mr_putFR C hw kc_17 25 (by omega) tf_869 wd_2356 dX17_init_169 (by decide) rfl rfl hnm rfl rfl rfl (fun H locs hw => ?_)
  replace hw : mw_W G (mw_ad G) 892 TF F44 M43 L39 H locs := by rw [eF44]; exact hw
  refine lv_aload_n C.1.1 C.1.2.1 dX17_init_172 rfl (lv_at hl 0 rfl) ?_
  refine lv_sipush (v := 6001) C.1.1 C.1.2.1 dX17_init_173 (by decide) ?_
  refine mw_size hw (by omega) (fun hs => ?_)
  obtain ⟨M45, eM45, hD⟩ := g_let hD
  refine mr_newI (atype := .int) (t := 0) (n := 6001) C hw hs tf_892 (by decide) rfl wd_91 rfl (fun _ => rfl) (by decide) (by decide) (by decide) (Nat.le_of_ble_eq_true rfl) (Nat.le_of_ble_eq_true rfl) dX17_init_176 (fun H hw _ => ?_)
  replace hw : mw_W G (mw_ad G) 893 TF F44 M45 L39 H locs := by rw [eM45]; exact hw
  refine W.widen (k := 23) (n := 67149) (Nat.le_of_ble_eq_true rfl) (Nat.le_of_ble_eq_true rfl) ?_
  obtain ⟨F46, eF46, hD⟩ := g_let hD
  refine mr_putFR C hw kc_17 27 (by omega) tf_869 wd_2358 dX17_init_178 (by decide) rfl rfl hnm rfl rfl rfl (fun H locs hw => ?_)
  replace hw : mw_W G (mw_ad G) 893 TF F46 M45 L39 H locs := by rw [eF46]; exact hw
  refine lv_aload_n C.1.1 C.1.2.1 dX17_init_181 rfl (lv_at hl 0 rfl) ?_
  refine lv_sipush (v := 6001) C.1.1 C.1.2.1 dX17_init_182 (by decide) ?_
  refine mw_size hw (by omega) (fun hs => ?_)
  obtain ⟨M47, eM47, hD⟩ := g_let hD
  refine mr_newI (atype := .int) (t := 0) (n := 6001) C hw hs tf_893 (by decide) rfl wd_91 rfl (fun _ => rfl) (by decide) (by decide) (by decide) (Nat.le_of_ble_eq_true rfl) (Nat.le_of_ble_eq_true rfl) dX17_init_185 (fun H hw _ => ?_)
  replace hw : mw_W G (mw_ad G) 894 TF F46 M47 L39 H locs := by rw [eM47]; exact hw
  refine W.widen (k := 24) (n := 73150) (Nat.le_of_ble_eq_true rfl) (Nat.le_of_ble_eq_true rfl) ?_
  obtain ⟨F48, eF48, hD⟩ := g_let hD
  refine mr_putFR C hw kc_17 28 (by omega) tf_869 wd_2359 dX17_init_187 (by decide) rfl rfl hnm rfl rfl rfl (fun H locs hw => ?_)
  replace hw : mw_W G (mw_ad G) 894 TF F48 M47 L39 H locs := by rw [eF48]; exact hw
  refine lv_aload_n C.1.1 C.1.2.1 dX17_init_190 rfl (lv_at hl 0 rfl) ?_
  refine lv_sipush (v := 6001) C.1.1 C.1.2.1 dX17_init_191 (by decide) ?_
  refine mw_size hw (by omega) (fun hs => ?_)
  obtain ⟨M49, eM49, hD⟩ := g_let hD
  refine mr_newI (atype := .int) (t := 0) (n := 6001) C hw hs tf_894 (by decide) rfl wd_91 rfl (fun _ => rfl) (by decide) (by decide) (by decide) (Nat.le_of_ble_eq_true rfl) (Nat.le_of_ble_eq_true rfl) dX17_init_194 (fun H hw _ => ?_)
  replace hw : mw_W G (mw_ad G) 895 TF F48 M49 L39 H locs := by rw [eM49]; exact hw
  refine W.widen (k := 25) (n := 79151) (Nat.le_of_ble_eq_true rfl) (Nat.le_of_ble_eq_true rfl) ?_
  obtain ⟨F50, eF50, hD⟩ := g_let hD
  refine mr_putFR C hw kc_17 29 (by omega) tf_869 wd_2360 dX17_init_196 (by decide) rfl rfl hnm rfl rfl rfl (fun H locs hw => ?_)
  replace hw : mw_W G (mw_ad G) 895 TF F50 M49 L39 H locs := by rw [eF50]; exact hw
  refine lv_aload_n C.1.1 C.1.2.1 dX17_init_199 rfl (lv_at hl 0 rfl) ?_
  refine lv_sipush (v := 6001) C.1.1 C.1.2.1 dX17_init_200 (by decide) ?_
  refine mw_size hw (by omega) (fun hs => ?_)
  obtain ⟨M51, eM51, hD⟩ := g_let hD
  refine mr_newI (atype := .int) (t := 0) (n := 6001) C hw hs tf_895 (by decide) rfl wd_91 rfl (fun _ => rfl) (by decide) (by decide) (by decide) (Nat.le_of_ble_eq_true rfl) (Nat.le_of_ble_eq_true rfl) dX17_init_203 (fun H hw _ => ?_)
  replace hw : mw_W G (mw_ad G) 896 TF F50 M51 L39 H locs := by rw [eM51]; exact hw
  refine W.widen (k := 26) (n := 85152) (Nat.le_of_ble_eq_true rfl) (Nat.le_of_ble_eq_true rfl) ?_
  obtain ⟨F52, eF52, hD⟩ := g_let hD
  refine mr_putFR C hw kc_17 30 (by omega) tf_869 wd_2361 dX17_init_205 (by decide) rfl rfl hnm rfl rfl rfl (fun H locs hw => ?_)
  replace hw : mw_W G (mw_ad G) 896 TF F52 M51 L39 H locs := by rw [eF52]; exact hw
  refine lv_aload_n C.1.1 C.1.2.1 dX17_init_208 rfl (lv_at hl 0 rfl) ?_
  refine lv_sipush (v := 6001) C.1.1 C.1.2.1 dX17_init_209 (by decide) ?_
  refine mw_size hw (by omega) (fun hs => ?_)
  obtain ⟨M53, eM53, hD⟩ := g_let hD
  refine mr_newI (atype := .int) (t := 0) (n := 6001) C hw hs tf_896 (by decide) rfl wd_91 rfl (fun _ => rfl) (by decide) (by decide) (by decide) (Nat.le_of_ble_eq_true rfl) (Nat.le_of_ble_eq_true rfl) dX17_init_212 (fun H hw _ => ?_)
  replace hw : mw_W G (mw_ad G) 897 TF F52 M53 L39 H locs := by rw [eM53]; exact hw
  refine W.widen (k := 27) (n := 91153) (Nat.le_of_ble_eq_true rfl) (Nat.le_of_ble_eq_true rfl) ?_
  obtain ⟨F54, eF54, hD⟩ := g_let hD
  refine mr_putFR C hw kc_17 31 (by omega) tf_869 wd_2362 dX17_init_214 (by decide) rfl rfl hnm rfl rfl rfl (fun H locs hw => ?_)
  replace hw : mw_W G (mw_ad G) 897 TF F54 M53 L39 H locs := by rw [eF54]; exact hw
  refine lv_aload_n C.1.1 C.1.2.1 dX17_init_217 rfl (lv_at hl 0 rfl) ?_
  refine lv_sipush (v := 6001) C.1.1 C.1.2.1 dX17_init_218 (by decide) ?_
  refine mw_size hw (by omega) (fun hs => ?_)
  obtain ⟨L55, eL55, hD⟩ := g_let hD
  refine mr_newL (n := 6001) C hw hs tf_897 wd_509 (by decide) (by decide) (by decide) (Nat.le_of_ble_eq_true rfl) (Nat.le_of_ble_eq_true rfl) dX17_init_221 (fun H hw _ => ?_)
  replace hw : mw_W G (mw_ad G) 898 TF F54 M53 L55 H locs := by rw [eL55]; exact hw
  refine W.widen (k := 28) (n := 97154) (Nat.le_of_ble_eq_true rfl) (Nat.le_of_ble_eq_true rfl) ?_
  obtain ⟨F56, eF56, hD⟩ := g_let hD
  refine mr_putFR C hw kc_17 32 (by omega) tf_869 wd_2363 dX17_init_223 (by decide) rfl rfl hnm rfl rfl rfl (fun H locs hw => ?_)
  replace hw : mw_W G (mw_ad G) 898 TF F56 M53 L55 H locs := by rw [eF56]; exact hw
  refine lv_aload_n C.1.1 C.1.2.1 dX17_init_226 rfl (lv_at hl 0 rfl) ?_
  refine lv_sipush (v := 6001) C.1.1 C.1.2.1 dX17_init_227 (by decide) ?_
  refine mw_size hw (by omega) (fun hs => ?_)
  obtain ⟨M57, eM57, hD⟩ := g_let hD
  refine mr_newI (atype := .boolean) (t := 2) (n := 6001) C hw hs tf_898 (by decide) rfl wd_320 rfl (fun _ => rfl) (by decide) (by decide) (by decide) (Nat.le_of_ble_eq_true rfl) (Nat.le_of_ble_eq_true rfl) dX17_init_230 (fun H hw _ => ?_)
  replace hw : mw_W G (mw_ad G) 899 TF F56 M57 L55 H locs := by rw [eM57]; exact hw
  refine W.widen (k := 29) (n := 103155) (Nat.le_of_ble_eq_true rfl) (Nat.le_of_ble_eq_true rfl) ?_
  obtain ⟨F58, eF58, hD⟩ := g_let hD
  refine mr_putFR C hw kc_17 33 (by omega) tf_869 wd_2364 dX17_init_232 (by decide) rfl rfl hnm rfl rfl rfl (fun H locs hw => ?_)
  replace hw : mw_W G (mw_ad G) 899 TF F58 M57 L55 H locs := by rw [eF58]; exact hw
  refine lv_aload_n C.1.1 C.1.2.1 dX17_init_235 rfl (lv_at hl 0 rfl) ?_
  refine lv_ldc (v := 42007) C.1.1 C.1.2.1 C.1.2.2.2.1 (C.1.2.2.2.2 _ wd_2330) dX17_init_236 ?_
  refine mw_size hw (by omega) (fun hs => ?_)
  obtain ⟨M59, eM59, hD⟩ := g_let hD
  refine mr_newI (atype := .byte) (t := 1) (n := 42007) C hw hs tf_899 (by decide) rfl wd_170 rfl (fun _ => rfl) (by decide) (by decide) (by decide) (Nat.le_of_ble_eq_true rfl) (Nat.le_of_ble_eq_true rfl) dX17_init_238 (fun H hw _ => ?_)
  replace hw : mw_W G (mw_ad G) 900 TF F58 M59 L55 H locs := by rw [eM59]; exact hw
  refine W.widen (k := 30) (n := 145162) (Nat.le_of_ble_eq_true rfl) (Nat.le_of_ble_eq_true rfl) ?_
  obtain ⟨F60, eF60, hD⟩ := g_let hD
  refine mr_putFR C hw kc_17 34 (by omega) tf_869 wd_2365 dX17_init_240 (by decide) rfl rfl hnm rfl rfl rfl (fun H locs hw => ?_)
  replace hw : mw_W G (mw_ad G) 900 TF F60 M59 L55 H locs := by rw [eF60]; exact hw
  refine lv_aload_n C.1.1 C.1.2.1 dX17_init_243 rfl (lv_at hl 0 rfl) ?_
  refine lv_iconst (v := 3) C.1.1 C.1.2.1 dX17_init_244 (by decide) ?_
  obtain ⟨M61, eM61, hD⟩ := g_let hD
  refine mr_putI C hw kc_17 38 (by omega) tf_869 wd_2369 dX17_init_245 (by decide) rfl rfl rfl rfl (fun H locs hw => ?_)
  replace hw : mw_W G (mw_ad G) 900 TF F60 M61 L55 H locs := by rw [eM61]; exact hw
  refine lv_aload_n C.1.1 C.1.2.1 dX17_init_248 rfl (lv_at hl 0 rfl) ?_
  refine lv_sipush (v := 10000) C.1.1 C.1.2.1 dX17_init_249 (by decide) ?_
  refine mw_size hw (by omega) (fun hs => ?_)
  obtain ⟨M62, eM62, hD⟩ := g_let hD
  refine mr_newI (atype := .byte) (t := 1) (n := 10000) C hw hs tf_900 (by decide) rfl wd_170 rfl (fun _ => rfl) (by decide) (by decide) (by decide) (Nat.le_of_ble_eq_true rfl) (Nat.le_of_ble_eq_true rfl) dX17_init_252 (fun H hw _ => ?_)
  replace hw : mw_W G (mw_ad G) 901 TF F60 M62 L55 H locs := by rw [eM62]; exact hw
  refine W.widen (k := 31) (n := 155162) (Nat.le_of_ble_eq_true rfl) (Nat.le_of_ble_eq_true rfl) ?_
  obtain ⟨F63, eF63, hD⟩ := g_let hD
  refine mr_putFR C hw kc_17 41 (by omega) tf_869 wd_2372 dX17_init_254 (by decide) rfl rfl hnm rfl rfl rfl (fun H locs hw => ?_)
  replace hw : mw_W G (mw_ad G) 901 TF F63 M62 L55 H locs := by rw [eF63]; exact hw
  refine lv_aload_n C.1.1 C.1.2.1 dX17_init_257 rfl (lv_at hl 0 rfl) ?_
  refine lv_bipush (v := 8) C.1.1 C.1.2.1 dX17_init_258 (by decide) ?_
  refine mw_size hw (by omega) (fun hs => ?_)
  obtain ⟨M64, eM64, hD⟩ := g_let hD
  refine mr_newI (atype := .int) (t := 0) (n := 8) C hw hs tf_901 (by decide) rfl wd_91 rfl (fun _ => rfl) (by decide) (by decide) (by decide) (Nat.le_of_ble_eq_true rfl) (Nat.le_of_ble_eq_true rfl) dX17_init_260 (fun H hw _ => ?_)
  replace hw : mw_W G (mw_ad G) 902 TF F63 M64 L55 H locs := by rw [eM64]; exact hw
  refine W.widen (k := 32) (n := 155170) (Nat.le_of_ble_eq_true rfl) (Nat.le_of_ble_eq_true rfl) ?_
  obtain ⟨F65, eF65, hD⟩ := g_let hD
  refine mr_putFR C hw kc_17 42 (by omega) tf_869 wd_2373 dX17_init_262 (by decide) rfl rfl hnm rfl rfl rfl (fun H locs hw => ?_)
  replace hw : mw_W G (mw_ad G) 902 TF F65 M64 L55 H locs := by rw [eF65]; exact hw
  refine mw_size hw (by omega) (fun hs => ?_)
  exact mr_cret C hr hlocks hw hs (Option.some.inj hD) dX17_init_265

theorem dX18_init_0 : decode cX18_init 0 = .ok (.aload_n 0, 1) := by decide +kernel
theorem dX18_init_1 : decode cX18_init 1 = .ok (.invokespecial 1, 3) := by decide +kernel
theorem dX18_init_4 : decode cX18_init 4 = .ok (.aload_n 0, 1) := by decide +kernel
theorem dX18_init_5 : decode cX18_init 5 = .ok (.sipush 201, 3) := by decide +kernel
theorem dX18_init_8 : decode cX18_init 8 = .ok (.newarray .int, 2) := by decide +kernel
theorem dX18_init_10 : decode cX18_init 10 = .ok (.putfield 7, 3) := by decide +kernel
theorem dX18_init_13 : decode cX18_init 13 = .ok (.aload_n 0, 1) := by decide +kernel
theorem dX18_init_14 : decode cX18_init 14 = .ok (.sipush 201, 3) := by decide +kernel
theorem dX18_init_17 : decode cX18_init 17 = .ok (.newarray .int, 2) := by decide +kernel
theorem dX18_init_19 : decode cX18_init 19 = .ok (.putfield 13, 3) := by decide +kernel
theorem dX18_init_22 : decode cX18_init 22 = .ok (.aload_n 0, 1) := by decide +kernel
theorem dX18_init_23 : decode cX18_init 23 = .ok (.sipush 201, 3) := by decide +kernel
theorem dX18_init_26 : decode cX18_init 26 = .ok (.newarray .int, 2) := by decide +kernel
theorem dX18_init_28 : decode cX18_init 28 = .ok (.putfield 16, 3) := by decide +kernel
theorem dX18_init_31 : decode cX18_init 31 = .ok (.aload_n 0, 1) := by decide +kernel
theorem dX18_init_32 : decode cX18_init 32 = .ok (.sipush 201, 3) := by decide +kernel
theorem dX18_init_35 : decode cX18_init 35 = .ok (.newarray .int, 2) := by decide +kernel
theorem dX18_init_37 : decode cX18_init 37 = .ok (.putfield 19, 3) := by decide +kernel
theorem dX18_init_40 : decode cX18_init 40 = .ok (.aload_n 0, 1) := by decide +kernel
theorem dX18_init_41 : decode cX18_init 41 = .ok (.sipush 201, 3) := by decide +kernel
theorem dX18_init_44 : decode cX18_init 44 = .ok (.newarray .int, 2) := by decide +kernel
theorem dX18_init_46 : decode cX18_init 46 = .ok (.putfield 22, 3) := by decide +kernel
theorem dX18_init_49 : decode cX18_init 49 = .ok (.aload_n 0, 1) := by decide +kernel
theorem dX18_init_50 : decode cX18_init 50 = .ok (.sipush 1608, 3) := by decide +kernel
theorem dX18_init_53 : decode cX18_init 53 = .ok (.newarray .boolean, 2) := by decide +kernel
theorem dX18_init_55 : decode cX18_init 55 = .ok (.putfield 25, 3) := by decide +kernel
theorem dX18_init_58 : decode cX18_init 58 = .ok (.aload_n 0, 1) := by decide +kernel
theorem dX18_init_59 : decode cX18_init 59 = .ok (.sipush 201, 3) := by decide +kernel
theorem dX18_init_62 : decode cX18_init 62 = .ok (.newarray .int, 2) := by decide +kernel
theorem dX18_init_64 : decode cX18_init 64 = .ok (.putfield 29, 3) := by decide +kernel
theorem dX18_init_67 : decode cX18_init 67 = .ok (.aload_n 0, 1) := by decide +kernel
theorem dX18_init_68 : decode cX18_init 68 = .ok (.sipush 201, 3) := by decide +kernel
theorem dX18_init_71 : decode cX18_init 71 = .ok (.newarray .int, 2) := by decide +kernel
theorem dX18_init_73 : decode cX18_init 73 = .ok (.putfield 32, 3) := by decide +kernel
theorem dX18_init_76 : decode cX18_init 76 = .ok (.aload_n 0, 1) := by decide +kernel
theorem dX18_init_77 : decode cX18_init 77 = .ok (.sipush 201, 3) := by decide +kernel
theorem dX18_init_80 : decode cX18_init 80 = .ok (.newarray .int, 2) := by decide +kernel
theorem dX18_init_82 : decode cX18_init 82 = .ok (.putfield 35, 3) := by decide +kernel
theorem dX18_init_85 : decode cX18_init 85 = .ok (.aload_n 0, 1) := by decide +kernel
theorem dX18_init_86 : decode cX18_init 86 = .ok (.sipush 1608, 3) := by decide +kernel
theorem dX18_init_89 : decode cX18_init 89 = .ok (.newarray .boolean, 2) := by decide +kernel
theorem dX18_init_91 : decode cX18_init 91 = .ok (.putfield 38, 3) := by decide +kernel
theorem dX18_init_94 : decode cX18_init 94 = .ok (.aload_n 0, 1) := by decide +kernel
theorem dX18_init_95 : decode cX18_init 95 = .ok (.sipush 201, 3) := by decide +kernel
theorem dX18_init_98 : decode cX18_init 98 = .ok (.newarray .int, 2) := by decide +kernel
theorem dX18_init_100 : decode cX18_init 100 = .ok (.putfield 41, 3) := by decide +kernel
theorem dX18_init_103 : decode cX18_init 103 = .ok (.aload_n 0, 1) := by decide +kernel
theorem dX18_init_104 : decode cX18_init 104 = .ok (.sipush 201, 3) := by decide +kernel
theorem dX18_init_107 : decode cX18_init 107 = .ok (.newarray .int, 2) := by decide +kernel
theorem dX18_init_109 : decode cX18_init 109 = .ok (.putfield 44, 3) := by decide +kernel
theorem dX18_init_112 : decode cX18_init 112 = .ok (.aload_n 0, 1) := by decide +kernel
theorem dX18_init_113 : decode cX18_init 113 = .ok (.sipush 201, 3) := by decide +kernel
theorem dX18_init_116 : decode cX18_init 116 = .ok (.newarray .int, 2) := by decide +kernel
theorem dX18_init_118 : decode cX18_init 118 = .ok (.putfield 47, 3) := by decide +kernel
theorem dX18_init_121 : decode cX18_init 121 = .ok (.aload_n 0, 1) := by decide +kernel
theorem dX18_init_122 : decode cX18_init 122 = .ok (.sipush 201, 3) := by decide +kernel
theorem dX18_init_125 : decode cX18_init 125 = .ok (.newarray .int, 2) := by decide +kernel
theorem dX18_init_127 : decode cX18_init 127 = .ok (.putfield 50, 3) := by decide +kernel
theorem dX18_init_130 : decode cX18_init 130 = .ok (.aload_n 0, 1) := by decide +kernel
theorem dX18_init_131 : decode cX18_init 131 = .ok (.sipush 201, 3) := by decide +kernel
theorem dX18_init_134 : decode cX18_init 134 = .ok (.newarray .int, 2) := by decide +kernel
theorem dX18_init_136 : decode cX18_init 136 = .ok (.putfield 53, 3) := by decide +kernel
theorem dX18_init_139 : decode cX18_init 139 = .ok (.aload_n 0, 1) := by decide +kernel
theorem dX18_init_140 : decode cX18_init 140 = .ok (.sipush 1608, 3) := by decide +kernel
theorem dX18_init_143 : decode cX18_init 143 = .ok (.newarray .int, 2) := by decide +kernel
theorem dX18_init_145 : decode cX18_init 145 = .ok (.putfield 56, 3) := by decide +kernel
theorem dX18_init_148 : decode cX18_init 148 = .ok (.aload_n 0, 1) := by decide +kernel
theorem dX18_init_149 : decode cX18_init 149 = .ok (.sipush 500, 3) := by decide +kernel
theorem dX18_init_152 : decode cX18_init 152 = .ok (.newarray .int, 2) := by decide +kernel
theorem dX18_init_154 : decode cX18_init 154 = .ok (.putfield 59, 3) := by decide +kernel
theorem dX18_init_157 : decode cX18_init 157 = .ok (.aload_n 0, 1) := by decide +kernel
theorem dX18_init_158 : decode cX18_init 158 = .ok (.bipush 32, 2) := by decide +kernel
theorem dX18_init_160 : decode cX18_init 160 = .ok (.newarray .boolean, 2) := by decide +kernel
theorem dX18_init_162 : decode cX18_init 162 = .ok (.putfield 62, 3) := by decide +kernel
theorem dX18_init_165 : decode cX18_init 165 = .ok (.return_, 1) := by decide +kernel
theorem cwX18_init : mw_cw yX18_init cX18_init 1 none 0 := ⟨wd_18, wd_2465, by decide +kernel⟩
noncomputable def DX18_init (fu : Nat) (F : mwF) (M : mwM) (L : mwL) : Option (mwF × mwM × mwL) :=
  mlet (mz 0 M 903) (fun M1 => mlet (mset F 902 3 (some 903)) (fun F2 => mlet (mz 0 M1 904) (fun M3 => mlet (mset F2 902 4 (some 904)) (fun F4 => mlet (mz 0 M3 905) (fun M5 => mlet (mset F4 902 5 (some 905)) (fun F6 => mlet (mz 0 M5 906) (fun M7 => mlet (mset F6 902 6 (some 906)) (fun F8 => mlet (mz 0 M7 907) (fun M9 => mlet (mset F8 902 7 (some 907)) (fun F10 => mlet (mz 0 M9 908) (fun M11 => mlet (mset F10 902 8 (some 908)) (fun F12 => mlet (mz 0 M11 909) (fun M13 => mlet (mset F12 902 9 (some 909)) (fun F14 => mlet (mz 0 M13 910) (fun M15 => mlet (mset F14 902 10 (some 910)) (fun F16 => mlet (mz 0 M15 911) (fun M17 => mlet (mset F16 902 11 (some 911)) (fun F18 => mlet (mz 0 M17 912) (fun M19 => mlet (mset F18 902 12 (some 912)) (fun F20 => mlet (mz 0 M19 913) (fun M21 => mlet (mset F20 902 13 (some 913)) (fun F22 => mlet (mz 0 M21 914) (fun M23 => mlet (mset F22 902 14 (some 914)) (fun F24 => mlet (mz 0 M23 915) (fun M25 => mlet (mset F24 902 15 (some 915)) (fun F26 => mlet (mz 0 M25 916) (fun M27 => mlet (mset F26 902 16 (some 916)) (fun F28 => mlet (mz 0 M27 917) (fun M29 => mlet (mset F28 902 17 (some 917)) (fun F30 => mlet (mz 0 M29 918) (fun M31 => mlet (mset F30 902 18 (some 918)) (fun F32 => mlet (mz 0 M31 919) (fun M33 => mlet (mset F32 902 21 (some 919)) (fun F34 => mlet (mz 0 M33 920) (fun M35 => mlet (mset F34 902 22 (some 920)) (fun F36 => some (F36, M35, L)))))))))))))))))))))))))))))))))))))
set_option maxHeartbeats 4000000 in
theorem kX18_init {fu : Nat} {F : mwF} {M : mwM} {L : mwL} {F9 : mwF} {M9 : mwM} {L9 : mwL} (hD : DX18_init fu F M L = some (F9, M9, L9)) : ∀ a j, (a < 902 ∨ 921 ≤ a) → F9 a j = F a j := by
  intro a j ha
  unfold DX18_init at hD
  obtain ⟨M1, eM1, hD⟩ := g_let hD
  obtain ⟨F2, eF2, hD⟩ := g_let hD
  obtain ⟨M3, eM3, hD⟩ := g_let hD
  obtain ⟨F4, eF4, hD⟩ := g_let hD
  obtain ⟨M5, eM5, hD⟩ := g_let hD
  obtain ⟨F6, eF6, hD⟩ := g_let hD
  obtain ⟨M7, eM7, hD⟩ := g_let hD
  obtain ⟨F8, eF8, hD⟩ := g_let hD
  obtain ⟨M9, eM9, hD⟩ := g_let hD
  obtain ⟨F10, eF10, hD⟩ := g_let hD
  obtain ⟨M11, eM11, hD⟩ := g_let hD
  obtain ⟨F12, eF12, hD⟩ := g_let hD
  obtain ⟨M13, eM13, hD⟩ := g_let hD
  obtain ⟨F14, eF14, hD⟩ := g_let hD
  obtain ⟨M15, eM15, hD⟩ := g_let hD
  obtain ⟨F16, eF16, hD⟩ := g_let hD
  obtain ⟨M17, eM17, hD⟩ := g_let hD
  obtain ⟨F18, eF18, hD⟩ := g_let hD
  obtain ⟨M19, eM19, hD⟩ := g_let hD
  obtain ⟨F20, eF20, hD⟩ := g_let hD
  obtain ⟨M21, eM21, hD⟩ := g_let hD
  obtain ⟨F22, eF22, hD⟩ := g_let hD
  obtain ⟨M23, eM23, hD⟩ := g_let hD
  obtain ⟨F24, eF24, hD⟩ := g_let hD
  obtain ⟨M25, eM25, hD⟩ := g_let hD
  obtain ⟨F26, eF26, hD⟩ := g_let hD
  obtain ⟨M27, eM27, hD⟩ := g_let hD
  obtain ⟨F28, eF28, hD⟩ := g_let hD
  obtain ⟨M29, eM29, hD⟩ := g_let hD
  obtain ⟨F30, eF30, hD⟩ := g_let hD
  obtain ⟨M31, eM31, hD⟩ := g_let hD
  obtain ⟨F32, eF32, hD⟩ := g_let hD
  obtain ⟨M33, eM33, hD⟩ := g_let hD
  obtain ⟨F34, eF34, hD⟩ := g_let hD
  obtain ⟨M35, eM35, hD⟩ := g_let hD
  obtain ⟨F36, eF36, hD⟩ := g_let hD
  have hf := congrArg (fun q => q.1) (Option.some.inj hD)
  dsimp only at hf
  rw [← hf]
  rw [eF36, mset_k (by omega)]
  rw [eF34, mset_k (by omega)]
  rw [eF32, mset_k (by omega)]
  rw [eF30, mset_k (by omega)]
  rw [eF28, mset_k (by omega)]
  rw [eF26, mset_k (by omega)]
  rw [eF24, mset_k (by omega)]
  rw [eF22, mset_k (by omega)]
  rw [eF20, mset_k (by omega)]
  rw [eF18, mset_k (by omega)]
  rw [eF16, mset_k (by omega)]
  rw [eF14, mset_k (by omega)]
  rw [eF12, mset_k (by omega)]
  rw [eF10, mset_k (by omega)]
  rw [eF8, mset_k (by omega)]
  rw [eF6, mset_k (by omega)]
  rw [eF4, mset_k (by omega)]
  rw [eF2, mset_k (by omega)]
set_option maxHeartbeats 4000000 in
set_option maxRecDepth 100000 in
theorem tX18_init (l : Launch) (G : mwG) (fu : Nat) (F : mwF) (M : mwM) (L : mwL) {F9 : mwF} {M9 : mwM} {L9 : mwL} (hD : DX18_init fu F M L = some (F9, M9, L9)) : Met l yX18_init (Cond.code yX18_init cX18_init 1 none :: GT) ({ frames := 1, cells := 18, slots := 7969, locals := 20 }) (mw_PreC G 903 F M L [.ref (mw_ad G 902)]) (mw_QC G 921 F9 M9 L9) 18 7969 (mw_fr G) := by
  refine mw_enterC (by decide) (Nat.le_of_ble_eq_true rfl) ?_
  intro p e s m below meth c ls C A hr hlocks hnm hw hs0 hl
  have hl : lv_has ls 1 [(0, .ref (mw_ad G 902))] := hl
  unfold DX18_init at hD
  refine lv_aload_n C.1.1 C.1.2.1 dX18_init_0 rfl (lv_at hl 0 rfl) ?_
  refine W.objInit C.1.1 C.1.2.1 C.1.2.2.2.1 (C.1.2.2.2.2 _ wd_2466) (C.1.2.2.2.2 _ wd_39) (C.1.2.2.2.2 _ wd_40) rfl (by rw [C.1.2.2.1]; exact hl.1) rfl dX18_init_1 (Nat.le_of_ble_eq_true rfl) (Nat.le_of_ble_eq_true rfl) ?_
  refine W.eq (g2 := F0 m 4 ls []) rfl ?_
  refine lv_aload_n C.1.1 C.1.2.1 dX18_init_4 rfl (lv_at hl 0 rfl) ?_
  refine lv_sipush (v := 201) C.1.1 C.1.2.1 dX18_init_5 (by decide) ?_
  refine mw_size hw (by omega) (fun hs => ?_)
  obtain ⟨M1, eM1, hD⟩ := g_let hD
  refine mr_newI (atype := .int) (t := 0) (n := 201) C hw hs tf_903 (by decide) rfl wd_91 rfl (fun _ => rfl) (by decide) (by decide) (by decide) (Nat.le_of_ble_eq_true rfl) (Nat.le_of_ble_eq_true rfl) dX18_init_8 (fun H hw _ => ?_)
  replace hw : mw_W G (mw_ad G) 904 TF F M1 L H [] := by rw [eM1]; exact hw
  refine W.widen (k := 1) (n := 201) (Nat.le_of_ble_eq_true rfl) (Nat.le_of_ble_eq_true rfl) ?_
  obtain ⟨F2, eF2, hD⟩ := g_let hD
  refine mr_putFR C hw kc_18 3 (by omega) tf_902 wd_2470 dX18_init_10 (by decide) rfl rfl hnm rfl rfl rfl (fun H locs hw => ?_)
  replace hw : mw_W G (mw_ad G) 904 TF F2 M1 L H locs := by rw [eF2]; exact hw
  refine lv_aload_n C.1.1 C.1.2.1 dX18_init_13 rfl (lv_at hl 0 rfl) ?_
  refine lv_sipush (v := 201) C.1.1 C.1.2.1 dX18_init_14 (by decide) ?_
  refine mw_size hw (by omega) (fun hs => ?_)
  obtain ⟨M3, eM3, hD⟩ := g_let hD
  refine mr_newI (atype := .int) (t := 0) (n := 201) C hw hs tf_904 (by decide) rfl wd_91 rfl (fun _ => rfl) (by decide) (by decide) (by decide) (Nat.le_of_ble_eq_true rfl) (Nat.le_of_ble_eq_true rfl) dX18_init_17 (fun H hw _ => ?_)
  replace hw : mw_W G (mw_ad G) 905 TF F2 M3 L H locs := by rw [eM3]; exact hw
  refine W.widen (k := 2) (n := 402) (Nat.le_of_ble_eq_true rfl) (Nat.le_of_ble_eq_true rfl) ?_
  obtain ⟨F4, eF4, hD⟩ := g_let hD
  refine mr_putFR C hw kc_18 4 (by omega) tf_902 wd_2471 dX18_init_19 (by decide) rfl rfl hnm rfl rfl rfl (fun H locs hw => ?_)
  replace hw : mw_W G (mw_ad G) 905 TF F4 M3 L H locs := by rw [eF4]; exact hw
  refine lv_aload_n C.1.1 C.1.2.1 dX18_init_22 rfl (lv_at hl 0 rfl) ?_
  refine lv_sipush (v := 201) C.1.1 C.1.2.1 dX18_init_23 (by decide) ?_
  refine mw_size hw (by omega) (fun hs => ?_)
  obtain ⟨M5, eM5, hD⟩ := g_let hD
  refine mr_newI (atype := .int) (t := 0) (n := 201) C hw hs tf_905 (by decide) rfl wd_91 rfl (fun _ => rfl) (by decide) (by decide) (by decide) (Nat.le_of_ble_eq_true rfl) (Nat.le_of_ble_eq_true rfl) dX18_init_26 (fun H hw _ => ?_)
  replace hw : mw_W G (mw_ad G) 906 TF F4 M5 L H locs := by rw [eM5]; exact hw
  refine W.widen (k := 3) (n := 603) (Nat.le_of_ble_eq_true rfl) (Nat.le_of_ble_eq_true rfl) ?_
  obtain ⟨F6, eF6, hD⟩ := g_let hD
  refine mr_putFR C hw kc_18 5 (by omega) tf_902 wd_2472 dX18_init_28 (by decide) rfl rfl hnm rfl rfl rfl (fun H locs hw => ?_)
  replace hw : mw_W G (mw_ad G) 906 TF F6 M5 L H locs := by rw [eF6]; exact hw
  refine lv_aload_n C.1.1 C.1.2.1 dX18_init_31 rfl (lv_at hl 0 rfl) ?_
  refine lv_sipush (v := 201) C.1.1 C.1.2.1 dX18_init_32 (by decide) ?_
  refine mw_size hw (by omega) (fun hs => ?_)
  obtain ⟨M7, eM7, hD⟩ := g_let hD
  refine mr_newI (atype := .int) (t := 0) (n := 201) C hw hs tf_906 (by decide) rfl wd_91 rfl (fun _ => rfl) (by decide) (by decide) (by decide) (Nat.le_of_ble_eq_true rfl) (Nat.le_of_ble_eq_true rfl) dX18_init_35 (fun H hw _ => ?_)
  replace hw : mw_W G (mw_ad G) 907 TF F6 M7 L H locs := by rw [eM7]; exact hw
  refine W.widen (k := 4) (n := 804) (Nat.le_of_ble_eq_true rfl) (Nat.le_of_ble_eq_true rfl) ?_
  obtain ⟨F8, eF8, hD⟩ := g_let hD
  refine mr_putFR C hw kc_18 6 (by omega) tf_902 wd_2473 dX18_init_37 (by decide) rfl rfl hnm rfl rfl rfl (fun H locs hw => ?_)
  replace hw : mw_W G (mw_ad G) 907 TF F8 M7 L H locs := by rw [eF8]; exact hw
  refine lv_aload_n C.1.1 C.1.2.1 dX18_init_40 rfl (lv_at hl 0 rfl) ?_
  refine lv_sipush (v := 201) C.1.1 C.1.2.1 dX18_init_41 (by decide) ?_
  refine mw_size hw (by omega) (fun hs => ?_)
  obtain ⟨M9, eM9, hD⟩ := g_let hD
  refine mr_newI (atype := .int) (t := 0) (n := 201) C hw hs tf_907 (by decide) rfl wd_91 rfl (fun _ => rfl) (by decide) (by decide) (by decide) (Nat.le_of_ble_eq_true rfl) (Nat.le_of_ble_eq_true rfl) dX18_init_44 (fun H hw _ => ?_)
  replace hw : mw_W G (mw_ad G) 908 TF F8 M9 L H locs := by rw [eM9]; exact hw
  refine W.widen (k := 5) (n := 1005) (Nat.le_of_ble_eq_true rfl) (Nat.le_of_ble_eq_true rfl) ?_
  obtain ⟨F10, eF10, hD⟩ := g_let hD
  refine mr_putFR C hw kc_18 7 (by omega) tf_902 wd_2474 dX18_init_46 (by decide) rfl rfl hnm rfl rfl rfl (fun H locs hw => ?_)
  replace hw : mw_W G (mw_ad G) 908 TF F10 M9 L H locs := by rw [eF10]; exact hw
  refine lv_aload_n C.1.1 C.1.2.1 dX18_init_49 rfl (lv_at hl 0 rfl) ?_
  refine lv_sipush (v := 1608) C.1.1 C.1.2.1 dX18_init_50 (by decide) ?_
  refine mw_size hw (by omega) (fun hs => ?_)
  obtain ⟨M11, eM11, hD⟩ := g_let hD
  refine mr_newI (atype := .boolean) (t := 2) (n := 1608) C hw hs tf_908 (by decide) rfl wd_320 rfl (fun _ => rfl) (by decide) (by decide) (by decide) (Nat.le_of_ble_eq_true rfl) (Nat.le_of_ble_eq_true rfl) dX18_init_53 (fun H hw _ => ?_)
  replace hw : mw_W G (mw_ad G) 909 TF F10 M11 L H locs := by rw [eM11]; exact hw
  refine W.widen (k := 6) (n := 2613) (Nat.le_of_ble_eq_true rfl) (Nat.le_of_ble_eq_true rfl) ?_
  obtain ⟨F12, eF12, hD⟩ := g_let hD
  refine mr_putFR C hw kc_18 8 (by omega) tf_902 wd_2475 dX18_init_55 (by decide) rfl rfl hnm rfl rfl rfl (fun H locs hw => ?_)
  replace hw : mw_W G (mw_ad G) 909 TF F12 M11 L H locs := by rw [eF12]; exact hw
  refine lv_aload_n C.1.1 C.1.2.1 dX18_init_58 rfl (lv_at hl 0 rfl) ?_
  refine lv_sipush (v := 201) C.1.1 C.1.2.1 dX18_init_59 (by decide) ?_
  refine mw_size hw (by omega) (fun hs => ?_)
  obtain ⟨M13, eM13, hD⟩ := g_let hD
  refine mr_newI (atype := .int) (t := 0) (n := 201) C hw hs tf_909 (by decide) rfl wd_91 rfl (fun _ => rfl) (by decide) (by decide) (by decide) (Nat.le_of_ble_eq_true rfl) (Nat.le_of_ble_eq_true rfl) dX18_init_62 (fun H hw _ => ?_)
  replace hw : mw_W G (mw_ad G) 910 TF F12 M13 L H locs := by rw [eM13]; exact hw
  refine W.widen (k := 7) (n := 2814) (Nat.le_of_ble_eq_true rfl) (Nat.le_of_ble_eq_true rfl) ?_
  obtain ⟨F14, eF14, hD⟩ := g_let hD
  refine mr_putFR C hw kc_18 9 (by omega) tf_902 wd_2476 dX18_init_64 (by decide) rfl rfl hnm rfl rfl rfl (fun H locs hw => ?_)
  replace hw : mw_W G (mw_ad G) 910 TF F14 M13 L H locs := by rw [eF14]; exact hw
  refine lv_aload_n C.1.1 C.1.2.1 dX18_init_67 rfl (lv_at hl 0 rfl) ?_
  refine lv_sipush (v := 201) C.1.1 C.1.2.1 dX18_init_68 (by decide) ?_
  refine mw_size hw (by omega) (fun hs => ?_)
  obtain ⟨M15, eM15, hD⟩ := g_let hD
  refine mr_newI (atype := .int) (t := 0) (n := 201) C hw hs tf_910 (by decide) rfl wd_91 rfl (fun _ => rfl) (by decide) (by decide) (by decide) (Nat.le_of_ble_eq_true rfl) (Nat.le_of_ble_eq_true rfl) dX18_init_71 (fun H hw _ => ?_)
  replace hw : mw_W G (mw_ad G) 911 TF F14 M15 L H locs := by rw [eM15]; exact hw
  refine W.widen (k := 8) (n := 3015) (Nat.le_of_ble_eq_true rfl) (Nat.le_of_ble_eq_true rfl) ?_
  obtain ⟨F16, eF16, hD⟩ := g_let hD
  refine mr_putFR C hw kc_18 10 (by omega) tf_902 wd_2477 dX18_init_73 (by decide) rfl rfl hnm rfl rfl rfl (fun H locs hw => ?_)
  replace hw : mw_W G (mw_ad G) 911 TF F16 M15 L H locs := by rw [eF16]; exact hw
  refine lv_aload_n C.1.1 C.1.2.1 dX18_init_76 rfl (lv_at hl 0 rfl) ?_
  refine lv_sipush (v := 201) C.1.1 C.1.2.1 dX18_init_77 (by decide) ?_
  refine mw_size hw (by omega) (fun hs => ?_)
  obtain ⟨M17, eM17, hD⟩ := g_let hD
  refine mr_newI (atype := .int) (t := 0) (n := 201) C hw hs tf_911 (by decide) rfl wd_91 rfl (fun _ => rfl) (by decide) (by decide) (by decide) (Nat.le_of_ble_eq_true rfl) (Nat.le_of_ble_eq_true rfl) dX18_init_80 (fun H hw _ => ?_)
  replace hw : mw_W G (mw_ad G) 912 TF F16 M17 L H locs := by rw [eM17]; exact hw
  refine W.widen (k := 9) (n := 3216) (Nat.le_of_ble_eq_true rfl) (Nat.le_of_ble_eq_true rfl) ?_
  obtain ⟨F18, eF18, hD⟩ := g_let hD
  refine mr_putFR C hw kc_18 11 (by omega) tf_902 wd_2478 dX18_init_82 (by decide) rfl rfl hnm rfl rfl rfl (fun H locs hw => ?_)
  replace hw : mw_W G (mw_ad G) 912 TF F18 M17 L H locs := by rw [eF18]; exact hw
  refine lv_aload_n C.1.1 C.1.2.1 dX18_init_85 rfl (lv_at hl 0 rfl) ?_
  refine lv_sipush (v := 1608) C.1.1 C.1.2.1 dX18_init_86 (by decide) ?_
  refine mw_size hw (by omega) (fun hs => ?_)
  obtain ⟨M19, eM19, hD⟩ := g_let hD
  refine mr_newI (atype := .boolean) (t := 2) (n := 1608) C hw hs tf_912 (by decide) rfl wd_320 rfl (fun _ => rfl) (by decide) (by decide) (by decide) (Nat.le_of_ble_eq_true rfl) (Nat.le_of_ble_eq_true rfl) dX18_init_89 (fun H hw _ => ?_)
  replace hw : mw_W G (mw_ad G) 913 TF F18 M19 L H locs := by rw [eM19]; exact hw
  refine W.widen (k := 10) (n := 4824) (Nat.le_of_ble_eq_true rfl) (Nat.le_of_ble_eq_true rfl) ?_
  obtain ⟨F20, eF20, hD⟩ := g_let hD
  refine mr_putFR C hw kc_18 12 (by omega) tf_902 wd_2479 dX18_init_91 (by decide) rfl rfl hnm rfl rfl rfl (fun H locs hw => ?_)
  replace hw : mw_W G (mw_ad G) 913 TF F20 M19 L H locs := by rw [eF20]; exact hw
  refine lv_aload_n C.1.1 C.1.2.1 dX18_init_94 rfl (lv_at hl 0 rfl) ?_
  refine lv_sipush (v := 201) C.1.1 C.1.2.1 dX18_init_95 (by decide) ?_
  refine mw_size hw (by omega) (fun hs => ?_)
  obtain ⟨M21, eM21, hD⟩ := g_let hD
  refine mr_newI (atype := .int) (t := 0) (n := 201) C hw hs tf_913 (by decide) rfl wd_91 rfl (fun _ => rfl) (by decide) (by decide) (by decide) (Nat.le_of_ble_eq_true rfl) (Nat.le_of_ble_eq_true rfl) dX18_init_98 (fun H hw _ => ?_)
  replace hw : mw_W G (mw_ad G) 914 TF F20 M21 L H locs := by rw [eM21]; exact hw
  refine W.widen (k := 11) (n := 5025) (Nat.le_of_ble_eq_true rfl) (Nat.le_of_ble_eq_true rfl) ?_
  obtain ⟨F22, eF22, hD⟩ := g_let hD
  refine mr_putFR C hw kc_18 13 (by omega) tf_902 wd_2480 dX18_init_100 (by decide) rfl rfl hnm rfl rfl rfl (fun H locs hw => ?_)
  replace hw : mw_W G (mw_ad G) 914 TF F22 M21 L H locs := by rw [eF22]; exact hw
  refine lv_aload_n C.1.1 C.1.2.1 dX18_init_103 rfl (lv_at hl 0 rfl) ?_
  refine lv_sipush (v := 201) C.1.1 C.1.2.1 dX18_init_104 (by decide) ?_
  refine mw_size hw (by omega) (fun hs => ?_)
  obtain ⟨M23, eM23, hD⟩ := g_let hD
  refine mr_newI (atype := .int) (t := 0) (n := 201) C hw hs tf_914 (by decide) rfl wd_91 rfl (fun _ => rfl) (by decide) (by decide) (by decide) (Nat.le_of_ble_eq_true rfl) (Nat.le_of_ble_eq_true rfl) dX18_init_107 (fun H hw _ => ?_)
  replace hw : mw_W G (mw_ad G) 915 TF F22 M23 L H locs := by rw [eM23]; exact hw
  refine W.widen (k := 12) (n := 5226) (Nat.le_of_ble_eq_true rfl) (Nat.le_of_ble_eq_true rfl) ?_
  obtain ⟨F24, eF24, hD⟩ := g_let hD
  refine mr_putFR C hw kc_18 14 (by omega) tf_902 wd_2481 dX18_init_109 (by decide) rfl rfl hnm rfl rfl rfl (fun H locs hw => ?_)
  replace hw : mw_W G (mw_ad G) 915 TF F24 M23 L H locs := by rw [eF24]; exact hw
  refine lv_aload_n C.1.1 C.1.2.1 dX18_init_112 rfl (lv_at hl 0 rfl) ?_
  refine lv_sipush (v := 201) C.1.1 C.1.2.1 dX18_init_113 (by decide) ?_
  refine mw_size hw (by omega) (fun hs => ?_)
  obtain ⟨M25, eM25, hD⟩ := g_let hD
  refine mr_newI (atype := .int) (t := 0) (n := 201) C hw hs tf_915 (by decide) rfl wd_91 rfl (fun _ => rfl) (by decide) (by decide) (by decide) (Nat.le_of_ble_eq_true rfl) (Nat.le_of_ble_eq_true rfl) dX18_init_116 (fun H hw _ => ?_)
  replace hw : mw_W G (mw_ad G) 916 TF F24 M25 L H locs := by rw [eM25]; exact hw
  refine W.widen (k := 13) (n := 5427) (Nat.le_of_ble_eq_true rfl) (Nat.le_of_ble_eq_true rfl) ?_
  obtain ⟨F26, eF26, hD⟩ := g_let hD
  refine mr_putFR C hw kc_18 15 (by omega) tf_902 wd_2482 dX18_init_118 (by decide) rfl rfl hnm rfl rfl rfl (fun H locs hw => ?_)
  replace hw : mw_W G (mw_ad G) 916 TF F26 M25 L H locs := by rw [eF26]; exact hw
  refine lv_aload_n C.1.1 C.1.2.1 dX18_init_121 rfl (lv_at hl 0 rfl) ?_
  refine lv_sipush (v := 201) C.1.1 C.1.2.1 dX18_init_122 (by decide) ?_
  refine mw_size hw (by omega) (fun hs => ?_)
  obtain ⟨M27, eM27, hD⟩ := g_let hD
  refine mr_newI (atype := .int) (t := 0) (n := 201) C hw hs tf_916 (by decide) rfl wd_91 rfl (fun _ => rfl) (by decide) (by decide) (by decide) (Nat.le_of_ble_eq_true rfl) (Nat.le_of_ble_eq_true rfl) dX18_init_125 (fun H hw _ => ?_)
  replace hw : mw_W G (mw_ad G) 917 TF F26 M27 L H locs := by rw [eM27]; exact hw
  refine W.widen (k := 14) (n := 5628) (Nat.le_of_ble_eq_true rfl) (Nat.le_of_ble_eq_true rfl) ?_
  obtain ⟨F28, eF28, hD⟩ := g_let hD
  refine mr_putFR C hw kc_18 16 (by omega) tf_902 wd_2483 dX18_init_127 (by decide) rfl rfl hnm rfl rfl rfl (fun H locs hw => ?_)
  replace hw : mw_W G (mw_ad G) 917 TF F28 M27 L H locs := by rw [eF28]; exact hw
  refine lv_aload_n C.1.1 C.1.2.1 dX18_init_130 rfl (lv_at hl 0 rfl) ?_
  refine lv_sipush (v := 201) C.1.1 C.1.2.1 dX18_init_131 (by decide) ?_
  refine mw_size hw (by omega) (fun hs => ?_)
  obtain ⟨M29, eM29, hD⟩ := g_let hD
  refine mr_newI (atype := .int) (t := 0) (n := 201) C hw hs tf_917 (by decide) rfl wd_91 rfl (fun _ => rfl) (by decide) (by decide) (by decide) (Nat.le_of_ble_eq_true rfl) (Nat.le_of_ble_eq_true rfl) dX18_init_134 (fun H hw _ => ?_)
  replace hw : mw_W G (mw_ad G) 918 TF F28 M29 L H locs := by rw [eM29]; exact hw
  refine W.widen (k := 15) (n := 5829) (Nat.le_of_ble_eq_true rfl) (Nat.le_of_ble_eq_true rfl) ?_
  obtain ⟨F30, eF30, hD⟩ := g_let hD
  refine mr_putFR C hw kc_18 17 (by omega) tf_902 wd_2484 dX18_init_136 (by decide) rfl rfl hnm rfl rfl rfl (fun H locs hw => ?_)
  replace hw : mw_W G (mw_ad G) 918 TF F30 M29 L H locs := by rw [eF30]; exact hw
  refine lv_aload_n C.1.1 C.1.2.1 dX18_init_139 rfl (lv_at hl 0 rfl) ?_
  refine lv_sipush (v := 1608) C.1.1 C.1.2.1 dX18_init_140 (by decide) ?_
  refine mw_size hw (by omega) (fun hs => ?_)
  obtain ⟨M31, eM31, hD⟩ := g_let hD
  refine mr_newI (atype := .int) (t := 0) (n := 1608) C hw hs tf_918 (by decide) rfl wd_91 rfl (fun _ => rfl) (by decide) (by decide) (by decide) (Nat.le_of_ble_eq_true rfl) (Nat.le_of_ble_eq_true rfl) dX18_init_143 (fun H hw _ => ?_)
  replace hw : mw_W G (mw_ad G) 919 TF F30 M31 L H locs := by rw [eM31]; exact hw
  refine W.widen (k := 16) (n := 7437) (Nat.le_of_ble_eq_true rfl) (Nat.le_of_ble_eq_true rfl) ?_
  obtain ⟨F32, eF32, hD⟩ := g_let hD
  refine mr_putFR C hw kc_18 18 (by omega) tf_902 wd_2485 dX18_init_145 (by decide) rfl rfl hnm rfl rfl rfl (fun H locs hw => ?_)
  replace hw : mw_W G (mw_ad G) 919 TF F32 M31 L H locs := by rw [eF32]; exact hw
  refine lv_aload_n C.1.1 C.1.2.1 dX18_init_148 rfl (lv_at hl 0 rfl) ?_
  refine lv_sipush (v := 500) C.1.1 C.1.2.1 dX18_init_149 (by decide) ?_
  refine mw_size hw (by omega) (fun hs => ?_)
  obtain ⟨M33, eM33, hD⟩ := g_let hD
  refine mr_newI (atype := .int) (t := 0) (n := 500) C hw hs tf_919 (by decide) rfl wd_91 rfl (fun _ => rfl) (by decide) (by decide) (by decide) (Nat.le_of_ble_eq_true rfl) (Nat.le_of_ble_eq_true rfl) dX18_init_152 (fun H hw _ => ?_)
  replace hw : mw_W G (mw_ad G) 920 TF F32 M33 L H locs := by rw [eM33]; exact hw
  refine W.widen (k := 17) (n := 7937) (Nat.le_of_ble_eq_true rfl) (Nat.le_of_ble_eq_true rfl) ?_
  obtain ⟨F34, eF34, hD⟩ := g_let hD
  refine mr_putFR C hw kc_18 21 (by omega) tf_902 wd_2488 dX18_init_154 (by decide) rfl rfl hnm rfl rfl rfl (fun H locs hw => ?_)
  replace hw : mw_W G (mw_ad G) 920 TF F34 M33 L H locs := by rw [eF34]; exact hw
  refine lv_aload_n C.1.1 C.1.2.1 dX18_init_157 rfl (lv_at hl 0 rfl) ?_
  refine lv_bipush (v := 32) C.1.1 C.1.2.1 dX18_init_158 (by decide) ?_
  refine mw_size hw (by omega) (fun hs => ?_)
  obtain ⟨M35, eM35, hD⟩ := g_let hD
  refine mr_newI (atype := .boolean) (t := 2) (n := 32) C hw hs tf_920 (by decide) rfl wd_320 rfl (fun _ => rfl) (by decide) (by decide) (by decide) (Nat.le_of_ble_eq_true rfl) (Nat.le_of_ble_eq_true rfl) dX18_init_160 (fun H hw _ => ?_)
  replace hw : mw_W G (mw_ad G) 921 TF F34 M35 L H locs := by rw [eM35]; exact hw
  refine W.widen (k := 18) (n := 7969) (Nat.le_of_ble_eq_true rfl) (Nat.le_of_ble_eq_true rfl) ?_
  obtain ⟨F36, eF36, hD⟩ := g_let hD
  refine mr_putFR C hw kc_18 22 (by omega) tf_902 wd_2489 dX18_init_162 (by decide) rfl rfl hnm rfl rfl rfl (fun H locs hw => ?_)
  replace hw : mw_W G (mw_ad G) 921 TF F36 M35 L H locs := by rw [eF36]; exact hw
  refine mw_size hw (by omega) (fun hs => ?_)
  exact mr_cret C hr hlocks hw hs (Option.some.inj hD) dX18_init_165
