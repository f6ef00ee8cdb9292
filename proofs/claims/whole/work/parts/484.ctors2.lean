theorem dX3_init_0 : decode cX3_init 0 = .ok (.aload_n 0, 1) := by decide +kernel
theorem dX3_init_1 : decode cX3_init 1 = .ok (.invokespecial 3, 3) := by decide +kernel
theorem dX3_init_4 : decode cX3_init 4 = .ok (.aload_n 0, 1) := by decide +kernel
theorem dX3_init_5 : decode cX3_init 5 = .ok (.sipush 256, 3) := by decide +kernel
theorem dX3_init_8 : decode cX3_init 8 = .ok (.newarray .int, 2) := by decide +kernel
theorem dX3_init_10 : decode cX3_init 10 = .ok (.putfield 9, 3) := by decide +kernel
theorem dX3_init_13 : decode cX3_init 13 = .ok (.aload_n 0, 1) := by decide +kernel
theorem dX3_init_14 : decode cX3_init 14 = .ok (.sipush 256, 3) := by decide +kernel
theorem dX3_init_17 : decode cX3_init 17 = .ok (.newarray .int, 2) := by decide +kernel
theorem dX3_init_19 : decode cX3_init 19 = .ok (.putfield 13, 3) := by decide +kernel
theorem dX3_init_22 : decode cX3_init 22 = .ok (.aload_n 0, 1) := by decide +kernel
theorem dX3_init_23 : decode cX3_init 23 = .ok (.bipush 17, 2) := by decide +kernel
theorem dX3_init_25 : decode cX3_init 25 = .ok (.sipush 176, 3) := by decide +kernel
theorem dX3_init_28 : decode cX3_init 28 = .ok (.multianewarray 16 2, 4) := by decide +kernel
theorem dX3_init_32 : decode cX3_init 32 = .ok (.putfield 18, 3) := by decide +kernel
theorem dX3_init_35 : decode cX3_init 35 = .ok (.aload_n 0, 1) := by decide +kernel
theorem dX3_init_36 : decode cX3_init 36 = .ok (.bipush 17, 2) := by decide +kernel
theorem dX3_init_38 : decode cX3_init 38 = .ok (.bipush 16, 2) := by decide +kernel
theorem dX3_init_40 : decode cX3_init 40 = .ok (.multianewarray 16 2, 4) := by decide +kernel
theorem dX3_init_44 : decode cX3_init 44 = .ok (.putfield 21, 3) := by decide +kernel
theorem dX3_init_47 : decode cX3_init 47 = .ok (.aload_n 0, 1) := by decide +kernel
theorem dX3_init_48 : decode cX3_init 48 = .ok (.bipush 17, 2) := by decide +kernel
theorem dX3_init_50 : decode cX3_init 50 = .ok (.newarray .boolean, 2) := by decide +kernel
theorem dX3_init_52 : decode cX3_init 52 = .ok (.putfield 24, 3) := by decide +kernel
theorem dX3_init_55 : decode cX3_init 55 = .ok (.aload_n 0, 1) := by decide +kernel
theorem dX3_init_56 : decode cX3_init 56 = .ok (.bipush 16, 2) := by decide +kernel
theorem dX3_init_58 : decode cX3_init 58 = .ok (.newarray .int, 2) := by decide +kernel
theorem dX3_init_60 : decode cX3_init 60 = .ok (.putfield 28, 3) := by decide +kernel
theorem dX3_init_63 : decode cX3_init 63 = .ok (.aload_n 0, 1) := by decide +kernel
theorem dX3_init_64 : decode cX3_init 64 = .ok (.bipush 16, 2) := by decide +kernel
theorem dX3_init_66 : decode cX3_init 66 = .ok (.newarray .int, 2) := by decide +kernel
theorem dX3_init_68 : decode cX3_init 68 = .ok (.putfield 31, 3) := by decide +kernel
theorem dX3_init_71 : decode cX3_init 71 = .ok (.iconst 1, 1) := by decide +kernel
theorem dX3_init_72 : decode cX3_init 72 = .ok (.istore_n 1, 1) := by decide +kernel
theorem dX3_init_73 : decode cX3_init 73 = .ok (.iconst 1, 1) := by decide +kernel
theorem dX3_init_74 : decode cX3_init 74 = .ok (.istore_n 2, 1) := by decide +kernel
theorem dX3_init_75 : decode cX3_init 75 = .ok (.aload_n 0, 1) := by decide +kernel
theorem dX3_init_76 : decode cX3_init 76 = .ok (.getfield 9, 3) := by decide +kernel
theorem dX3_init_79 : decode cX3_init 79 = .ok (.iconst 0, 1) := by decide +kernel
theorem dX3_init_80 : decode cX3_init 80 = .ok (.bipush 99, 2) := by decide +kernel
theorem dX3_init_82 : decode cX3_init 82 = .ok (.iastore, 1) := by decide +kernel
theorem dX3_init_83 : decode cX3_init 83 = .ok (.iconst 0, 1) := by decide +kernel
theorem dX3_init_84 : decode cX3_init 84 = .ok (.istore_n 3, 1) := by decide +kernel
theorem dX3_init_85 : decode cX3_init 85 = .ok (.iload_n 3, 1) := by decide +kernel
theorem dX3_init_86 : decode cX3_init 86 = .ok (.sipush 256, 3) := by decide +kernel
theorem dX3_init_89 : decode cX3_init 89 = .ok (.if_icmp .ge 36, 3) := by decide +kernel
theorem dX3_init_92 : decode cX3_init 92 = .ok (.aload_n 0, 1) := by decide +kernel
theorem dX3_init_93 : decode cX3_init 93 = .ok (.getfield 13, 3) := by decide +kernel
theorem dX3_init_96 : decode cX3_init 96 = .ok (.iload_n 3, 1) := by decide +kernel
theorem dX3_init_97 : decode cX3_init 97 = .ok (.iload_n 3, 1) := by decide +kernel
theorem dX3_init_98 : decode cX3_init 98 = .ok (.iconst 1, 1) := by decide +kernel
theorem dX3_init_99 : decode cX3_init 99 = .ok (.ishl, 1) := by decide +kernel
theorem dX3_init_100 : decode cX3_init 100 = .ok (.sipush 255, 3) := by decide +kernel
theorem dX3_init_103 : decode cX3_init 103 = .ok (.iand, 1) := by decide +kernel
theorem dX3_init_104 : decode cX3_init 104 = .ok (.iload_n 3, 1) := by decide +kernel
theorem dX3_init_105 : decode cX3_init 105 = .ok (.sipush 128, 3) := by decide +kernel
theorem dX3_init_108 : decode cX3_init 108 = .ok (.if_icmp .lt 8, 3) := by decide +kernel
theorem dX3_init_111 : decode cX3_init 111 = .ok (.bipush 27, 2) := by decide +kernel
theorem dX3_init_113 : decode cX3_init 113 = .ok (.goto 4, 3) := by decide +kernel
theorem dX3_init_116 : decode cX3_init 116 = .ok (.iconst 0, 1) := by decide +kernel
theorem dX3_init_117 : decode cX3_init 117 = .ok (.ixor, 1) := by decide +kernel
theorem dX3_init_118 : decode cX3_init 118 = .ok (.iastore, 1) := by decide +kernel
theorem dX3_init_119 : decode cX3_init 119 = .ok (.iinc 3 1, 3) := by decide +kernel
theorem dX3_init_122 : decode cX3_init 122 = .ok (.goto (-37), 3) := by decide +kernel
theorem dX3_init_125 : decode cX3_init 125 = .ok (.iconst 0, 1) := by decide +kernel
theorem dX3_init_126 : decode cX3_init 126 = .ok (.istore_n 3, 1) := by decide +kernel
theorem dX3_init_127 : decode cX3_init 127 = .ok (.iload_n 3, 1) := by decide +kernel
theorem dX3_init_128 : decode cX3_init 128 = .ok (.sipush 255, 3) := by decide +kernel
theorem dX3_init_131 : decode cX3_init 131 = .ok (.if_icmp .ge 33, 3) := by decide +kernel
theorem dX3_init_134 : decode cX3_init 134 = .ok (.aload_n 0, 1) := by decide +kernel
theorem dX3_init_135 : decode cX3_init 135 = .ok (.getfield 9, 3) := by decide +kernel
theorem dX3_init_138 : decode cX3_init 138 = .ok (.iload_n 1, 1) := by decide +kernel
theorem dX3_init_139 : decode cX3_init 139 = .ok (.iload_n 2, 1) := by decide +kernel
theorem dX3_init_140 : decode cX3_init 140 = .ok (.invokestatic 34, 3) := by decide +kernel
theorem dX3_init_143 : decode cX3_init 143 = .ok (.iastore, 1) := by decide +kernel
theorem dX3_init_144 : decode cX3_init 144 = .ok (.iload_n 1, 1) := by decide +kernel
theorem dX3_init_145 : decode cX3_init 145 = .ok (.aload_n 0, 1) := by decide +kernel
theorem dX3_init_146 : decode cX3_init 146 = .ok (.getfield 13, 3) := by decide +kernel
theorem dX3_init_149 : decode cX3_init 149 = .ok (.iload_n 1, 1) := by decide +kernel
theorem dX3_init_150 : decode cX3_init 150 = .ok (.iaload, 1) := by decide +kernel
theorem dX3_init_151 : decode cX3_init 151 = .ok (.ixor, 1) := by decide +kernel
theorem dX3_init_152 : decode cX3_init 152 = .ok (.istore_n 1, 1) := by decide +kernel
theorem dX3_init_153 : decode cX3_init 153 = .ok (.iload_n 2, 1) := by decide +kernel
theorem dX3_init_154 : decode cX3_init 154 = .ok (.invokestatic 38, 3) := by decide +kernel
theorem dX3_init_157 : decode cX3_init 157 = .ok (.istore_n 2, 1) := by decide +kernel
theorem dX3_init_158 : decode cX3_init 158 = .ok (.iinc 3 1, 3) := by decide +kernel
theorem dX3_init_161 : decode cX3_init 161 = .ok (.goto (-34), 3) := by decide +kernel
theorem dX3_init_164 : decode cX3_init 164 = .ok (.return_, 1) := by decide +kernel
theorem cwX3_init : mw_cw yX3_init cX3_init 4 none 0 := ⟨wd_8, wd_288, by decide +kernel⟩
noncomputable def DX3_init (fu : Nat) (F : mwF) (M : mwM) (L : mwL) : Option (mwF × mwM × mwL) :=
  mlet (mz 0 M 98) (fun M1 => mlet (mset F 97 0 (some 98)) (fun F2 => mlet (mz 0 M1 99) (fun M3 => mlet (mset F2 97 1 (some 99)) (fun F4 => mlet (mrow F4 100 17) (fun F5 => mlet (mzr M3 100 17) (fun M6 => mlet (mset F5 97 2 (some 100)) (fun F7 => mlet (mrow F7 118 17) (fun F8 => mlet (mzr M6 118 17) (fun M9 => mlet (mset F8 97 3 (some 118)) (fun F10 => mlet (mz 0 M9 136) (fun M11 => mlet (mset F10 97 4 (some 136)) (fun F12 => mlet (mz 0 M11 137) (fun M13 => mlet (mset F12 97 5 (some 137)) (fun F14 => mlet (mz 0 M13 138) (fun M15 => mlet (mset F14 97 6 (some 138)) (fun F16 => mb2 (DX3_tail fu M15 L) (fun M17 L18 => some (F16, M17, L18))))))))))))))))))
set_option maxHeartbeats 4000000 in
theorem kX3_init {fu : Nat} {F : mwF} {M : mwM} {L : mwL} {FZ : mwF} {MZ : mwM} {LZ : mwL} (hD : DX3_init fu F M L = some (FZ, MZ, LZ)) : ∀ a j, (a < 97 ∨ 139 ≤ a) → FZ a j = F a j := by
  intro a j ha
  unfold DX3_init at hD
  obtain ⟨M1, eM1, hD⟩ := g_let hD
  obtain ⟨F2, eF2, hD⟩ := g_let hD
  obtain ⟨M3, eM3, hD⟩ := g_let hD
  obtain ⟨F4, eF4, hD⟩ := g_let hD
  obtain ⟨F5, eF5, hD⟩ := g_let hD
  obtain ⟨M6, eM6, hD⟩ := g_let hD
  obtain ⟨F7, eF7, hD⟩ := g_let hD
  obtain ⟨F8, eF8, hD⟩ := g_let hD
  obtain ⟨M9, eM9, hD⟩ := g_let hD
  obtain ⟨F10, eF10, hD⟩ := g_let hD
  obtain ⟨M11, eM11, hD⟩ := g_let hD
  obtain ⟨F12, eF12, hD⟩ := g_let hD
  obtain ⟨M13, eM13, hD⟩ := g_let hD
  obtain ⟨F14, eF14, hD⟩ := g_let hD
  obtain ⟨M15, eM15, hD⟩ := g_let hD
  obtain ⟨F16, eF16, hD⟩ := g_let hD
  obtain ⟨M17, L18, h1, hD⟩ := g_b2 hD
  have hf := congrArg (fun q => q.1) (Option.some.inj hD)
  dsimp only at hf
  rw [← hf]
  rw [eF16, mset_k (by omega)]
  rw [eF14, mset_k (by omega)]
  rw [eF12, mset_k (by omega)]
  rw [eF10, mset_k (by omega)]
  rw [eF8, mrow_n (by omega)]
  rw [eF7, mset_k (by omega)]
  rw [eF5, mrow_n (by omega)]
  rw [eF4, mset_k (by omega)]
  rw [eF2, mset_k (by omega)]
set_option maxHeartbeats 4000000 in
set_option maxRecDepth 100000 in
theorem tX3_init (l : Launch) (G : mwG) (fu : Nat) (F : mwF) (M : mwM) (L : mwL) {FZ : mwF} {MZ : mwM} {LZ : mwL} (hD : DX3_init fu F M L = some (FZ, MZ, LZ)) : Met l yX3_init (Cond.code yX3_init cX3_init 4 none :: GT) ({ frames := 4, cells := 41, slots := 3859, locals := 120 }) (mw_PreC G 98 F M L [.ref (mw_ad G 97)]) (mw_QC G 139 FZ MZ LZ) 41 3859 (mw_fr G) := by
  refine mw_enterC (by decide) (Nat.le_of_ble_eq_true rfl) ?_
  intro p e s m below meth c ls C A hr hlocks hnm hw hs0 hl
  have hl : lv_has ls 4 [(0, .ref (mw_ad G 97))] := hl
  unfold DX3_init at hD
  refine lv_aload_n C.1.1 C.1.2.1 dX3_init_0 rfl (lv_at hl 0 rfl) ?_
  refine W.objInit C.1.1 C.1.2.1 C.1.2.2.2.1 (C.1.2.2.2.2 _ wd_289) (C.1.2.2.2.2 _ wd_39) (C.1.2.2.2.2 _ wd_40) rfl (by rw [C.1.2.2.1]; exact hl.1) rfl dX3_init_1 (Nat.le_of_ble_eq_true rfl) (Nat.le_of_ble_eq_true rfl) ?_
  refine W.eq (g2 := F0 m 4 ls []) rfl ?_
  refine lv_aload_n C.1.1 C.1.2.1 dX3_init_4 rfl (lv_at hl 0 rfl) ?_
  refine lv_sipush (v := 256) C.1.1 C.1.2.1 dX3_init_5 (by decide) ?_
  refine mw_size hw (by omega) (fun hs => ?_)
  obtain ⟨M1, eM1, hD⟩ := g_let hD
  refine mr_newI (atype := .int) (t := 0) (n := 256) C hw hs tf_98 (by decide) rfl wd_91 rfl (fun _ => rfl) (by decide) (by decide) (by decide) (Nat.le_of_ble_eq_true rfl) (Nat.le_of_ble_eq_true rfl) dX3_init_8 (fun H hw _ => ?_)
  replace hw : mw_W G (mw_ad G) 99 TF F M1 L H [] := by rw [eM1]; exact hw
  refine W.widen (k := 1) (n := 256) (Nat.le_of_ble_eq_true rfl) (Nat.le_of_ble_eq_true rfl) ?_
  obtain ⟨F2, eF2, hD⟩ := g_let hD
  refine mr_putFR C hw kc_3 0 (by omega) tf_97 wd_297 dX3_init_10 (by decide) rfl rfl hnm rfl rfl rfl (fun H locs hw => ?_)
  replace hw : mw_W G (mw_ad G) 99 TF F2 M1 L H locs := by rw [eF2]; exact hw
  refine lv_aload_n C.1.1 C.1.2.1 dX3_init_13 rfl (lv_at hl 0 rfl) ?_
  refine lv_sipush (v := 256) C.1.1 C.1.2.1 dX3_init_14 (by decide) ?_
  refine mw_size hw (by omega) (fun hs => ?_)
  obtain ⟨M3, eM3, hD⟩ := g_let hD
  refine mr_newI (atype := .int) (t := 0) (n := 256) C hw hs tf_99 (by decide) rfl wd_91 rfl (fun _ => rfl) (by decide) (by decide) (by decide) (Nat.le_of_ble_eq_true rfl) (Nat.le_of_ble_eq_true rfl) dX3_init_17 (fun H hw _ => ?_)
  replace hw : mw_W G (mw_ad G) 100 TF F2 M3 L H locs := by rw [eM3]; exact hw
  refine W.widen (k := 2) (n := 512) (Nat.le_of_ble_eq_true rfl) (Nat.le_of_ble_eq_true rfl) ?_
  obtain ⟨F4, eF4, hD⟩ := g_let hD
  refine mr_putFR C hw kc_3 1 (by omega) tf_97 wd_298 dX3_init_19 (by decide) rfl rfl hnm rfl rfl rfl (fun H locs hw => ?_)
  replace hw : mw_W G (mw_ad G) 100 TF F4 M3 L H locs := by rw [eF4]; exact hw
  refine lv_aload_n C.1.1 C.1.2.1 dX3_init_22 rfl (lv_at hl 0 rfl) ?_
  refine lv_bipush (v := 17) C.1.1 C.1.2.1 dX3_init_23 (by decide) ?_
  refine lv_sipush (v := 176) C.1.1 C.1.2.1 dX3_init_25 (by decide) ?_
  refine mw_size hw (by omega) (fun hs => ?_)
  obtain ⟨F5, eF5, hD⟩ := g_let hD
  obtain ⟨M6, eM6, hD⟩ := g_let hD
  refine mr_mna (n := 17) (k := 176) C hw hs tf_100 (fun i hi => (fr_100 i hi).2.1) wd_290 (A (.array .int) (by decide)) wd_91 (by decide) (by decide) (by decide) (by decide) (by decide) (by decide) (Nat.le_of_ble_eq_true rfl) (Nat.le_of_ble_eq_true rfl) dX3_init_28 (fun H hw _ => ?_)
  replace hw : mw_W G (mw_ad G) 118 TF F5 M6 L H locs := by rw [eF5, eM6]; exact hw
  refine W.widen (k := 20) (n := 3521) (Nat.le_of_ble_eq_true rfl) (Nat.le_of_ble_eq_true rfl) ?_
  obtain ⟨F7, eF7, hD⟩ := g_let hD
  refine mr_putFR C hw kc_3 2 (by omega) tf_97 wd_299 dX3_init_32 (by decide) rfl rfl hnm rfl rfl rfl (fun H locs hw => ?_)
  replace hw : mw_W G (mw_ad G) 118 TF F7 M6 L H locs := by rw [eF7]; exact hw
  refine lv_aload_n C.1.1 C.1.2.1 dX3_init_35 rfl (lv_at hl 0 rfl) ?_
  refine lv_bipush (v := 17) C.1.1 C.1.2.1 dX3_init_36 (by decide) ?_
  refine lv_bipush (v := 16) C.1.1 C.1.2.1 dX3_init_38 (by decide) ?_
  refine mw_size hw (by omega) (fun hs => ?_)
  obtain ⟨F8, eF8, hD⟩ := g_let hD
  obtain ⟨M9, eM9, hD⟩ := g_let hD
  refine mr_mna (n := 17) (k := 16) C hw hs tf_118 (fun i hi => (fr_118 i hi).2.1) wd_290 (A (.array .int) (by decide)) wd_91 (by decide) (by decide) (by decide) (by decide) (by decide) (by decide) (Nat.le_of_ble_eq_true rfl) (Nat.le_of_ble_eq_true rfl) dX3_init_40 (fun H hw _ => ?_)
  replace hw : mw_W G (mw_ad G) 136 TF F8 M9 L H locs := by rw [eF8, eM9]; exact hw
  refine W.widen (k := 38) (n := 3810) (Nat.le_of_ble_eq_true rfl) (Nat.le_of_ble_eq_true rfl) ?_
  obtain ⟨F10, eF10, hD⟩ := g_let hD
  refine mr_putFR C hw kc_3 3 (by omega) tf_97 wd_300 dX3_init_44 (by decide) rfl rfl hnm rfl rfl rfl (fun H locs hw => ?_)
  replace hw : mw_W G (mw_ad G) 136 TF F10 M9 L H locs := by rw [eF10]; exact hw
  refine lv_aload_n C.1.1 C.1.2.1 dX3_init_47 rfl (lv_at hl 0 rfl) ?_
  refine lv_bipush (v := 17) C.1.1 C.1.2.1 dX3_init_48 (by decide) ?_
  refine mw_size hw (by omega) (fun hs => ?_)
  obtain ⟨M11, eM11, hD⟩ := g_let hD
  refine mr_newI (atype := .boolean) (t := 2) (n := 17) C hw hs tf_136 (by decide) rfl wd_320 rfl (fun _ => rfl) (by decide) (by decide) (by decide) (Nat.le_of_ble_eq_true rfl) (Nat.le_of_ble_eq_true rfl) dX3_init_50 (fun H hw _ => ?_)
  replace hw : mw_W G (mw_ad G) 137 TF F10 M11 L H locs := by rw [eM11]; exact hw
  refine W.widen (k := 39) (n := 3827) (Nat.le_of_ble_eq_true rfl) (Nat.le_of_ble_eq_true rfl) ?_
  obtain ⟨F12, eF12, hD⟩ := g_let hD
  refine mr_putFR C hw kc_3 4 (by omega) tf_97 wd_301 dX3_init_52 (by decide) rfl rfl hnm rfl rfl rfl (fun H locs hw => ?_)
  replace hw : mw_W G (mw_ad G) 137 TF F12 M11 L H locs := by rw [eF12]; exact hw
  refine lv_aload_n C.1.1 C.1.2.1 dX3_init_55 rfl (lv_at hl 0 rfl) ?_
  refine lv_bipush (v := 16) C.1.1 C.1.2.1 dX3_init_56 (by decide) ?_
  refine mw_size hw (by omega) (fun hs => ?_)
  obtain ⟨M13, eM13, hD⟩ := g_let hD
  refine mr_newI (atype := .int) (t := 0) (n := 16) C hw hs tf_137 (by decide) rfl wd_91 rfl (fun _ => rfl) (by decide) (by decide) (by decide) (Nat.le_of_ble_eq_true rfl) (Nat.le_of_ble_eq_true rfl) dX3_init_58 (fun H hw _ => ?_)
  replace hw : mw_W G (mw_ad G) 138 TF F12 M13 L H locs := by rw [eM13]; exact hw
  refine W.widen (k := 40) (n := 3843) (Nat.le_of_ble_eq_true rfl) (Nat.le_of_ble_eq_true rfl) ?_
  obtain ⟨F14, eF14, hD⟩ := g_let hD
  refine mr_putFR C hw kc_3 5 (by omega) tf_97 wd_302 dX3_init_60 (by decide) rfl rfl hnm rfl rfl rfl (fun H locs hw => ?_)
  replace hw : mw_W G (mw_ad G) 138 TF F14 M13 L H locs := by rw [eF14]; exact hw
  refine lv_aload_n C.1.1 C.1.2.1 dX3_init_63 rfl (lv_at hl 0 rfl) ?_
  refine lv_bipush (v := 16) C.1.1 C.1.2.1 dX3_init_64 (by decide) ?_
  refine mw_size hw (by omega) (fun hs => ?_)
  obtain ⟨M15, eM15, hD⟩ := g_let hD
  refine mr_newI (atype := .int) (t := 0) (n := 16) C hw hs tf_138 (by decide) rfl wd_91 rfl (fun _ => rfl) (by decide) (by decide) (by decide) (Nat.le_of_ble_eq_true rfl) (Nat.le_of_ble_eq_true rfl) dX3_init_66 (fun H hw _ => ?_)
  replace hw : mw_W G (mw_ad G) 139 TF F14 M15 L H locs := by rw [eM15]; exact hw
  refine W.widen (k := 41) (n := 3859) (Nat.le_of_ble_eq_true rfl) (Nat.le_of_ble_eq_true rfl) ?_
  obtain ⟨F16, eF16, hD⟩ := g_let hD
  refine mr_putFR C hw kc_3 6 (by omega) tf_97 wd_303 dX3_init_68 (by decide) rfl rfl hnm rfl rfl rfl (fun H locs hw => ?_)
  replace hw : mw_W G (mw_ad G) 139 TF F16 M15 L H locs := by rw [eF16]; exact hw
  have hFF : ∀ j r, FF 97 j = some r → F16 97 j = some r := by
    intro j r hj
    match j, hj with
    | 0, hj => exact (show F16 97 0 = some 98 by (rw [eF16, mset_j (by decide)]; rw [eF14, mset_j (by decide)]; rw [eF12, mset_j (by decide)]; rw [eF10, mset_j (by decide)]; rw [eF8, mrow_n (by omega)]; rw [eF7, mset_j (by decide)]; rw [eF5, mrow_n (by omega)]; rw [eF4, mset_j (by decide)]; rw [eF2]; exact mset_s)).trans (ff_97_0.symm.trans hj)
    | 1, hj => exact (show F16 97 1 = some 99 by (rw [eF16, mset_j (by decide)]; rw [eF14, mset_j (by decide)]; rw [eF12, mset_j (by decide)]; rw [eF10, mset_j (by decide)]; rw [eF8, mrow_n (by omega)]; rw [eF7, mset_j (by decide)]; rw [eF5, mrow_n (by omega)]; rw [eF4]; exact mset_s)).trans (ff_97_1.symm.trans hj)
    | 2, hj => exact (show F16 97 2 = some 100 by (rw [eF16, mset_j (by decide)]; rw [eF14, mset_j (by decide)]; rw [eF12, mset_j (by decide)]; rw [eF10, mset_j (by decide)]; rw [eF8, mrow_n (by omega)]; rw [eF7]; exact mset_s)).trans (ff_97_2.symm.trans hj)
    | 3, hj => exact (show F16 97 3 = some 118 by (rw [eF16, mset_j (by decide)]; rw [eF14, mset_j (by decide)]; rw [eF12, mset_j (by decide)]; rw [eF10]; exact mset_s)).trans (ff_97_3.symm.trans hj)
    | 4, hj => exact (show F16 97 4 = some 136 by (rw [eF16, mset_j (by decide)]; rw [eF14, mset_j (by decide)]; rw [eF12]; exact mset_s)).trans (ff_97_4.symm.trans hj)
    | 5, hj => exact (show F16 97 5 = some 137 by (rw [eF16, mset_j (by decide)]; rw [eF14]; exact mset_s)).trans (ff_97_5.symm.trans hj)
    | 6, hj => exact (show F16 97 6 = some 138 by (rw [eF16]; exact mset_s)).trans (ff_97_6.symm.trans hj)
    | n + 7, hj => exact absurd ((show FF 97 (n + 7) = none from rfl).symm.trans hj) (fun q => by cases q)
  obtain ⟨M17, L18, h1, hD⟩ := g_b2 hD
  have hq := Option.some.inj hD
  obtain ⟨hq1, hq2, hq3⟩ : FZ = F16 ∧ MZ = M17 ∧ LZ = L18 := by simp only [Prod.mk.injEq] at hq; exact ⟨hq.1.symm, hq.2.1.symm, hq.2.2.symm⟩
  rw [hq1, hq2, hq3]
  exact twX3_tail G fu F16 M15 L h1 hFF C hr hlocks (by omega) (Nat.le_of_ble_eq_true rfl) (Nat.le_of_ble_eq_true rfl) ⟨Nat.le_of_ble_eq_true rfl, Nat.le_of_ble_eq_true rfl⟩ H locs ls hw hl
