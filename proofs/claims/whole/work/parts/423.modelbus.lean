theorem dX12_take_0 : decode cX12_take 0 = .ok (.aload_n 0, 1) := by decide +kernel
theorem dX12_take_1 : decode cX12_take 1 = .ok (.iload_n 1, 1) := by decide +kernel
theorem dX12_take_2 : decode cX12_take 2 = .ok (.invokevirtual 242, 3) := by decide +kernel
theorem dX12_take_5 : decode cX12_take 5 = .ok (.istore_n 2, 1) := by decide +kernel
theorem dX12_take_6 : decode cX12_take 6 = .ok (.aload_n 0, 1) := by decide +kernel
theorem dX12_take_7 : decode cX12_take 7 = .ok (.getfield 231, 3) := by decide +kernel
theorem dX12_take_10 : decode cX12_take 10 = .ok (.aload_n 0, 1) := by decide +kernel
theorem dX12_take_11 : decode cX12_take 11 = .ok (.getfield 52, 3) := by decide +kernel
theorem dX12_take_14 : decode cX12_take 14 = .ok (.iload_n 1, 1) := by decide +kernel
theorem dX12_take_15 : decode cX12_take 15 = .ok (.iaload, 1) := by decide +kernel
theorem dX12_take_16 : decode cX12_take 16 = .ok (.iand, 1) := by decide +kernel
theorem dX12_take_17 : decode cX12_take 17 = .ok (.aload_n 0, 1) := by decide +kernel
theorem dX12_take_18 : decode cX12_take 18 = .ok (.getfield 55, 3) := by decide +kernel
theorem dX12_take_21 : decode cX12_take 21 = .ok (.iload_n 1, 1) := by decide +kernel
theorem dX12_take_22 : decode cX12_take 22 = .ok (.iaload, 1) := by decide +kernel
theorem dX12_take_23 : decode cX12_take 23 = .ok (.if_icmp .eq 4, 3) := by decide +kernel
theorem dX12_take_26 : decode cX12_take 26 = .ok (.return_, 1) := by decide +kernel
theorem dX12_take_27 : decode cX12_take 27 = .ok (.aload_n 0, 1) := by decide +kernel
theorem dX12_take_28 : decode cX12_take 28 = .ok (.getfield 68, 3) := by decide +kernel
theorem dX12_take_31 : decode cX12_take 31 = .ok (.aload_n 0, 1) := by decide +kernel
theorem dX12_take_32 : decode cX12_take 32 = .ok (.getfield 132, 3) := by decide +kernel
theorem dX12_take_35 : decode cX12_take 35 = .ok (.iload_n 1, 1) := by decide +kernel
theorem dX12_take_36 : decode cX12_take 36 = .ok (.iastore, 1) := by decide +kernel
theorem dX12_take_37 : decode cX12_take 37 = .ok (.aload_n 0, 1) := by decide +kernel
theorem dX12_take_38 : decode cX12_take 38 = .ok (.getfield 71, 3) := by decide +kernel
theorem dX12_take_41 : decode cX12_take 41 = .ok (.aload_n 0, 1) := by decide +kernel
theorem dX12_take_42 : decode cX12_take 42 = .ok (.getfield 132, 3) := by decide +kernel
theorem dX12_take_45 : decode cX12_take 45 = .ok (.aload_n 0, 1) := by decide +kernel
theorem dX12_take_46 : decode cX12_take 46 = .ok (.getfield 231, 3) := by decide +kernel
theorem dX12_take_49 : decode cX12_take 49 = .ok (.iastore, 1) := by decide +kernel
theorem dX12_take_50 : decode cX12_take 50 = .ok (.aload_n 0, 1) := by decide +kernel
theorem dX12_take_51 : decode cX12_take 51 = .ok (.getfield 74, 3) := by decide +kernel
theorem dX12_take_54 : decode cX12_take 54 = .ok (.aload_n 0, 1) := by decide +kernel
theorem dX12_take_55 : decode cX12_take 55 = .ok (.getfield 132, 3) := by decide +kernel
theorem dX12_take_58 : decode cX12_take 58 = .ok (.aload_n 0, 1) := by decide +kernel
theorem dX12_take_59 : decode cX12_take 59 = .ok (.getfield 222, 3) := by decide +kernel
theorem dX12_take_62 : decode cX12_take 62 = .ok (.i2b, 1) := by decide +kernel
theorem dX12_take_63 : decode cX12_take 63 = .ok (.bastore, 1) := by decide +kernel
theorem dX12_take_64 : decode cX12_take 64 = .ok (.aload_n 0, 1) := by decide +kernel
theorem dX12_take_65 : decode cX12_take 65 = .ok (.getfield 77, 3) := by decide +kernel
theorem dX12_take_68 : decode cX12_take 68 = .ok (.aload_n 0, 1) := by decide +kernel
theorem dX12_take_69 : decode cX12_take 69 = .ok (.getfield 132, 3) := by decide +kernel
theorem dX12_take_72 : decode cX12_take 72 = .ok (.aload_n 0, 1) := by decide +kernel
theorem dX12_take_73 : decode cX12_take 73 = .ok (.getfield 225, 3) := by decide +kernel
theorem dX12_take_76 : decode cX12_take 76 = .ok (.i2b, 1) := by decide +kernel
theorem dX12_take_77 : decode cX12_take 77 = .ok (.bastore, 1) := by decide +kernel
theorem dX12_take_78 : decode cX12_take 78 = .ok (.aload_n 0, 1) := by decide +kernel
theorem dX12_take_79 : decode cX12_take 79 = .ok (.getfield 80, 3) := by decide +kernel
theorem dX12_take_82 : decode cX12_take 82 = .ok (.aload_n 0, 1) := by decide +kernel
theorem dX12_take_83 : decode cX12_take 83 = .ok (.getfield 132, 3) := by decide +kernel
theorem dX12_take_86 : decode cX12_take 86 = .ok (.aload_n 0, 1) := by decide +kernel
theorem dX12_take_87 : decode cX12_take 87 = .ok (.getfield 123, 3) := by decide +kernel
theorem dX12_take_90 : decode cX12_take 90 = .ok (.iastore, 1) := by decide +kernel
theorem dX12_take_91 : decode cX12_take 91 = .ok (.aload_n 0, 1) := by decide +kernel
theorem dX12_take_92 : decode cX12_take 92 = .ok (.getfield 222, 3) := by decide +kernel
theorem dX12_take_95 : decode cX12_take 95 = .ok (.aload_n 0, 1) := by decide +kernel
theorem dX12_take_96 : decode cX12_take 96 = .ok (.getfield 225, 3) := by decide +kernel
theorem dX12_take_99 : decode cX12_take 99 = .ok (.invokestatic 146, 3) := by decide +kernel
theorem dX12_take_102 : decode cX12_take 102 = .ok (.istore_n 3, 1) := by decide +kernel
theorem dX12_take_103 : decode cX12_take 103 = .ok (.aload_n 0, 1) := by decide +kernel
theorem dX12_take_104 : decode cX12_take 104 = .ok (.getfield 222, 3) := by decide +kernel
theorem dX12_take_107 : decode cX12_take 107 = .ok (.iconst 2, 1) := by decide +kernel
theorem dX12_take_108 : decode cX12_take 108 = .ok (.if_icmp .ne 8, 3) := by decide +kernel
theorem dX12_take_111 : decode cX12_take 111 = .ok (.bipush 22, 2) := by decide +kernel
theorem dX12_take_113 : decode cX12_take 113 = .ok (.goto 33, 3) := by decide +kernel
theorem dX12_take_116 : decode cX12_take 116 = .ok (.aload_n 0, 1) := by decide +kernel
theorem dX12_take_117 : decode cX12_take 117 = .ok (.getfield 222, 3) := by decide +kernel
theorem dX12_take_120 : decode cX12_take 120 = .ok (.iconst 3, 1) := by decide +kernel
theorem dX12_take_121 : decode cX12_take 121 = .ok (.if_icmp .ne 8, 3) := by decide +kernel
theorem dX12_take_124 : decode cX12_take 124 = .ok (.bipush 41, 2) := by decide +kernel
theorem dX12_take_126 : decode cX12_take 126 = .ok (.goto 20, 3) := by decide +kernel
theorem dX12_take_129 : decode cX12_take 129 = .ok (.aload_n 0, 1) := by decide +kernel
theorem dX12_take_130 : decode cX12_take 130 = .ok (.getfield 222, 3) := by decide +kernel
theorem dX12_take_133 : decode cX12_take 133 = .ok (.iconst 2, 1) := by decide +kernel
theorem dX12_take_134 : decode cX12_take 134 = .ok (.irem, 1) := by decide +kernel
theorem dX12_take_135 : decode cX12_take 135 = .ok (.iconst 1, 1) := by decide +kernel
theorem dX12_take_136 : decode cX12_take 136 = .ok (.if_icmp .ne 8, 3) := by decide +kernel
theorem dX12_take_139 : decode cX12_take 139 = .ok (.bipush 39, 2) := by decide +kernel
theorem dX12_take_141 : decode cX12_take 141 = .ok (.goto 5, 3) := by decide +kernel
theorem dX12_take_144 : decode cX12_take 144 = .ok (.bipush 19, 2) := by decide +kernel
theorem dX12_take_146 : decode cX12_take 146 = .ok (.istore 4, 2) := by decide +kernel
theorem dX12_take_148 : decode cX12_take 148 = .ok (.iconst 0, 1) := by decide +kernel
theorem dX12_take_149 : decode cX12_take 149 = .ok (.istore 5, 2) := by decide +kernel
theorem dX12_take_151 : decode cX12_take 151 = .ok (.iload 5, 2) := by decide +kernel
theorem dX12_take_153 : decode cX12_take 153 = .ok (.iload_n 3, 1) := by decide +kernel
theorem dX12_take_154 : decode cX12_take 154 = .ok (.if_icmp .ge 39, 3) := by decide +kernel
theorem dX12_take_157 : decode cX12_take 157 = .ok (.aload_n 0, 1) := by decide +kernel
theorem dX12_take_158 : decode cX12_take 158 = .ok (.getfield 84, 3) := by decide +kernel
theorem dX12_take_161 : decode cX12_take 161 = .ok (.bipush 64, 2) := by decide +kernel
theorem dX12_take_163 : decode cX12_take 163 = .ok (.aload_n 0, 1) := by decide +kernel
theorem dX12_take_164 : decode cX12_take 164 = .ok (.getfield 132, 3) := by decide +kernel
theorem dX12_take_167 : decode cX12_take 167 = .ok (.imul, 1) := by decide +kernel
theorem dX12_take_168 : decode cX12_take 168 = .ok (.iload 5, 2) := by decide +kernel
theorem dX12_take_170 : decode cX12_take 170 = .ok (.iadd, 1) := by decide +kernel
theorem dX12_take_171 : decode cX12_take 171 = .ok (.aload_n 0, 1) := by decide +kernel
theorem dX12_take_172 : decode cX12_take 172 = .ok (.iload 4, 2) := by decide +kernel
theorem dX12_take_174 : decode cX12_take 174 = .ok (.bipush 8, 2) := by decide +kernel
theorem dX12_take_176 : decode cX12_take 176 = .ok (.iload 5, 2) := by decide +kernel
theorem dX12_take_178 : decode cX12_take 178 = .ok (.imul, 1) := by decide +kernel
theorem dX12_take_179 : decode cX12_take 179 = .ok (.iadd, 1) := by decide +kernel
theorem dX12_take_180 : decode cX12_take 180 = .ok (.bipush 8, 2) := by decide +kernel
theorem dX12_take_182 : decode cX12_take 182 = .ok (.invokevirtual 228, 3) := by decide +kernel
theorem dX12_take_185 : decode cX12_take 185 = .ok (.i2b, 1) := by decide +kernel
theorem dX12_take_186 : decode cX12_take 186 = .ok (.bastore, 1) := by decide +kernel
theorem dX12_take_187 : decode cX12_take 187 = .ok (.iinc 5 1, 3) := by decide +kernel
theorem dX12_take_190 : decode cX12_take 190 = .ok (.goto (-39), 3) := by decide +kernel
theorem dX12_take_193 : decode cX12_take 193 = .ok (.aload_n 0, 1) := by decide +kernel
theorem dX12_take_194 : decode cX12_take 194 = .ok (.dup, 1) := by decide +kernel
theorem dX12_take_195 : decode cX12_take 195 = .ok (.getfield 132, 3) := by decide +kernel
theorem dX12_take_198 : decode cX12_take 198 = .ok (.iconst 1, 1) := by decide +kernel
theorem dX12_take_199 : decode cX12_take 199 = .ok (.iadd, 1) := by decide +kernel
theorem dX12_take_200 : decode cX12_take 200 = .ok (.putfield 132, 3) := by decide +kernel
theorem dX12_take_203 : decode cX12_take 203 = .ok (.return_, 1) := by decide +kernel
theorem cwX12_take : mw_cwV yX12_take cX12_take 6 (none) 1 := ⟨⟨wd_15, wd_3763, by decide +kernel⟩, wd_3762, sl_256⟩
noncomputable def fX12_take_i151 (fu : Nat) (a1 : Int32) (r151 : (Int32 × Int32 × Int32 × mwM × mwL) → Option (mwM × mwL)) (v3 : Int32) (v4 : Int32) (v5 : Int32) (M : mwM) (L : mwL) : Option (mwM × mwL) :=
  (if v3 ≤ v5 then mlet (mset M 821 22 ((M 821 22) + 1)) (fun M2 => some (M2, L)) else mb3 (DX12_number fu (v4 + (8 * v5)) 8 M L) (fun r5 M3 L4 => mck ((64 * (M 821 22)) + v5) 256000 (mlet (mset M3 844 (((64 * (M 821 22)) + v5).toNatClampNeg) (vp_nar .byte r5.toInt8.toInt32)) (fun M7 => mlet (v5 + 1) (fun x8 => r151 (v3, v4, x8, M7, L4))))))
noncomputable def fX12_take_h151 (fu : Nat) (a1 : Int32) : Nat → (Int32 × Int32 × Int32 × mwM × mwL) → Option (mwM × mwL) := mloop (fun r151 s => fX12_take_i151 fu a1 r151 s.1 s.2.1 s.2.2.1 s.2.2.2.1 s.2.2.2.2)
noncomputable def fX12_take_b146 (fu : Nat) (a1 : Int32) (v3 : Int32) (s0 : Int32) (M : mwM) (L : mwL) : Option (mwM × mwL) :=
  fX12_take_h151 fu a1 fu (v3, s0, 0, M, L)
noncomputable def DX12_take (fu : Nat) (a1 : Int32) (M : mwM) (L : mwL) : Option (mwM × mwL) :=
  mb3 (DX12_body fu a1 M L) (fun r11 M9 L10 => mck a1 32 (mck a1 32 ((if ((M9 821 44) &&& (M9 834 a1.toNatClampNeg)) = (M9 835 a1.toNatClampNeg) then mck (M9 821 22) 4000 (mlet (mset M9 839 ((M9 821 22).toNatClampNeg) a1) (fun M16 => mck (M16 821 22) 4000 (mlet (mset M16 840 ((M16 821 22).toNatClampNeg) (M16 821 44)) (fun M18 => mck (M18 821 22) 4000 (mlet (mset M18 841 ((M18 821 22).toNatClampNeg) (vp_nar .byte ((M18 821 42).toInt8.toInt32))) (fun M20 => mck (M20 821 22) 4000 (mlet (mset M20 842 ((M20 821 22).toNatClampNeg) (vp_nar .byte ((M20 821 43).toInt8.toInt32))) (fun M22 => mck (M22 821 22) 4000 (mlet (mset M22 843 ((M22 821 22).toNatClampNeg) (M22 821 2)) (fun M24 => mb3 (DX12_octetsOf fu (M24 821 42) (M24 821 43) M24 L10) (fun r27 M25 L26 => (if (M25 821 42) = 2 then fX12_take_b146 fu a1 r27 22 M25 L26 else (if (M25 821 42) = 3 then fX12_take_b146 fu a1 r27 41 M25 L26 else (if ((M25 821 42) - (M25 821 42) / 2 * 2) = 1 then fX12_take_b146 fu a1 r27 39 M25 L26 else fX12_take_b146 fu a1 r27 19 M25 L26)))))))))))))) else some (M9, L10)))))
set_option maxHeartbeats 4000000 in
set_option maxRecDepth 100000 in
theorem tX12_take (l : Launch) (G : mwG) (ad : Nat → Nat) (fu : Nat) (a1 : Int32) (M : mwM) (L : mwL) {M0 : mwM} {L0 : mwL} (hD : DX12_take fu a1 M L = some (M0, L0)) : Met l yX12_take (Cond.code yX12_take cX12_take 6 (none) :: GT) ({ frames := 4, cells := 0, slots := 0, locals := 103 }) (mw_Pre G ad NF TF FF M L [.ref (ad 821), .int a1]) (mw_Qv G ad NF TF FF (mw_eqV M0 L0)) 0 0 (mw_fr G) := by
  refine mw_enter (by decide) (Nat.le_of_ble_eq_true rfl) ?_
  intro p e s m below meth c ls C hr hlocks hnm hw hl
  have hl : lv_has ls 6 [(0, .ref (ad 821)), (1, .int a1)] := hl
  have hh151 : ∀ (f : Nat) (v3 : Int32) (v4 : Int32) (v5 : Int32) (M : mwM) (L : mwL) (H : Heap) (locs : List Loc) (ls : Array Slot), fX12_take_h151 fu a1 f (v3, v4, v5, M, L) = some (M0, L0) → mw_W G ad NF TF FF M L H locs → lv_has ls 6 [(0, .ref (ad 821)), (3, .int v3), (4, .int v4), (5, .int v5)] → W p l e ({ frames := 4, cells := 0, slots := 0, locals := 103 }) s m [.ref (ad 821), .int a1].toArray below meth c H locs 0 0 (MQ below (mw_Qv G ad NF TF FF (mw_eqV M0 L0)) [.ref (ad 821), .int a1].toArray s 0 0 (mw_fr G)) (F0 m 151 ls []) := by
    intro f
    induction f with
    | zero => intro v3 v4 v5 M L H locs ls hD; cases hD
    | succ f151 ih151 =>
      intro v3 v4 v5 M L H locs ls hD hw hl
      replace hD : fX12_take_i151 fu a1 (fX12_take_h151 fu a1 f151) v3 v4 v5 M L = some (M0, L0) := hD
      unfold fX12_take_i151 at hD
      refine lv_iload C.1.1 C.1.2.1 dX12_take_151 (lv_at hl 3 rfl) ?_
      refine lv_iload_n C.1.1 C.1.2.1 dX12_take_153 rfl (lv_at hl 1 rfl) ?_
      refine lv_icmp_ge (tgt := 193) C.1.1 C.1.2.1 dX12_take_154 (by decide) (fun c1 => ?_) (fun c1 => ?_)
      · replace hD := g_pos c1 hD
        refine lv_aload_n C.1.1 C.1.2.1 dX12_take_193 rfl (lv_at hl 0 rfl) ?_
        refine lv_dup C.1.1 C.1.2.1 dX12_take_194 rfl ?_
        refine mr_getI C hw kc_12 22 (by decide) tf_821 wd_2122 dX12_take_195 (by decide) rfl ?_
        refine lv_iconst (v := 1) C.1.1 C.1.2.1 dX12_take_198 (by decide) ?_
        refine lv_iadd C.1.1 C.1.2.1 dX12_take_199 ?_
        obtain ⟨M2, eM2, hD⟩ := g_let hD
        refine mr_putI C hw kc_12 22 (by decide) tf_821 wd_2122 dX12_take_200 (by decide) rfl rfl rfl rfl (fun H locs hw => ?_)
        replace hw : mw_W G ad NF TF FF M2 L H locs := by rw [eM2]; exact hw
        exact mr_vret C hr hlocks hw (Option.some.inj hD) dX12_take_203
      · replace hD := g_neg c1 hD
        refine lv_aload_n C.1.1 C.1.2.1 dX12_take_157 rfl (lv_at hl 0 rfl) ?_
        refine mr_getR C hw kc_12 28 (by decide) tf_821 ff_821_28 wd_2128 dX12_take_158 (by decide) rfl ?_
        refine lv_bipush (v := 64) C.1.1 C.1.2.1 dX12_take_161 (by decide) ?_
        refine lv_aload_n C.1.1 C.1.2.1 dX12_take_163 rfl (lv_at hl 0 rfl) ?_
        refine mr_getI C hw kc_12 22 (by decide) tf_821 wd_2122 dX12_take_164 (by decide) rfl ?_
        refine lv_imul C.1.1 C.1.2.1 dX12_take_167 ?_
        refine lv_iload C.1.1 C.1.2.1 dX12_take_168 (lv_at hl 3 rfl) ?_
        refine lv_iadd C.1.1 C.1.2.1 dX12_take_170 ?_
        refine lv_aload_n C.1.1 C.1.2.1 dX12_take_171 rfl (lv_at hl 0 rfl) ?_
        refine lv_iload C.1.1 C.1.2.1 dX12_take_172 (lv_at hl 2 rfl) ?_
        refine lv_bipush (v := 8) C.1.1 C.1.2.1 dX12_take_174 (by decide) ?_
        refine lv_iload C.1.1 C.1.2.1 dX12_take_176 (lv_at hl 3 rfl) ?_
        refine lv_imul C.1.1 C.1.2.1 dX12_take_178 ?_
        refine lv_iadd C.1.1 C.1.2.1 dX12_take_179 ?_
        refine lv_bipush (v := 8) C.1.1 C.1.2.1 dX12_take_180 (by decide) ?_
        obtain ⟨r5, M3, L4, h1, hD⟩ := g_b3 hD
        refine md_cvI (As := [.int (v4 + (8 * v5)), .int 8]) (rest := [.int ((64 * (M 821 22)) + v5), .ref (ad 844)]) C hw (tX12_number l G ad fu (v4 + (8 * v5)) 8 M L h1) kc_12 (by decide) tf_821 wd_3719 cwX12_number ⟨Nat.le_of_ble_eq_true rfl, Nat.le_of_ble_eq_true rfl⟩ rfl hl.1 (Nat.le_of_ble_eq_true rfl) dX12_take_182 rfl rfl ⟨Nat.zero_le _, Nat.zero_le _⟩ rfl (fun H locs hw => ?_)
        refine lv_i2b C.1.1 C.1.2.1 dX12_take_185 rfl ?_
        obtain ⟨q6, hD⟩ := g_ck hD
        obtain ⟨M7, eM7, hD⟩ := g_let hD
        refine mr_bast C hw (by decide) tf_844 q6 dX12_take_186 (fun H locs hw => ?_)
        replace hw : mw_W G ad NF TF FF M7 L4 H locs := by rw [eM7]; exact hw
        obtain ⟨x8, ex8, hD⟩ := g_let hD
        refine lv_iinc (v := x8) (lv' := [(5, .int x8), (0, .ref (ad 821)), (3, .int v3), (4, .int v4)]) C.1.1 C.1.2.1 dX12_take_187 hl (k := 3) rfl (by rw [ex8]; rfl) (by decide) rfl (fun ls hl => ?_)
        refine lv_goto (tgt := 151) C.1.1 C.1.2.1 dX12_take_190 (by decide) ?_
        exact ih151 v3 v4 x8 M7 L4 _ _ ls hD hw (lv_sub hl [1, 2, 3, 0] rfl)
  have hb146 : ∀ (v3 : Int32) (s0 : Int32) (M : mwM) (L : mwL) (H : Heap) (locs : List Loc) (ls : Array Slot), fX12_take_b146 fu a1 v3 s0 M L = some (M0, L0) → mw_W G ad NF TF FF M L H locs → lv_has ls 6 [(0, .ref (ad 821)), (3, .int v3)] → W p l e ({ frames := 4, cells := 0, slots := 0, locals := 103 }) s m [.ref (ad 821), .int a1].toArray below meth c H locs 0 0 (MQ below (mw_Qv G ad NF TF FF (mw_eqV M0 L0)) [.ref (ad 821), .int a1].toArray s 0 0 (mw_fr G)) (F0 m 146 ls [.int s0]) := by
    intro v3 s0 M L H locs ls hD hw hl
    unfold fX12_take_b146 at hD
    refine lv_istore (lv' := [(4, .int s0), (0, .ref (ad 821)), (3, .int v3)]) C.1.1 C.1.2.1 dX12_take_146 hl (by decide) rfl (fun ls hl => ?_)
    refine lv_iconst (v := 0) C.1.1 C.1.2.1 dX12_take_148 (by decide) ?_
    refine lv_istore (lv' := [(5, .int 0), (4, .int s0), (0, .ref (ad 821)), (3, .int v3)]) C.1.1 C.1.2.1 dX12_take_149 hl (by decide) rfl (fun ls hl => ?_)
    exact hh151 fu v3 s0 0 M L _ _ ls hD hw (lv_sub hl [2, 3, 1, 0] rfl)
  unfold DX12_take at hD
  refine lv_aload_n C.1.1 C.1.2.1 dX12_take_0 rfl (lv_at hl 0 rfl) ?_
  refine lv_iload_n C.1.1 C.1.2.1 dX12_take_1 rfl (lv_at hl 1 rfl) ?_
  obtain ⟨r11, M9, L10, h1, hD⟩ := g_b3 hD
  refine md_cvI (As := [.int a1]) (rest := []) C hw (tX12_body l G ad fu a1 M L h1) kc_12 (by decide) tf_821 wd_3703 cwX12_body ⟨Nat.le_of_ble_eq_true rfl, Nat.le_of_ble_eq_true rfl⟩ rfl hl.1 (Nat.le_of_ble_eq_true rfl) dX12_take_2 rfl rfl ⟨Nat.zero_le _, Nat.zero_le _⟩ rfl (fun H locs hw => ?_)
  refine lv_istore_n (lv' := [(2, .int r11), (0, .ref (ad 821)), (1, .int a1)]) C.1.1 C.1.2.1 dX12_take_5 rfl hl (by decide) rfl (fun ls hl => ?_)
  refine lv_aload_n C.1.1 C.1.2.1 dX12_take_6 rfl (lv_at hl 1 rfl) ?_
  refine mr_getI C hw kc_12 44 (by decide) tf_821 wd_2144 dX12_take_7 (by decide) rfl ?_
  refine lv_aload_n C.1.1 C.1.2.1 dX12_take_10 rfl (lv_at hl 1 rfl) ?_
  refine mr_getR C hw kc_12 17 (by decide) tf_821 ff_821_17 wd_2117 dX12_take_11 (by decide) rfl ?_
  refine lv_iload_n C.1.1 C.1.2.1 dX12_take_14 rfl (lv_at hl 2 rfl) ?_
  obtain ⟨q12, hD⟩ := g_ck hD
  refine mr_iald C hw (by decide) tf_834 q12 dX12_take_15 ?_
  refine lv_iand C.1.1 C.1.2.1 dX12_take_16 ?_
  refine lv_aload_n C.1.1 C.1.2.1 dX12_take_17 rfl (lv_at hl 1 rfl) ?_
  refine mr_getR C hw kc_12 18 (by decide) tf_821 ff_821_18 wd_2118 dX12_take_18 (by decide) rfl ?_
  refine lv_iload_n C.1.1 C.1.2.1 dX12_take_21 rfl (lv_at hl 2 rfl) ?_
  obtain ⟨q13, hD⟩ := g_ck hD
  refine mr_iald C hw (by decide) tf_835 q13 dX12_take_22 ?_
  refine lv_icmp_eq (tgt := 27) C.1.1 C.1.2.1 dX12_take_23 (by decide) (fun c14 => ?_) (fun c14 => ?_)
  · replace hD := g_pos c14 hD
    refine lv_aload_n C.1.1 C.1.2.1 dX12_take_27 rfl (lv_at hl 1 rfl) ?_
    refine mr_getR C hw kc_12 23 (by decide) tf_821 ff_821_23 wd_2123 dX12_take_28 (by decide) rfl ?_
    refine lv_aload_n C.1.1 C.1.2.1 dX12_take_31 rfl (lv_at hl 1 rfl) ?_
    refine mr_getI C hw kc_12 22 (by decide) tf_821 wd_2122 dX12_take_32 (by decide) rfl ?_
    refine lv_iload_n C.1.1 C.1.2.1 dX12_take_35 rfl (lv_at hl 2 rfl) ?_
    obtain ⟨q15, hD⟩ := g_ck hD
    obtain ⟨M16, eM16, hD⟩ := g_let hD
    refine mr_iast C hw (by decide) tf_839 q15 dX12_take_36 (fun H locs hw => ?_)
    replace hw : mw_W G ad NF TF FF M16 L10 H locs := by rw [eM16]; exact hw
    refine lv_aload_n C.1.1 C.1.2.1 dX12_take_37 rfl (lv_at hl 1 rfl) ?_
    refine mr_getR C hw kc_12 24 (by decide) tf_821 ff_821_24 wd_2124 dX12_take_38 (by decide) rfl ?_
    refine lv_aload_n C.1.1 C.1.2.1 dX12_take_41 rfl (lv_at hl 1 rfl) ?_
    refine mr_getI C hw kc_12 22 (by decide) tf_821 wd_2122 dX12_take_42 (by decide) rfl ?_
    refine lv_aload_n C.1.1 C.1.2.1 dX12_take_45 rfl (lv_at hl 1 rfl) ?_
    refine mr_getI C hw kc_12 44 (by decide) tf_821 wd_2144 dX12_take_46 (by decide) rfl ?_
    obtain ⟨q17, hD⟩ := g_ck hD
    obtain ⟨M18, eM18, hD⟩ := g_let hD
    refine mr_iast C hw (by decide) tf_840 q17 dX12_take_49 (fun H locs hw => ?_)
    replace hw : mw_W G ad NF TF FF M18 L10 H locs := by rw [eM18]; exact hw
    refine lv_aload_n C.1.1 C.1.2.1 dX12_take_50 rfl (lv_at hl 1 rfl) ?_
    refine mr_getR C hw kc_12 25 (by decide) tf_821 ff_821_25 wd_2125 dX12_take_51 (by decide) rfl ?_
    refine lv_aload_n C.1.1 C.1.2.1 dX12_take_54 rfl (lv_at hl 1 rfl) ?_
    refine mr_getI C hw kc_12 22 (by decide) tf_821 wd_2122 dX12_take_55 (by decide) rfl ?_
    refine lv_aload_n C.1.1 C.1.2.1 dX12_take_58 rfl (lv_at hl 1 rfl) ?_
    refine mr_getI C hw kc_12 42 (by decide) tf_821 wd_2142 dX12_take_59 (by decide) rfl ?_
    refine lv_i2b C.1.1 C.1.2.1 dX12_take_62 rfl ?_
    obtain ⟨q19, hD⟩ := g_ck hD
    obtain ⟨M20, eM20, hD⟩ := g_let hD
    refine mr_bast C hw (by decide) tf_841 q19 dX12_take_63 (fun H locs hw => ?_)
    replace hw : mw_W G ad NF TF FF M20 L10 H locs := by rw [eM20]; exact hw
    refine lv_aload_n C.1.1 C.1.2.1 dX12_take_64 rfl (lv_at hl 1 rfl) ?_
    refine mr_getR C hw kc_12 26 (by decide) tf_821 ff_821_26 wd_2126 dX12_take_65 (by decide) rfl ?_
    refine lv_aload_n C.1.1 C.1.2.1 dX12_take_68 rfl (lv_at hl 1 rfl) ?_
    refine mr_getI C hw kc_12 22 (by decide) tf_821 wd_2122 dX12_take_69 (by decide) rfl ?_
    refine lv_aload_n C.1.1 C.1.2.1 dX12_take_72 rfl (lv_at hl 1 rfl) ?_
    refine mr_getI C hw kc_12 43 (by decide) tf_821 wd_2143 dX12_take_73 (by decide) rfl ?_
    refine lv_i2b C.1.1 C.1.2.1 dX12_take_76 rfl ?_
    obtain ⟨q21, hD⟩ := g_ck hD
    obtain ⟨M22, eM22, hD⟩ := g_let hD
    refine mr_bast C hw (by decide) tf_842 q21 dX12_take_77 (fun H locs hw => ?_)
    replace hw : mw_W G ad NF TF FF M22 L10 H locs := by rw [eM22]; exact hw
    refine lv_aload_n C.1.1 C.1.2.1 dX12_take_78 rfl (lv_at hl 1 rfl) ?_
    refine mr_getR C hw kc_12 27 (by decide) tf_821 ff_821_27 wd_2127 dX12_take_79 (by decide) rfl ?_
    refine lv_aload_n C.1.1 C.1.2.1 dX12_take_82 rfl (lv_at hl 1 rfl) ?_
    refine mr_getI C hw kc_12 22 (by decide) tf_821 wd_2122 dX12_take_83 (by decide) rfl ?_
    refine lv_aload_n C.1.1 C.1.2.1 dX12_take_86 rfl (lv_at hl 1 rfl) ?_
    refine mr_getI C hw kc_12 2 (by decide) tf_821 wd_2102 dX12_take_87 (by decide) rfl ?_
    obtain ⟨q23, hD⟩ := g_ck hD
    obtain ⟨M24, eM24, hD⟩ := g_let hD
    refine mr_iast C hw (by decide) tf_843 q23 dX12_take_90 (fun H locs hw => ?_)
    replace hw : mw_W G ad NF TF FF M24 L10 H locs := by rw [eM24]; exact hw
    refine lv_aload_n C.1.1 C.1.2.1 dX12_take_91 rfl (lv_at hl 1 rfl) ?_
    refine mr_getI C hw kc_12 42 (by decide) tf_821 wd_2142 dX12_take_92 (by decide) rfl ?_
    refine lv_aload_n C.1.1 C.1.2.1 dX12_take_95 rfl (lv_at hl 1 rfl) ?_
    refine mr_getI C hw kc_12 43 (by decide) tf_821 wd_2143 dX12_take_96 (by decide) rfl ?_
    obtain ⟨r27, M25, L26, h1, hD⟩ := g_b3 hD
    refine md_csI (As := [.int (M24 821 42), .int (M24 821 43)]) (rest := []) C hw (tX12_octetsOf l G ad fu (M24 821 42) (M24 821 43) M24 L10 h1) wd_3639 cwX12_octetsOf ⟨Nat.le_of_ble_eq_true rfl, Nat.le_of_ble_eq_true rfl⟩ rfl hl.1 (Nat.le_of_ble_eq_true rfl) dX12_take_99 rfl rfl ⟨Nat.zero_le _, Nat.zero_le _⟩ rfl (fun H locs hw => ?_)
    refine lv_istore_n (lv' := [(3, .int r27), (2, .int r11), (0, .ref (ad 821)), (1, .int a1)]) C.1.1 C.1.2.1 dX12_take_102 rfl hl (by decide) rfl (fun ls hl => ?_)
    refine lv_aload_n C.1.1 C.1.2.1 dX12_take_103 rfl (lv_at hl 2 rfl) ?_
    refine mr_getI C hw kc_12 42 (by decide) tf_821 wd_2142 dX12_take_104 (by decide) rfl ?_
    refine lv_iconst (v := 2) C.1.1 C.1.2.1 dX12_take_107 (by decide) ?_
    refine lv_icmp_ne (tgt := 116) C.1.1 C.1.2.1 dX12_take_108 (by decide) (fun c28 => ?_) (fun c28 => ?_)
    · replace hD := g_neg c28 hD
      refine lv_aload_n C.1.1 C.1.2.1 dX12_take_116 rfl (lv_at hl 2 rfl) ?_
      refine mr_getI C hw kc_12 42 (by decide) tf_821 wd_2142 dX12_take_117 (by decide) rfl ?_
      refine lv_iconst (v := 3) C.1.1 C.1.2.1 dX12_take_120 (by decide) ?_
      refine lv_icmp_ne (tgt := 129) C.1.1 C.1.2.1 dX12_take_121 (by decide) (fun c29 => ?_) (fun c29 => ?_)
      · replace hD := g_neg c29 hD
        refine lv_aload_n C.1.1 C.1.2.1 dX12_take_129 rfl (lv_at hl 2 rfl) ?_
        refine mr_getI C hw kc_12 42 (by decide) tf_821 wd_2142 dX12_take_130 (by decide) rfl ?_
        refine lv_iconst (v := 2) C.1.1 C.1.2.1 dX12_take_133 (by decide) ?_
        refine lv_irem C.1.1 C.1.2.1 dX12_take_134 (by decide) ?_
        refine lv_iconst (v := 1) C.1.1 C.1.2.1 dX12_take_135 (by decide) ?_
        refine lv_icmp_ne (tgt := 144) C.1.1 C.1.2.1 dX12_take_136 (by decide) (fun c31 => ?_) (fun c31 => ?_)
        · replace hD := g_neg c31 hD
          refine lv_bipush (v := 19) C.1.1 C.1.2.1 dX12_take_144 (by decide) ?_
          exact hb146 r27 19 M25 L26 _ _ ls hD hw (lv_sub hl [2, 0] rfl)
        · replace hD := g_pos c31 hD
          refine lv_bipush (v := 39) C.1.1 C.1.2.1 dX12_take_139 (by decide) ?_
          refine lv_goto (tgt := 146) C.1.1 C.1.2.1 dX12_take_141 (by decide) ?_
          exact hb146 r27 39 M25 L26 _ _ ls hD hw (lv_sub hl [2, 0] rfl)
      · replace hD := g_pos c29 hD
        refine lv_bipush (v := 41) C.1.1 C.1.2.1 dX12_take_124 (by decide) ?_
        refine lv_goto (tgt := 146) C.1.1 C.1.2.1 dX12_take_126 (by decide) ?_
        exact hb146 r27 41 M25 L26 _ _ ls hD hw (lv_sub hl [2, 0] rfl)
    · replace hD := g_pos c28 hD
      refine lv_bipush (v := 22) C.1.1 C.1.2.1 dX12_take_111 (by decide) ?_
      refine lv_goto (tgt := 146) C.1.1 C.1.2.1 dX12_take_113 (by decide) ?_
      exact hb146 r27 22 M25 L26 _ _ ls hD hw (lv_sub hl [2, 0] rfl)
  · replace hD := g_neg c14 hD
    exact mr_vret C hr hlocks hw (Option.some.inj hD) dX12_take_26

theorem dX12_puts_0 : decode cX12_puts 0 = .ok (.aload_n 0, 1) := by decide +kernel
theorem dX12_puts_1 : decode cX12_puts 1 = .ok (.getfield 43, 3) := by decide +kernel
theorem dX12_puts_4 : decode cX12_puts 4 = .ok (.iload_n 1, 1) := by decide +kernel
theorem dX12_puts_5 : decode cX12_puts 5 = .ok (.iaload, 1) := by decide +kernel
theorem dX12_puts_6 : decode cX12_puts 6 = .ok (.ifCond .ne 18, 3) := by decide +kernel
theorem dX12_puts_9 : decode cX12_puts 9 = .ok (.aload_n 0, 1) := by decide +kernel
theorem dX12_puts_10 : decode cX12_puts 10 = .ok (.iload_n 1, 1) := by decide +kernel
theorem dX12_puts_11 : decode cX12_puts 11 = .ok (.invokevirtual 248, 3) := by decide +kernel
theorem dX12_puts_14 : decode cX12_puts 14 = .ok (.iconst (-1), 1) := by decide +kernel
theorem dX12_puts_15 : decode cX12_puts 15 = .ok (.if_icmp .ne 7, 3) := by decide +kernel
theorem dX12_puts_18 : decode cX12_puts 18 = .ok (.iconst 1, 1) := by decide +kernel
theorem dX12_puts_19 : decode cX12_puts 19 = .ok (.goto 4, 3) := by decide +kernel
theorem dX12_puts_22 : decode cX12_puts 22 = .ok (.iconst 0, 1) := by decide +kernel
theorem dX12_puts_23 : decode cX12_puts 23 = .ok (.ireturn, 1) := by decide +kernel
theorem dX12_puts_24 : decode cX12_puts 24 = .ok (.aload_n 0, 1) := by decide +kernel
theorem dX12_puts_25 : decode cX12_puts 25 = .ok (.getfield 43, 3) := by decide +kernel
theorem dX12_puts_28 : decode cX12_puts 28 = .ok (.iload_n 1, 1) := by decide +kernel
theorem dX12_puts_29 : decode cX12_puts 29 = .ok (.iaload, 1) := by decide +kernel
theorem dX12_puts_30 : decode cX12_puts 30 = .ok (.iconst 1, 1) := by decide +kernel
theorem dX12_puts_31 : decode cX12_puts 31 = .ok (.if_icmp .ne 25, 3) := by decide +kernel
theorem dX12_puts_34 : decode cX12_puts 34 = .ok (.aload_n 0, 1) := by decide +kernel
theorem dX12_puts_35 : decode cX12_puts 35 = .ok (.aload_n 0, 1) := by decide +kernel
theorem dX12_puts_36 : decode cX12_puts 36 = .ok (.getfield 49, 3) := by decide +kernel
theorem dX12_puts_39 : decode cX12_puts 39 = .ok (.iload_n 1, 1) := by decide +kernel
theorem dX12_puts_40 : decode cX12_puts 40 = .ok (.iaload, 1) := by decide +kernel
theorem dX12_puts_41 : decode cX12_puts 41 = .ok (.invokevirtual 200, 3) := by decide +kernel
theorem dX12_puts_44 : decode cX12_puts 44 = .ok (.aload_n 0, 1) := by decide +kernel
theorem dX12_puts_45 : decode cX12_puts 45 = .ok (.getfield 99, 3) := by decide +kernel
theorem dX12_puts_48 : decode cX12_puts 48 = .ok (.aload_n 0, 1) := by decide +kernel
theorem dX12_puts_49 : decode cX12_puts 49 = .ok (.getfield 58, 3) := by decide +kernel
theorem dX12_puts_52 : decode cX12_puts 52 = .ok (.iload_n 1, 1) := by decide +kernel
theorem dX12_puts_53 : decode cX12_puts 53 = .ok (.iaload, 1) := by decide +kernel
theorem dX12_puts_54 : decode cX12_puts 54 = .ok (.baload, 1) := by decide +kernel
theorem dX12_puts_55 : decode cX12_puts 55 = .ok (.ireturn, 1) := by decide +kernel
theorem dX12_puts_56 : decode cX12_puts 56 = .ok (.aload_n 0, 1) := by decide +kernel
theorem dX12_puts_57 : decode cX12_puts 57 = .ok (.getfield 43, 3) := by decide +kernel
theorem dX12_puts_60 : decode cX12_puts 60 = .ok (.iload_n 1, 1) := by decide +kernel
theorem dX12_puts_61 : decode cX12_puts 61 = .ok (.iaload, 1) := by decide +kernel
theorem dX12_puts_62 : decode cX12_puts 62 = .ok (.iconst 2, 1) := by decide +kernel
theorem dX12_puts_63 : decode cX12_puts 63 = .ok (.if_icmp .ne 17, 3) := by decide +kernel
theorem dX12_puts_66 : decode cX12_puts 66 = .ok (.aload_n 0, 1) := by decide +kernel
theorem dX12_puts_67 : decode cX12_puts 67 = .ok (.iload_n 1, 1) := by decide +kernel
theorem dX12_puts_68 : decode cX12_puts 68 = .ok (.invokevirtual 251, 3) := by decide +kernel
theorem dX12_puts_71 : decode cX12_puts 71 = .ok (.ifCond .eq 7, 3) := by decide +kernel
theorem dX12_puts_74 : decode cX12_puts 74 = .ok (.iconst 0, 1) := by decide +kernel
theorem dX12_puts_75 : decode cX12_puts 75 = .ok (.goto 4, 3) := by decide +kernel
theorem dX12_puts_78 : decode cX12_puts 78 = .ok (.iconst 1, 1) := by decide +kernel
theorem dX12_puts_79 : decode cX12_puts 79 = .ok (.ireturn, 1) := by decide +kernel
theorem dX12_puts_80 : decode cX12_puts 80 = .ok (.aload_n 0, 1) := by decide +kernel
theorem dX12_puts_81 : decode cX12_puts 81 = .ok (.getfield 43, 3) := by decide +kernel
theorem dX12_puts_84 : decode cX12_puts 84 = .ok (.iload_n 1, 1) := by decide +kernel
theorem dX12_puts_85 : decode cX12_puts 85 = .ok (.iaload, 1) := by decide +kernel
theorem dX12_puts_86 : decode cX12_puts 86 = .ok (.iconst 3, 1) := by decide +kernel
theorem dX12_puts_87 : decode cX12_puts 87 = .ok (.if_icmp .ne 7, 3) := by decide +kernel
theorem dX12_puts_90 : decode cX12_puts 90 = .ok (.iconst 0, 1) := by decide +kernel
theorem dX12_puts_91 : decode cX12_puts 91 = .ok (.goto 4, 3) := by decide +kernel
theorem dX12_puts_94 : decode cX12_puts 94 = .ok (.iconst 1, 1) := by decide +kernel
theorem dX12_puts_95 : decode cX12_puts 95 = .ok (.ireturn, 1) := by decide +kernel
theorem cwX12_puts : mw_cwV yX12_puts cX12_puts 2 ((some .int)) 1 := ⟨⟨wd_15, wd_3649, by decide +kernel⟩, wd_3648, sl_230⟩
noncomputable def fX12_puts_b23 (fu : Nat) (a1 : Int32) (s0 : Int32) (M : mwM) (L : mwL) : Option (Int32 × mwM × mwL) :=
  some (s0, M, L)
noncomputable def fX12_puts_b79 (fu : Nat) (a1 : Int32) (s0 : Int32) (M : mwM) (L : mwL) : Option (Int32 × mwM × mwL) :=
  some (s0, M, L)
noncomputable def fX12_puts_b95 (fu : Nat) (a1 : Int32) (s0 : Int32) (M : mwM) (L : mwL) : Option (Int32 × mwM × mwL) :=
  some (s0, M, L)
noncomputable def DX12_puts (fu : Nat) (a1 : Int32) (M : mwM) (L : mwL) : Option (Int32 × mwM × mwL) :=
  mck a1 32 ((if (M 831 a1.toNatClampNeg) = 0 then mb3 (DX12_first fu a1 M L) (fun r20 M18 L19 => (if r20 = ((-1)) then fX12_puts_b23 fu a1 1 M18 L19 else fX12_puts_b23 fu a1 0 M18 L19)) else mck a1 32 ((if (M 831 a1.toNatClampNeg) = 1 then mck a1 32 (mb2 (DX12_write fu (M 833 a1.toNatClampNeg) M L) (fun M14 L15 => mck a1 32 (mck (M14 836 a1.toNatClampNeg) 1200 (some (M14 849 (M14 836 a1.toNatClampNeg).toNatClampNeg, M14, L15))))) else mck a1 32 ((if (M 831 a1.toNatClampNeg) = 2 then mb3 (DX12_answers fu a1 M L) (fun r11 M9 L10 => (if r11 = 0 then fX12_puts_b79 fu a1 1 M9 L10 else fX12_puts_b79 fu a1 0 M9 L10)) else mck a1 32 ((if (M 831 a1.toNatClampNeg) = 3 then fX12_puts_b95 fu a1 0 M L else fX12_puts_b95 fu a1 1 M L))))))))
set_option maxHeartbeats 4000000 in
set_option maxRecDepth 100000 in
theorem tX12_puts (l : Launch) (G : mwG) (ad : Nat → Nat) (fu : Nat) (a1 : Int32) (M : mwM) (L : mwL) {r0 : Int32} {M0 : mwM} {L0 : mwL} (hD : DX12_puts fu a1 M L = some (r0, M0, L0)) : Met l yX12_puts (Cond.code yX12_puts cX12_puts 2 ((some .int)) :: GT) ({ frames := 5, cells := 0, slots := 0, locals := 125 }) (mw_Pre G ad NF TF FF M L [.ref (ad 821), .int a1]) (mw_Qi G ad NF TF FF (mw_eqI r0 M0 L0)) 0 0 (mw_fr G) := by
  refine mw_enter (by decide) (Nat.le_of_ble_eq_true rfl) ?_
  intro p e s m below meth c ls C hr hlocks hnm hw hl
  have hl : lv_has ls 2 [(0, .ref (ad 821)), (1, .int a1)] := hl
  have hb23 : ∀ (s0 : Int32) (M : mwM) (L : mwL) (H : Heap) (locs : List Loc) (ls : Array Slot), fX12_puts_b23 fu a1 s0 M L = some (r0, M0, L0) → mw_W G ad NF TF FF M L H locs → lv_has ls 2 [] → W p l e ({ frames := 5, cells := 0, slots := 0, locals := 125 }) s m [.ref (ad 821), .int a1].toArray below meth c H locs 0 0 (MQ below (mw_Qi G ad NF TF FF (mw_eqI r0 M0 L0)) [.ref (ad 821), .int a1].toArray s 0 0 (mw_fr G)) (F0 m 23 ls [.int s0]) := by
    intro s0 M L H locs ls hD hw hl
    unfold fX12_puts_b23 at hD
    exact mr_iret C hr hlocks hw rfl (Option.some.inj hD) dX12_puts_23
  have hb79 : ∀ (s0 : Int32) (M : mwM) (L : mwL) (H : Heap) (locs : List Loc) (ls : Array Slot), fX12_puts_b79 fu a1 s0 M L = some (r0, M0, L0) → mw_W G ad NF TF FF M L H locs → lv_has ls 2 [] → W p l e ({ frames := 5, cells := 0, slots := 0, locals := 125 }) s m [.ref (ad 821), .int a1].toArray below meth c H locs 0 0 (MQ below (mw_Qi G ad NF TF FF (mw_eqI r0 M0 L0)) [.ref (ad 821), .int a1].toArray s 0 0 (mw_fr G)) (F0 m 79 ls [.int s0]) := by
    intro s0 M L H locs ls hD hw hl
    unfold fX12_puts_b79 at hD
    exact mr_iret C hr hlocks hw rfl (Option.some.inj hD) dX12_puts_79
  have hb95 : ∀ (s0 : Int32) (M : mwM) (L : mwL) (H : Heap) (locs : List Loc) (ls : Array Slot), fX12_puts_b95 fu a1 s0 M L = some (r0, M0, L0) → mw_W G ad NF TF FF M L H locs → lv_has ls 2 [] → W p l e ({ frames := 5, cells := 0, slots := 0, locals := 125 }) s m [.ref (ad 821), .int a1].toArray below meth c H locs 0 0 (MQ below (mw_Qi G ad NF TF FF (mw_eqI r0 M0 L0)) [.ref (ad 821), .int a1].toArray s 0 0 (mw_fr G)) (F0 m 95 ls [.int s0]) := by
    intro s0 M L H locs ls hD hw hl
    unfold fX12_puts_b95 at hD
    exact mr_iret C hr hlocks hw rfl (Option.some.inj hD) dX12_puts_95
  unfold DX12_puts at hD
  refine lv_aload_n C.1.1 C.1.2.1 dX12_puts_0 rfl (lv_at hl 0 rfl) ?_
  refine mr_getR C hw kc_12 14 (by decide) tf_821 ff_821_14 wd_2114 dX12_puts_1 (by decide) rfl ?_
  refine lv_iload_n C.1.1 C.1.2.1 dX12_puts_4 rfl (lv_at hl 1 rfl) ?_
  obtain ⟨q1, hD⟩ := g_ck hD
  refine mr_iald C hw (by decide) tf_831 q1 dX12_puts_5 ?_
  refine lv_if_ne (tgt := 24) C.1.1 C.1.2.1 dX12_puts_6 (by decide) (fun c2 => ?_) (fun c2 => ?_)
  · replace hD := g_neg c2 hD
    refine lv_aload_n C.1.1 C.1.2.1 dX12_puts_24 rfl (lv_at hl 0 rfl) ?_
    refine mr_getR C hw kc_12 14 (by decide) tf_821 ff_821_14 wd_2114 dX12_puts_25 (by decide) rfl ?_
    refine lv_iload_n C.1.1 C.1.2.1 dX12_puts_28 rfl (lv_at hl 1 rfl) ?_
    obtain ⟨q3, hD⟩ := g_ck hD
    refine mr_iald C hw (by decide) tf_831 q3 dX12_puts_29 ?_
    refine lv_iconst (v := 1) C.1.1 C.1.2.1 dX12_puts_30 (by decide) ?_
    refine lv_icmp_ne (tgt := 56) C.1.1 C.1.2.1 dX12_puts_31 (by decide) (fun c4 => ?_) (fun c4 => ?_)
    · replace hD := g_neg c4 hD
      refine lv_aload_n C.1.1 C.1.2.1 dX12_puts_56 rfl (lv_at hl 0 rfl) ?_
      refine mr_getR C hw kc_12 14 (by decide) tf_821 ff_821_14 wd_2114 dX12_puts_57 (by decide) rfl ?_
      refine lv_iload_n C.1.1 C.1.2.1 dX12_puts_60 rfl (lv_at hl 1 rfl) ?_
      obtain ⟨q5, hD⟩ := g_ck hD
      refine mr_iald C hw (by decide) tf_831 q5 dX12_puts_61 ?_
      refine lv_iconst (v := 2) C.1.1 C.1.2.1 dX12_puts_62 (by decide) ?_
      refine lv_icmp_ne (tgt := 80) C.1.1 C.1.2.1 dX12_puts_63 (by decide) (fun c6 => ?_) (fun c6 => ?_)
      · replace hD := g_neg c6 hD
        refine lv_aload_n C.1.1 C.1.2.1 dX12_puts_80 rfl (lv_at hl 0 rfl) ?_
        refine mr_getR C hw kc_12 14 (by decide) tf_821 ff_821_14 wd_2114 dX12_puts_81 (by decide) rfl ?_
        refine lv_iload_n C.1.1 C.1.2.1 dX12_puts_84 rfl (lv_at hl 1 rfl) ?_
        obtain ⟨q7, hD⟩ := g_ck hD
        refine mr_iald C hw (by decide) tf_831 q7 dX12_puts_85 ?_
        refine lv_iconst (v := 3) C.1.1 C.1.2.1 dX12_puts_86 (by decide) ?_
        refine lv_icmp_ne (tgt := 94) C.1.1 C.1.2.1 dX12_puts_87 (by decide) (fun c8 => ?_) (fun c8 => ?_)
        · replace hD := g_neg c8 hD
          refine lv_iconst (v := 1) C.1.1 C.1.2.1 dX12_puts_94 (by decide) ?_
          exact hb95 1 M L _ _ ls hD hw (lv_sub hl [] rfl)
        · replace hD := g_pos c8 hD
          refine lv_iconst (v := 0) C.1.1 C.1.2.1 dX12_puts_90 (by decide) ?_
          refine lv_goto (tgt := 95) C.1.1 C.1.2.1 dX12_puts_91 (by decide) ?_
          exact hb95 0 M L _ _ ls hD hw (lv_sub hl [] rfl)
      · replace hD := g_pos c6 hD
        refine lv_aload_n C.1.1 C.1.2.1 dX12_puts_66 rfl (lv_at hl 0 rfl) ?_
        refine lv_iload_n C.1.1 C.1.2.1 dX12_puts_67 rfl (lv_at hl 1 rfl) ?_
        obtain ⟨r11, M9, L10, h1, hD⟩ := g_b3 hD
        refine md_cvI (As := [.int a1]) (rest := []) C hw (tX12_answers l G ad fu a1 M L h1) kc_12 (by decide) tf_821 wd_3699 cwX12_answers ⟨Nat.le_of_ble_eq_true rfl, Nat.le_of_ble_eq_true rfl⟩ rfl hl.1 (Nat.le_of_ble_eq_true rfl) dX12_puts_68 rfl rfl ⟨Nat.zero_le _, Nat.zero_le _⟩ rfl (fun H locs hw => ?_)
        refine lv_if_eq (tgt := 78) C.1.1 C.1.2.1 dX12_puts_71 (by decide) (fun c12 => ?_) (fun c12 => ?_)
        · replace hD := g_pos c12 hD
          refine lv_iconst (v := 1) C.1.1 C.1.2.1 dX12_puts_78 (by decide) ?_
          exact hb79 1 M9 L10 _ _ ls hD hw (lv_sub hl [] rfl)
        · replace hD := g_neg c12 hD
          refine lv_iconst (v := 0) C.1.1 C.1.2.1 dX12_puts_74 (by decide) ?_
          refine lv_goto (tgt := 79) C.1.1 C.1.2.1 dX12_puts_75 (by decide) ?_
          exact hb79 0 M9 L10 _ _ ls hD hw (lv_sub hl [] rfl)
    · replace hD := g_pos c4 hD
      refine lv_aload_n C.1.1 C.1.2.1 dX12_puts_34 rfl (lv_at hl 0 rfl) ?_
      refine lv_aload_n C.1.1 C.1.2.1 dX12_puts_35 rfl (lv_at hl 0 rfl) ?_
      refine mr_getR C hw kc_12 16 (by decide) tf_821 ff_821_16 wd_2116 dX12_puts_36 (by decide) rfl ?_
      refine lv_iload_n C.1.1 C.1.2.1 dX12_puts_39 rfl (lv_at hl 1 rfl) ?_
      obtain ⟨q13, hD⟩ := g_ck hD
      refine mr_iald C hw (by decide) tf_833 q13 dX12_puts_40 ?_
      obtain ⟨M14, L15, h1, hD⟩ := g_b2 hD
      refine md_cvV (As := [.int (M 833 a1.toNatClampNeg)]) (rest := []) C hw (tX12_write l G ad fu (M 833 a1.toNatClampNeg) M L h1) kc_12 (by decide) tf_821 wd_3663 cwX12_write ⟨Nat.le_of_ble_eq_true rfl, Nat.le_of_ble_eq_true rfl⟩ rfl hl.1 (Nat.le_of_ble_eq_true rfl) dX12_puts_41 rfl rfl ⟨Nat.zero_le _, Nat.zero_le _⟩ rfl (fun H locs hw => ?_)
      refine lv_aload_n C.1.1 C.1.2.1 dX12_puts_44 rfl (lv_at hl 0 rfl) ?_
      refine mr_getR C hw kc_12 35 (by decide) tf_821 ff_821_35 wd_2135 dX12_puts_45 (by decide) rfl ?_
      refine lv_aload_n C.1.1 C.1.2.1 dX12_puts_48 rfl (lv_at hl 0 rfl) ?_
      refine mr_getR C hw kc_12 19 (by decide) tf_821 ff_821_19 wd_2119 dX12_puts_49 (by decide) rfl ?_
      refine lv_iload_n C.1.1 C.1.2.1 dX12_puts_52 rfl (lv_at hl 1 rfl) ?_
      obtain ⟨q16, hD⟩ := g_ck hD
      refine mr_iald C hw (by decide) tf_836 q16 dX12_puts_53 ?_
      obtain ⟨q17, hD⟩ := g_ck hD
      refine mr_bald C hw (by decide) tf_849 q17 dX12_puts_54 ?_
      exact mr_iret C hr hlocks hw rfl (Option.some.inj hD) dX12_puts_55
  · replace hD := g_pos c2 hD
    refine lv_aload_n C.1.1 C.1.2.1 dX12_puts_9 rfl (lv_at hl 0 rfl) ?_
    refine lv_iload_n C.1.1 C.1.2.1 dX12_puts_10 rfl (lv_at hl 1 rfl) ?_
    obtain ⟨r20, M18, L19, h1, hD⟩ := g_b3 hD
    refine md_cvI (As := [.int a1]) (rest := []) C hw (tX12_first l G ad fu a1 M L h1) kc_12 (by decide) tf_821 wd_3650 cwX12_first ⟨Nat.le_of_ble_eq_true rfl, Nat.le_of_ble_eq_true rfl⟩ rfl hl.1 (Nat.le_of_ble_eq_true rfl) dX12_puts_11 rfl rfl ⟨Nat.zero_le _, Nat.zero_le _⟩ rfl (fun H locs hw => ?_)
    refine lv_iconst (v := (-1)) C.1.1 C.1.2.1 dX12_puts_14 (by decide) ?_
    refine lv_icmp_ne (tgt := 22) C.1.1 C.1.2.1 dX12_puts_15 (by decide) (fun c21 => ?_) (fun c21 => ?_)
    · replace hD := g_neg c21 hD
      refine lv_iconst (v := 0) C.1.1 C.1.2.1 dX12_puts_22 (by decide) ?_
      exact hb23 0 M18 L19 _ _ ls hD hw (lv_sub hl [] rfl)
    · replace hD := g_pos c21 hD
      refine lv_iconst (v := 1) C.1.1 C.1.2.1 dX12_puts_18 (by decide) ?_
      refine lv_goto (tgt := 23) C.1.1 C.1.2.1 dX12_puts_19 (by decide) ?_
      exact hb23 1 M18 L19 _ _ ls hD hw (lv_sub hl [] rfl)

theorem dX12_see_0 : decode cX12_see 0 = .ok (.aload_n 0, 1) := by decide +kernel
theorem dX12_see_1 : decode cX12_see 1 = .ok (.getfield 61, 3) := by decide +kernel
theorem dX12_see_4 : decode cX12_see 4 = .ok (.sipush 1200, 3) := by decide +kernel
theorem dX12_see_7 : decode cX12_see 7 = .ok (.iload_n 1, 1) := by decide +kernel
theorem dX12_see_8 : decode cX12_see 8 = .ok (.imul, 1) := by decide +kernel
theorem dX12_see_9 : decode cX12_see 9 = .ok (.aload_n 0, 1) := by decide +kernel
theorem dX12_see_10 : decode cX12_see 10 = .ok (.getfield 58, 3) := by decide +kernel
theorem dX12_see_13 : decode cX12_see 13 = .ok (.iload_n 1, 1) := by decide +kernel
theorem dX12_see_14 : decode cX12_see 14 = .ok (.iaload, 1) := by decide +kernel
theorem dX12_see_15 : decode cX12_see 15 = .ok (.iadd, 1) := by decide +kernel
theorem dX12_see_16 : decode cX12_see 16 = .ok (.iload_n 2, 1) := by decide +kernel
theorem dX12_see_17 : decode cX12_see 17 = .ok (.i2b, 1) := by decide +kernel
theorem dX12_see_18 : decode cX12_see 18 = .ok (.bastore, 1) := by decide +kernel
theorem dX12_see_19 : decode cX12_see 19 = .ok (.aload_n 0, 1) := by decide +kernel
theorem dX12_see_20 : decode cX12_see 20 = .ok (.getfield 58, 3) := by decide +kernel
theorem dX12_see_23 : decode cX12_see 23 = .ok (.iload_n 1, 1) := by decide +kernel
theorem dX12_see_24 : decode cX12_see 24 = .ok (.dup2, 1) := by decide +kernel
theorem dX12_see_25 : decode cX12_see 25 = .ok (.iaload, 1) := by decide +kernel
theorem dX12_see_26 : decode cX12_see 26 = .ok (.iconst 1, 1) := by decide +kernel
theorem dX12_see_27 : decode cX12_see 27 = .ok (.iadd, 1) := by decide +kernel
theorem dX12_see_28 : decode cX12_see 28 = .ok (.iastore, 1) := by decide +kernel
theorem dX12_see_29 : decode cX12_see 29 = .ok (.return_, 1) := by decide +kernel
theorem cwX12_see : mw_cwV yX12_see cX12_see 3 (none) 2 := ⟨⟨wd_15, wd_3747, by decide +kernel⟩, wd_3746, sl_252⟩
noncomputable def DX12_see (fu : Nat) (a1 : Int32) (a2 : Int32) (M : mwM) (L : mwL) : Option (mwM × mwL) :=
  mck a1 32 (mck ((1200 * a1) + (M 836 a1.toNatClampNeg)) 8400 (mlet (mset M 837 (((1200 * a1) + (M 836 a1.toNatClampNeg)).toNatClampNeg) (vp_nar .byte a2.toInt8.toInt32)) (fun M3 => mck a1 32 (mck a1 32 (mlet (mset M3 836 (a1.toNatClampNeg) ((M3 836 a1.toNatClampNeg) + 1)) (fun M6 => some (M6, L)))))))
set_option maxHeartbeats 4000000 in
set_option maxRecDepth 100000 in
theorem tX12_see (l : Launch) (G : mwG) (ad : Nat → Nat) (fu : Nat) (a1 : Int32) (a2 : Int32) (M : mwM) (L : mwL) {M0 : mwM} {L0 : mwL} (hD : DX12_see fu a1 a2 M L = some (M0, L0)) : Met l yX12_see (Cond.code yX12_see cX12_see 3 (none) :: GT) ({ frames := 0, cells := 0, slots := 0, locals := 0 }) (mw_Pre G ad NF TF FF M L [.ref (ad 821), .int a1, .int a2]) (mw_Qv G ad NF TF FF (mw_eqV M0 L0)) 0 0 (mw_fr G) := by
  refine mw_enter (by decide) (Nat.le_of_ble_eq_true rfl) ?_
  intro p e s m below meth c ls C hr hlocks hnm hw hl
  have hl : lv_has ls 3 [(0, .ref (ad 821)), (1, .int a1), (2, .int a2)] := hl
  unfold DX12_see at hD
  refine lv_aload_n C.1.1 C.1.2.1 dX12_see_0 rfl (lv_at hl 0 rfl) ?_
  refine mr_getR C hw kc_12 20 (by decide) tf_821 ff_821_20 wd_2120 dX12_see_1 (by decide) rfl ?_
  refine lv_sipush (v := 1200) C.1.1 C.1.2.1 dX12_see_4 (by decide) ?_
  refine lv_iload_n C.1.1 C.1.2.1 dX12_see_7 rfl (lv_at hl 1 rfl) ?_
  refine lv_imul C.1.1 C.1.2.1 dX12_see_8 ?_
  refine lv_aload_n C.1.1 C.1.2.1 dX12_see_9 rfl (lv_at hl 0 rfl) ?_
  refine mr_getR C hw kc_12 19 (by decide) tf_821 ff_821_19 wd_2119 dX12_see_10 (by decide) rfl ?_
  refine lv_iload_n C.1.1 C.1.2.1 dX12_see_13 rfl (lv_at hl 1 rfl) ?_
  obtain ⟨q1, hD⟩ := g_ck hD
  refine mr_iald C hw (by decide) tf_836 q1 dX12_see_14 ?_
  refine lv_iadd C.1.1 C.1.2.1 dX12_see_15 ?_
  refine lv_iload_n C.1.1 C.1.2.1 dX12_see_16 rfl (lv_at hl 2 rfl) ?_
  refine lv_i2b C.1.1 C.1.2.1 dX12_see_17 rfl ?_
  obtain ⟨q2, hD⟩ := g_ck hD
  obtain ⟨M3, eM3, hD⟩ := g_let hD
  refine mr_bast C hw (by decide) tf_837 q2 dX12_see_18 (fun H locs hw => ?_)
  replace hw : mw_W G ad NF TF FF M3 L H locs := by rw [eM3]; exact hw
  refine lv_aload_n C.1.1 C.1.2.1 dX12_see_19 rfl (lv_at hl 0 rfl) ?_
  refine mr_getR C hw kc_12 19 (by decide) tf_821 ff_821_19 wd_2119 dX12_see_20 (by decide) rfl ?_
  refine lv_iload_n C.1.1 C.1.2.1 dX12_see_23 rfl (lv_at hl 1 rfl) ?_
  refine lv_dup2_11 C.1.1 C.1.2.1 dX12_see_24 rfl rfl ?_
  obtain ⟨q4, hD⟩ := g_ck hD
  refine mr_iald C hw (by decide) tf_836 q4 dX12_see_25 ?_
  refine lv_iconst (v := 1) C.1.1 C.1.2.1 dX12_see_26 (by decide) ?_
  refine lv_iadd C.1.1 C.1.2.1 dX12_see_27 ?_
  obtain ⟨q5, hD⟩ := g_ck hD
  obtain ⟨M6, eM6, hD⟩ := g_let hD
  refine mr_iast C hw (by decide) tf_836 q5 dX12_see_28 (fun H locs hw => ?_)
  replace hw : mw_W G ad NF TF FF M6 L H locs := by rw [eM6]; exact hw
  exact mr_vret C hr hlocks hw (Option.some.inj hD) dX12_see_29

theorem dX12_wrong_0 : decode cX12_wrong 0 = .ok (.aload_n 0, 1) := by decide +kernel
theorem dX12_wrong_1 : decode cX12_wrong 1 = .ok (.getfield 87, 3) := by decide +kernel
theorem dX12_wrong_4 : decode cX12_wrong 4 = .ok (.aload_n 0, 1) := by decide +kernel
theorem dX12_wrong_5 : decode cX12_wrong 5 = .ok (.getfield 135, 3) := by decide +kernel
theorem dX12_wrong_8 : decode cX12_wrong 8 = .ok (.iload_n 2, 1) := by decide +kernel
theorem dX12_wrong_9 : decode cX12_wrong 9 = .ok (.i2b, 1) := by decide +kernel
theorem dX12_wrong_10 : decode cX12_wrong 10 = .ok (.bastore, 1) := by decide +kernel
theorem dX12_wrong_11 : decode cX12_wrong 11 = .ok (.aload_n 0, 1) := by decide +kernel
theorem dX12_wrong_12 : decode cX12_wrong 12 = .ok (.getfield 90, 3) := by decide +kernel
theorem dX12_wrong_15 : decode cX12_wrong 15 = .ok (.aload_n 0, 1) := by decide +kernel
theorem dX12_wrong_16 : decode cX12_wrong 16 = .ok (.getfield 135, 3) := by decide +kernel
theorem dX12_wrong_19 : decode cX12_wrong 19 = .ok (.iload_n 1, 1) := by decide +kernel
theorem dX12_wrong_20 : decode cX12_wrong 20 = .ok (.i2b, 1) := by decide +kernel
theorem dX12_wrong_21 : decode cX12_wrong 21 = .ok (.bastore, 1) := by decide +kernel
theorem dX12_wrong_22 : decode cX12_wrong 22 = .ok (.aload_n 0, 1) := by decide +kernel
theorem dX12_wrong_23 : decode cX12_wrong 23 = .ok (.getfield 93, 3) := by decide +kernel
theorem dX12_wrong_26 : decode cX12_wrong 26 = .ok (.aload_n 0, 1) := by decide +kernel
theorem dX12_wrong_27 : decode cX12_wrong 27 = .ok (.getfield 135, 3) := by decide +kernel
theorem dX12_wrong_30 : decode cX12_wrong 30 = .ok (.aload_n 0, 1) := by decide +kernel
theorem dX12_wrong_31 : decode cX12_wrong 31 = .ok (.getfield 123, 3) := by decide +kernel
theorem dX12_wrong_34 : decode cX12_wrong 34 = .ok (.iastore, 1) := by decide +kernel
theorem dX12_wrong_35 : decode cX12_wrong 35 = .ok (.aload_n 0, 1) := by decide +kernel
theorem dX12_wrong_36 : decode cX12_wrong 36 = .ok (.dup, 1) := by decide +kernel
theorem dX12_wrong_37 : decode cX12_wrong 37 = .ok (.getfield 135, 3) := by decide +kernel
theorem dX12_wrong_40 : decode cX12_wrong 40 = .ok (.iconst 1, 1) := by decide +kernel
theorem dX12_wrong_41 : decode cX12_wrong 41 = .ok (.iadd, 1) := by decide +kernel
theorem dX12_wrong_42 : decode cX12_wrong 42 = .ok (.putfield 135, 3) := by decide +kernel
theorem dX12_wrong_45 : decode cX12_wrong 45 = .ok (.aload_n 0, 1) := by decide +kernel
theorem dX12_wrong_46 : decode cX12_wrong 46 = .ok (.getfield 43, 3) := by decide +kernel
theorem dX12_wrong_49 : decode cX12_wrong 49 = .ok (.iload_n 1, 1) := by decide +kernel
theorem dX12_wrong_50 : decode cX12_wrong 50 = .ok (.iconst 3, 1) := by decide +kernel
theorem dX12_wrong_51 : decode cX12_wrong 51 = .ok (.iastore, 1) := by decide +kernel
theorem dX12_wrong_52 : decode cX12_wrong 52 = .ok (.aload_n 0, 1) := by decide +kernel
theorem dX12_wrong_53 : decode cX12_wrong 53 = .ok (.getfield 46, 3) := by decide +kernel
theorem dX12_wrong_56 : decode cX12_wrong 56 = .ok (.iload_n 1, 1) := by decide +kernel
theorem dX12_wrong_57 : decode cX12_wrong 57 = .ok (.bipush 6, 2) := by decide +kernel
theorem dX12_wrong_59 : decode cX12_wrong 59 = .ok (.iastore, 1) := by decide +kernel
theorem dX12_wrong_60 : decode cX12_wrong 60 = .ok (.return_, 1) := by decide +kernel
theorem cwX12_wrong : mw_cwV yX12_wrong cX12_wrong 3 (none) 2 := ⟨⟨wd_15, wd_3751, by decide +kernel⟩, wd_3750, sl_253⟩
noncomputable def DX12_wrong (fu : Nat) (a1 : Int32) (a2 : Int32) (M : mwM) (L : mwL) : Option (mwM × mwL) :=
  mck (M 821 29) 17600 (mlet (mset M 845 ((M 821 29).toNatClampNeg) (vp_nar .byte a2.toInt8.toInt32)) (fun M2 => mck (M2 821 29) 17600 (mlet (mset M2 846 ((M2 821 29).toNatClampNeg) (vp_nar .byte a1.toInt8.toInt32)) (fun M4 => mck (M4 821 29) 17600 (mlet (mset M4 847 ((M4 821 29).toNatClampNeg) (M4 821 2)) (fun M6 => mlet (mset M6 821 29 ((M6 821 29) + 1)) (fun M7 => mck a1 32 (mlet (mset M7 831 (a1.toNatClampNeg) 3) (fun M9 => mck a1 32 (mlet (mset M9 832 (a1.toNatClampNeg) 6) (fun M11 => some (M11, L))))))))))))
set_option maxHeartbeats 4000000 in
set_option maxRecDepth 100000 in
theorem tX12_wrong (l : Launch) (G : mwG) (ad : Nat → Nat) (fu : Nat) (a1 : Int32) (a2 : Int32) (M : mwM) (L : mwL) {M0 : mwM} {L0 : mwL} (hD : DX12_wrong fu a1 a2 M L = some (M0, L0)) : Met l yX12_wrong (Cond.code yX12_wrong cX12_wrong 3 (none) :: GT) ({ frames := 0, cells := 0, slots := 0, locals := 0 }) (mw_Pre G ad NF TF FF M L [.ref (ad 821), .int a1, .int a2]) (mw_Qv G ad NF TF FF (mw_eqV M0 L0)) 0 0 (mw_fr G) := by
  refine mw_enter (by decide) (Nat.le_of_ble_eq_true rfl) ?_
  intro p e s m below meth c ls C hr hlocks hnm hw hl
  have hl : lv_has ls 3 [(0, .ref (ad 821)), (1, .int a1), (2, .int a2)] := hl
  unfold DX12_wrong at hD
  refine lv_aload_n C.1.1 C.1.2.1 dX12_wrong_0 rfl (lv_at hl 0 rfl) ?_
  refine mr_getR C hw kc_12 30 (by decide) tf_821 ff_821_30 wd_2130 dX12_wrong_1 (by decide) rfl ?_
  refine lv_aload_n C.1.1 C.1.2.1 dX12_wrong_4 rfl (lv_at hl 0 rfl) ?_
  refine mr_getI C hw kc_12 29 (by decide) tf_821 wd_2129 dX12_wrong_5 (by decide) rfl ?_
  refine lv_iload_n C.1.1 C.1.2.1 dX12_wrong_8 rfl (lv_at hl 2 rfl) ?_
  refine lv_i2b C.1.1 C.1.2.1 dX12_wrong_9 rfl ?_
  obtain ⟨q1, hD⟩ := g_ck hD
  obtain ⟨M2, eM2, hD⟩ := g_let hD
  refine mr_bast C hw (by decide) tf_845 q1 dX12_wrong_10 (fun H locs hw => ?_)
  replace hw : mw_W G ad NF TF FF M2 L H locs := by rw [eM2]; exact hw
  refine lv_aload_n C.1.1 C.1.2.1 dX12_wrong_11 rfl (lv_at hl 0 rfl) ?_
  refine mr_getR C hw kc_12 31 (by decide) tf_821 ff_821_31 wd_2131 dX12_wrong_12 (by decide) rfl ?_
  refine lv_aload_n C.1.1 C.1.2.1 dX12_wrong_15 rfl (lv_at hl 0 rfl) ?_
  refine mr_getI C hw kc_12 29 (by decide) tf_821 wd_2129 dX12_wrong_16 (by decide) rfl ?_
  refine lv_iload_n C.1.1 C.1.2.1 dX12_wrong_19 rfl (lv_at hl 1 rfl) ?_
  refine lv_i2b C.1.1 C.1.2.1 dX12_wrong_20 rfl ?_
  obtain ⟨q3, hD⟩ := g_ck hD
  obtain ⟨M4, eM4, hD⟩ := g_let hD
  refine mr_bast C hw (by decide) tf_846 q3 dX12_wrong_21 (fun H locs hw => ?_)
  replace hw : mw_W G ad NF TF FF M4 L H locs := by rw [eM4]; exact hw
  refine lv_aload_n C.1.1 C.1.2.1 dX12_wrong_22 rfl (lv_at hl 0 rfl) ?_
  refine mr_getR C hw kc_12 32 (by decide) tf_821 ff_821_32 wd_2132 dX12_wrong_23 (by decide) rfl ?_
  refine lv_aload_n C.1.1 C.1.2.1 dX12_wrong_26 rfl (lv_at hl 0 rfl) ?_
  refine mr_getI C hw kc_12 29 (by decide) tf_821 wd_2129 dX12_wrong_27 (by decide) rfl ?_
  refine lv_aload_n C.1.1 C.1.2.1 dX12_wrong_30 rfl (lv_at hl 0 rfl) ?_
  refine mr_getI C hw kc_12 2 (by decide) tf_821 wd_2102 dX12_wrong_31 (by decide) rfl ?_
  obtain ⟨q5, hD⟩ := g_ck hD
  obtain ⟨M6, eM6, hD⟩ := g_let hD
  refine mr_iast C hw (by decide) tf_847 q5 dX12_wrong_34 (fun H locs hw => ?_)
  replace hw : mw_W G ad NF TF FF M6 L H locs := by rw [eM6]; exact hw
  refine lv_aload_n C.1.1 C.1.2.1 dX12_wrong_35 rfl (lv_at hl 0 rfl) ?_
  refine lv_dup C.1.1 C.1.2.1 dX12_wrong_36 rfl ?_
  refine mr_getI C hw kc_12 29 (by decide) tf_821 wd_2129 dX12_wrong_37 (by decide) rfl ?_
  refine lv_iconst (v := 1) C.1.1 C.1.2.1 dX12_wrong_40 (by decide) ?_
  refine lv_iadd C.1.1 C.1.2.1 dX12_wrong_41 ?_
  obtain ⟨M7, eM7, hD⟩ := g_let hD
  refine mr_putI C hw kc_12 29 (by decide) tf_821 wd_2129 dX12_wrong_42 (by decide) rfl rfl rfl rfl (fun H locs hw => ?_)
  replace hw : mw_W G ad NF TF FF M7 L H locs := by rw [eM7]; exact hw
  refine lv_aload_n C.1.1 C.1.2.1 dX12_wrong_45 rfl (lv_at hl 0 rfl) ?_
  refine mr_getR C hw kc_12 14 (by decide) tf_821 ff_821_14 wd_2114 dX12_wrong_46 (by decide) rfl ?_
  refine lv_iload_n C.1.1 C.1.2.1 dX12_wrong_49 rfl (lv_at hl 1 rfl) ?_
  refine lv_iconst (v := 3) C.1.1 C.1.2.1 dX12_wrong_50 (by decide) ?_
  obtain ⟨q8, hD⟩ := g_ck hD
  obtain ⟨M9, eM9, hD⟩ := g_let hD
  refine mr_iast C hw (by decide) tf_831 q8 dX12_wrong_51 (fun H locs hw => ?_)
  replace hw : mw_W G ad NF TF FF M9 L H locs := by rw [eM9]; exact hw
  refine lv_aload_n C.1.1 C.1.2.1 dX12_wrong_52 rfl (lv_at hl 0 rfl) ?_
  refine mr_getR C hw kc_12 15 (by decide) tf_821 ff_821_15 wd_2115 dX12_wrong_53 (by decide) rfl ?_
  refine lv_iload_n C.1.1 C.1.2.1 dX12_wrong_56 rfl (lv_at hl 1 rfl) ?_
  refine lv_bipush (v := 6) C.1.1 C.1.2.1 dX12_wrong_57 (by decide) ?_
  obtain ⟨q10, hD⟩ := g_ck hD
  obtain ⟨M11, eM11, hD⟩ := g_let hD
  refine mr_iast C hw (by decide) tf_832 q10 dX12_wrong_59 (fun H locs hw => ?_)
  replace hw : mw_W G ad NF TF FF M11 L H locs := by rw [eM11]; exact hw
  exact mr_vret C hr hlocks hw (Option.some.inj hD) dX12_wrong_60

theorem dX12_go_0 : decode cX12_go 0 = .ok (.aload_n 0, 1) := by decide +kernel
theorem dX12_go_1 : decode cX12_go 1 = .ok (.getfield 43, 3) := by decide +kernel
theorem dX12_go_4 : decode cX12_go 4 = .ok (.iload_n 1, 1) := by decide +kernel
theorem dX12_go_5 : decode cX12_go 5 = .ok (.iload_n 2, 1) := by decide +kernel
theorem dX12_go_6 : decode cX12_go 6 = .ok (.iastore, 1) := by decide +kernel
theorem dX12_go_7 : decode cX12_go 7 = .ok (.aload_n 0, 1) := by decide +kernel
theorem dX12_go_8 : decode cX12_go 8 = .ok (.getfield 46, 3) := by decide +kernel
theorem dX12_go_11 : decode cX12_go 11 = .ok (.iload_n 1, 1) := by decide +kernel
theorem dX12_go_12 : decode cX12_go 12 = .ok (.iload_n 3, 1) := by decide +kernel
theorem dX12_go_13 : decode cX12_go 13 = .ok (.iastore, 1) := by decide +kernel
theorem dX12_go_14 : decode cX12_go 14 = .ok (.return_, 1) := by decide +kernel
theorem cwX12_go : mw_cwV yX12_go cX12_go 4 (none) 3 := ⟨⟨wd_15, wd_3755, by decide +kernel⟩, wd_3754, sl_254⟩
noncomputable def DX12_go (fu : Nat) (a1 : Int32) (a2 : Int32) (a3 : Int32) (M : mwM) (L : mwL) : Option (mwM × mwL) :=
  mck a1 32 (mlet (mset M 831 (a1.toNatClampNeg) a2) (fun M2 => mck a1 32 (mlet (mset M2 832 (a1.toNatClampNeg) a3) (fun M4 => some (M4, L)))))
set_option maxHeartbeats 4000000 in
set_option maxRecDepth 100000 in
theorem tX12_go (l : Launch) (G : mwG) (ad : Nat → Nat) (fu : Nat) (a1 : Int32) (a2 : Int32) (a3 : Int32) (M : mwM) (L : mwL) {M0 : mwM} {L0 : mwL} (hD : DX12_go fu a1 a2 a3 M L = some (M0, L0)) : Met l yX12_go (Cond.code yX12_go cX12_go 4 (none) :: GT) ({ frames := 0, cells := 0, slots := 0, locals := 0 }) (mw_Pre G ad NF TF FF M L [.ref (ad 821), .int a1, .int a2, .int a3]) (mw_Qv G ad NF TF FF (mw_eqV M0 L0)) 0 0 (mw_fr G) := by
  refine mw_enter (by decide) (Nat.le_of_ble_eq_true rfl) ?_
  intro p e s m below meth c ls C hr hlocks hnm hw hl
  have hl : lv_has ls 4 [(0, .ref (ad 821)), (1, .int a1), (2, .int a2), (3, .int a3)] := hl
  unfold DX12_go at hD
  refine lv_aload_n C.1.1 C.1.2.1 dX12_go_0 rfl (lv_at hl 0 rfl) ?_
  refine mr_getR C hw kc_12 14 (by decide) tf_821 ff_821_14 wd_2114 dX12_go_1 (by decide) rfl ?_
  refine lv_iload_n C.1.1 C.1.2.1 dX12_go_4 rfl (lv_at hl 1 rfl) ?_
  refine lv_iload_n C.1.1 C.1.2.1 dX12_go_5 rfl (lv_at hl 2 rfl) ?_
  obtain ⟨q1, hD⟩ := g_ck hD
  obtain ⟨M2, eM2, hD⟩ := g_let hD
  refine mr_iast C hw (by decide) tf_831 q1 dX12_go_6 (fun H locs hw => ?_)
  replace hw : mw_W G ad NF TF FF M2 L H locs := by rw [eM2]; exact hw
  refine lv_aload_n C.1.1 C.1.2.1 dX12_go_7 rfl (lv_at hl 0 rfl) ?_
  refine mr_getR C hw kc_12 15 (by decide) tf_821 ff_821_15 wd_2115 dX12_go_8 (by decide) rfl ?_
  refine lv_iload_n C.1.1 C.1.2.1 dX12_go_11 rfl (lv_at hl 1 rfl) ?_
  refine lv_iload_n C.1.1 C.1.2.1 dX12_go_12 rfl (lv_at hl 3 rfl) ?_
  obtain ⟨q3, hD⟩ := g_ck hD
  obtain ⟨M4, eM4, hD⟩ := g_let hD
  refine mr_iast C hw (by decide) tf_832 q3 dX12_go_13 (fun H locs hw => ?_)
  replace hw : mw_W G ad NF TF FF M4 L H locs := by rw [eM4]; exact hw
  exact mr_vret C hr hlocks hw (Option.some.inj hD) dX12_go_14

theorem dX12_sent_0 : decode cX12_sent 0 = .ok (.aload_n 0, 1) := by decide +kernel
theorem dX12_sent_1 : decode cX12_sent 1 = .ok (.getfield 49, 3) := by decide +kernel
theorem dX12_sent_4 : decode cX12_sent 4 = .ok (.iload_n 1, 1) := by decide +kernel
theorem dX12_sent_5 : decode cX12_sent 5 = .ok (.iaload, 1) := by decide +kernel
theorem dX12_sent_6 : decode cX12_sent 6 = .ok (.istore_n 3, 1) := by decide +kernel
theorem dX12_sent_7 : decode cX12_sent 7 = .ok (.aload_n 0, 1) := by decide +kernel
theorem dX12_sent_8 : decode cX12_sent 8 = .ok (.iload_n 3, 1) := by decide +kernel
theorem dX12_sent_9 : decode cX12_sent 9 = .ok (.invokevirtual 200, 3) := by decide +kernel
theorem dX12_sent_12 : decode cX12_sent 12 = .ok (.aload_n 0, 1) := by decide +kernel
theorem dX12_sent_13 : decode cX12_sent 13 = .ok (.getfield 58, 3) := by decide +kernel
theorem dX12_sent_16 : decode cX12_sent 16 = .ok (.iload_n 1, 1) := by decide +kernel
theorem dX12_sent_17 : decode cX12_sent 17 = .ok (.iaload, 1) := by decide +kernel
theorem dX12_sent_18 : decode cX12_sent 18 = .ok (.istore 4, 2) := by decide +kernel
theorem dX12_sent_20 : decode cX12_sent 20 = .ok (.aload_n 0, 1) := by decide +kernel
theorem dX12_sent_21 : decode cX12_sent 21 = .ok (.iload_n 1, 1) := by decide +kernel
theorem dX12_sent_22 : decode cX12_sent 22 = .ok (.iload_n 2, 1) := by decide +kernel
theorem dX12_sent_23 : decode cX12_sent 23 = .ok (.invokevirtual 257, 3) := by decide +kernel
theorem dX12_sent_26 : decode cX12_sent 26 = .ok (.iload 4, 2) := by decide +kernel
theorem dX12_sent_28 : decode cX12_sent 28 = .ok (.aload_n 0, 1) := by decide +kernel
theorem dX12_sent_29 : decode cX12_sent 29 = .ok (.getfield 187, 3) := by decide +kernel
theorem dX12_sent_32 : decode cX12_sent 32 = .ok (.if_icmp .ge 32, 3) := by decide +kernel
theorem dX12_sent_35 : decode cX12_sent 35 = .ok (.aload_n 0, 1) := by decide +kernel
theorem dX12_sent_36 : decode cX12_sent 36 = .ok (.getfield 102, 3) := by decide +kernel
theorem dX12_sent_39 : decode cX12_sent 39 = .ok (.iload 4, 2) := by decide +kernel
theorem dX12_sent_41 : decode cX12_sent 41 = .ok (.baload, 1) := by decide +kernel
theorem dX12_sent_42 : decode cX12_sent 42 = .ok (.ifCond .ne 22, 3) := by decide +kernel
theorem dX12_sent_45 : decode cX12_sent 45 = .ok (.aload_n 0, 1) := by decide +kernel
theorem dX12_sent_46 : decode cX12_sent 46 = .ok (.getfield 99, 3) := by decide +kernel
theorem dX12_sent_49 : decode cX12_sent 49 = .ok (.iload 4, 2) := by decide +kernel
theorem dX12_sent_51 : decode cX12_sent 51 = .ok (.baload, 1) := by decide +kernel
theorem dX12_sent_52 : decode cX12_sent 52 = .ok (.iconst 1, 1) := by decide +kernel
theorem dX12_sent_53 : decode cX12_sent 53 = .ok (.if_icmp .ne 11, 3) := by decide +kernel
theorem dX12_sent_56 : decode cX12_sent 56 = .ok (.iload_n 2, 1) := by decide +kernel
theorem dX12_sent_57 : decode cX12_sent 57 = .ok (.ifCond .ne 7, 3) := by decide +kernel
theorem dX12_sent_60 : decode cX12_sent 60 = .ok (.iconst 1, 1) := by decide +kernel
theorem dX12_sent_61 : decode cX12_sent 61 = .ok (.goto 4, 3) := by decide +kernel
theorem dX12_sent_64 : decode cX12_sent 64 = .ok (.iconst 0, 1) := by decide +kernel
theorem dX12_sent_65 : decode cX12_sent 65 = .ok (.istore 5, 2) := by decide +kernel
theorem dX12_sent_67 : decode cX12_sent 67 = .ok (.iload 4, 2) := by decide +kernel
theorem dX12_sent_69 : decode cX12_sent 69 = .ok (.aload_n 0, 1) := by decide +kernel
theorem dX12_sent_70 : decode cX12_sent 70 = .ok (.getfield 163, 3) := by decide +kernel
theorem dX12_sent_73 : decode cX12_sent 73 = .ok (.bipush 9, 2) := by decide +kernel
theorem dX12_sent_75 : decode cX12_sent 75 = .ok (.isub, 1) := by decide +kernel
theorem dX12_sent_76 : decode cX12_sent 76 = .ok (.if_icmp .ne 7, 3) := by decide +kernel
theorem dX12_sent_79 : decode cX12_sent 79 = .ok (.iconst 1, 1) := by decide +kernel
theorem dX12_sent_80 : decode cX12_sent 80 = .ok (.goto 4, 3) := by decide +kernel
theorem dX12_sent_83 : decode cX12_sent 83 = .ok (.iconst 0, 1) := by decide +kernel
theorem dX12_sent_84 : decode cX12_sent 84 = .ok (.istore 6, 2) := by decide +kernel
theorem dX12_sent_86 : decode cX12_sent 86 = .ok (.iload 5, 2) := by decide +kernel
theorem dX12_sent_88 : decode cX12_sent 88 = .ok (.ifCond .eq 13, 3) := by decide +kernel
theorem dX12_sent_91 : decode cX12_sent 91 = .ok (.aload_n 0, 1) := by decide +kernel
theorem dX12_sent_92 : decode cX12_sent 92 = .ok (.getfield 43, 3) := by decide +kernel
theorem dX12_sent_95 : decode cX12_sent 95 = .ok (.iload_n 1, 1) := by decide +kernel
theorem dX12_sent_96 : decode cX12_sent 96 = .ok (.iconst 2, 1) := by decide +kernel
theorem dX12_sent_97 : decode cX12_sent 97 = .ok (.iastore, 1) := by decide +kernel
theorem dX12_sent_98 : decode cX12_sent 98 = .ok (.goto 104, 3) := by decide +kernel
theorem dX12_sent_101 : decode cX12_sent 101 = .ok (.iload 6, 2) := by decide +kernel
theorem dX12_sent_103 : decode cX12_sent 103 = .ok (.ifCond .eq 11, 3) := by decide +kernel
theorem dX12_sent_106 : decode cX12_sent 106 = .ok (.iload_n 2, 1) := by decide +kernel
theorem dX12_sent_107 : decode cX12_sent 107 = .ok (.iconst 1, 1) := by decide +kernel
theorem dX12_sent_108 : decode cX12_sent 108 = .ok (.if_icmp .ne 35, 3) := by decide +kernel
theorem dX12_sent_111 : decode cX12_sent 111 = .ok (.goto 14, 3) := by decide +kernel
theorem dX12_sent_114 : decode cX12_sent 114 = .ok (.iload_n 2, 1) := by decide +kernel
theorem dX12_sent_115 : decode cX12_sent 115 = .ok (.aload_n 0, 1) := by decide +kernel
theorem dX12_sent_116 : decode cX12_sent 116 = .ok (.getfield 99, 3) := by decide +kernel
theorem dX12_sent_119 : decode cX12_sent 119 = .ok (.iload 4, 2) := by decide +kernel
theorem dX12_sent_121 : decode cX12_sent 121 = .ok (.baload, 1) := by decide +kernel
theorem dX12_sent_122 : decode cX12_sent 122 = .ok (.if_icmp .eq 21, 3) := by decide +kernel
theorem dX12_sent_125 : decode cX12_sent 125 = .ok (.aload_n 0, 1) := by decide +kernel
theorem dX12_sent_126 : decode cX12_sent 126 = .ok (.iload_n 1, 1) := by decide +kernel
theorem dX12_sent_127 : decode cX12_sent 127 = .ok (.iload 6, 2) := by decide +kernel
theorem dX12_sent_129 : decode cX12_sent 129 = .ok (.ifCond .eq 7, 3) := by decide +kernel
theorem dX12_sent_132 : decode cX12_sent 132 = .ok (.iconst 4, 1) := by decide +kernel
theorem dX12_sent_133 : decode cX12_sent 133 = .ok (.goto 4, 3) := by decide +kernel
theorem dX12_sent_136 : decode cX12_sent 136 = .ok (.iconst 0, 1) := by decide +kernel
theorem dX12_sent_137 : decode cX12_sent 137 = .ok (.invokevirtual 270, 3) := by decide +kernel
theorem dX12_sent_140 : decode cX12_sent 140 = .ok (.goto 62, 3) := by decide +kernel
theorem dX12_sent_143 : decode cX12_sent 143 = .ok (.iload 4, 2) := by decide +kernel
theorem dX12_sent_145 : decode cX12_sent 145 = .ok (.aload_n 0, 1) := by decide +kernel
theorem dX12_sent_146 : decode cX12_sent 146 = .ok (.getfield 163, 3) := by decide +kernel
theorem dX12_sent_149 : decode cX12_sent 149 = .ok (.iconst 1, 1) := by decide +kernel
theorem dX12_sent_150 : decode cX12_sent 150 = .ok (.isub, 1) := by decide +kernel
theorem dX12_sent_151 : decode cX12_sent 151 = .ok (.if_icmp .ne 51, 3) := by decide +kernel
theorem dX12_sent_154 : decode cX12_sent 154 = .ok (.aload_n 0, 1) := by decide +kernel
theorem dX12_sent_155 : decode cX12_sent 155 = .ok (.getfield 33, 3) := by decide +kernel
theorem dX12_sent_158 : decode cX12_sent 158 = .ok (.iload_n 3, 1) := by decide +kernel
theorem dX12_sent_159 : decode cX12_sent 159 = .ok (.iconst 1, 1) := by decide +kernel
theorem dX12_sent_160 : decode cX12_sent 160 = .ok (.bastore, 1) := by decide +kernel
theorem dX12_sent_161 : decode cX12_sent 161 = .ok (.aload_n 0, 1) := by decide +kernel
theorem dX12_sent_162 : decode cX12_sent 162 = .ok (.getfield 37, 3) := by decide +kernel
theorem dX12_sent_165 : decode cX12_sent 165 = .ok (.aload_n 0, 1) := by decide +kernel
theorem dX12_sent_166 : decode cX12_sent 166 = .ok (.getfield 129, 3) := by decide +kernel
theorem dX12_sent_169 : decode cX12_sent 169 = .ok (.iload_n 3, 1) := by decide +kernel
theorem dX12_sent_170 : decode cX12_sent 170 = .ok (.iastore, 1) := by decide +kernel
theorem dX12_sent_171 : decode cX12_sent 171 = .ok (.aload_n 0, 1) := by decide +kernel
theorem dX12_sent_172 : decode cX12_sent 172 = .ok (.getfield 40, 3) := by decide +kernel
theorem dX12_sent_175 : decode cX12_sent 175 = .ok (.aload_n 0, 1) := by decide +kernel
theorem dX12_sent_176 : decode cX12_sent 176 = .ok (.getfield 129, 3) := by decide +kernel
theorem dX12_sent_179 : decode cX12_sent 179 = .ok (.aload_n 0, 1) := by decide +kernel
theorem dX12_sent_180 : decode cX12_sent 180 = .ok (.getfield 123, 3) := by decide +kernel
theorem dX12_sent_183 : decode cX12_sent 183 = .ok (.iastore, 1) := by decide +kernel
theorem dX12_sent_184 : decode cX12_sent 184 = .ok (.aload_n 0, 1) := by decide +kernel
theorem dX12_sent_185 : decode cX12_sent 185 = .ok (.dup, 1) := by decide +kernel
theorem dX12_sent_186 : decode cX12_sent 186 = .ok (.getfield 129, 3) := by decide +kernel
theorem dX12_sent_189 : decode cX12_sent 189 = .ok (.iconst 1, 1) := by decide +kernel
theorem dX12_sent_190 : decode cX12_sent 190 = .ok (.iadd, 1) := by decide +kernel
theorem dX12_sent_191 : decode cX12_sent 191 = .ok (.putfield 129, 3) := by decide +kernel
theorem dX12_sent_194 : decode cX12_sent 194 = .ok (.aload_n 0, 1) := by decide +kernel
theorem dX12_sent_195 : decode cX12_sent 195 = .ok (.iload_n 1, 1) := by decide +kernel
theorem dX12_sent_196 : decode cX12_sent 196 = .ok (.bipush 6, 2) := by decide +kernel
theorem dX12_sent_198 : decode cX12_sent 198 = .ok (.iconst 3, 1) := by decide +kernel
theorem dX12_sent_199 : decode cX12_sent 199 = .ok (.invokevirtual 266, 3) := by decide +kernel
theorem dX12_sent_202 : decode cX12_sent 202 = .ok (.return_, 1) := by decide +kernel
theorem cwX12_sent : mw_cwV yX12_sent cX12_sent 7 (none) 2 := ⟨⟨wd_15, wd_3743, by decide +kernel⟩, wd_3742, sl_251⟩
noncomputable def fX12_sent_b202 (fu : Nat) (a1 : Int32) (a2 : Int32) (M : mwM) (L : mwL) : Option (mwM × mwL) :=
  some (M, L)
noncomputable def fX12_sent_b143 (fu : Nat) (a1 : Int32) (a2 : Int32) (v3 : Int32) (v4 : Int32) (M : mwM) (L : mwL) : Option (mwM × mwL) :=
  (if v4 = ((M 821 37) - 1) then mck v3 200 (mlet (mset M 828 (v3.toNatClampNeg) (vp_nar .boolean 1)) (fun M14 => mck (M14 821 11) 200 (mlet (mset M14 829 ((M14 821 11).toNatClampNeg) v3) (fun M16 => mck (M16 821 11) 200 (mlet (mset M16 830 ((M16 821 11).toNatClampNeg) (M16 821 2)) (fun M18 => mlet (mset M18 821 11 ((M18 821 11) + 1)) (fun M19 => mb2 (DX12_go fu a1 6 3 M19 L) (fun M20 L21 => fX12_sent_b202 fu a1 a2 M20 L21)))))))) else fX12_sent_b202 fu a1 a2 M L)
noncomputable def fX12_sent_b137 (fu : Nat) (a1 : Int32) (a2 : Int32) (s2 : Int32) (M : mwM) (L : mwL) : Option (mwM × mwL) :=
  mb2 (DX12_wrong fu a1 s2 M L) (fun M10 L11 => fX12_sent_b202 fu a1 a2 M10 L11)
noncomputable def fX12_sent_b125 (fu : Nat) (a1 : Int32) (a2 : Int32) (v6 : Int32) (M : mwM) (L : mwL) : Option (mwM × mwL) :=
  (if v6 = 0 then fX12_sent_b137 fu a1 a2 0 M L else fX12_sent_b137 fu a1 a2 4 M L)
noncomputable def fX12_sent_b84 (fu : Nat) (a1 : Int32) (a2 : Int32) (v3 : Int32) (v4 : Int32) (v5 : Int32) (s0 : Int32) (M : mwM) (L : mwL) : Option (mwM × mwL) :=
  (if v5 = 0 then (if s0 = 0 then mck v4 1200 ((if a2 = (M 849 v4.toNatClampNeg) then fX12_sent_b143 fu a1 a2 v3 v4 M L else fX12_sent_b125 fu a1 a2 s0 M L)) else (if a2 = 1 then fX12_sent_b125 fu a1 a2 s0 M L else fX12_sent_b143 fu a1 a2 v3 v4 M L)) else mck a1 32 (mlet (mset M 831 (a1.toNatClampNeg) 2) (fun M8 => fX12_sent_b202 fu a1 a2 M8 L)))
noncomputable def fX12_sent_b65 (fu : Nat) (a1 : Int32) (a2 : Int32) (v3 : Int32) (v4 : Int32) (s0 : Int32) (M : mwM) (L : mwL) : Option (mwM × mwL) :=
  (if v4 = ((M 821 37) - 9) then fX12_sent_b84 fu a1 a2 v3 v4 s0 1 M L else fX12_sent_b84 fu a1 a2 v3 v4 s0 0 M L)
noncomputable def fX12_sent_b64 (fu : Nat) (a1 : Int32) (a2 : Int32) (v3 : Int32) (v4 : Int32) (M : mwM) (L : mwL) : Option (mwM × mwL) :=
  fX12_sent_b65 fu a1 a2 v3 v4 0 M L
noncomputable def DX12_sent (fu : Nat) (a1 : Int32) (a2 : Int32) (M : mwM) (L : mwL) : Option (mwM × mwL) :=
  mck a1 32 (mlet (M 833 a1.toNatClampNeg) (fun x23 => mb2 (DX12_write fu x23 M L) (fun M24 L25 => mck a1 32 (mlet (M24 836 a1.toNatClampNeg) (fun x27 => mb2 (DX12_see fu a1 a2 M24 L25) (fun M28 L29 => (if (M28 821 38) ≤ x27 then fX12_sent_b64 fu a1 a2 x23 x27 M28 L29 else mck x27 1200 ((if (M28 850 x27.toNatClampNeg) = 0 then mck x27 1200 ((if (M28 849 x27.toNatClampNeg) = 1 then (if a2 = 0 then fX12_sent_b65 fu a1 a2 x23 x27 1 M28 L29 else fX12_sent_b64 fu a1 a2 x23 x27 M28 L29) else fX12_sent_b64 fu a1 a2 x23 x27 M28 L29)) else fX12_sent_b64 fu a1 a2 x23 x27 M28 L29)))))))))
set_option maxHeartbeats 4000000 in
set_option maxRecDepth 100000 in
theorem tX12_sent (l : Launch) (G : mwG) (ad : Nat → Nat) (fu : Nat) (a1 : Int32) (a2 : Int32) (M : mwM) (L : mwL) {M0 : mwM} {L0 : mwL} (hD : DX12_sent fu a1 a2 M L = some (M0, L0)) : Met l yX12_sent (Cond.code yX12_sent cX12_sent 7 (none) :: GT) ({ frames := 4, cells := 0, slots := 0, locals := 99 }) (mw_Pre G ad NF TF FF M L [.ref (ad 821), .int a1, .int a2]) (mw_Qv G ad NF TF FF (mw_eqV M0 L0)) 0 0 (mw_fr G) := by
  refine mw_enter (by decide) (Nat.le_of_ble_eq_true rfl) ?_
  intro p e s m below meth c ls C hr hlocks hnm hw hl
  have hl : lv_has ls 7 [(0, .ref (ad 821)), (1, .int a1), (2, .int a2)] := hl
  have hb202 : ∀ (M : mwM) (L : mwL) (H : Heap) (locs : List Loc) (ls : Array Slot), fX12_sent_b202 fu a1 a2 M L = some (M0, L0) → mw_W G ad NF TF FF M L H locs → lv_has ls 7 [] → W p l e ({ frames := 4, cells := 0, slots := 0, locals := 99 }) s m [.ref (ad 821), .int a1, .int a2].toArray below meth c H locs 0 0 (MQ below (mw_Qv G ad NF TF FF (mw_eqV M0 L0)) [.ref (ad 821), .int a1, .int a2].toArray s 0 0 (mw_fr G)) (F0 m 202 ls []) := by
    intro M L H locs ls hD hw hl
    unfold fX12_sent_b202 at hD
    exact mr_vret C hr hlocks hw (Option.some.inj hD) dX12_sent_202
  have hb143 : ∀ (v3 : Int32) (v4 : Int32) (M : mwM) (L : mwL) (H : Heap) (locs : List Loc) (ls : Array Slot), fX12_sent_b143 fu a1 a2 v3 v4 M L = some (M0, L0) → mw_W G ad NF TF FF M L H locs → lv_has ls 7 [(0, .ref (ad 821)), (1, .int a1), (3, .int v3), (4, .int v4)] → W p l e ({ frames := 4, cells := 0, slots := 0, locals := 99 }) s m [.ref (ad 821), .int a1, .int a2].toArray below meth c H locs 0 0 (MQ below (mw_Qv G ad NF TF FF (mw_eqV M0 L0)) [.ref (ad 821), .int a1, .int a2].toArray s 0 0 (mw_fr G)) (F0 m 143 ls []) := by
    intro v3 v4 M L H locs ls hD hw hl
    unfold fX12_sent_b143 at hD
    refine lv_iload C.1.1 C.1.2.1 dX12_sent_143 (lv_at hl 3 rfl) ?_
    refine lv_aload_n C.1.1 C.1.2.1 dX12_sent_145 rfl (lv_at hl 0 rfl) ?_
    refine mr_getI C hw kc_12 37 (by decide) tf_821 wd_2137 dX12_sent_146 (by decide) rfl ?_
    refine lv_iconst (v := 1) C.1.1 C.1.2.1 dX12_sent_149 (by decide) ?_
    refine lv_isub C.1.1 C.1.2.1 dX12_sent_150 ?_
    refine lv_icmp_ne (tgt := 202) C.1.1 C.1.2.1 dX12_sent_151 (by decide) (fun c12 => ?_) (fun c12 => ?_)
    · replace hD := g_neg c12 hD
      exact hb202 M L _ _ ls hD hw (lv_sub hl [] rfl)
    · replace hD := g_pos c12 hD
      refine lv_aload_n C.1.1 C.1.2.1 dX12_sent_154 rfl (lv_at hl 0 rfl) ?_
      refine mr_getR C hw kc_12 10 (by decide) tf_821 ff_821_10 wd_2110 dX12_sent_155 (by decide) rfl ?_
      refine lv_iload_n C.1.1 C.1.2.1 dX12_sent_158 rfl (lv_at hl 2 rfl) ?_
      refine lv_iconst (v := 1) C.1.1 C.1.2.1 dX12_sent_159 (by decide) ?_
      obtain ⟨q13, hD⟩ := g_ck hD
      obtain ⟨M14, eM14, hD⟩ := g_let hD
      refine mr_zast C hw (by decide) tf_828 q13 dX12_sent_160 (fun H locs hw => ?_)
      replace hw : mw_W G ad NF TF FF M14 L H locs := by rw [eM14]; exact hw
      refine lv_aload_n C.1.1 C.1.2.1 dX12_sent_161 rfl (lv_at hl 0 rfl) ?_
      refine mr_getR C hw kc_12 12 (by decide) tf_821 ff_821_12 wd_2112 dX12_sent_162 (by decide) rfl ?_
      refine lv_aload_n C.1.1 C.1.2.1 dX12_sent_165 rfl (lv_at hl 0 rfl) ?_
      refine mr_getI C hw kc_12 11 (by decide) tf_821 wd_2111 dX12_sent_166 (by decide) rfl ?_
      refine lv_iload_n C.1.1 C.1.2.1 dX12_sent_169 rfl (lv_at hl 2 rfl) ?_
      obtain ⟨q15, hD⟩ := g_ck hD
      obtain ⟨M16, eM16, hD⟩ := g_let hD
      refine mr_iast C hw (by decide) tf_829 q15 dX12_sent_170 (fun H locs hw => ?_)
      replace hw : mw_W G ad NF TF FF M16 L H locs := by rw [eM16]; exact hw
      refine lv_aload_n C.1.1 C.1.2.1 dX12_sent_171 rfl (lv_at hl 0 rfl) ?_
      refine mr_getR C hw kc_12 13 (by decide) tf_821 ff_821_13 wd_2113 dX12_sent_172 (by decide) rfl ?_
      refine lv_aload_n C.1.1 C.1.2.1 dX12_sent_175 rfl (lv_at hl 0 rfl) ?_
      refine mr_getI C hw kc_12 11 (by decide) tf_821 wd_2111 dX12_sent_176 (by decide) rfl ?_
      refine lv_aload_n C.1.1 C.1.2.1 dX12_sent_179 rfl (lv_at hl 0 rfl) ?_
      refine mr_getI C hw kc_12 2 (by decide) tf_821 wd_2102 dX12_sent_180 (by decide) rfl ?_
      obtain ⟨q17, hD⟩ := g_ck hD
      obtain ⟨M18, eM18, hD⟩ := g_let hD
      refine mr_iast C hw (by decide) tf_830 q17 dX12_sent_183 (fun H locs hw => ?_)
      replace hw : mw_W G ad NF TF FF M18 L H locs := by rw [eM18]; exact hw
      refine lv_aload_n C.1.1 C.1.2.1 dX12_sent_184 rfl (lv_at hl 0 rfl) ?_
      refine lv_dup C.1.1 C.1.2.1 dX12_sent_185 rfl ?_
      refine mr_getI C hw kc_12 11 (by decide) tf_821 wd_2111 dX12_sent_186 (by decide) rfl ?_
      refine lv_iconst (v := 1) C.1.1 C.1.2.1 dX12_sent_189 (by decide) ?_
      refine lv_iadd C.1.1 C.1.2.1 dX12_sent_190 ?_
      obtain ⟨M19, eM19, hD⟩ := g_let hD
      refine mr_putI C hw kc_12 11 (by decide) tf_821 wd_2111 dX12_sent_191 (by decide) rfl rfl rfl rfl (fun H locs hw => ?_)
      replace hw : mw_W G ad NF TF FF M19 L H locs := by rw [eM19]; exact hw
      refine lv_aload_n C.1.1 C.1.2.1 dX12_sent_194 rfl (lv_at hl 0 rfl) ?_
      refine lv_iload_n C.1.1 C.1.2.1 dX12_sent_195 rfl (lv_at hl 1 rfl) ?_
      refine lv_bipush (v := 6) C.1.1 C.1.2.1 dX12_sent_196 (by decide) ?_
      refine lv_iconst (v := 3) C.1.1 C.1.2.1 dX12_sent_198 (by decide) ?_
      obtain ⟨M20, L21, h1, hD⟩ := g_b2 hD
      refine md_cvV (As := [.int a1, .int 6, .int 3]) (rest := []) C hw (tX12_go l G ad fu a1 6 3 M19 L h1) kc_12 (by decide) tf_821 wd_3752 cwX12_go ⟨Nat.le_of_ble_eq_true rfl, Nat.le_of_ble_eq_true rfl⟩ rfl hl.1 (Nat.le_of_ble_eq_true rfl) dX12_sent_199 rfl rfl ⟨Nat.zero_le _, Nat.zero_le _⟩ rfl (fun H locs hw => ?_)
      exact hb202 M20 L21 _ _ ls hD hw (lv_sub hl [] rfl)
  have hb137 : ∀ (s2 : Int32) (M : mwM) (L : mwL) (H : Heap) (locs : List Loc) (ls : Array Slot), fX12_sent_b137 fu a1 a2 s2 M L = some (M0, L0) → mw_W G ad NF TF FF M L H locs → lv_has ls 7 [] → W p l e ({ frames := 4, cells := 0, slots := 0, locals := 99 }) s m [.ref (ad 821), .int a1, .int a2].toArray below meth c H locs 0 0 (MQ below (mw_Qv G ad NF TF FF (mw_eqV M0 L0)) [.ref (ad 821), .int a1, .int a2].toArray s 0 0 (mw_fr G)) (F0 m 137 ls [.int s2, .int a1, .ref (ad 821)]) := by
    intro s2 M L H locs ls hD hw hl
    unfold fX12_sent_b137 at hD
    obtain ⟨M10, L11, h1, hD⟩ := g_b2 hD
    refine md_cvV (As := [.int a1, .int s2]) (rest := []) C hw (tX12_wrong l G ad fu a1 s2 M L h1) kc_12 (by decide) tf_821 wd_3748 cwX12_wrong ⟨Nat.le_of_ble_eq_true rfl, Nat.le_of_ble_eq_true rfl⟩ rfl hl.1 (Nat.le_of_ble_eq_true rfl) dX12_sent_137 rfl rfl ⟨Nat.zero_le _, Nat.zero_le _⟩ rfl (fun H locs hw => ?_)
    refine lv_goto (tgt := 202) C.1.1 C.1.2.1 dX12_sent_140 (by decide) ?_
    exact hb202 M10 L11 _ _ ls hD hw (lv_sub hl [] rfl)
  have hb125 : ∀ (v6 : Int32) (M : mwM) (L : mwL) (H : Heap) (locs : List Loc) (ls : Array Slot), fX12_sent_b125 fu a1 a2 v6 M L = some (M0, L0) → mw_W G ad NF TF FF M L H locs → lv_has ls 7 [(0, .ref (ad 821)), (1, .int a1), (6, .int v6)] → W p l e ({ frames := 4, cells := 0, slots := 0, locals := 99 }) s m [.ref (ad 821), .int a1, .int a2].toArray below meth c H locs 0 0 (MQ below (mw_Qv G ad NF TF FF (mw_eqV M0 L0)) [.ref (ad 821), .int a1, .int a2].toArray s 0 0 (mw_fr G)) (F0 m 125 ls []) := by
    intro v6 M L H locs ls hD hw hl
    unfold fX12_sent_b125 at hD
    refine lv_aload_n C.1.1 C.1.2.1 dX12_sent_125 rfl (lv_at hl 0 rfl) ?_
    refine lv_iload_n C.1.1 C.1.2.1 dX12_sent_126 rfl (lv_at hl 1 rfl) ?_
    refine lv_iload C.1.1 C.1.2.1 dX12_sent_127 (lv_at hl 2 rfl) ?_
    refine lv_if_eq (tgt := 136) C.1.1 C.1.2.1 dX12_sent_129 (by decide) (fun c9 => ?_) (fun c9 => ?_)
    · replace hD := g_pos c9 hD
      refine lv_iconst (v := 0) C.1.1 C.1.2.1 dX12_sent_136 (by decide) ?_
      exact hb137 0 M L _ _ ls hD hw (lv_sub hl [] rfl)
    · replace hD := g_neg c9 hD
      refine lv_iconst (v := 4) C.1.1 C.1.2.1 dX12_sent_132 (by decide) ?_
      refine lv_goto (tgt := 137) C.1.1 C.1.2.1 dX12_sent_133 (by decide) ?_
      exact hb137 4 M L _ _ ls hD hw (lv_sub hl [] rfl)
  have hb84 : ∀ (v3 : Int32) (v4 : Int32) (v5 : Int32) (s0 : Int32) (M : mwM) (L : mwL) (H : Heap) (locs : List Loc) (ls : Array Slot), fX12_sent_b84 fu a1 a2 v3 v4 v5 s0 M L = some (M0, L0) → mw_W G ad NF TF FF M L H locs → lv_has ls 7 [(0, .ref (ad 821)), (1, .int a1), (2, .int a2), (3, .int v3), (4, .int v4), (5, .int v5)] → W p l e ({ frames := 4, cells := 0, slots := 0, locals := 99 }) s m [.ref (ad 821), .int a1, .int a2].toArray below meth c H locs 0 0 (MQ below (mw_Qv G ad NF TF FF (mw_eqV M0 L0)) [.ref (ad 821), .int a1, .int a2].toArray s 0 0 (mw_fr G)) (F0 m 84 ls [.int s0]) := by
    intro v3 v4 v5 s0 M L H locs ls hD hw hl
    unfold fX12_sent_b84 at hD
    refine lv_istore (lv' := [(6, .int s0), (0, .ref (ad 821)), (1, .int a1), (2, .int a2), (3, .int v3), (4, .int v4), (5, .int v5)]) C.1.1 C.1.2.1 dX12_sent_84 hl (by decide) rfl (fun ls hl => ?_)
    refine lv_iload C.1.1 C.1.2.1 dX12_sent_86 (lv_at hl 6 rfl) ?_
    refine lv_if_eq (tgt := 101) C.1.1 C.1.2.1 dX12_sent_88 (by decide) (fun c2 => ?_) (fun c2 => ?_)
    · replace hD := g_pos c2 hD
      refine lv_iload C.1.1 C.1.2.1 dX12_sent_101 (lv_at hl 0 rfl) ?_
      refine lv_if_eq (tgt := 114) C.1.1 C.1.2.1 dX12_sent_103 (by decide) (fun c3 => ?_) (fun c3 => ?_)
      · replace hD := g_pos c3 hD
        refine lv_iload_n C.1.1 C.1.2.1 dX12_sent_114 rfl (lv_at hl 3 rfl) ?_
        refine lv_aload_n C.1.1 C.1.2.1 dX12_sent_115 rfl (lv_at hl 1 rfl) ?_
        refine mr_getR C hw kc_12 35 (by decide) tf_821 ff_821_35 wd_2135 dX12_sent_116 (by decide) rfl ?_
        refine lv_iload C.1.1 C.1.2.1 dX12_sent_119 (lv_at hl 5 rfl) ?_
        obtain ⟨q4, hD⟩ := g_ck hD
        refine mr_bald C hw (by decide) tf_849 q4 dX12_sent_121 ?_
        refine lv_icmp_eq (tgt := 143) C.1.1 C.1.2.1 dX12_sent_122 (by decide) (fun c5 => ?_) (fun c5 => ?_)
        · replace hD := g_pos c5 hD
          exact hb143 v3 v4 M L _ _ ls hD hw (lv_sub hl [1, 2, 4, 5] rfl)
        · replace hD := g_neg c5 hD
          exact hb125 s0 M L _ _ ls hD hw (lv_sub hl [1, 2, 0] rfl)
      · replace hD := g_neg c3 hD
        refine lv_iload_n C.1.1 C.1.2.1 dX12_sent_106 rfl (lv_at hl 3 rfl) ?_
        refine lv_iconst (v := 1) C.1.1 C.1.2.1 dX12_sent_107 (by decide) ?_
        refine lv_icmp_ne (tgt := 143) C.1.1 C.1.2.1 dX12_sent_108 (by decide) (fun c6 => ?_) (fun c6 => ?_)
        · replace hD := g_neg c6 hD
          exact hb143 v3 v4 M L _ _ ls hD hw (lv_sub hl [1, 2, 4, 5] rfl)
        · replace hD := g_pos c6 hD
          refine lv_goto (tgt := 125) C.1.1 C.1.2.1 dX12_sent_111 (by decide) ?_
          exact hb125 s0 M L _ _ ls hD hw (lv_sub hl [1, 2, 0] rfl)
    · replace hD := g_neg c2 hD
      refine lv_aload_n C.1.1 C.1.2.1 dX12_sent_91 rfl (lv_at hl 1 rfl) ?_
      refine mr_getR C hw kc_12 14 (by decide) tf_821 ff_821_14 wd_2114 dX12_sent_92 (by decide) rfl ?_
      refine lv_iload_n C.1.1 C.1.2.1 dX12_sent_95 rfl (lv_at hl 2 rfl) ?_
      refine lv_iconst (v := 2) C.1.1 C.1.2.1 dX12_sent_96 (by decide) ?_
      obtain ⟨q7, hD⟩ := g_ck hD
      obtain ⟨M8, eM8, hD⟩ := g_let hD
      refine mr_iast C hw (by decide) tf_831 q7 dX12_sent_97 (fun H locs hw => ?_)
      replace hw : mw_W G ad NF TF FF M8 L H locs := by rw [eM8]; exact hw
      refine lv_goto (tgt := 202) C.1.1 C.1.2.1 dX12_sent_98 (by decide) ?_
      exact hb202 M8 L _ _ ls hD hw (lv_sub hl [] rfl)
  have hb65 : ∀ (v3 : Int32) (v4 : Int32) (s0 : Int32) (M : mwM) (L : mwL) (H : Heap) (locs : List Loc) (ls : Array Slot), fX12_sent_b65 fu a1 a2 v3 v4 s0 M L = some (M0, L0) → mw_W G ad NF TF FF M L H locs → lv_has ls 7 [(0, .ref (ad 821)), (1, .int a1), (2, .int a2), (3, .int v3), (4, .int v4)] → W p l e ({ frames := 4, cells := 0, slots := 0, locals := 99 }) s m [.ref (ad 821), .int a1, .int a2].toArray below meth c H locs 0 0 (MQ below (mw_Qv G ad NF TF FF (mw_eqV M0 L0)) [.ref (ad 821), .int a1, .int a2].toArray s 0 0 (mw_fr G)) (F0 m 65 ls [.int s0]) := by
    intro v3 v4 s0 M L H locs ls hD hw hl
    unfold fX12_sent_b65 at hD
    refine lv_istore (lv' := [(5, .int s0), (0, .ref (ad 821)), (1, .int a1), (2, .int a2), (3, .int v3), (4, .int v4)]) C.1.1 C.1.2.1 dX12_sent_65 hl (by decide) rfl (fun ls hl => ?_)
    refine lv_iload C.1.1 C.1.2.1 dX12_sent_67 (lv_at hl 5 rfl) ?_
    refine lv_aload_n C.1.1 C.1.2.1 dX12_sent_69 rfl (lv_at hl 1 rfl) ?_
    refine mr_getI C hw kc_12 37 (by decide) tf_821 wd_2137 dX12_sent_70 (by decide) rfl ?_
    refine lv_bipush (v := 9) C.1.1 C.1.2.1 dX12_sent_73 (by decide) ?_
    refine lv_isub C.1.1 C.1.2.1 dX12_sent_75 ?_
    refine lv_icmp_ne (tgt := 83) C.1.1 C.1.2.1 dX12_sent_76 (by decide) (fun c1 => ?_) (fun c1 => ?_)
    · replace hD := g_neg c1 hD
      refine lv_iconst (v := 0) C.1.1 C.1.2.1 dX12_sent_83 (by decide) ?_
      exact hb84 v3 v4 s0 0 M L _ _ ls hD hw (lv_sub hl [1, 2, 3, 4, 5, 0] rfl)
    · replace hD := g_pos c1 hD
      refine lv_iconst (v := 1) C.1.1 C.1.2.1 dX12_sent_79 (by decide) ?_
      refine lv_goto (tgt := 84) C.1.1 C.1.2.1 dX12_sent_80 (by decide) ?_
      exact hb84 v3 v4 s0 1 M L _ _ ls hD hw (lv_sub hl [1, 2, 3, 4, 5, 0] rfl)
  have hb64 : ∀ (v3 : Int32) (v4 : Int32) (M : mwM) (L : mwL) (H : Heap) (locs : List Loc) (ls : Array Slot), fX12_sent_b64 fu a1 a2 v3 v4 M L = some (M0, L0) → mw_W G ad NF TF FF M L H locs → lv_has ls 7 [(0, .ref (ad 821)), (1, .int a1), (2, .int a2), (3, .int v3), (4, .int v4)] → W p l e ({ frames := 4, cells := 0, slots := 0, locals := 99 }) s m [.ref (ad 821), .int a1, .int a2].toArray below meth c H locs 0 0 (MQ below (mw_Qv G ad NF TF FF (mw_eqV M0 L0)) [.ref (ad 821), .int a1, .int a2].toArray s 0 0 (mw_fr G)) (F0 m 64 ls []) := by
    intro v3 v4 M L H locs ls hD hw hl
    unfold fX12_sent_b64 at hD
    refine lv_iconst (v := 0) C.1.1 C.1.2.1 dX12_sent_64 (by decide) ?_
    exact hb65 v3 v4 0 M L _ _ ls hD hw (lv_sub hl [0, 1, 2, 3, 4] rfl)
  unfold DX12_sent at hD
  refine lv_aload_n C.1.1 C.1.2.1 dX12_sent_0 rfl (lv_at hl 0 rfl) ?_
  refine mr_getR C hw kc_12 16 (by decide) tf_821 ff_821_16 wd_2116 dX12_sent_1 (by decide) rfl ?_
  refine lv_iload_n C.1.1 C.1.2.1 dX12_sent_4 rfl (lv_at hl 1 rfl) ?_
  obtain ⟨q22, hD⟩ := g_ck hD
  refine mr_iald C hw (by decide) tf_833 q22 dX12_sent_5 ?_
  obtain ⟨x23, ex23, hD⟩ := g_let hD
  refine W.eq (g2 := F0 m 6 ls (.int x23 :: [])) (by rw [ex23]) ?_
  refine lv_istore_n (lv' := [(3, .int x23), (0, .ref (ad 821)), (1, .int a1), (2, .int a2)]) C.1.1 C.1.2.1 dX12_sent_6 rfl hl (by decide) rfl (fun ls hl => ?_)
  refine lv_aload_n C.1.1 C.1.2.1 dX12_sent_7 rfl (lv_at hl 1 rfl) ?_
  refine lv_iload_n C.1.1 C.1.2.1 dX12_sent_8 rfl (lv_at hl 0 rfl) ?_
  obtain ⟨M24, L25, h1, hD⟩ := g_b2 hD
  refine md_cvV (As := [.int x23]) (rest := []) C hw (tX12_write l G ad fu x23 M L h1) kc_12 (by decide) tf_821 wd_3663 cwX12_write ⟨Nat.le_of_ble_eq_true rfl, Nat.le_of_ble_eq_true rfl⟩ rfl hl.1 (Nat.le_of_ble_eq_true rfl) dX12_sent_9 rfl rfl ⟨Nat.zero_le _, Nat.zero_le _⟩ rfl (fun H locs hw => ?_)
  refine lv_aload_n C.1.1 C.1.2.1 dX12_sent_12 rfl (lv_at hl 1 rfl) ?_
  refine mr_getR C hw kc_12 19 (by decide) tf_821 ff_821_19 wd_2119 dX12_sent_13 (by decide) rfl ?_
  refine lv_iload_n C.1.1 C.1.2.1 dX12_sent_16 rfl (lv_at hl 2 rfl) ?_
  obtain ⟨q26, hD⟩ := g_ck hD
  refine mr_iald C hw (by decide) tf_836 q26 dX12_sent_17 ?_
  obtain ⟨x27, ex27, hD⟩ := g_let hD
  refine W.eq (g2 := F0 m 18 ls (.int x27 :: [])) (by rw [ex27]) ?_
  refine lv_istore (lv' := [(4, .int x27), (3, .int x23), (0, .ref (ad 821)), (1, .int a1), (2, .int a2)]) C.1.1 C.1.2.1 dX12_sent_18 hl (by decide) rfl (fun ls hl => ?_)
  refine lv_aload_n C.1.1 C.1.2.1 dX12_sent_20 rfl (lv_at hl 2 rfl) ?_
  refine lv_iload_n C.1.1 C.1.2.1 dX12_sent_21 rfl (lv_at hl 3 rfl) ?_
  refine lv_iload_n C.1.1 C.1.2.1 dX12_sent_22 rfl (lv_at hl 4 rfl) ?_
  obtain ⟨M28, L29, h1, hD⟩ := g_b2 hD
  refine md_cvV (As := [.int a1, .int a2]) (rest := []) C hw (tX12_see l G ad fu a1 a2 M24 L25 h1) kc_12 (by decide) tf_821 wd_3744 cwX12_see ⟨Nat.le_of_ble_eq_true rfl, Nat.le_of_ble_eq_true rfl⟩ rfl hl.1 (Nat.le_of_ble_eq_true rfl) dX12_sent_23 rfl rfl ⟨Nat.zero_le _, Nat.zero_le _⟩ rfl (fun H locs hw => ?_)
  refine lv_iload C.1.1 C.1.2.1 dX12_sent_26 (lv_at hl 0 rfl) ?_
  refine lv_aload_n C.1.1 C.1.2.1 dX12_sent_28 rfl (lv_at hl 2 rfl) ?_
  refine mr_getI C hw kc_12 38 (by decide) tf_821 wd_2138 dX12_sent_29 (by decide) rfl ?_
  refine lv_icmp_ge (tgt := 64) C.1.1 C.1.2.1 dX12_sent_32 (by decide) (fun c30 => ?_) (fun c30 => ?_)
  · replace hD := g_pos c30 hD
    exact hb64 x23 x27 M28 L29 _ _ ls hD hw (lv_sub hl [2, 3, 4, 1, 0] rfl)
  · replace hD := g_neg c30 hD
    refine lv_aload_n C.1.1 C.1.2.1 dX12_sent_35 rfl (lv_at hl 2 rfl) ?_
    refine mr_getR C hw kc_12 36 (by decide) tf_821 ff_821_36 wd_2136 dX12_sent_36 (by decide) rfl ?_
    refine lv_iload C.1.1 C.1.2.1 dX12_sent_39 (lv_at hl 0 rfl) ?_
    obtain ⟨q31, hD⟩ := g_ck hD
    refine mr_zald C hw (by decide) tf_850 q31 dX12_sent_41 ?_
    refine lv_if_ne (tgt := 64) C.1.1 C.1.2.1 dX12_sent_42 (by decide) (fun c32 => ?_) (fun c32 => ?_)
    · replace hD := g_neg c32 hD
      exact hb64 x23 x27 M28 L29 _ _ ls hD hw (lv_sub hl [2, 3, 4, 1, 0] rfl)
    · replace hD := g_pos c32 hD
      refine lv_aload_n C.1.1 C.1.2.1 dX12_sent_45 rfl (lv_at hl 2 rfl) ?_
      refine mr_getR C hw kc_12 35 (by decide) tf_821 ff_821_35 wd_2135 dX12_sent_46 (by decide) rfl ?_
      refine lv_iload C.1.1 C.1.2.1 dX12_sent_49 (lv_at hl 0 rfl) ?_
      obtain ⟨q33, hD⟩ := g_ck hD
      refine mr_bald C hw (by decide) tf_849 q33 dX12_sent_51 ?_
      refine lv_iconst (v := 1) C.1.1 C.1.2.1 dX12_sent_52 (by decide) ?_
      refine lv_icmp_ne (tgt := 64) C.1.1 C.1.2.1 dX12_sent_53 (by decide) (fun c34 => ?_) (fun c34 => ?_)
      · replace hD := g_neg c34 hD
        exact hb64 x23 x27 M28 L29 _ _ ls hD hw (lv_sub hl [2, 3, 4, 1, 0] rfl)
      · replace hD := g_pos c34 hD
        refine lv_iload_n C.1.1 C.1.2.1 dX12_sent_56 rfl (lv_at hl 4 rfl) ?_
        refine lv_if_ne (tgt := 64) C.1.1 C.1.2.1 dX12_sent_57 (by decide) (fun c35 => ?_) (fun c35 => ?_)
        · replace hD := g_neg c35 hD
          exact hb64 x23 x27 M28 L29 _ _ ls hD hw (lv_sub hl [2, 3, 4, 1, 0] rfl)
        · replace hD := g_pos c35 hD
          refine lv_iconst (v := 1) C.1.1 C.1.2.1 dX12_sent_60 (by decide) ?_
          refine lv_goto (tgt := 65) C.1.1 C.1.2.1 dX12_sent_61 (by decide) ?_
          exact hb65 x23 x27 1 M28 L29 _ _ ls hD hw (lv_sub hl [2, 3, 4, 1, 0] rfl)

theorem dX12_pauses_0 : decode cX12_pauses 0 = .ok (.iload_n 2, 1) := by decide +kernel
theorem dX12_pauses_1 : decode cX12_pauses 1 = .ok (.ifCond .ne 21, 3) := by decide +kernel
theorem dX12_pauses_4 : decode cX12_pauses 4 = .ok (.aload_n 0, 1) := by decide +kernel
theorem dX12_pauses_5 : decode cX12_pauses 5 = .ok (.getfield 46, 3) := by decide +kernel
theorem dX12_pauses_8 : decode cX12_pauses 8 = .ok (.iload_n 1, 1) := by decide +kernel
theorem dX12_pauses_9 : decode cX12_pauses 9 = .ok (.iaload, 1) := by decide +kernel
theorem dX12_pauses_10 : decode cX12_pauses 10 = .ok (.ifCond .le 12, 3) := by decide +kernel
theorem dX12_pauses_13 : decode cX12_pauses 13 = .ok (.aload_n 0, 1) := by decide +kernel
theorem dX12_pauses_14 : decode cX12_pauses 14 = .ok (.iload_n 1, 1) := by decide +kernel
theorem dX12_pauses_15 : decode cX12_pauses 15 = .ok (.iconst 5, 1) := by decide +kernel
theorem dX12_pauses_16 : decode cX12_pauses 16 = .ok (.invokevirtual 270, 3) := by decide +kernel
theorem dX12_pauses_19 : decode cX12_pauses 19 = .ok (.goto 71, 3) := by decide +kernel
theorem dX12_pauses_22 : decode cX12_pauses 22 = .ok (.iload_n 2, 1) := by decide +kernel
theorem dX12_pauses_23 : decode cX12_pauses 23 = .ok (.ifCond .ne 51, 3) := by decide +kernel
theorem dX12_pauses_26 : decode cX12_pauses 26 = .ok (.aload_n 0, 1) := by decide +kernel
theorem dX12_pauses_27 : decode cX12_pauses 27 = .ok (.getfield 58, 3) := by decide +kernel
theorem dX12_pauses_30 : decode cX12_pauses 30 = .ok (.iload_n 1, 1) := by decide +kernel
theorem dX12_pauses_31 : decode cX12_pauses 31 = .ok (.iconst 0, 1) := by decide +kernel
theorem dX12_pauses_32 : decode cX12_pauses 32 = .ok (.iastore, 1) := by decide +kernel
theorem dX12_pauses_33 : decode cX12_pauses 33 = .ok (.aload_n 0, 1) := by decide +kernel
theorem dX12_pauses_34 : decode cX12_pauses 34 = .ok (.iload_n 1, 1) := by decide +kernel
theorem dX12_pauses_35 : decode cX12_pauses 35 = .ok (.iconst 0, 1) := by decide +kernel
theorem dX12_pauses_36 : decode cX12_pauses 36 = .ok (.invokevirtual 257, 3) := by decide +kernel
theorem dX12_pauses_39 : decode cX12_pauses 39 = .ok (.aload_n 0, 1) := by decide +kernel
theorem dX12_pauses_40 : decode cX12_pauses 40 = .ok (.getfield 49, 3) := by decide +kernel
theorem dX12_pauses_43 : decode cX12_pauses 43 = .ok (.iload_n 1, 1) := by decide +kernel
theorem dX12_pauses_44 : decode cX12_pauses 44 = .ok (.aload_n 0, 1) := by decide +kernel
theorem dX12_pauses_45 : decode cX12_pauses 45 = .ok (.iload_n 1, 1) := by decide +kernel
theorem dX12_pauses_46 : decode cX12_pauses 46 = .ok (.invokevirtual 248, 3) := by decide +kernel
theorem dX12_pauses_49 : decode cX12_pauses 49 = .ok (.iastore, 1) := by decide +kernel
theorem dX12_pauses_50 : decode cX12_pauses 50 = .ok (.aload_n 0, 1) := by decide +kernel
theorem dX12_pauses_51 : decode cX12_pauses 51 = .ok (.getfield 43, 3) := by decide +kernel
theorem dX12_pauses_54 : decode cX12_pauses 54 = .ok (.iload_n 1, 1) := by decide +kernel
theorem dX12_pauses_55 : decode cX12_pauses 55 = .ok (.aload_n 0, 1) := by decide +kernel
theorem dX12_pauses_56 : decode cX12_pauses 56 = .ok (.getfield 49, 3) := by decide +kernel
theorem dX12_pauses_59 : decode cX12_pauses 59 = .ok (.iload_n 1, 1) := by decide +kernel
theorem dX12_pauses_60 : decode cX12_pauses 60 = .ok (.iaload, 1) := by decide +kernel
theorem dX12_pauses_61 : decode cX12_pauses 61 = .ok (.iconst (-1), 1) := by decide +kernel
theorem dX12_pauses_62 : decode cX12_pauses 62 = .ok (.if_icmp .ne 7, 3) := by decide +kernel
theorem dX12_pauses_65 : decode cX12_pauses 65 = .ok (.iconst 2, 1) := by decide +kernel
theorem dX12_pauses_66 : decode cX12_pauses 66 = .ok (.goto 4, 3) := by decide +kernel
theorem dX12_pauses_69 : decode cX12_pauses 69 = .ok (.iconst 1, 1) := by decide +kernel
theorem dX12_pauses_70 : decode cX12_pauses 70 = .ok (.iastore, 1) := by decide +kernel
theorem dX12_pauses_71 : decode cX12_pauses 71 = .ok (.goto 19, 3) := by decide +kernel
theorem dX12_pauses_74 : decode cX12_pauses 74 = .ok (.aload_n 0, 1) := by decide +kernel
theorem dX12_pauses_75 : decode cX12_pauses 75 = .ok (.getfield 46, 3) := by decide +kernel
theorem dX12_pauses_78 : decode cX12_pauses 78 = .ok (.iload_n 1, 1) := by decide +kernel
theorem dX12_pauses_79 : decode cX12_pauses 79 = .ok (.iaload, 1) := by decide +kernel
theorem dX12_pauses_80 : decode cX12_pauses 80 = .ok (.ifCond .ne 10, 3) := by decide +kernel
theorem dX12_pauses_83 : decode cX12_pauses 83 = .ok (.aload_n 0, 1) := by decide +kernel
theorem dX12_pauses_84 : decode cX12_pauses 84 = .ok (.getfield 43, 3) := by decide +kernel
theorem dX12_pauses_87 : decode cX12_pauses 87 = .ok (.iload_n 1, 1) := by decide +kernel
theorem dX12_pauses_88 : decode cX12_pauses 88 = .ok (.iconst 0, 1) := by decide +kernel
theorem dX12_pauses_89 : decode cX12_pauses 89 = .ok (.iastore, 1) := by decide +kernel
theorem dX12_pauses_90 : decode cX12_pauses 90 = .ok (.return_, 1) := by decide +kernel
theorem cwX12_pauses : mw_cwV yX12_pauses cX12_pauses 3 (none) 2 := ⟨⟨wd_15, wd_3767, by decide +kernel⟩, wd_3766, sl_257⟩
noncomputable def fX12_pauses_b90 (fu : Nat) (a1 : Int32) (a2 : Int32) (M : mwM) (L : mwL) : Option (mwM × mwL) :=
  some (M, L)
noncomputable def fX12_pauses_b70 (fu : Nat) (a1 : Int32) (a2 : Int32) (s2 : Int32) (M : mwM) (L : mwL) : Option (mwM × mwL) :=
  mck a1 32 (mlet (mset M 831 (a1.toNatClampNeg) s2) (fun M18 => fX12_pauses_b90 fu a1 a2 M18 L))
noncomputable def fX12_pauses_b22 (fu : Nat) (a1 : Int32) (a2 : Int32) (M : mwM) (L : mwL) : Option (mwM × mwL) :=
  (if a2 = 0 then mck a1 32 (mlet (mset M 836 (a1.toNatClampNeg) 0) (fun M7 => mb2 (DX12_see fu a1 0 M7 L) (fun M8 L9 => mb3 (DX12_first fu a1 M8 L9) (fun r12 M10 L11 => mck a1 32 (mlet (mset M10 833 (a1.toNatClampNeg) r12) (fun M14 => mck a1 32 ((if (M14 833 a1.toNatClampNeg) = ((-1)) then fX12_pauses_b70 fu a1 a2 2 M14 L11 else fX12_pauses_b70 fu a1 a2 1 M14 L11)))))))) else mck a1 32 ((if (M 832 a1.toNatClampNeg) = 0 then mck a1 32 (mlet (mset M 831 (a1.toNatClampNeg) 0) (fun M5 => fX12_pauses_b90 fu a1 a2 M5 L)) else fX12_pauses_b90 fu a1 a2 M L)))
noncomputable def DX12_pauses (fu : Nat) (a1 : Int32) (a2 : Int32) (M : mwM) (L : mwL) : Option (mwM × mwL) :=
  (if a2 = 0 then mck a1 32 ((if (M 832 a1.toNatClampNeg) ≤ 0 then fX12_pauses_b22 fu a1 a2 M L else mb2 (DX12_wrong fu a1 5 M L) (fun M22 L23 => fX12_pauses_b90 fu a1 a2 M22 L23))) else fX12_pauses_b22 fu a1 a2 M L)
set_option maxHeartbeats 4000000 in
set_option maxRecDepth 100000 in
theorem tX12_pauses (l : Launch) (G : mwG) (ad : Nat → Nat) (fu : Nat) (a1 : Int32) (a2 : Int32) (M : mwM) (L : mwL) {M0 : mwM} {L0 : mwL} (hD : DX12_pauses fu a1 a2 M L = some (M0, L0)) : Met l yX12_pauses (Cond.code yX12_pauses cX12_pauses 3 (none) :: GT) ({ frames := 3, cells := 0, slots := 0, locals := 75 }) (mw_Pre G ad NF TF FF M L [.ref (ad 821), .int a1, .int a2]) (mw_Qv G ad NF TF FF (mw_eqV M0 L0)) 0 0 (mw_fr G) := by
  refine mw_enter (by decide) (Nat.le_of_ble_eq_true rfl) ?_
  intro p e s m below meth c ls C hr hlocks hnm hw hl
  have hl : lv_has ls 3 [(0, .ref (ad 821)), (1, .int a1), (2, .int a2)] := hl
  have hb90 : ∀ (M : mwM) (L : mwL) (H : Heap) (locs : List Loc) (ls : Array Slot), fX12_pauses_b90 fu a1 a2 M L = some (M0, L0) → mw_W G ad NF TF FF M L H locs → lv_has ls 3 [] → W p l e ({ frames := 3, cells := 0, slots := 0, locals := 75 }) s m [.ref (ad 821), .int a1, .int a2].toArray below meth c H locs 0 0 (MQ below (mw_Qv G ad NF TF FF (mw_eqV M0 L0)) [.ref (ad 821), .int a1, .int a2].toArray s 0 0 (mw_fr G)) (F0 m 90 ls []) := by
    intro M L H locs ls hD hw hl
    unfold fX12_pauses_b90 at hD
    exact mr_vret C hr hlocks hw (Option.some.inj hD) dX12_pauses_90
  have hb70 : ∀ (s2 : Int32) (M : mwM) (L : mwL) (H : Heap) (locs : List Loc) (ls : Array Slot), fX12_pauses_b70 fu a1 a2 s2 M L = some (M0, L0) → mw_W G ad NF TF FF M L H locs → lv_has ls 3 [] → W p l e ({ frames := 3, cells := 0, slots := 0, locals := 75 }) s m [.ref (ad 821), .int a1, .int a2].toArray below meth c H locs 0 0 (MQ below (mw_Qv G ad NF TF FF (mw_eqV M0 L0)) [.ref (ad 821), .int a1, .int a2].toArray s 0 0 (mw_fr G)) (F0 m 70 ls [.int s2, .int a1, .ref (ad 831)]) := by
    intro s2 M L H locs ls hD hw hl
    unfold fX12_pauses_b70 at hD
    obtain ⟨q17, hD⟩ := g_ck hD
    obtain ⟨M18, eM18, hD⟩ := g_let hD
    refine mr_iast C hw (by decide) tf_831 q17 dX12_pauses_70 (fun H locs hw => ?_)
    replace hw : mw_W G ad NF TF FF M18 L H locs := by rw [eM18]; exact hw
    refine lv_goto (tgt := 90) C.1.1 C.1.2.1 dX12_pauses_71 (by decide) ?_
    exact hb90 M18 L _ _ ls hD hw (lv_sub hl [] rfl)
  have hb22 : ∀ (M : mwM) (L : mwL) (H : Heap) (locs : List Loc) (ls : Array Slot), fX12_pauses_b22 fu a1 a2 M L = some (M0, L0) → mw_W G ad NF TF FF M L H locs → lv_has ls 3 [(0, .ref (ad 821)), (1, .int a1), (2, .int a2)] → W p l e ({ frames := 3, cells := 0, slots := 0, locals := 75 }) s m [.ref (ad 821), .int a1, .int a2].toArray below meth c H locs 0 0 (MQ below (mw_Qv G ad NF TF FF (mw_eqV M0 L0)) [.ref (ad 821), .int a1, .int a2].toArray s 0 0 (mw_fr G)) (F0 m 22 ls []) := by
    intro M L H locs ls hD hw hl
    unfold fX12_pauses_b22 at hD
    refine lv_iload_n C.1.1 C.1.2.1 dX12_pauses_22 rfl (lv_at hl 2 rfl) ?_
    refine lv_if_ne (tgt := 74) C.1.1 C.1.2.1 dX12_pauses_23 (by decide) (fun c1 => ?_) (fun c1 => ?_)
    · replace hD := g_neg c1 hD
      refine lv_aload_n C.1.1 C.1.2.1 dX12_pauses_74 rfl (lv_at hl 0 rfl) ?_
      refine mr_getR C hw kc_12 15 (by decide) tf_821 ff_821_15 wd_2115 dX12_pauses_75 (by decide) rfl ?_
      refine lv_iload_n C.1.1 C.1.2.1 dX12_pauses_78 rfl (lv_at hl 1 rfl) ?_
      obtain ⟨q2, hD⟩ := g_ck hD
      refine mr_iald C hw (by decide) tf_832 q2 dX12_pauses_79 ?_
      refine lv_if_ne (tgt := 90) C.1.1 C.1.2.1 dX12_pauses_80 (by decide) (fun c3 => ?_) (fun c3 => ?_)
      · replace hD := g_neg c3 hD
        exact hb90 M L _ _ ls hD hw (lv_sub hl [] rfl)
      · replace hD := g_pos c3 hD
        refine lv_aload_n C.1.1 C.1.2.1 dX12_pauses_83 rfl (lv_at hl 0 rfl) ?_
        refine mr_getR C hw kc_12 14 (by decide) tf_821 ff_821_14 wd_2114 dX12_pauses_84 (by decide) rfl ?_
        refine lv_iload_n C.1.1 C.1.2.1 dX12_pauses_87 rfl (lv_at hl 1 rfl) ?_
        refine lv_iconst (v := 0) C.1.1 C.1.2.1 dX12_pauses_88 (by decide) ?_
        obtain ⟨q4, hD⟩ := g_ck hD
        obtain ⟨M5, eM5, hD⟩ := g_let hD
        refine mr_iast C hw (by decide) tf_831 q4 dX12_pauses_89 (fun H locs hw => ?_)
        replace hw : mw_W G ad NF TF FF M5 L H locs := by rw [eM5]; exact hw
        exact hb90 M5 L _ _ ls hD hw (lv_sub hl [] rfl)
    · replace hD := g_pos c1 hD
      refine lv_aload_n C.1.1 C.1.2.1 dX12_pauses_26 rfl (lv_at hl 0 rfl) ?_
      refine mr_getR C hw kc_12 19 (by decide) tf_821 ff_821_19 wd_2119 dX12_pauses_27 (by decide) rfl ?_
      refine lv_iload_n C.1.1 C.1.2.1 dX12_pauses_30 rfl (lv_at hl 1 rfl) ?_
      refine lv_iconst (v := 0) C.1.1 C.1.2.1 dX12_pauses_31 (by decide) ?_
      obtain ⟨q6, hD⟩ := g_ck hD
      obtain ⟨M7, eM7, hD⟩ := g_let hD
      refine mr_iast C hw (by decide) tf_836 q6 dX12_pauses_32 (fun H locs hw => ?_)
      replace hw : mw_W G ad NF TF FF M7 L H locs := by rw [eM7]; exact hw
      refine lv_aload_n C.1.1 C.1.2.1 dX12_pauses_33 rfl (lv_at hl 0 rfl) ?_
      refine lv_iload_n C.1.1 C.1.2.1 dX12_pauses_34 rfl (lv_at hl 1 rfl) ?_
      refine lv_iconst (v := 0) C.1.1 C.1.2.1 dX12_pauses_35 (by decide) ?_
      obtain ⟨M8, L9, h1, hD⟩ := g_b2 hD
      refine md_cvV (As := [.int a1, .int 0]) (rest := []) C hw (tX12_see l G ad fu a1 0 M7 L h1) kc_12 (by decide) tf_821 wd_3744 cwX12_see ⟨Nat.le_of_ble_eq_true rfl, Nat.le_of_ble_eq_true rfl⟩ rfl hl.1 (Nat.le_of_ble_eq_true rfl) dX12_pauses_36 rfl rfl ⟨Nat.zero_le _, Nat.zero_le _⟩ rfl (fun H locs hw => ?_)
      refine lv_aload_n C.1.1 C.1.2.1 dX12_pauses_39 rfl (lv_at hl 0 rfl) ?_
      refine mr_getR C hw kc_12 16 (by decide) tf_821 ff_821_16 wd_2116 dX12_pauses_40 (by decide) rfl ?_
      refine lv_iload_n C.1.1 C.1.2.1 dX12_pauses_43 rfl (lv_at hl 1 rfl) ?_
      refine lv_aload_n C.1.1 C.1.2.1 dX12_pauses_44 rfl (lv_at hl 0 rfl) ?_
      refine lv_iload_n C.1.1 C.1.2.1 dX12_pauses_45 rfl (lv_at hl 1 rfl) ?_
      obtain ⟨r12, M10, L11, h1, hD⟩ := g_b3 hD
      refine md_cvI (As := [.int a1]) (rest := [.int a1, .ref (ad 833)]) C hw (tX12_first l G ad fu a1 M8 L9 h1) kc_12 (by decide) tf_821 wd_3650 cwX12_first ⟨Nat.le_of_ble_eq_true rfl, Nat.le_of_ble_eq_true rfl⟩ rfl hl.1 (Nat.le_of_ble_eq_true rfl) dX12_pauses_46 rfl rfl ⟨Nat.zero_le _, Nat.zero_le _⟩ rfl (fun H locs hw => ?_)
      obtain ⟨q13, hD⟩ := g_ck hD
      obtain ⟨M14, eM14, hD⟩ := g_let hD
      refine mr_iast C hw (by decide) tf_833 q13 dX12_pauses_49 (fun H locs hw => ?_)
      replace hw : mw_W G ad NF TF FF M14 L11 H locs := by rw [eM14]; exact hw
      refine lv_aload_n C.1.1 C.1.2.1 dX12_pauses_50 rfl (lv_at hl 0 rfl) ?_
      refine mr_getR C hw kc_12 14 (by decide) tf_821 ff_821_14 wd_2114 dX12_pauses_51 (by decide) rfl ?_
      refine lv_iload_n C.1.1 C.1.2.1 dX12_pauses_54 rfl (lv_at hl 1 rfl) ?_
      refine lv_aload_n C.1.1 C.1.2.1 dX12_pauses_55 rfl (lv_at hl 0 rfl) ?_
      refine mr_getR C hw kc_12 16 (by decide) tf_821 ff_821_16 wd_2116 dX12_pauses_56 (by decide) rfl ?_
      refine lv_iload_n C.1.1 C.1.2.1 dX12_pauses_59 rfl (lv_at hl 1 rfl) ?_
      obtain ⟨q15, hD⟩ := g_ck hD
      refine mr_iald C hw (by decide) tf_833 q15 dX12_pauses_60 ?_
      refine lv_iconst (v := (-1)) C.1.1 C.1.2.1 dX12_pauses_61 (by decide) ?_
      refine lv_icmp_ne (tgt := 69) C.1.1 C.1.2.1 dX12_pauses_62 (by decide) (fun c16 => ?_) (fun c16 => ?_)
      · replace hD := g_neg c16 hD
        refine lv_iconst (v := 1) C.1.1 C.1.2.1 dX12_pauses_69 (by decide) ?_
        exact hb70 1 M14 L11 _ _ ls hD hw (lv_sub hl [] rfl)
      · replace hD := g_pos c16 hD
        refine lv_iconst (v := 2) C.1.1 C.1.2.1 dX12_pauses_65 (by decide) ?_
        refine lv_goto (tgt := 70) C.1.1 C.1.2.1 dX12_pauses_66 (by decide) ?_
        exact hb70 2 M14 L11 _ _ ls hD hw (lv_sub hl [] rfl)
  unfold DX12_pauses at hD
  refine lv_iload_n C.1.1 C.1.2.1 dX12_pauses_0 rfl (lv_at hl 2 rfl) ?_
  refine lv_if_ne (tgt := 22) C.1.1 C.1.2.1 dX12_pauses_1 (by decide) (fun c19 => ?_) (fun c19 => ?_)
  · replace hD := g_neg c19 hD
    exact hb22 M L _ _ ls hD hw (lv_sub hl [0, 1, 2] rfl)
  · replace hD := g_pos c19 hD
    refine lv_aload_n C.1.1 C.1.2.1 dX12_pauses_4 rfl (lv_at hl 0 rfl) ?_
    refine mr_getR C hw kc_12 15 (by decide) tf_821 ff_821_15 wd_2115 dX12_pauses_5 (by decide) rfl ?_
    refine lv_iload_n C.1.1 C.1.2.1 dX12_pauses_8 rfl (lv_at hl 1 rfl) ?_
    obtain ⟨q20, hD⟩ := g_ck hD
    refine mr_iald C hw (by decide) tf_832 q20 dX12_pauses_9 ?_
    refine lv_if_le (tgt := 22) C.1.1 C.1.2.1 dX12_pauses_10 (by decide) (fun c21 => ?_) (fun c21 => ?_)
    · replace hD := g_pos c21 hD
      exact hb22 M L _ _ ls hD hw (lv_sub hl [0, 1, 2] rfl)
    · replace hD := g_neg c21 hD
      refine lv_aload_n C.1.1 C.1.2.1 dX12_pauses_13 rfl (lv_at hl 0 rfl) ?_
      refine lv_iload_n C.1.1 C.1.2.1 dX12_pauses_14 rfl (lv_at hl 1 rfl) ?_
      refine lv_iconst (v := 5) C.1.1 C.1.2.1 dX12_pauses_15 (by decide) ?_
      obtain ⟨M22, L23, h1, hD⟩ := g_b2 hD
      refine md_cvV (As := [.int a1, .int 5]) (rest := []) C hw (tX12_wrong l G ad fu a1 5 M L h1) kc_12 (by decide) tf_821 wd_3748 cwX12_wrong ⟨Nat.le_of_ble_eq_true rfl, Nat.le_of_ble_eq_true rfl⟩ rfl hl.1 (Nat.le_of_ble_eq_true rfl) dX12_pauses_16 rfl rfl ⟨Nat.zero_le _, Nat.zero_le _⟩ rfl (fun H locs hw => ?_)
      refine lv_goto (tgt := 90) C.1.1 C.1.2.1 dX12_pauses_19 (by decide) ?_
      exact hb90 M22 L23 _ _ ls hD hw (lv_sub hl [] rfl)

theorem dX12_sees_0 : decode cX12_sees 0 = .ok (.aload_n 0, 1) := by decide +kernel
theorem dX12_sees_1 : decode cX12_sees 1 = .ok (.getfield 43, 3) := by decide +kernel
theorem dX12_sees_4 : decode cX12_sees 4 = .ok (.iload_n 1, 1) := by decide +kernel
theorem dX12_sees_5 : decode cX12_sees 5 = .ok (.iaload, 1) := by decide +kernel
theorem dX12_sees_6 : decode cX12_sees 6 = .ok (.ifCond .ne 50, 3) := by decide +kernel
theorem dX12_sees_9 : decode cX12_sees 9 = .ok (.aload_n 0, 1) := by decide +kernel
theorem dX12_sees_10 : decode cX12_sees 10 = .ok (.getfield 58, 3) := by decide +kernel
theorem dX12_sees_13 : decode cX12_sees 13 = .ok (.iload_n 1, 1) := by decide +kernel
theorem dX12_sees_14 : decode cX12_sees 14 = .ok (.iconst 0, 1) := by decide +kernel
theorem dX12_sees_15 : decode cX12_sees 15 = .ok (.iastore, 1) := by decide +kernel
theorem dX12_sees_16 : decode cX12_sees 16 = .ok (.aload_n 0, 1) := by decide +kernel
theorem dX12_sees_17 : decode cX12_sees 17 = .ok (.iload_n 1, 1) := by decide +kernel
theorem dX12_sees_18 : decode cX12_sees 18 = .ok (.invokevirtual 248, 3) := by decide +kernel
theorem dX12_sees_21 : decode cX12_sees 21 = .ok (.istore_n 3, 1) := by decide +kernel
theorem dX12_sees_22 : decode cX12_sees 22 = .ok (.iload_n 3, 1) := by decide +kernel
theorem dX12_sees_23 : decode cX12_sees 23 = .ok (.iconst (-1), 1) := by decide +kernel
theorem dX12_sees_24 : decode cX12_sees 24 = .ok (.if_icmp .ne 9, 3) := by decide +kernel
theorem dX12_sees_27 : decode cX12_sees 27 = .ok (.iload_n 2, 1) := by decide +kernel
theorem dX12_sees_28 : decode cX12_sees 28 = .ok (.iconst 1, 1) := by decide +kernel
theorem dX12_sees_29 : decode cX12_sees 29 = .ok (.if_icmp .ne 4, 3) := by decide +kernel
theorem dX12_sees_32 : decode cX12_sees 32 = .ok (.return_, 1) := by decide +kernel
theorem dX12_sees_33 : decode cX12_sees 33 = .ok (.aload_n 0, 1) := by decide +kernel
theorem dX12_sees_34 : decode cX12_sees 34 = .ok (.getfield 43, 3) := by decide +kernel
theorem dX12_sees_37 : decode cX12_sees 37 = .ok (.iload_n 1, 1) := by decide +kernel
theorem dX12_sees_38 : decode cX12_sees 38 = .ok (.iload_n 3, 1) := by decide +kernel
theorem dX12_sees_39 : decode cX12_sees 39 = .ok (.iconst (-1), 1) := by decide +kernel
theorem dX12_sees_40 : decode cX12_sees 40 = .ok (.if_icmp .ne 7, 3) := by decide +kernel
theorem dX12_sees_43 : decode cX12_sees 43 = .ok (.iconst 2, 1) := by decide +kernel
theorem dX12_sees_44 : decode cX12_sees 44 = .ok (.goto 4, 3) := by decide +kernel
theorem dX12_sees_47 : decode cX12_sees 47 = .ok (.iconst 1, 1) := by decide +kernel
theorem dX12_sees_48 : decode cX12_sees 48 = .ok (.iastore, 1) := by decide +kernel
theorem dX12_sees_49 : decode cX12_sees 49 = .ok (.aload_n 0, 1) := by decide +kernel
theorem dX12_sees_50 : decode cX12_sees 50 = .ok (.getfield 49, 3) := by decide +kernel
theorem dX12_sees_53 : decode cX12_sees 53 = .ok (.iload_n 1, 1) := by decide +kernel
theorem dX12_sees_54 : decode cX12_sees 54 = .ok (.iload_n 3, 1) := by decide +kernel
theorem dX12_sees_55 : decode cX12_sees 55 = .ok (.iastore, 1) := by decide +kernel
theorem dX12_sees_56 : decode cX12_sees 56 = .ok (.aload_n 0, 1) := by decide +kernel
theorem dX12_sees_57 : decode cX12_sees 57 = .ok (.getfield 43, 3) := by decide +kernel
theorem dX12_sees_60 : decode cX12_sees 60 = .ok (.iload_n 1, 1) := by decide +kernel
theorem dX12_sees_61 : decode cX12_sees 61 = .ok (.iaload, 1) := by decide +kernel
theorem dX12_sees_62 : decode cX12_sees 62 = .ok (.iconst 1, 1) := by decide +kernel
theorem dX12_sees_63 : decode cX12_sees 63 = .ok (.if_icmp .ne 12, 3) := by decide +kernel
theorem dX12_sees_66 : decode cX12_sees 66 = .ok (.aload_n 0, 1) := by decide +kernel
theorem dX12_sees_67 : decode cX12_sees 67 = .ok (.iload_n 1, 1) := by decide +kernel
theorem dX12_sees_68 : decode cX12_sees 68 = .ok (.iload_n 2, 1) := by decide +kernel
theorem dX12_sees_69 : decode cX12_sees 69 = .ok (.invokevirtual 254, 3) := by decide +kernel
theorem dX12_sees_72 : decode cX12_sees 72 = .ok (.goto 222, 3) := by decide +kernel
theorem dX12_sees_75 : decode cX12_sees 75 = .ok (.aload_n 0, 1) := by decide +kernel
theorem dX12_sees_76 : decode cX12_sees 76 = .ok (.getfield 43, 3) := by decide +kernel
theorem dX12_sees_79 : decode cX12_sees 79 = .ok (.iload_n 1, 1) := by decide +kernel
theorem dX12_sees_80 : decode cX12_sees 80 = .ok (.iaload, 1) := by decide +kernel
theorem dX12_sees_81 : decode cX12_sees 81 = .ok (.iconst 2, 1) := by decide +kernel
theorem dX12_sees_82 : decode cX12_sees 82 = .ok (.if_icmp .ne 60, 3) := by decide +kernel
theorem dX12_sees_85 : decode cX12_sees 85 = .ok (.aload_n 0, 1) := by decide +kernel
theorem dX12_sees_86 : decode cX12_sees 86 = .ok (.iload_n 1, 1) := by decide +kernel
theorem dX12_sees_87 : decode cX12_sees 87 = .ok (.iload_n 2, 1) := by decide +kernel
theorem dX12_sees_88 : decode cX12_sees 88 = .ok (.invokevirtual 257, 3) := by decide +kernel
theorem dX12_sees_91 : decode cX12_sees 91 = .ok (.aload_n 0, 1) := by decide +kernel
theorem dX12_sees_92 : decode cX12_sees 92 = .ok (.iload_n 1, 1) := by decide +kernel
theorem dX12_sees_93 : decode cX12_sees 93 = .ok (.invokevirtual 260, 3) := by decide +kernel
theorem dX12_sees_96 : decode cX12_sees 96 = .ok (.istore_n 3, 1) := by decide +kernel
theorem dX12_sees_97 : decode cX12_sees 97 = .ok (.iload_n 3, 1) := by decide +kernel
theorem dX12_sees_98 : decode cX12_sees 98 = .ok (.bipush 10, 2) := by decide +kernel
theorem dX12_sees_100 : decode cX12_sees 100 = .ok (.if_icmp .ne 11, 3) := by decide +kernel
theorem dX12_sees_103 : decode cX12_sees 103 = .ok (.aload_n 0, 1) := by decide +kernel
theorem dX12_sees_104 : decode cX12_sees 104 = .ok (.iload_n 1, 1) := by decide +kernel
theorem dX12_sees_105 : decode cX12_sees 105 = .ok (.invokevirtual 263, 3) := by decide +kernel
theorem dX12_sees_108 : decode cX12_sees 108 = .ok (.goto 31, 3) := by decide +kernel
theorem dX12_sees_111 : decode cX12_sees 111 = .ok (.iload_n 3, 1) := by decide +kernel
theorem dX12_sees_112 : decode cX12_sees 112 = .ok (.bipush 11, 2) := by decide +kernel
theorem dX12_sees_114 : decode cX12_sees 114 = .ok (.if_icmp .ne 14, 3) := by decide +kernel
theorem dX12_sees_117 : decode cX12_sees 117 = .ok (.aload_n 0, 1) := by decide +kernel
theorem dX12_sees_118 : decode cX12_sees 118 = .ok (.iload_n 1, 1) := by decide +kernel
theorem dX12_sees_119 : decode cX12_sees 119 = .ok (.bipush 6, 2) := by decide +kernel
theorem dX12_sees_121 : decode cX12_sees 121 = .ok (.iconst 3, 1) := by decide +kernel
theorem dX12_sees_122 : decode cX12_sees 122 = .ok (.invokevirtual 266, 3) := by decide +kernel
theorem dX12_sees_125 : decode cX12_sees 125 = .ok (.goto 14, 3) := by decide +kernel
theorem dX12_sees_128 : decode cX12_sees 128 = .ok (.iload_n 3, 1) := by decide +kernel
theorem dX12_sees_129 : decode cX12_sees 129 = .ok (.iconst (-1), 1) := by decide +kernel
theorem dX12_sees_130 : decode cX12_sees 130 = .ok (.if_icmp .eq 9, 3) := by decide +kernel
theorem dX12_sees_133 : decode cX12_sees 133 = .ok (.aload_n 0, 1) := by decide +kernel
theorem dX12_sees_134 : decode cX12_sees 134 = .ok (.iload_n 1, 1) := by decide +kernel
theorem dX12_sees_135 : decode cX12_sees 135 = .ok (.iload_n 3, 1) := by decide +kernel
theorem dX12_sees_136 : decode cX12_sees 136 = .ok (.invokevirtual 270, 3) := by decide +kernel
theorem dX12_sees_139 : decode cX12_sees 139 = .ok (.goto 155, 3) := by decide +kernel
theorem dX12_sees_142 : decode cX12_sees 142 = .ok (.aload_n 0, 1) := by decide +kernel
theorem dX12_sees_143 : decode cX12_sees 143 = .ok (.getfield 46, 3) := by decide +kernel
theorem dX12_sees_146 : decode cX12_sees 146 = .ok (.iload_n 1, 1) := by decide +kernel
theorem dX12_sees_147 : decode cX12_sees 147 = .ok (.dup2, 1) := by decide +kernel
theorem dX12_sees_148 : decode cX12_sees 148 = .ok (.iaload, 1) := by decide +kernel
theorem dX12_sees_149 : decode cX12_sees 149 = .ok (.iconst 1, 1) := by decide +kernel
theorem dX12_sees_150 : decode cX12_sees 150 = .ok (.isub, 1) := by decide +kernel
theorem dX12_sees_151 : decode cX12_sees 151 = .ok (.iastore, 1) := by decide +kernel
theorem dX12_sees_152 : decode cX12_sees 152 = .ok (.aload_n 0, 1) := by decide +kernel
theorem dX12_sees_153 : decode cX12_sees 153 = .ok (.getfield 43, 3) := by decide +kernel
theorem dX12_sees_156 : decode cX12_sees 156 = .ok (.iload_n 1, 1) := by decide +kernel
theorem dX12_sees_157 : decode cX12_sees 157 = .ok (.iaload, 1) := by decide +kernel
theorem dX12_sees_158 : decode cX12_sees 158 = .ok (.iconst 3, 1) := by decide +kernel
theorem dX12_sees_159 : decode cX12_sees 159 = .ok (.if_icmp .ne 26, 3) := by decide +kernel
theorem dX12_sees_162 : decode cX12_sees 162 = .ok (.aload_n 0, 1) := by decide +kernel
theorem dX12_sees_163 : decode cX12_sees 163 = .ok (.getfield 43, 3) := by decide +kernel
theorem dX12_sees_166 : decode cX12_sees 166 = .ok (.iload_n 1, 1) := by decide +kernel
theorem dX12_sees_167 : decode cX12_sees 167 = .ok (.aload_n 0, 1) := by decide +kernel
theorem dX12_sees_168 : decode cX12_sees 168 = .ok (.getfield 46, 3) := by decide +kernel
theorem dX12_sees_171 : decode cX12_sees 171 = .ok (.iload_n 1, 1) := by decide +kernel
theorem dX12_sees_172 : decode cX12_sees 172 = .ok (.iaload, 1) := by decide +kernel
theorem dX12_sees_173 : decode cX12_sees 173 = .ok (.ifCond .ne 7, 3) := by decide +kernel
theorem dX12_sees_176 : decode cX12_sees 176 = .ok (.iconst 4, 1) := by decide +kernel
theorem dX12_sees_177 : decode cX12_sees 177 = .ok (.goto 4, 3) := by decide +kernel
theorem dX12_sees_180 : decode cX12_sees 180 = .ok (.iconst 3, 1) := by decide +kernel
theorem dX12_sees_181 : decode cX12_sees 181 = .ok (.iastore, 1) := by decide +kernel
theorem dX12_sees_182 : decode cX12_sees 182 = .ok (.goto 112, 3) := by decide +kernel
theorem dX12_sees_185 : decode cX12_sees 185 = .ok (.aload_n 0, 1) := by decide +kernel
theorem dX12_sees_186 : decode cX12_sees 186 = .ok (.getfield 43, 3) := by decide +kernel
theorem dX12_sees_189 : decode cX12_sees 189 = .ok (.iload_n 1, 1) := by decide +kernel
theorem dX12_sees_190 : decode cX12_sees 190 = .ok (.iaload, 1) := by decide +kernel
theorem dX12_sees_191 : decode cX12_sees 191 = .ok (.iconst 4, 1) := by decide +kernel
theorem dX12_sees_192 : decode cX12_sees 192 = .ok (.if_icmp .ne 19, 3) := by decide +kernel
theorem dX12_sees_195 : decode cX12_sees 195 = .ok (.iload_n 2, 1) := by decide +kernel
theorem dX12_sees_196 : decode cX12_sees 196 = .ok (.iconst 1, 1) := by decide +kernel
theorem dX12_sees_197 : decode cX12_sees 197 = .ok (.if_icmp .ne 14, 3) := by decide +kernel
theorem dX12_sees_200 : decode cX12_sees 200 = .ok (.aload_n 0, 1) := by decide +kernel
theorem dX12_sees_201 : decode cX12_sees 201 = .ok (.iload_n 1, 1) := by decide +kernel
theorem dX12_sees_202 : decode cX12_sees 202 = .ok (.iconst 5, 1) := by decide +kernel
theorem dX12_sees_203 : decode cX12_sees 203 = .ok (.bipush 7, 2) := by decide +kernel
theorem dX12_sees_205 : decode cX12_sees 205 = .ok (.invokevirtual 266, 3) := by decide +kernel
theorem dX12_sees_208 : decode cX12_sees 208 = .ok (.goto 86, 3) := by decide +kernel
theorem dX12_sees_211 : decode cX12_sees 211 = .ok (.aload_n 0, 1) := by decide +kernel
theorem dX12_sees_212 : decode cX12_sees 212 = .ok (.getfield 43, 3) := by decide +kernel
theorem dX12_sees_215 : decode cX12_sees 215 = .ok (.iload_n 1, 1) := by decide +kernel
theorem dX12_sees_216 : decode cX12_sees 216 = .ok (.iaload, 1) := by decide +kernel
theorem dX12_sees_217 : decode cX12_sees 217 = .ok (.iconst 5, 1) := by decide +kernel
theorem dX12_sees_218 : decode cX12_sees 218 = .ok (.if_icmp .ne 29, 3) := by decide +kernel
theorem dX12_sees_221 : decode cX12_sees 221 = .ok (.iload_n 2, 1) := by decide +kernel
theorem dX12_sees_222 : decode cX12_sees 222 = .ok (.ifCond .ne 25, 3) := by decide +kernel
theorem dX12_sees_225 : decode cX12_sees 225 = .ok (.aload_n 0, 1) := by decide +kernel
theorem dX12_sees_226 : decode cX12_sees 226 = .ok (.iload_n 1, 1) := by decide +kernel
theorem dX12_sees_227 : decode cX12_sees 227 = .ok (.aload_n 0, 1) := by decide +kernel
theorem dX12_sees_228 : decode cX12_sees 228 = .ok (.getfield 46, 3) := by decide +kernel
theorem dX12_sees_231 : decode cX12_sees 231 = .ok (.iload_n 1, 1) := by decide +kernel
theorem dX12_sees_232 : decode cX12_sees 232 = .ok (.iaload, 1) := by decide +kernel
theorem dX12_sees_233 : decode cX12_sees 233 = .ok (.ifCond .ne 7, 3) := by decide +kernel
theorem dX12_sees_236 : decode cX12_sees 236 = .ok (.iconst 5, 1) := by decide +kernel
theorem dX12_sees_237 : decode cX12_sees 237 = .ok (.goto 4, 3) := by decide +kernel
theorem dX12_sees_240 : decode cX12_sees 240 = .ok (.iconst 2, 1) := by decide +kernel
theorem dX12_sees_241 : decode cX12_sees 241 = .ok (.invokevirtual 270, 3) := by decide +kernel
theorem dX12_sees_244 : decode cX12_sees 244 = .ok (.goto 50, 3) := by decide +kernel
theorem dX12_sees_247 : decode cX12_sees 247 = .ok (.aload_n 0, 1) := by decide +kernel
theorem dX12_sees_248 : decode cX12_sees 248 = .ok (.getfield 43, 3) := by decide +kernel
theorem dX12_sees_251 : decode cX12_sees 251 = .ok (.iload_n 1, 1) := by decide +kernel
theorem dX12_sees_252 : decode cX12_sees 252 = .ok (.iaload, 1) := by decide +kernel
theorem dX12_sees_253 : decode cX12_sees 253 = .ok (.iconst 5, 1) := by decide +kernel
theorem dX12_sees_254 : decode cX12_sees 254 = .ok (.if_icmp .ne 23, 3) := by decide +kernel
theorem dX12_sees_257 : decode cX12_sees 257 = .ok (.aload_n 0, 1) := by decide +kernel
theorem dX12_sees_258 : decode cX12_sees 258 = .ok (.getfield 46, 3) := by decide +kernel
theorem dX12_sees_261 : decode cX12_sees 261 = .ok (.iload_n 1, 1) := by decide +kernel
theorem dX12_sees_262 : decode cX12_sees 262 = .ok (.iaload, 1) := by decide +kernel
theorem dX12_sees_263 : decode cX12_sees 263 = .ok (.ifCond .ne 14, 3) := by decide +kernel
theorem dX12_sees_266 : decode cX12_sees 266 = .ok (.aload_n 0, 1) := by decide +kernel
theorem dX12_sees_267 : decode cX12_sees 267 = .ok (.iload_n 1, 1) := by decide +kernel
theorem dX12_sees_268 : decode cX12_sees 268 = .ok (.bipush 6, 2) := by decide +kernel
theorem dX12_sees_270 : decode cX12_sees 270 = .ok (.iconst 3, 1) := by decide +kernel
theorem dX12_sees_271 : decode cX12_sees 271 = .ok (.invokevirtual 266, 3) := by decide +kernel
theorem dX12_sees_274 : decode cX12_sees 274 = .ok (.goto 20, 3) := by decide +kernel
theorem dX12_sees_277 : decode cX12_sees 277 = .ok (.aload_n 0, 1) := by decide +kernel
theorem dX12_sees_278 : decode cX12_sees 278 = .ok (.getfield 43, 3) := by decide +kernel
theorem dX12_sees_281 : decode cX12_sees 281 = .ok (.iload_n 1, 1) := by decide +kernel
theorem dX12_sees_282 : decode cX12_sees 282 = .ok (.iaload, 1) := by decide +kernel
theorem dX12_sees_283 : decode cX12_sees 283 = .ok (.bipush 6, 2) := by decide +kernel
theorem dX12_sees_285 : decode cX12_sees 285 = .ok (.if_icmp .ne 9, 3) := by decide +kernel
theorem dX12_sees_288 : decode cX12_sees 288 = .ok (.aload_n 0, 1) := by decide +kernel
theorem dX12_sees_289 : decode cX12_sees 289 = .ok (.iload_n 1, 1) := by decide +kernel
theorem dX12_sees_290 : decode cX12_sees 290 = .ok (.iload_n 2, 1) := by decide +kernel
theorem dX12_sees_291 : decode cX12_sees 291 = .ok (.invokevirtual 273, 3) := by decide +kernel
theorem dX12_sees_294 : decode cX12_sees 294 = .ok (.return_, 1) := by decide +kernel
theorem cwX12_sees : mw_cwV yX12_sees cX12_sees 4 (none) 2 := ⟨⟨wd_15, wd_3739, by decide +kernel⟩, wd_3738, sl_250⟩
noncomputable def fX12_sees_b294 (fu : Nat) (a1 : Int32) (a2 : Int32) (M : mwM) (L : mwL) : Option (mwM × mwL) :=
  some (M, L)
noncomputable def fX12_sees_b139 (fu : Nat) (a1 : Int32) (a2 : Int32) (M : mwM) (L : mwL) : Option (mwM × mwL) :=
  fX12_sees_b294 fu a1 a2 M L
noncomputable def fX12_sees_b181 (fu : Nat) (a1 : Int32) (a2 : Int32) (s2 : Int32) (M : mwM) (L : mwL) : Option (mwM × mwL) :=
  mck a1 32 (mlet (mset M 831 (a1.toNatClampNeg) s2) (fun M39 => fX12_sees_b294 fu a1 a2 M39 L))
noncomputable def fX12_sees_b241 (fu : Nat) (a1 : Int32) (a2 : Int32) (s2 : Int32) (M : mwM) (L : mwL) : Option (mwM × mwL) :=
  mb2 (DX12_wrong fu a1 s2 M L) (fun M45 L46 => fX12_sees_b294 fu a1 a2 M45 L46)
noncomputable def fX12_sees_b277 (fu : Nat) (a1 : Int32) (a2 : Int32) (M : mwM) (L : mwL) : Option (mwM × mwL) :=
  mck a1 32 ((if (M 831 a1.toNatClampNeg) = 6 then mb2 (DX12_pauses fu a1 a2 M L) (fun M55 L56 => fX12_sees_b294 fu a1 a2 M55 L56) else fX12_sees_b294 fu a1 a2 M L))
noncomputable def fX12_sees_b247 (fu : Nat) (a1 : Int32) (a2 : Int32) (M : mwM) (L : mwL) : Option (mwM × mwL) :=
  mck a1 32 ((if (M 831 a1.toNatClampNeg) = 5 then mck a1 32 ((if (M 832 a1.toNatClampNeg) = 0 then mb2 (DX12_go fu a1 6 3 M L) (fun M51 L52 => fX12_sees_b294 fu a1 a2 M51 L52) else fX12_sees_b277 fu a1 a2 M L)) else fX12_sees_b277 fu a1 a2 M L))
noncomputable def fX12_sees_b211 (fu : Nat) (a1 : Int32) (a2 : Int32) (M : mwM) (L : mwL) : Option (mwM × mwL) :=
  mck a1 32 ((if (M 831 a1.toNatClampNeg) = 5 then (if a2 = 0 then mck a1 32 ((if (M 832 a1.toNatClampNeg) = 0 then fX12_sees_b241 fu a1 a2 5 M L else fX12_sees_b241 fu a1 a2 2 M L)) else fX12_sees_b247 fu a1 a2 M L) else fX12_sees_b247 fu a1 a2 M L))
noncomputable def fX12_sees_b56 (fu : Nat) (a1 : Int32) (a2 : Int32) (M : mwM) (L : mwL) : Option (mwM × mwL) :=
  mck a1 32 ((if (M 831 a1.toNatClampNeg) = 1 then mb2 (DX12_sent fu a1 a2 M L) (fun M36 L37 => fX12_sees_b294 fu a1 a2 M36 L37) else mck a1 32 ((if (M 831 a1.toNatClampNeg) = 2 then mb2 (DX12_see fu a1 a2 M L) (fun M22 L23 => mb3 (DX12_read fu a1 M22 L23) (fun r26 M24 L25 => (if r26 = 10 then mb2 (DX12_take fu a1 M24 L25) (fun M34 L35 => fX12_sees_b139 fu a1 a2 M34 L35) else (if r26 = 11 then mb2 (DX12_go fu a1 6 3 M24 L25) (fun M32 L33 => fX12_sees_b139 fu a1 a2 M32 L33) else (if r26 = ((-1)) then fX12_sees_b139 fu a1 a2 M24 L25 else mb2 (DX12_wrong fu a1 r26 M24 L25) (fun M30 L31 => fX12_sees_b139 fu a1 a2 M30 L31)))))) else mck a1 32 (mck a1 32 (mlet (mset M 832 (a1.toNatClampNeg) ((M 832 a1.toNatClampNeg) - 1)) (fun M12 => mck a1 32 ((if (M12 831 a1.toNatClampNeg) = 3 then mck a1 32 ((if (M12 832 a1.toNatClampNeg) = 0 then fX12_sees_b181 fu a1 a2 4 M12 L else fX12_sees_b181 fu a1 a2 3 M12 L)) else mck a1 32 ((if (M12 831 a1.toNatClampNeg) = 4 then (if a2 = 1 then mb2 (DX12_go fu a1 5 7 M12 L) (fun M18 L19 => fX12_sees_b294 fu a1 a2 M18 L19) else fX12_sees_b211 fu a1 a2 M12 L) else fX12_sees_b211 fu a1 a2 M12 L)))))))))))
noncomputable def fX12_sees_b48 (fu : Nat) (a1 : Int32) (a2 : Int32) (v3 : Int32) (s2 : Int32) (M : mwM) (L : mwL) : Option (mwM × mwL) :=
  mck a1 32 (mlet (mset M 831 (a1.toNatClampNeg) s2) (fun M3 => mck a1 32 (mlet (mset M3 833 (a1.toNatClampNeg) v3) (fun M5 => fX12_sees_b56 fu a1 a2 M5 L))))
noncomputable def fX12_sees_b33 (fu : Nat) (a1 : Int32) (a2 : Int32) (v3 : Int32) (M : mwM) (L : mwL) : Option (mwM × mwL) :=
  (if v3 = ((-1)) then fX12_sees_b48 fu a1 a2 v3 2 M L else fX12_sees_b48 fu a1 a2 v3 1 M L)
noncomputable def DX12_sees (fu : Nat) (a1 : Int32) (a2 : Int32) (M : mwM) (L : mwL) : Option (mwM × mwL) :=
  mck a1 32 ((if (M 831 a1.toNatClampNeg) = 0 then mck a1 32 (mlet (mset M 836 (a1.toNatClampNeg) 0) (fun M60 => mb3 (DX12_first fu a1 M60 L) (fun r63 M61 L62 => (if r63 = ((-1)) then (if a2 = 1 then some (M61, L62) else fX12_sees_b33 fu a1 a2 r63 M61 L62) else fX12_sees_b33 fu a1 a2 r63 M61 L62)))) else fX12_sees_b56 fu a1 a2 M L))
set_option maxHeartbeats 4000000 in
set_option maxRecDepth 100000 in
theorem tX12_sees (l : Launch) (G : mwG) (ad : Nat → Nat) (fu : Nat) (a1 : Int32) (a2 : Int32) (M : mwM) (L : mwL) {M0 : mwM} {L0 : mwL} (hD : DX12_sees fu a1 a2 M L = some (M0, L0)) : Met l yX12_sees (Cond.code yX12_sees cX12_sees 4 (none) :: GT) ({ frames := 5, cells := 0, slots := 0, locals := 130 }) (mw_Pre G ad NF TF FF M L [.ref (ad 821), .int a1, .int a2]) (mw_Qv G ad NF TF FF (mw_eqV M0 L0)) 0 0 (mw_fr G) := by
  refine mw_enter (by decide) (Nat.le_of_ble_eq_true rfl) ?_
  intro p e s m below meth c ls C hr hlocks hnm hw hl
  have hl : lv_has ls 4 [(0, .ref (ad 821)), (1, .int a1), (2, .int a2)] := hl
  have hb294 : ∀ (M : mwM) (L : mwL) (H : Heap) (locs : List Loc) (ls : Array Slot), fX12_sees_b294 fu a1 a2 M L = some (M0, L0) → mw_W G ad NF TF FF M L H locs → lv_has ls 4 [] → W p l e ({ frames := 5, cells := 0, slots := 0, locals := 130 }) s m [.ref (ad 821), .int a1, .int a2].toArray below meth c H locs 0 0 (MQ below (mw_Qv G ad NF TF FF (mw_eqV M0 L0)) [.ref (ad 821), .int a1, .int a2].toArray s 0 0 (mw_fr G)) (F0 m 294 ls []) := by
    intro M L H locs ls hD hw hl
    unfold fX12_sees_b294 at hD
    exact mr_vret C hr hlocks hw (Option.some.inj hD) dX12_sees_294
  have hb139 : ∀ (M : mwM) (L : mwL) (H : Heap) (locs : List Loc) (ls : Array Slot), fX12_sees_b139 fu a1 a2 M L = some (M0, L0) → mw_W G ad NF TF FF M L H locs → lv_has ls 4 [] → W p l e ({ frames := 5, cells := 0, slots := 0, locals := 130 }) s m [.ref (ad 821), .int a1, .int a2].toArray below meth c H locs 0 0 (MQ below (mw_Qv G ad NF TF FF (mw_eqV M0 L0)) [.ref (ad 821), .int a1, .int a2].toArray s 0 0 (mw_fr G)) (F0 m 139 ls []) := by
    intro M L H locs ls hD hw hl
    unfold fX12_sees_b139 at hD
    refine lv_goto (tgt := 294) C.1.1 C.1.2.1 dX12_sees_139 (by decide) ?_
    exact hb294 M L _ _ ls hD hw (lv_sub hl [] rfl)
  have hb181 : ∀ (s2 : Int32) (M : mwM) (L : mwL) (H : Heap) (locs : List Loc) (ls : Array Slot), fX12_sees_b181 fu a1 a2 s2 M L = some (M0, L0) → mw_W G ad NF TF FF M L H locs → lv_has ls 4 [] → W p l e ({ frames := 5, cells := 0, slots := 0, locals := 130 }) s m [.ref (ad 821), .int a1, .int a2].toArray below meth c H locs 0 0 (MQ below (mw_Qv G ad NF TF FF (mw_eqV M0 L0)) [.ref (ad 821), .int a1, .int a2].toArray s 0 0 (mw_fr G)) (F0 m 181 ls [.int s2, .int a1, .ref (ad 831)]) := by
    intro s2 M L H locs ls hD hw hl
    unfold fX12_sees_b181 at hD
    obtain ⟨q38, hD⟩ := g_ck hD
    obtain ⟨M39, eM39, hD⟩ := g_let hD
    refine mr_iast C hw (by decide) tf_831 q38 dX12_sees_181 (fun H locs hw => ?_)
    replace hw : mw_W G ad NF TF FF M39 L H locs := by rw [eM39]; exact hw
    refine lv_goto (tgt := 294) C.1.1 C.1.2.1 dX12_sees_182 (by decide) ?_
    exact hb294 M39 L _ _ ls hD hw (lv_sub hl [] rfl)
  have hb241 : ∀ (s2 : Int32) (M : mwM) (L : mwL) (H : Heap) (locs : List Loc) (ls : Array Slot), fX12_sees_b241 fu a1 a2 s2 M L = some (M0, L0) → mw_W G ad NF TF FF M L H locs → lv_has ls 4 [] → W p l e ({ frames := 5, cells := 0, slots := 0, locals := 130 }) s m [.ref (ad 821), .int a1, .int a2].toArray below meth c H locs 0 0 (MQ below (mw_Qv G ad NF TF FF (mw_eqV M0 L0)) [.ref (ad 821), .int a1, .int a2].toArray s 0 0 (mw_fr G)) (F0 m 241 ls [.int s2, .int a1, .ref (ad 821)]) := by
    intro s2 M L H locs ls hD hw hl
    unfold fX12_sees_b241 at hD
    obtain ⟨M45, L46, h1, hD⟩ := g_b2 hD
    refine md_cvV (As := [.int a1, .int s2]) (rest := []) C hw (tX12_wrong l G ad fu a1 s2 M L h1) kc_12 (by decide) tf_821 wd_3748 cwX12_wrong ⟨Nat.le_of_ble_eq_true rfl, Nat.le_of_ble_eq_true rfl⟩ rfl hl.1 (Nat.le_of_ble_eq_true rfl) dX12_sees_241 rfl rfl ⟨Nat.zero_le _, Nat.zero_le _⟩ rfl (fun H locs hw => ?_)
    refine lv_goto (tgt := 294) C.1.1 C.1.2.1 dX12_sees_244 (by decide) ?_
    exact hb294 M45 L46 _ _ ls hD hw (lv_sub hl [] rfl)
  have hb277 : ∀ (M : mwM) (L : mwL) (H : Heap) (locs : List Loc) (ls : Array Slot), fX12_sees_b277 fu a1 a2 M L = some (M0, L0) → mw_W G ad NF TF FF M L H locs → lv_has ls 4 [(0, .ref (ad 821)), (1, .int a1), (2, .int a2)] → W p l e ({ frames := 5, cells := 0, slots := 0, locals := 130 }) s m [.ref (ad 821), .int a1, .int a2].toArray below meth c H locs 0 0 (MQ below (mw_Qv G ad NF TF FF (mw_eqV M0 L0)) [.ref (ad 821), .int a1, .int a2].toArray s 0 0 (mw_fr G)) (F0 m 277 ls []) := by
    intro M L H locs ls hD hw hl
    unfold fX12_sees_b277 at hD
    refine lv_aload_n C.1.1 C.1.2.1 dX12_sees_277 rfl (lv_at hl 0 rfl) ?_
    refine mr_getR C hw kc_12 14 (by decide) tf_821 ff_821_14 wd_2114 dX12_sees_278 (by decide) rfl ?_
    refine lv_iload_n C.1.1 C.1.2.1 dX12_sees_281 rfl (lv_at hl 1 rfl) ?_
    obtain ⟨q53, hD⟩ := g_ck hD
    refine mr_iald C hw (by decide) tf_831 q53 dX12_sees_282 ?_
    refine lv_bipush (v := 6) C.1.1 C.1.2.1 dX12_sees_283 (by decide) ?_
    refine lv_icmp_ne (tgt := 294) C.1.1 C.1.2.1 dX12_sees_285 (by decide) (fun c54 => ?_) (fun c54 => ?_)
    · replace hD := g_neg c54 hD
      exact hb294 M L _ _ ls hD hw (lv_sub hl [] rfl)
    · replace hD := g_pos c54 hD
      refine lv_aload_n C.1.1 C.1.2.1 dX12_sees_288 rfl (lv_at hl 0 rfl) ?_
      refine lv_iload_n C.1.1 C.1.2.1 dX12_sees_289 rfl (lv_at hl 1 rfl) ?_
      refine lv_iload_n C.1.1 C.1.2.1 dX12_sees_290 rfl (lv_at hl 2 rfl) ?_
      obtain ⟨M55, L56, h1, hD⟩ := g_b2 hD
      refine md_cvV (As := [.int a1, .int a2]) (rest := []) C hw (tX12_pauses l G ad fu a1 a2 M L h1) kc_12 (by decide) tf_821 wd_3764 cwX12_pauses ⟨Nat.le_of_ble_eq_true rfl, Nat.le_of_ble_eq_true rfl⟩ rfl hl.1 (Nat.le_of_ble_eq_true rfl) dX12_sees_291 rfl rfl ⟨Nat.zero_le _, Nat.zero_le _⟩ rfl (fun H locs hw => ?_)
      exact hb294 M55 L56 _ _ ls hD hw (lv_sub hl [] rfl)
  have hb247 : ∀ (M : mwM) (L : mwL) (H : Heap) (locs : List Loc) (ls : Array Slot), fX12_sees_b247 fu a1 a2 M L = some (M0, L0) → mw_W G ad NF TF FF M L H locs → lv_has ls 4 [(0, .ref (ad 821)), (1, .int a1), (2, .int a2)] → W p l e ({ frames := 5, cells := 0, slots := 0, locals := 130 }) s m [.ref (ad 821), .int a1, .int a2].toArray below meth c H locs 0 0 (MQ below (mw_Qv G ad NF TF FF (mw_eqV M0 L0)) [.ref (ad 821), .int a1, .int a2].toArray s 0 0 (mw_fr G)) (F0 m 247 ls []) := by
    intro M L H locs ls hD hw hl
    unfold fX12_sees_b247 at hD
    refine lv_aload_n C.1.1 C.1.2.1 dX12_sees_247 rfl (lv_at hl 0 rfl) ?_
    refine mr_getR C hw kc_12 14 (by decide) tf_821 ff_821_14 wd_2114 dX12_sees_248 (by decide) rfl ?_
    refine lv_iload_n C.1.1 C.1.2.1 dX12_sees_251 rfl (lv_at hl 1 rfl) ?_
    obtain ⟨q47, hD⟩ := g_ck hD
    refine mr_iald C hw (by decide) tf_831 q47 dX12_sees_252 ?_
    refine lv_iconst (v := 5) C.1.1 C.1.2.1 dX12_sees_253 (by decide) ?_
    refine lv_icmp_ne (tgt := 277) C.1.1 C.1.2.1 dX12_sees_254 (by decide) (fun c48 => ?_) (fun c48 => ?_)
    · replace hD := g_neg c48 hD
      exact hb277 M L _ _ ls hD hw (lv_sub hl [0, 1, 2] rfl)
    · replace hD := g_pos c48 hD
      refine lv_aload_n C.1.1 C.1.2.1 dX12_sees_257 rfl (lv_at hl 0 rfl) ?_
      refine mr_getR C hw kc_12 15 (by decide) tf_821 ff_821_15 wd_2115 dX12_sees_258 (by decide) rfl ?_
      refine lv_iload_n C.1.1 C.1.2.1 dX12_sees_261 rfl (lv_at hl 1 rfl) ?_
      obtain ⟨q49, hD⟩ := g_ck hD
      refine mr_iald C hw (by decide) tf_832 q49 dX12_sees_262 ?_
      refine lv_if_ne (tgt := 277) C.1.1 C.1.2.1 dX12_sees_263 (by decide) (fun c50 => ?_) (fun c50 => ?_)
      · replace hD := g_neg c50 hD
        exact hb277 M L _ _ ls hD hw (lv_sub hl [0, 1, 2] rfl)
      · replace hD := g_pos c50 hD
        refine lv_aload_n C.1.1 C.1.2.1 dX12_sees_266 rfl (lv_at hl 0 rfl) ?_
        refine lv_iload_n C.1.1 C.1.2.1 dX12_sees_267 rfl (lv_at hl 1 rfl) ?_
        refine lv_bipush (v := 6) C.1.1 C.1.2.1 dX12_sees_268 (by decide) ?_
        refine lv_iconst (v := 3) C.1.1 C.1.2.1 dX12_sees_270 (by decide) ?_
        obtain ⟨M51, L52, h1, hD⟩ := g_b2 hD
        refine md_cvV (As := [.int a1, .int 6, .int 3]) (rest := []) C hw (tX12_go l G ad fu a1 6 3 M L h1) kc_12 (by decide) tf_821 wd_3752 cwX12_go ⟨Nat.le_of_ble_eq_true rfl, Nat.le_of_ble_eq_true rfl⟩ rfl hl.1 (Nat.le_of_ble_eq_true rfl) dX12_sees_271 rfl rfl ⟨Nat.zero_le _, Nat.zero_le _⟩ rfl (fun H locs hw => ?_)
        refine lv_goto (tgt := 294) C.1.1 C.1.2.1 dX12_sees_274 (by decide) ?_
        exact hb294 M51 L52 _ _ ls hD hw (lv_sub hl [] rfl)
  have hb211 : ∀ (M : mwM) (L : mwL) (H : Heap) (locs : List Loc) (ls : Array Slot), fX12_sees_b211 fu a1 a2 M L = some (M0, L0) → mw_W G ad NF TF FF M L H locs → lv_has ls 4 [(0, .ref (ad 821)), (1, .int a1), (2, .int a2)] → W p l e ({ frames := 5, cells := 0, slots := 0, locals := 130 }) s m [.ref (ad 821), .int a1, .int a2].toArray below meth c H locs 0 0 (MQ below (mw_Qv G ad NF TF FF (mw_eqV M0 L0)) [.ref (ad 821), .int a1, .int a2].toArray s 0 0 (mw_fr G)) (F0 m 211 ls []) := by
    intro M L H locs ls hD hw hl
    unfold fX12_sees_b211 at hD
    refine lv_aload_n C.1.1 C.1.2.1 dX12_sees_211 rfl (lv_at hl 0 rfl) ?_
    refine mr_getR C hw kc_12 14 (by decide) tf_821 ff_821_14 wd_2114 dX12_sees_212 (by decide) rfl ?_
    refine lv_iload_n C.1.1 C.1.2.1 dX12_sees_215 rfl (lv_at hl 1 rfl) ?_
    obtain ⟨q40, hD⟩ := g_ck hD
    refine mr_iald C hw (by decide) tf_831 q40 dX12_sees_216 ?_
    refine lv_iconst (v := 5) C.1.1 C.1.2.1 dX12_sees_217 (by decide) ?_
    refine lv_icmp_ne (tgt := 247) C.1.1 C.1.2.1 dX12_sees_218 (by decide) (fun c41 => ?_) (fun c41 => ?_)
    · replace hD := g_neg c41 hD
      exact hb247 M L _ _ ls hD hw (lv_sub hl [0, 1, 2] rfl)
    · replace hD := g_pos c41 hD
      refine lv_iload_n C.1.1 C.1.2.1 dX12_sees_221 rfl (lv_at hl 2 rfl) ?_
      refine lv_if_ne (tgt := 247) C.1.1 C.1.2.1 dX12_sees_222 (by decide) (fun c42 => ?_) (fun c42 => ?_)
      · replace hD := g_neg c42 hD
        exact hb247 M L _ _ ls hD hw (lv_sub hl [0, 1, 2] rfl)
      · replace hD := g_pos c42 hD
        refine lv_aload_n C.1.1 C.1.2.1 dX12_sees_225 rfl (lv_at hl 0 rfl) ?_
        refine lv_iload_n C.1.1 C.1.2.1 dX12_sees_226 rfl (lv_at hl 1 rfl) ?_
        refine lv_aload_n C.1.1 C.1.2.1 dX12_sees_227 rfl (lv_at hl 0 rfl) ?_
        refine mr_getR C hw kc_12 15 (by decide) tf_821 ff_821_15 wd_2115 dX12_sees_228 (by decide) rfl ?_
        refine lv_iload_n C.1.1 C.1.2.1 dX12_sees_231 rfl (lv_at hl 1 rfl) ?_
        obtain ⟨q43, hD⟩ := g_ck hD
        refine mr_iald C hw (by decide) tf_832 q43 dX12_sees_232 ?_
        refine lv_if_ne (tgt := 240) C.1.1 C.1.2.1 dX12_sees_233 (by decide) (fun c44 => ?_) (fun c44 => ?_)
        · replace hD := g_neg c44 hD
          refine lv_iconst (v := 2) C.1.1 C.1.2.1 dX12_sees_240 (by decide) ?_
          exact hb241 2 M L _ _ ls hD hw (lv_sub hl [] rfl)
        · replace hD := g_pos c44 hD
          refine lv_iconst (v := 5) C.1.1 C.1.2.1 dX12_sees_236 (by decide) ?_
          refine lv_goto (tgt := 241) C.1.1 C.1.2.1 dX12_sees_237 (by decide) ?_
          exact hb241 5 M L _ _ ls hD hw (lv_sub hl [] rfl)
  have hb56 : ∀ (M : mwM) (L : mwL) (H : Heap) (locs : List Loc) (ls : Array Slot), fX12_sees_b56 fu a1 a2 M L = some (M0, L0) → mw_W G ad NF TF FF M L H locs → lv_has ls 4 [(0, .ref (ad 821)), (1, .int a1), (2, .int a2)] → W p l e ({ frames := 5, cells := 0, slots := 0, locals := 130 }) s m [.ref (ad 821), .int a1, .int a2].toArray below meth c H locs 0 0 (MQ below (mw_Qv G ad NF TF FF (mw_eqV M0 L0)) [.ref (ad 821), .int a1, .int a2].toArray s 0 0 (mw_fr G)) (F0 m 56 ls []) := by
    intro M L H locs ls hD hw hl
    unfold fX12_sees_b56 at hD
    refine lv_aload_n C.1.1 C.1.2.1 dX12_sees_56 rfl (lv_at hl 0 rfl) ?_
    refine mr_getR C hw kc_12 14 (by decide) tf_821 ff_821_14 wd_2114 dX12_sees_57 (by decide) rfl ?_
    refine lv_iload_n C.1.1 C.1.2.1 dX12_sees_60 rfl (lv_at hl 1 rfl) ?_
    obtain ⟨q6, hD⟩ := g_ck hD
    refine mr_iald C hw (by decide) tf_831 q6 dX12_sees_61 ?_
    refine lv_iconst (v := 1) C.1.1 C.1.2.1 dX12_sees_62 (by decide) ?_
    refine lv_icmp_ne (tgt := 75) C.1.1 C.1.2.1 dX12_sees_63 (by decide) (fun c7 => ?_) (fun c7 => ?_)
    · replace hD := g_neg c7 hD
      refine lv_aload_n C.1.1 C.1.2.1 dX12_sees_75 rfl (lv_at hl 0 rfl) ?_
      refine mr_getR C hw kc_12 14 (by decide) tf_821 ff_821_14 wd_2114 dX12_sees_76 (by decide) rfl ?_
      refine lv_iload_n C.1.1 C.1.2.1 dX12_sees_79 rfl (lv_at hl 1 rfl) ?_
      obtain ⟨q8, hD⟩ := g_ck hD
      refine mr_iald C hw (by decide) tf_831 q8 dX12_sees_80 ?_
      refine lv_iconst (v := 2) C.1.1 C.1.2.1 dX12_sees_81 (by decide) ?_
      refine lv_icmp_ne (tgt := 142) C.1.1 C.1.2.1 dX12_sees_82 (by decide) (fun c9 => ?_) (fun c9 => ?_)
      · replace hD := g_neg c9 hD
        refine lv_aload_n C.1.1 C.1.2.1 dX12_sees_142 rfl (lv_at hl 0 rfl) ?_
        refine mr_getR C hw kc_12 15 (by decide) tf_821 ff_821_15 wd_2115 dX12_sees_143 (by decide) rfl ?_
        refine lv_iload_n C.1.1 C.1.2.1 dX12_sees_146 rfl (lv_at hl 1 rfl) ?_
        refine lv_dup2_11 C.1.1 C.1.2.1 dX12_sees_147 rfl rfl ?_
        obtain ⟨q10, hD⟩ := g_ck hD
        refine mr_iald C hw (by decide) tf_832 q10 dX12_sees_148 ?_
        refine lv_iconst (v := 1) C.1.1 C.1.2.1 dX12_sees_149 (by decide) ?_
        refine lv_isub C.1.1 C.1.2.1 dX12_sees_150 ?_
        obtain ⟨q11, hD⟩ := g_ck hD
        obtain ⟨M12, eM12, hD⟩ := g_let hD
        refine mr_iast C hw (by decide) tf_832 q11 dX12_sees_151 (fun H locs hw => ?_)
        replace hw : mw_W G ad NF TF FF M12 L H locs := by rw [eM12]; exact hw
        refine lv_aload_n C.1.1 C.1.2.1 dX12_sees_152 rfl (lv_at hl 0 rfl) ?_
        refine mr_getR C hw kc_12 14 (by decide) tf_821 ff_821_14 wd_2114 dX12_sees_153 (by decide) rfl ?_
        refine lv_iload_n C.1.1 C.1.2.1 dX12_sees_156 rfl (lv_at hl 1 rfl) ?_
        obtain ⟨q13, hD⟩ := g_ck hD
        refine mr_iald C hw (by decide) tf_831 q13 dX12_sees_157 ?_
        refine lv_iconst (v := 3) C.1.1 C.1.2.1 dX12_sees_158 (by decide) ?_
        refine lv_icmp_ne (tgt := 185) C.1.1 C.1.2.1 dX12_sees_159 (by decide) (fun c14 => ?_) (fun c14 => ?_)
        · replace hD := g_neg c14 hD
          refine lv_aload_n C.1.1 C.1.2.1 dX12_sees_185 rfl (lv_at hl 0 rfl) ?_
          refine mr_getR C hw kc_12 14 (by decide) tf_821 ff_821_14 wd_2114 dX12_sees_186 (by decide) rfl ?_
          refine lv_iload_n C.1.1 C.1.2.1 dX12_sees_189 rfl (lv_at hl 1 rfl) ?_
          obtain ⟨q15, hD⟩ := g_ck hD
          refine mr_iald C hw (by decide) tf_831 q15 dX12_sees_190 ?_
          refine lv_iconst (v := 4) C.1.1 C.1.2.1 dX12_sees_191 (by decide) ?_
          refine lv_icmp_ne (tgt := 211) C.1.1 C.1.2.1 dX12_sees_192 (by decide) (fun c16 => ?_) (fun c16 => ?_)
          · replace hD := g_neg c16 hD
            exact hb211 M12 L _ _ ls hD hw (lv_sub hl [0, 1, 2] rfl)
          · replace hD := g_pos c16 hD
            refine lv_iload_n C.1.1 C.1.2.1 dX12_sees_195 rfl (lv_at hl 2 rfl) ?_
            refine lv_iconst (v := 1) C.1.1 C.1.2.1 dX12_sees_196 (by decide) ?_
            refine lv_icmp_ne (tgt := 211) C.1.1 C.1.2.1 dX12_sees_197 (by decide) (fun c17 => ?_) (fun c17 => ?_)
            · replace hD := g_neg c17 hD
              exact hb211 M12 L _ _ ls hD hw (lv_sub hl [0, 1, 2] rfl)
            · replace hD := g_pos c17 hD
              refine lv_aload_n C.1.1 C.1.2.1 dX12_sees_200 rfl (lv_at hl 0 rfl) ?_
              refine lv_iload_n C.1.1 C.1.2.1 dX12_sees_201 rfl (lv_at hl 1 rfl) ?_
              refine lv_iconst (v := 5) C.1.1 C.1.2.1 dX12_sees_202 (by decide) ?_
              refine lv_bipush (v := 7) C.1.1 C.1.2.1 dX12_sees_203 (by decide) ?_
              obtain ⟨M18, L19, h1, hD⟩ := g_b2 hD
              refine md_cvV (As := [.int a1, .int 5, .int 7]) (rest := []) C hw (tX12_go l G ad fu a1 5 7 M12 L h1) kc_12 (by decide) tf_821 wd_3752 cwX12_go ⟨Nat.le_of_ble_eq_true rfl, Nat.le_of_ble_eq_true rfl⟩ rfl hl.1 (Nat.le_of_ble_eq_true rfl) dX12_sees_205 rfl rfl ⟨Nat.zero_le _, Nat.zero_le _⟩ rfl (fun H locs hw => ?_)
              refine lv_goto (tgt := 294) C.1.1 C.1.2.1 dX12_sees_208 (by decide) ?_
              exact hb294 M18 L19 _ _ ls hD hw (lv_sub hl [] rfl)
        · replace hD := g_pos c14 hD
          refine lv_aload_n C.1.1 C.1.2.1 dX12_sees_162 rfl (lv_at hl 0 rfl) ?_
          refine mr_getR C hw kc_12 14 (by decide) tf_821 ff_821_14 wd_2114 dX12_sees_163 (by decide) rfl ?_
          refine lv_iload_n C.1.1 C.1.2.1 dX12_sees_166 rfl (lv_at hl 1 rfl) ?_
          refine lv_aload_n C.1.1 C.1.2.1 dX12_sees_167 rfl (lv_at hl 0 rfl) ?_
          refine mr_getR C hw kc_12 15 (by decide) tf_821 ff_821_15 wd_2115 dX12_sees_168 (by decide) rfl ?_
          refine lv_iload_n C.1.1 C.1.2.1 dX12_sees_171 rfl (lv_at hl 1 rfl) ?_
          obtain ⟨q20, hD⟩ := g_ck hD
          refine mr_iald C hw (by decide) tf_832 q20 dX12_sees_172 ?_
          refine lv_if_ne (tgt := 180) C.1.1 C.1.2.1 dX12_sees_173 (by decide) (fun c21 => ?_) (fun c21 => ?_)
          · replace hD := g_neg c21 hD
            refine lv_iconst (v := 3) C.1.1 C.1.2.1 dX12_sees_180 (by decide) ?_
            exact hb181 3 M12 L _ _ ls hD hw (lv_sub hl [] rfl)
          · replace hD := g_pos c21 hD
            refine lv_iconst (v := 4) C.1.1 C.1.2.1 dX12_sees_176 (by decide) ?_
            refine lv_goto (tgt := 181) C.1.1 C.1.2.1 dX12_sees_177 (by decide) ?_
            exact hb181 4 M12 L _ _ ls hD hw (lv_sub hl [] rfl)
      · replace hD := g_pos c9 hD
        refine lv_aload_n C.1.1 C.1.2.1 dX12_sees_85 rfl (lv_at hl 0 rfl) ?_
        refine lv_iload_n C.1.1 C.1.2.1 dX12_sees_86 rfl (lv_at hl 1 rfl) ?_
        refine lv_iload_n C.1.1 C.1.2.1 dX12_sees_87 rfl (lv_at hl 2 rfl) ?_
        obtain ⟨M22, L23, h1, hD⟩ := g_b2 hD
        refine md_cvV (As := [.int a1, .int a2]) (rest := []) C hw (tX12_see l G ad fu a1 a2 M L h1) kc_12 (by decide) tf_821 wd_3744 cwX12_see ⟨Nat.le_of_ble_eq_true rfl, Nat.le_of_ble_eq_true rfl⟩ rfl hl.1 (Nat.le_of_ble_eq_true rfl) dX12_sees_88 rfl rfl ⟨Nat.zero_le _, Nat.zero_le _⟩ rfl (fun H locs hw => ?_)
        refine lv_aload_n C.1.1 C.1.2.1 dX12_sees_91 rfl (lv_at hl 0 rfl) ?_
        refine lv_iload_n C.1.1 C.1.2.1 dX12_sees_92 rfl (lv_at hl 1 rfl) ?_
        obtain ⟨r26, M24, L25, h1, hD⟩ := g_b3 hD
        refine md_cvI (As := [.int a1]) (rest := []) C hw (tX12_read l G ad fu a1 M22 L23 h1) kc_12 (by decide) tf_821 wd_3756 cwX12_read ⟨Nat.le_of_ble_eq_true rfl, Nat.le_of_ble_eq_true rfl⟩ rfl hl.1 (Nat.le_of_ble_eq_true rfl) dX12_sees_93 rfl rfl ⟨Nat.zero_le _, Nat.zero_le _⟩ rfl (fun H locs hw => ?_)
        refine lv_istore_n (lv' := [(3, .int r26), (0, .ref (ad 821)), (1, .int a1), (2, .int a2)]) C.1.1 C.1.2.1 dX12_sees_96 rfl hl (by decide) rfl (fun ls hl => ?_)
        refine lv_iload_n C.1.1 C.1.2.1 dX12_sees_97 rfl (lv_at hl 0 rfl) ?_
        refine lv_bipush (v := 10) C.1.1 C.1.2.1 dX12_sees_98 (by decide) ?_
        refine lv_icmp_ne (tgt := 111) C.1.1 C.1.2.1 dX12_sees_100 (by decide) (fun c27 => ?_) (fun c27 => ?_)
        · replace hD := g_neg c27 hD
          refine lv_iload_n C.1.1 C.1.2.1 dX12_sees_111 rfl (lv_at hl 0 rfl) ?_
          refine lv_bipush (v := 11) C.1.1 C.1.2.1 dX12_sees_112 (by decide) ?_
          refine lv_icmp_ne (tgt := 128) C.1.1 C.1.2.1 dX12_sees_114 (by decide) (fun c28 => ?_) (fun c28 => ?_)
          · replace hD := g_neg c28 hD
            refine lv_iload_n C.1.1 C.1.2.1 dX12_sees_128 rfl (lv_at hl 0 rfl) ?_
            refine lv_iconst (v := (-1)) C.1.1 C.1.2.1 dX12_sees_129 (by decide) ?_
            refine lv_icmp_eq (tgt := 139) C.1.1 C.1.2.1 dX12_sees_130 (by decide) (fun c29 => ?_) (fun c29 => ?_)
            · replace hD := g_pos c29 hD
              exact hb139 M24 L25 _ _ ls hD hw (lv_sub hl [] rfl)
            · replace hD := g_neg c29 hD
              refine lv_aload_n C.1.1 C.1.2.1 dX12_sees_133 rfl (lv_at hl 1 rfl) ?_
              refine lv_iload_n C.1.1 C.1.2.1 dX12_sees_134 rfl (lv_at hl 2 rfl) ?_
              refine lv_iload_n C.1.1 C.1.2.1 dX12_sees_135 rfl (lv_at hl 0 rfl) ?_
              obtain ⟨M30, L31, h1, hD⟩ := g_b2 hD
              refine md_cvV (As := [.int a1, .int r26]) (rest := []) C hw (tX12_wrong l G ad fu a1 r26 M24 L25 h1) kc_12 (by decide) tf_821 wd_3748 cwX12_wrong ⟨Nat.le_of_ble_eq_true rfl, Nat.le_of_ble_eq_true rfl⟩ rfl hl.1 (Nat.le_of_ble_eq_true rfl) dX12_sees_136 rfl rfl ⟨Nat.zero_le _, Nat.zero_le _⟩ rfl (fun H locs hw => ?_)
              exact hb139 M30 L31 _ _ ls hD hw (lv_sub hl [] rfl)
          · replace hD := g_pos c28 hD
            refine lv_aload_n C.1.1 C.1.2.1 dX12_sees_117 rfl (lv_at hl 1 rfl) ?_
            refine lv_iload_n C.1.1 C.1.2.1 dX12_sees_118 rfl (lv_at hl 2 rfl) ?_
            refine lv_bipush (v := 6) C.1.1 C.1.2.1 dX12_sees_119 (by decide) ?_
            refine lv_iconst (v := 3) C.1.1 C.1.2.1 dX12_sees_121 (by decide) ?_
            obtain ⟨M32, L33, h1, hD⟩ := g_b2 hD
            refine md_cvV (As := [.int a1, .int 6, .int 3]) (rest := []) C hw (tX12_go l G ad fu a1 6 3 M24 L25 h1) kc_12 (by decide) tf_821 wd_3752 cwX12_go ⟨Nat.le_of_ble_eq_true rfl, Nat.le_of_ble_eq_true rfl⟩ rfl hl.1 (Nat.le_of_ble_eq_true rfl) dX12_sees_122 rfl rfl ⟨Nat.zero_le _, Nat.zero_le _⟩ rfl (fun H locs hw => ?_)
            refine lv_goto (tgt := 139) C.1.1 C.1.2.1 dX12_sees_125 (by decide) ?_
            exact hb139 M32 L33 _ _ ls hD hw (lv_sub hl [] rfl)
        · replace hD := g_pos c27 hD
          refine lv_aload_n C.1.1 C.1.2.1 dX12_sees_103 rfl (lv_at hl 1 rfl) ?_
          refine lv_iload_n C.1.1 C.1.2.1 dX12_sees_104 rfl (lv_at hl 2 rfl) ?_
          obtain ⟨M34, L35, h1, hD⟩ := g_b2 hD
          refine md_cvV (As := [.int a1]) (rest := []) C hw (tX12_take l G ad fu a1 M24 L25 h1) kc_12 (by decide) tf_821 wd_3760 cwX12_take ⟨Nat.le_of_ble_eq_true rfl, Nat.le_of_ble_eq_true rfl⟩ rfl hl.1 (Nat.le_of_ble_eq_true rfl) dX12_sees_105 rfl rfl ⟨Nat.zero_le _, Nat.zero_le _⟩ rfl (fun H locs hw => ?_)
          refine lv_goto (tgt := 139) C.1.1 C.1.2.1 dX12_sees_108 (by decide) ?_
          exact hb139 M34 L35 _ _ ls hD hw (lv_sub hl [] rfl)
    · replace hD := g_pos c7 hD
      refine lv_aload_n C.1.1 C.1.2.1 dX12_sees_66 rfl (lv_at hl 0 rfl) ?_
      refine lv_iload_n C.1.1 C.1.2.1 dX12_sees_67 rfl (lv_at hl 1 rfl) ?_
      refine lv_iload_n C.1.1 C.1.2.1 dX12_sees_68 rfl (lv_at hl 2 rfl) ?_
      obtain ⟨M36, L37, h1, hD⟩ := g_b2 hD
      refine md_cvV (As := [.int a1, .int a2]) (rest := []) C hw (tX12_sent l G ad fu a1 a2 M L h1) kc_12 (by decide) tf_821 wd_3740 cwX12_sent ⟨Nat.le_of_ble_eq_true rfl, Nat.le_of_ble_eq_true rfl⟩ rfl hl.1 (Nat.le_of_ble_eq_true rfl) dX12_sees_69 rfl rfl ⟨Nat.zero_le _, Nat.zero_le _⟩ rfl (fun H locs hw => ?_)
      refine lv_goto (tgt := 294) C.1.1 C.1.2.1 dX12_sees_72 (by decide) ?_
      exact hb294 M36 L37 _ _ ls hD hw (lv_sub hl [] rfl)
  have hb48 : ∀ (v3 : Int32) (s2 : Int32) (M : mwM) (L : mwL) (H : Heap) (locs : List Loc) (ls : Array Slot), fX12_sees_b48 fu a1 a2 v3 s2 M L = some (M0, L0) → mw_W G ad NF TF FF M L H locs → lv_has ls 4 [(0, .ref (ad 821)), (1, .int a1), (2, .int a2), (3, .int v3)] → W p l e ({ frames := 5, cells := 0, slots := 0, locals := 130 }) s m [.ref (ad 821), .int a1, .int a2].toArray below meth c H locs 0 0 (MQ below (mw_Qv G ad NF TF FF (mw_eqV M0 L0)) [.ref (ad 821), .int a1, .int a2].toArray s 0 0 (mw_fr G)) (F0 m 48 ls [.int s2, .int a1, .ref (ad 831)]) := by
    intro v3 s2 M L H locs ls hD hw hl
    unfold fX12_sees_b48 at hD
    obtain ⟨q2, hD⟩ := g_ck hD
    obtain ⟨M3, eM3, hD⟩ := g_let hD
    refine mr_iast C hw (by decide) tf_831 q2 dX12_sees_48 (fun H locs hw => ?_)
    replace hw : mw_W G ad NF TF FF M3 L H locs := by rw [eM3]; exact hw
    refine lv_aload_n C.1.1 C.1.2.1 dX12_sees_49 rfl (lv_at hl 0 rfl) ?_
    refine mr_getR C hw kc_12 16 (by decide) tf_821 ff_821_16 wd_2116 dX12_sees_50 (by decide) rfl ?_
    refine lv_iload_n C.1.1 C.1.2.1 dX12_sees_53 rfl (lv_at hl 1 rfl) ?_
    refine lv_iload_n C.1.1 C.1.2.1 dX12_sees_54 rfl (lv_at hl 3 rfl) ?_
    obtain ⟨q4, hD⟩ := g_ck hD
    obtain ⟨M5, eM5, hD⟩ := g_let hD
    refine mr_iast C hw (by decide) tf_833 q4 dX12_sees_55 (fun H locs hw => ?_)
    replace hw : mw_W G ad NF TF FF M5 L H locs := by rw [eM5]; exact hw
    exact hb56 M5 L _ _ ls hD hw (lv_sub hl [0, 1, 2] rfl)
  have hb33 : ∀ (v3 : Int32) (M : mwM) (L : mwL) (H : Heap) (locs : List Loc) (ls : Array Slot), fX12_sees_b33 fu a1 a2 v3 M L = some (M0, L0) → mw_W G ad NF TF FF M L H locs → lv_has ls 4 [(0, .ref (ad 821)), (1, .int a1), (2, .int a2), (3, .int v3)] → W p l e ({ frames := 5, cells := 0, slots := 0, locals := 130 }) s m [.ref (ad 821), .int a1, .int a2].toArray below meth c H locs 0 0 (MQ below (mw_Qv G ad NF TF FF (mw_eqV M0 L0)) [.ref (ad 821), .int a1, .int a2].toArray s 0 0 (mw_fr G)) (F0 m 33 ls []) := by
    intro v3 M L H locs ls hD hw hl
    unfold fX12_sees_b33 at hD
    refine lv_aload_n C.1.1 C.1.2.1 dX12_sees_33 rfl (lv_at hl 0 rfl) ?_
    refine mr_getR C hw kc_12 14 (by decide) tf_821 ff_821_14 wd_2114 dX12_sees_34 (by decide) rfl ?_
    refine lv_iload_n C.1.1 C.1.2.1 dX12_sees_37 rfl (lv_at hl 1 rfl) ?_
    refine lv_iload_n C.1.1 C.1.2.1 dX12_sees_38 rfl (lv_at hl 3 rfl) ?_
    refine lv_iconst (v := (-1)) C.1.1 C.1.2.1 dX12_sees_39 (by decide) ?_
    refine lv_icmp_ne (tgt := 47) C.1.1 C.1.2.1 dX12_sees_40 (by decide) (fun c1 => ?_) (fun c1 => ?_)
    · replace hD := g_neg c1 hD
      refine lv_iconst (v := 1) C.1.1 C.1.2.1 dX12_sees_47 (by decide) ?_
      exact hb48 v3 1 M L _ _ ls hD hw (lv_sub hl [0, 1, 2, 3] rfl)
    · replace hD := g_pos c1 hD
      refine lv_iconst (v := 2) C.1.1 C.1.2.1 dX12_sees_43 (by decide) ?_
      refine lv_goto (tgt := 48) C.1.1 C.1.2.1 dX12_sees_44 (by decide) ?_
      exact hb48 v3 2 M L _ _ ls hD hw (lv_sub hl [0, 1, 2, 3] rfl)
  unfold DX12_sees at hD
  refine lv_aload_n C.1.1 C.1.2.1 dX12_sees_0 rfl (lv_at hl 0 rfl) ?_
  refine mr_getR C hw kc_12 14 (by decide) tf_821 ff_821_14 wd_2114 dX12_sees_1 (by decide) rfl ?_
  refine lv_iload_n C.1.1 C.1.2.1 dX12_sees_4 rfl (lv_at hl 1 rfl) ?_
  obtain ⟨q57, hD⟩ := g_ck hD
  refine mr_iald C hw (by decide) tf_831 q57 dX12_sees_5 ?_
  refine lv_if_ne (tgt := 56) C.1.1 C.1.2.1 dX12_sees_6 (by decide) (fun c58 => ?_) (fun c58 => ?_)
  · replace hD := g_neg c58 hD
    exact hb56 M L _ _ ls hD hw (lv_sub hl [0, 1, 2] rfl)
  · replace hD := g_pos c58 hD
    refine lv_aload_n C.1.1 C.1.2.1 dX12_sees_9 rfl (lv_at hl 0 rfl) ?_
    refine mr_getR C hw kc_12 19 (by decide) tf_821 ff_821_19 wd_2119 dX12_sees_10 (by decide) rfl ?_
    refine lv_iload_n C.1.1 C.1.2.1 dX12_sees_13 rfl (lv_at hl 1 rfl) ?_
    refine lv_iconst (v := 0) C.1.1 C.1.2.1 dX12_sees_14 (by decide) ?_
    obtain ⟨q59, hD⟩ := g_ck hD
    obtain ⟨M60, eM60, hD⟩ := g_let hD
    refine mr_iast C hw (by decide) tf_836 q59 dX12_sees_15 (fun H locs hw => ?_)
    replace hw : mw_W G ad NF TF FF M60 L H locs := by rw [eM60]; exact hw
    refine lv_aload_n C.1.1 C.1.2.1 dX12_sees_16 rfl (lv_at hl 0 rfl) ?_
    refine lv_iload_n C.1.1 C.1.2.1 dX12_sees_17 rfl (lv_at hl 1 rfl) ?_
    obtain ⟨r63, M61, L62, h1, hD⟩ := g_b3 hD
    refine md_cvI (As := [.int a1]) (rest := []) C hw (tX12_first l G ad fu a1 M60 L h1) kc_12 (by decide) tf_821 wd_3650 cwX12_first ⟨Nat.le_of_ble_eq_true rfl, Nat.le_of_ble_eq_true rfl⟩ rfl hl.1 (Nat.le_of_ble_eq_true rfl) dX12_sees_18 rfl rfl ⟨Nat.zero_le _, Nat.zero_le _⟩ rfl (fun H locs hw => ?_)
    refine lv_istore_n (lv' := [(3, .int r63), (0, .ref (ad 821)), (1, .int a1), (2, .int a2)]) C.1.1 C.1.2.1 dX12_sees_21 rfl hl (by decide) rfl (fun ls hl => ?_)
    refine lv_iload_n C.1.1 C.1.2.1 dX12_sees_22 rfl (lv_at hl 0 rfl) ?_
    refine lv_iconst (v := (-1)) C.1.1 C.1.2.1 dX12_sees_23 (by decide) ?_
    refine lv_icmp_ne (tgt := 33) C.1.1 C.1.2.1 dX12_sees_24 (by decide) (fun c64 => ?_) (fun c64 => ?_)
    · replace hD := g_neg c64 hD
      exact hb33 r63 M61 L62 _ _ ls hD hw (lv_sub hl [1, 2, 3, 0] rfl)
    · replace hD := g_pos c64 hD
      refine lv_iload_n C.1.1 C.1.2.1 dX12_sees_27 rfl (lv_at hl 3 rfl) ?_
      refine lv_iconst (v := 1) C.1.1 C.1.2.1 dX12_sees_28 (by decide) ?_
      refine lv_icmp_ne (tgt := 33) C.1.1 C.1.2.1 dX12_sees_29 (by decide) (fun c65 => ?_) (fun c65 => ?_)
      · replace hD := g_neg c65 hD
        exact hb33 r63 M61 L62 _ _ ls hD hw (lv_sub hl [1, 2, 3, 0] rfl)
      · replace hD := g_pos c65 hD
        exact mr_vret C hr hlocks hw (Option.some.inj hD) dX12_sees_32

theorem dX12_run_0 : decode cX12_run 0 = .ok (.aload_n 0, 1) := by decide +kernel
theorem dX12_run_1 : decode cX12_run 1 = .ok (.iload_n 1, 1) := by decide +kernel
theorem dX12_run_2 : decode cX12_run 2 = .ok (.ifCond .ge 7, 3) := by decide +kernel
theorem dX12_run_5 : decode cX12_run 5 = .ok (.iconst 1, 1) := by decide +kernel
theorem dX12_run_6 : decode cX12_run 6 = .ok (.goto 20, 3) := by decide +kernel
theorem dX12_run_9 : decode cX12_run 9 = .ok (.iload_n 1, 1) := by decide +kernel
theorem dX12_run_10 : decode cX12_run 10 = .ok (.sipush 20000, 3) := by decide +kernel
theorem dX12_run_13 : decode cX12_run 13 = .ok (.aload_n 0, 1) := by decide +kernel
theorem dX12_run_14 : decode cX12_run 14 = .ok (.getfield 123, 3) := by decide +kernel
theorem dX12_run_17 : decode cX12_run 17 = .ok (.isub, 1) := by decide +kernel
theorem dX12_run_18 : decode cX12_run 18 = .ok (.if_icmp .le 7, 3) := by decide +kernel
theorem dX12_run_21 : decode cX12_run 21 = .ok (.iconst 2, 1) := by decide +kernel
theorem dX12_run_22 : decode cX12_run 22 = .ok (.goto 4, 3) := by decide +kernel
theorem dX12_run_25 : decode cX12_run 25 = .ok (.iconst 0, 1) := by decide +kernel
theorem dX12_run_26 : decode cX12_run 26 = .ok (.putfield 120, 3) := by decide +kernel
theorem dX12_run_29 : decode cX12_run 29 = .ok (.aload_n 0, 1) := by decide +kernel
theorem dX12_run_30 : decode cX12_run 30 = .ok (.getfield 120, 3) := by decide +kernel
theorem dX12_run_33 : decode cX12_run 33 = .ok (.ifCond .le 5, 3) := by decide +kernel
theorem dX12_run_36 : decode cX12_run 36 = .ok (.iconst 0, 1) := by decide +kernel
theorem dX12_run_37 : decode cX12_run 37 = .ok (.ireturn, 1) := by decide +kernel
theorem dX12_run_38 : decode cX12_run 38 = .ok (.aload_n 0, 1) := by decide +kernel
theorem dX12_run_39 : decode cX12_run 39 = .ok (.getfield 129, 3) := by decide +kernel
theorem dX12_run_42 : decode cX12_run 42 = .ok (.istore_n 2, 1) := by decide +kernel
theorem dX12_run_43 : decode cX12_run 43 = .ok (.iconst 0, 1) := by decide +kernel
theorem dX12_run_44 : decode cX12_run 44 = .ok (.istore_n 3, 1) := by decide +kernel
theorem dX12_run_45 : decode cX12_run 45 = .ok (.iload_n 3, 1) := by decide +kernel
theorem dX12_run_46 : decode cX12_run 46 = .ok (.iload_n 1, 1) := by decide +kernel
theorem dX12_run_47 : decode cX12_run 47 = .ok (.if_icmp .ge 121, 3) := by decide +kernel
theorem dX12_run_50 : decode cX12_run 50 = .ok (.iconst 1, 1) := by decide +kernel
theorem dX12_run_51 : decode cX12_run 51 = .ok (.istore 4, 2) := by decide +kernel
theorem dX12_run_53 : decode cX12_run 53 = .ok (.iconst 0, 1) := by decide +kernel
theorem dX12_run_54 : decode cX12_run 54 = .ok (.istore 5, 2) := by decide +kernel
theorem dX12_run_56 : decode cX12_run 56 = .ok (.iload 5, 2) := by decide +kernel
theorem dX12_run_58 : decode cX12_run 58 = .ok (.aload_n 0, 1) := by decide +kernel
theorem dX12_run_59 : decode cX12_run 59 = .ok (.getfield 7, 3) := by decide +kernel
theorem dX12_run_62 : decode cX12_run 62 = .ok (.if_icmp .ge 26, 3) := by decide +kernel
theorem dX12_run_65 : decode cX12_run 65 = .ok (.aload_n 0, 1) := by decide +kernel
theorem dX12_run_66 : decode cX12_run 66 = .ok (.iload 5, 2) := by decide +kernel
theorem dX12_run_68 : decode cX12_run 68 = .ok (.invokevirtual 276, 3) := by decide +kernel
theorem dX12_run_71 : decode cX12_run 71 = .ok (.ifCond .ne 7, 3) := by decide +kernel
theorem dX12_run_74 : decode cX12_run 74 = .ok (.iconst 0, 1) := by decide +kernel
theorem dX12_run_75 : decode cX12_run 75 = .ok (.goto 5, 3) := by decide +kernel
theorem dX12_run_78 : decode cX12_run 78 = .ok (.iload 4, 2) := by decide +kernel
theorem dX12_run_80 : decode cX12_run 80 = .ok (.istore 4, 2) := by decide +kernel
theorem dX12_run_82 : decode cX12_run 82 = .ok (.iinc 5 1, 3) := by decide +kernel
theorem dX12_run_85 : decode cX12_run 85 = .ok (.goto (-29), 3) := by decide +kernel
theorem dX12_run_88 : decode cX12_run 88 = .ok (.aload_n 0, 1) := by decide +kernel
theorem dX12_run_89 : decode cX12_run 89 = .ok (.getfield 13, 3) := by decide +kernel
theorem dX12_run_92 : decode cX12_run 92 = .ok (.aload_n 0, 1) := by decide +kernel
theorem dX12_run_93 : decode cX12_run 93 = .ok (.getfield 123, 3) := by decide +kernel
theorem dX12_run_96 : decode cX12_run 96 = .ok (.iload 4, 2) := by decide +kernel
theorem dX12_run_98 : decode cX12_run 98 = .ok (.i2b, 1) := by decide +kernel
theorem dX12_run_99 : decode cX12_run 99 = .ok (.bastore, 1) := by decide +kernel
theorem dX12_run_100 : decode cX12_run 100 = .ok (.iconst 0, 1) := by decide +kernel
theorem dX12_run_101 : decode cX12_run 101 = .ok (.istore 5, 2) := by decide +kernel
theorem dX12_run_103 : decode cX12_run 103 = .ok (.iload 5, 2) := by decide +kernel
theorem dX12_run_105 : decode cX12_run 105 = .ok (.aload_n 0, 1) := by decide +kernel
theorem dX12_run_106 : decode cX12_run 106 = .ok (.getfield 7, 3) := by decide +kernel
theorem dX12_run_109 : decode cX12_run 109 = .ok (.if_icmp .ge 43, 3) := by decide +kernel
theorem dX12_run_112 : decode cX12_run 112 = .ok (.aload_n 0, 1) := by decide +kernel
theorem dX12_run_113 : decode cX12_run 113 = .ok (.iload 5, 2) := by decide +kernel
theorem dX12_run_115 : decode cX12_run 115 = .ok (.aload_n 0, 1) := by decide +kernel
theorem dX12_run_116 : decode cX12_run 116 = .ok (.getfield 65, 3) := by decide +kernel
theorem dX12_run_119 : decode cX12_run 119 = .ok (.sipush 20000, 3) := by decide +kernel
theorem dX12_run_122 : decode cX12_run 122 = .ok (.iload 5, 2) := by decide +kernel
theorem dX12_run_124 : decode cX12_run 124 = .ok (.imul, 1) := by decide +kernel
theorem dX12_run_125 : decode cX12_run 125 = .ok (.aload_n 0, 1) := by decide +kernel
theorem dX12_run_126 : decode cX12_run 126 = .ok (.getfield 123, 3) := by decide +kernel
theorem dX12_run_129 : decode cX12_run 129 = .ok (.iadd, 1) := by decide +kernel
theorem dX12_run_130 : decode cX12_run 130 = .ok (.baload, 1) := by decide +kernel
theorem dX12_run_131 : decode cX12_run 131 = .ok (.ifCond .eq 10, 3) := by decide +kernel
theorem dX12_run_134 : decode cX12_run 134 = .ok (.iconst 1, 1) := by decide +kernel
theorem dX12_run_135 : decode cX12_run 135 = .ok (.iload 4, 2) := by decide +kernel
theorem dX12_run_137 : decode cX12_run 137 = .ok (.isub, 1) := by decide +kernel
theorem dX12_run_138 : decode cX12_run 138 = .ok (.goto 5, 3) := by decide +kernel
theorem dX12_run_141 : decode cX12_run 141 = .ok (.iload 4, 2) := by decide +kernel
theorem dX12_run_143 : decode cX12_run 143 = .ok (.invokevirtual 279, 3) := by decide +kernel
theorem dX12_run_146 : decode cX12_run 146 = .ok (.iinc 5 1, 3) := by decide +kernel
theorem dX12_run_149 : decode cX12_run 149 = .ok (.goto (-46), 3) := by decide +kernel
theorem dX12_run_152 : decode cX12_run 152 = .ok (.aload_n 0, 1) := by decide +kernel
theorem dX12_run_153 : decode cX12_run 153 = .ok (.dup, 1) := by decide +kernel
theorem dX12_run_154 : decode cX12_run 154 = .ok (.getfield 123, 3) := by decide +kernel
theorem dX12_run_157 : decode cX12_run 157 = .ok (.iconst 1, 1) := by decide +kernel
theorem dX12_run_158 : decode cX12_run 158 = .ok (.iadd, 1) := by decide +kernel
theorem dX12_run_159 : decode cX12_run 159 = .ok (.putfield 123, 3) := by decide +kernel
theorem dX12_run_162 : decode cX12_run 162 = .ok (.iinc 3 1, 3) := by decide +kernel
theorem dX12_run_165 : decode cX12_run 165 = .ok (.goto (-120), 3) := by decide +kernel
theorem dX12_run_168 : decode cX12_run 168 = .ok (.aload_n 0, 1) := by decide +kernel
theorem dX12_run_169 : decode cX12_run 169 = .ok (.getfield 129, 3) := by decide +kernel
theorem dX12_run_172 : decode cX12_run 172 = .ok (.iload_n 2, 1) := by decide +kernel
theorem dX12_run_173 : decode cX12_run 173 = .ok (.isub, 1) := by decide +kernel
theorem dX12_run_174 : decode cX12_run 174 = .ok (.ireturn, 1) := by decide +kernel
theorem cwX12_run : mw_cwV yX12_run cX12_run 6 ((some .int)) 1 := ⟨⟨wd_15, wd_3645, by decide +kernel⟩, wd_3643, wd_3644⟩
noncomputable def fX12_run_b143 (fu : Nat) (a1 : Int32) (r45 : (Int32 × Int32 × mwM × mwL) → Option (Int32 × mwM × mwL)) (r103 : (Int32 × Int32 × Int32 × Int32 × mwM × mwL) → Option (Int32 × mwM × mwL)) (v2 : Int32) (v3 : Int32) (v4 : Int32) (v5 : Int32) (s1 : Int32) (s2 : Int32) (M : mwM) (L : mwL) : Option (Int32 × mwM × mwL) :=
  mb2 (DX12_sees fu s1 s2 M L) (fun M18 L19 => mlet (v5 + 1) (fun x20 => r103 (v2, v3, v4, x20, M18, L19)))
noncomputable def fX12_run_i103 (fu : Nat) (a1 : Int32) (r45 : (Int32 × Int32 × mwM × mwL) → Option (Int32 × mwM × mwL)) (r103 : (Int32 × Int32 × Int32 × Int32 × mwM × mwL) → Option (Int32 × mwM × mwL)) (v2 : Int32) (v3 : Int32) (v4 : Int32) (v5 : Int32) (M : mwM) (L : mwL) : Option (Int32 × mwM × mwL) :=
  (if (M 821 1) ≤ v5 then mlet (mset M 821 2 ((M 821 2) + 1)) (fun M14 => mlet (v3 + 1) (fun x15 => r45 (v2, x15, M14, L))) else mck ((20000 * v5) + (M 821 2)) 140000 ((if (M 838 ((20000 * v5) + (M 821 2)).toNatClampNeg) = 0 then fX12_run_b143 fu a1 r45 r103 v2 v3 v4 v5 v5 v4 M L else fX12_run_b143 fu a1 r45 r103 v2 v3 v4 v5 v5 (1 - v4) M L)))
noncomputable def fX12_run_h103 (fu : Nat) (a1 : Int32) (r45 : (Int32 × Int32 × mwM × mwL) → Option (Int32 × mwM × mwL)) : Nat → (Int32 × Int32 × Int32 × Int32 × mwM × mwL) → Option (Int32 × mwM × mwL) := mloop (fun r103 s => fX12_run_i103 fu a1 r45 r103 s.1 s.2.1 s.2.2.1 s.2.2.2.1 s.2.2.2.2.1 s.2.2.2.2.2)
noncomputable def fX12_run_b80 (fu : Nat) (a1 : Int32) (r45 : (Int32 × Int32 × mwM × mwL) → Option (Int32 × mwM × mwL)) (r56 : (Int32 × Int32 × Int32 × Int32 × mwM × mwL) → Option (Int32 × mwM × mwL)) (v2 : Int32) (v3 : Int32) (v5 : Int32) (s0 : Int32) (M : mwM) (L : mwL) : Option (Int32 × mwM × mwL) :=
  mlet (v5 + 1) (fun x12 => r56 (v2, v3, s0, x12, M, L))
noncomputable def fX12_run_i56 (fu : Nat) (a1 : Int32) (r45 : (Int32 × Int32 × mwM × mwL) → Option (Int32 × mwM × mwL)) (r56 : (Int32 × Int32 × Int32 × Int32 × mwM × mwL) → Option (Int32 × mwM × mwL)) (v2 : Int32) (v3 : Int32) (v4 : Int32) (v5 : Int32) (M : mwM) (L : mwL) : Option (Int32 × mwM × mwL) :=
  (if (M 821 1) ≤ v5 then mck (M 821 2) 20000 (mlet (mset M 822 ((M 821 2).toNatClampNeg) (vp_nar .byte v4.toInt8.toInt32)) (fun M7 => fX12_run_h103 fu a1 r45 fu (v2, v3, v4, 0, M7, L))) else mb3 (DX12_puts fu v5 M L) (fun r10 M8 L9 => (if r10 = 0 then fX12_run_b80 fu a1 r45 r56 v2 v3 v5 0 M8 L9 else fX12_run_b80 fu a1 r45 r56 v2 v3 v5 v4 M8 L9)))
noncomputable def fX12_run_h56 (fu : Nat) (a1 : Int32) (r45 : (Int32 × Int32 × mwM × mwL) → Option (Int32 × mwM × mwL)) : Nat → (Int32 × Int32 × Int32 × Int32 × mwM × mwL) → Option (Int32 × mwM × mwL) := mloop (fun r56 s => fX12_run_i56 fu a1 r45 r56 s.1 s.2.1 s.2.2.1 s.2.2.2.1 s.2.2.2.2.1 s.2.2.2.2.2)
noncomputable def fX12_run_i45 (fu : Nat) (a1 : Int32) (r45 : (Int32 × Int32 × mwM × mwL) → Option (Int32 × mwM × mwL)) (v2 : Int32) (v3 : Int32) (M : mwM) (L : mwL) : Option (Int32 × mwM × mwL) :=
  (if a1 ≤ v3 then some ((M 821 11) - v2, M, L) else fX12_run_h56 fu a1 r45 fu (v2, v3, 1, 0, M, L))
noncomputable def fX12_run_h45 (fu : Nat) (a1 : Int32) : Nat → (Int32 × Int32 × mwM × mwL) → Option (Int32 × mwM × mwL) := mloop (fun r45 s => fX12_run_i45 fu a1 r45 s.1 s.2.1 s.2.2.1 s.2.2.2)
noncomputable def fX12_run_b26 (fu : Nat) (a1 : Int32) (s1 : Int32) (M : mwM) (L : mwL) : Option (Int32 × mwM × mwL) :=
  mlet (mset M 821 0 s1) (fun M1 => (if (M1 821 0) ≤ 0 then mlet (M1 821 11) (fun x3 => fX12_run_h45 fu a1 fu (x3, 0, M1, L)) else some (0, M1, L)))
noncomputable def DX12_run (fu : Nat) (a1 : Int32) (M : mwM) (L : mwL) : Option (Int32 × mwM × mwL) :=
  (if 0 ≤ a1 then (if a1 ≤ (20000 - (M 821 2)) then fX12_run_b26 fu a1 0 M L else fX12_run_b26 fu a1 2 M L) else fX12_run_b26 fu a1 1 M L)
set_option maxHeartbeats 4000000 in
set_option maxRecDepth 100000 in
theorem tX12_run (l : Launch) (G : mwG) (ad : Nat → Nat) (fu : Nat) (a1 : Int32) (M : mwM) (L : mwL) {r0 : Int32} {M0 : mwM} {L0 : mwL} (hD : DX12_run fu a1 M L = some (r0, M0, L0)) : Met l yX12_run (Cond.code yX12_run cX12_run 6 ((some .int)) :: GT) ({ frames := 6, cells := 0, slots := 0, locals := 153 }) (mw_Pre G ad NF TF FF M L [.ref (ad 821), .int a1]) (mw_Qi G ad NF TF FF (mw_eqI r0 M0 L0)) 0 0 (mw_fr G) := by
  refine mw_enter (by decide) (Nat.le_of_ble_eq_true rfl) ?_
  intro p e s m below meth c ls C hr hlocks hnm hw hl
  have hl : lv_has ls 6 [(0, .ref (ad 821)), (1, .int a1)] := hl
  have hh45 : ∀ (f : Nat) (v2 : Int32) (v3 : Int32) (M : mwM) (L : mwL) (H : Heap) (locs : List Loc) (ls : Array Slot), fX12_run_h45 fu a1 f (v2, v3, M, L) = some (r0, M0, L0) → mw_W G ad NF TF FF M L H locs → lv_has ls 6 [(0, .ref (ad 821)), (1, .int a1), (2, .int v2), (3, .int v3)] → W p l e ({ frames := 6, cells := 0, slots := 0, locals := 153 }) s m [.ref (ad 821), .int a1].toArray below meth c H locs 0 0 (MQ below (mw_Qi G ad NF TF FF (mw_eqI r0 M0 L0)) [.ref (ad 821), .int a1].toArray s 0 0 (mw_fr G)) (F0 m 45 ls []) := by
    intro f
    induction f with
    | zero => intro v2 v3 M L H locs ls hD; cases hD
    | succ f45 ih45 =>
      intro v2 v3 M L H locs ls hD hw hl
      replace hD : fX12_run_i45 fu a1 (fX12_run_h45 fu a1 f45) v2 v3 M L = some (r0, M0, L0) := hD
      have hh103 : ∀ (f : Nat) (v2 : Int32) (v3 : Int32) (v4 : Int32) (v5 : Int32) (M : mwM) (L : mwL) (H : Heap) (locs : List Loc) (ls : Array Slot), fX12_run_h103 fu a1 (fX12_run_h45 fu a1 f45) f (v2, v3, v4, v5, M, L) = some (r0, M0, L0) → mw_W G ad NF TF FF M L H locs → lv_has ls 6 [(0, .ref (ad 821)), (1, .int a1), (2, .int v2), (3, .int v3), (4, .int v4), (5, .int v5)] → W p l e ({ frames := 6, cells := 0, slots := 0, locals := 153 }) s m [.ref (ad 821), .int a1].toArray below meth c H locs 0 0 (MQ below (mw_Qi G ad NF TF FF (mw_eqI r0 M0 L0)) [.ref (ad 821), .int a1].toArray s 0 0 (mw_fr G)) (F0 m 103 ls []) := by
        intro f
        induction f with
        | zero => intro v2 v3 v4 v5 M L H locs ls hD; cases hD
        | succ f103 ih103 =>
          intro v2 v3 v4 v5 M L H locs ls hD hw hl
          replace hD : fX12_run_i103 fu a1 (fX12_run_h45 fu a1 f45) (fX12_run_h103 fu a1 (fX12_run_h45 fu a1 f45) f103) v2 v3 v4 v5 M L = some (r0, M0, L0) := hD
          have hb143 : ∀ (v2 : Int32) (v3 : Int32) (v4 : Int32) (v5 : Int32) (s1 : Int32) (s2 : Int32) (M : mwM) (L : mwL) (H : Heap) (locs : List Loc) (ls : Array Slot), fX12_run_b143 fu a1 (fX12_run_h45 fu a1 f45) (fX12_run_h103 fu a1 (fX12_run_h45 fu a1 f45) f103) v2 v3 v4 v5 s1 s2 M L = some (r0, M0, L0) → mw_W G ad NF TF FF M L H locs → lv_has ls 6 [(0, .ref (ad 821)), (1, .int a1), (2, .int v2), (3, .int v3), (4, .int v4), (5, .int v5)] → W p l e ({ frames := 6, cells := 0, slots := 0, locals := 153 }) s m [.ref (ad 821), .int a1].toArray below meth c H locs 0 0 (MQ below (mw_Qi G ad NF TF FF (mw_eqI r0 M0 L0)) [.ref (ad 821), .int a1].toArray s 0 0 (mw_fr G)) (F0 m 143 ls [.int s2, .int s1, .ref (ad 821)]) := by
            intro v2 v3 v4 v5 s1 s2 M L H locs ls hD hw hl
            unfold fX12_run_b143 at hD
            obtain ⟨M18, L19, h1, hD⟩ := g_b2 hD
            refine md_cvV (As := [.int s1, .int s2]) (rest := []) C hw (tX12_sees l G ad fu s1 s2 M L h1) kc_12 (by decide) tf_821 wd_3736 cwX12_sees ⟨Nat.le_of_ble_eq_true rfl, Nat.le_of_ble_eq_true rfl⟩ rfl hl.1 (Nat.le_of_ble_eq_true rfl) dX12_run_143 rfl rfl ⟨Nat.zero_le _, Nat.zero_le _⟩ rfl (fun H locs hw => ?_)
            obtain ⟨x20, ex20, hD⟩ := g_let hD
            refine lv_iinc (v := x20) (lv' := [(5, .int x20), (0, .ref (ad 821)), (1, .int a1), (2, .int v2), (3, .int v3), (4, .int v4)]) C.1.1 C.1.2.1 dX12_run_146 hl (k := 5) rfl (by rw [ex20]; rfl) (by decide) rfl (fun ls hl => ?_)
            refine lv_goto (tgt := 103) C.1.1 C.1.2.1 dX12_run_149 (by decide) ?_
            exact ih103 v2 v3 v4 x20 M18 L19 _ _ ls hD hw (lv_sub hl [1, 2, 3, 4, 5, 0] rfl)
          unfold fX12_run_i103 at hD
          refine lv_iload C.1.1 C.1.2.1 dX12_run_103 (lv_at hl 5 rfl) ?_
          refine lv_aload_n C.1.1 C.1.2.1 dX12_run_105 rfl (lv_at hl 0 rfl) ?_
          refine mr_getI C hw kc_12 1 (by decide) tf_821 wd_2101 dX12_run_106 (by decide) rfl ?_
          refine lv_icmp_ge (tgt := 152) C.1.1 C.1.2.1 dX12_run_109 (by decide) (fun c13 => ?_) (fun c13 => ?_)
          · replace hD := g_pos c13 hD
            refine lv_aload_n C.1.1 C.1.2.1 dX12_run_152 rfl (lv_at hl 0 rfl) ?_
            refine lv_dup C.1.1 C.1.2.1 dX12_run_153 rfl ?_
            refine mr_getI C hw kc_12 2 (by decide) tf_821 wd_2102 dX12_run_154 (by decide) rfl ?_
            refine lv_iconst (v := 1) C.1.1 C.1.2.1 dX12_run_157 (by decide) ?_
            refine lv_iadd C.1.1 C.1.2.1 dX12_run_158 ?_
            obtain ⟨M14, eM14, hD⟩ := g_let hD
            refine mr_putI C hw kc_12 2 (by decide) tf_821 wd_2102 dX12_run_159 (by decide) rfl rfl rfl rfl (fun H locs hw => ?_)
            replace hw : mw_W G ad NF TF FF M14 L H locs := by rw [eM14]; exact hw
            obtain ⟨x15, ex15, hD⟩ := g_let hD
            refine lv_iinc (v := x15) (lv' := [(3, .int x15), (0, .ref (ad 821)), (1, .int a1), (2, .int v2), (4, .int v4), (5, .int v5)]) C.1.1 C.1.2.1 dX12_run_162 hl (k := 3) rfl (by rw [ex15]; rfl) (by decide) rfl (fun ls hl => ?_)
            refine lv_goto (tgt := 45) C.1.1 C.1.2.1 dX12_run_165 (by decide) ?_
            exact ih45 v2 x15 M14 L _ _ ls hD hw (lv_sub hl [1, 2, 3, 0] rfl)
          · replace hD := g_neg c13 hD
            refine lv_aload_n C.1.1 C.1.2.1 dX12_run_112 rfl (lv_at hl 0 rfl) ?_
            refine lv_iload C.1.1 C.1.2.1 dX12_run_113 (lv_at hl 5 rfl) ?_
            refine lv_aload_n C.1.1 C.1.2.1 dX12_run_115 rfl (lv_at hl 0 rfl) ?_
            refine mr_getR C hw kc_12 21 (by decide) tf_821 ff_821_21 wd_2121 dX12_run_116 (by decide) rfl ?_
            refine lv_sipush (v := 20000) C.1.1 C.1.2.1 dX12_run_119 (by decide) ?_
            refine lv_iload C.1.1 C.1.2.1 dX12_run_122 (lv_at hl 5 rfl) ?_
            refine lv_imul C.1.1 C.1.2.1 dX12_run_124 ?_
            refine lv_aload_n C.1.1 C.1.2.1 dX12_run_125 rfl (lv_at hl 0 rfl) ?_
            refine mr_getI C hw kc_12 2 (by decide) tf_821 wd_2102 dX12_run_126 (by decide) rfl ?_
            refine lv_iadd C.1.1 C.1.2.1 dX12_run_129 ?_
            obtain ⟨q16, hD⟩ := g_ck hD
            refine mr_zald C hw (by decide) tf_838 q16 dX12_run_130 ?_
            refine lv_if_eq (tgt := 141) C.1.1 C.1.2.1 dX12_run_131 (by decide) (fun c17 => ?_) (fun c17 => ?_)
            · replace hD := g_pos c17 hD
              refine lv_iload C.1.1 C.1.2.1 dX12_run_141 (lv_at hl 4 rfl) ?_
              exact hb143 v2 v3 v4 v5 v5 v4 M L _ _ ls hD hw (lv_sub hl [0, 1, 2, 3, 4, 5] rfl)
            · replace hD := g_neg c17 hD
              refine lv_iconst (v := 1) C.1.1 C.1.2.1 dX12_run_134 (by decide) ?_
              refine lv_iload C.1.1 C.1.2.1 dX12_run_135 (lv_at hl 4 rfl) ?_
              refine lv_isub C.1.1 C.1.2.1 dX12_run_137 ?_
              refine lv_goto (tgt := 143) C.1.1 C.1.2.1 dX12_run_138 (by decide) ?_
              exact hb143 v2 v3 v4 v5 v5 (1 - v4) M L _ _ ls hD hw (lv_sub hl [0, 1, 2, 3, 4, 5] rfl)
      have hh56 : ∀ (f : Nat) (v2 : Int32) (v3 : Int32) (v4 : Int32) (v5 : Int32) (M : mwM) (L : mwL) (H : Heap) (locs : List Loc) (ls : Array Slot), fX12_run_h56 fu a1 (fX12_run_h45 fu a1 f45) f (v2, v3, v4, v5, M, L) = some (r0, M0, L0) → mw_W G ad NF TF FF M L H locs → lv_has ls 6 [(0, .ref (ad 821)), (1, .int a1), (2, .int v2), (3, .int v3), (4, .int v4), (5, .int v5)] → W p l e ({ frames := 6, cells := 0, slots := 0, locals := 153 }) s m [.ref (ad 821), .int a1].toArray below meth c H locs 0 0 (MQ below (mw_Qi G ad NF TF FF (mw_eqI r0 M0 L0)) [.ref (ad 821), .int a1].toArray s 0 0 (mw_fr G)) (F0 m 56 ls []) := by
        intro f
        induction f with
        | zero => intro v2 v3 v4 v5 M L H locs ls hD; cases hD
        | succ f56 ih56 =>
          intro v2 v3 v4 v5 M L H locs ls hD hw hl
          replace hD : fX12_run_i56 fu a1 (fX12_run_h45 fu a1 f45) (fX12_run_h56 fu a1 (fX12_run_h45 fu a1 f45) f56) v2 v3 v4 v5 M L = some (r0, M0, L0) := hD
          have hb80 : ∀ (v2 : Int32) (v3 : Int32) (v5 : Int32) (s0 : Int32) (M : mwM) (L : mwL) (H : Heap) (locs : List Loc) (ls : Array Slot), fX12_run_b80 fu a1 (fX12_run_h45 fu a1 f45) (fX12_run_h56 fu a1 (fX12_run_h45 fu a1 f45) f56) v2 v3 v5 s0 M L = some (r0, M0, L0) → mw_W G ad NF TF FF M L H locs → lv_has ls 6 [(0, .ref (ad 821)), (1, .int a1), (2, .int v2), (3, .int v3), (5, .int v5)] → W p l e ({ frames := 6, cells := 0, slots := 0, locals := 153 }) s m [.ref (ad 821), .int a1].toArray below meth c H locs 0 0 (MQ below (mw_Qi G ad NF TF FF (mw_eqI r0 M0 L0)) [.ref (ad 821), .int a1].toArray s 0 0 (mw_fr G)) (F0 m 80 ls [.int s0]) := by
            intro v2 v3 v5 s0 M L H locs ls hD hw hl
            unfold fX12_run_b80 at hD
            refine lv_istore (lv' := [(4, .int s0), (0, .ref (ad 821)), (1, .int a1), (2, .int v2), (3, .int v3), (5, .int v5)]) C.1.1 C.1.2.1 dX12_run_80 hl (by decide) rfl (fun ls hl => ?_)
            obtain ⟨x12, ex12, hD⟩ := g_let hD
            refine lv_iinc (v := x12) (lv' := [(5, .int x12), (4, .int s0), (0, .ref (ad 821)), (1, .int a1), (2, .int v2), (3, .int v3)]) C.1.1 C.1.2.1 dX12_run_82 hl (k := 5) rfl (by rw [ex12]; rfl) (by decide) rfl (fun ls hl => ?_)
            refine lv_goto (tgt := 56) C.1.1 C.1.2.1 dX12_run_85 (by decide) ?_
            exact ih56 v2 v3 s0 x12 M L _ _ ls hD hw (lv_sub hl [2, 3, 4, 5, 1, 0] rfl)
          unfold fX12_run_i56 at hD
          refine lv_iload C.1.1 C.1.2.1 dX12_run_56 (lv_at hl 5 rfl) ?_
          refine lv_aload_n C.1.1 C.1.2.1 dX12_run_58 rfl (lv_at hl 0 rfl) ?_
          refine mr_getI C hw kc_12 1 (by decide) tf_821 wd_2101 dX12_run_59 (by decide) rfl ?_
          refine lv_icmp_ge (tgt := 88) C.1.1 C.1.2.1 dX12_run_62 (by decide) (fun c5 => ?_) (fun c5 => ?_)
          · replace hD := g_pos c5 hD
            refine lv_aload_n C.1.1 C.1.2.1 dX12_run_88 rfl (lv_at hl 0 rfl) ?_
            refine mr_getR C hw kc_12 3 (by decide) tf_821 ff_821_3 wd_2103 dX12_run_89 (by decide) rfl ?_
            refine lv_aload_n C.1.1 C.1.2.1 dX12_run_92 rfl (lv_at hl 0 rfl) ?_
            refine mr_getI C hw kc_12 2 (by decide) tf_821 wd_2102 dX12_run_93 (by decide) rfl ?_
            refine lv_iload C.1.1 C.1.2.1 dX12_run_96 (lv_at hl 4 rfl) ?_
            refine lv_i2b C.1.1 C.1.2.1 dX12_run_98 rfl ?_
            obtain ⟨q6, hD⟩ := g_ck hD
            obtain ⟨M7, eM7, hD⟩ := g_let hD
            refine mr_bast C hw (by decide) tf_822 q6 dX12_run_99 (fun H locs hw => ?_)
            replace hw : mw_W G ad NF TF FF M7 L H locs := by rw [eM7]; exact hw
            refine lv_iconst (v := 0) C.1.1 C.1.2.1 dX12_run_100 (by decide) ?_
            refine lv_istore (lv' := [(5, .int 0), (0, .ref (ad 821)), (1, .int a1), (2, .int v2), (3, .int v3), (4, .int v4)]) C.1.1 C.1.2.1 dX12_run_101 hl (by decide) rfl (fun ls hl => ?_)
            exact hh103 fu v2 v3 v4 0 M7 L _ _ ls hD hw (lv_sub hl [1, 2, 3, 4, 5, 0] rfl)
          · replace hD := g_neg c5 hD
            refine lv_aload_n C.1.1 C.1.2.1 dX12_run_65 rfl (lv_at hl 0 rfl) ?_
            refine lv_iload C.1.1 C.1.2.1 dX12_run_66 (lv_at hl 5 rfl) ?_
            obtain ⟨r10, M8, L9, h1, hD⟩ := g_b3 hD
            refine md_cvI (As := [.int v5]) (rest := []) C hw (tX12_puts l G ad fu v5 M L h1) kc_12 (by decide) tf_821 wd_3646 cwX12_puts ⟨Nat.le_of_ble_eq_true rfl, Nat.le_of_ble_eq_true rfl⟩ rfl hl.1 (Nat.le_of_ble_eq_true rfl) dX12_run_68 rfl rfl ⟨Nat.zero_le _, Nat.zero_le _⟩ rfl (fun H locs hw => ?_)
            refine lv_if_ne (tgt := 78) C.1.1 C.1.2.1 dX12_run_71 (by decide) (fun c11 => ?_) (fun c11 => ?_)
            · replace hD := g_neg c11 hD
              refine lv_iload C.1.1 C.1.2.1 dX12_run_78 (lv_at hl 4 rfl) ?_
              exact hb80 v2 v3 v5 v4 M8 L9 _ _ ls hD hw (lv_sub hl [0, 1, 2, 3, 5] rfl)
            · replace hD := g_pos c11 hD
              refine lv_iconst (v := 0) C.1.1 C.1.2.1 dX12_run_74 (by decide) ?_
              refine lv_goto (tgt := 80) C.1.1 C.1.2.1 dX12_run_75 (by decide) ?_
              exact hb80 v2 v3 v5 0 M8 L9 _ _ ls hD hw (lv_sub hl [0, 1, 2, 3, 5] rfl)
      unfold fX12_run_i45 at hD
      refine lv_iload_n C.1.1 C.1.2.1 dX12_run_45 rfl (lv_at hl 3 rfl) ?_
      refine lv_iload_n C.1.1 C.1.2.1 dX12_run_46 rfl (lv_at hl 1 rfl) ?_
      refine lv_icmp_ge (tgt := 168) C.1.1 C.1.2.1 dX12_run_47 (by decide) (fun c4 => ?_) (fun c4 => ?_)
      · replace hD := g_pos c4 hD
        refine lv_aload_n C.1.1 C.1.2.1 dX12_run_168 rfl (lv_at hl 0 rfl) ?_
        refine mr_getI C hw kc_12 11 (by decide) tf_821 wd_2111 dX12_run_169 (by decide) rfl ?_
        refine lv_iload_n C.1.1 C.1.2.1 dX12_run_172 rfl (lv_at hl 2 rfl) ?_
        refine lv_isub C.1.1 C.1.2.1 dX12_run_173 ?_
        exact mr_iret C hr hlocks hw rfl (Option.some.inj hD) dX12_run_174
      · replace hD := g_neg c4 hD
        refine lv_iconst (v := 1) C.1.1 C.1.2.1 dX12_run_50 (by decide) ?_
        refine lv_istore (lv' := [(4, .int 1), (0, .ref (ad 821)), (1, .int a1), (2, .int v2), (3, .int v3)]) C.1.1 C.1.2.1 dX12_run_51 hl (by decide) rfl (fun ls hl => ?_)
        refine lv_iconst (v := 0) C.1.1 C.1.2.1 dX12_run_53 (by decide) ?_
        refine lv_istore (lv' := [(5, .int 0), (4, .int 1), (0, .ref (ad 821)), (1, .int a1), (2, .int v2), (3, .int v3)]) C.1.1 C.1.2.1 dX12_run_54 hl (by decide) rfl (fun ls hl => ?_)
        exact hh56 fu v2 v3 1 0 M L _ _ ls hD hw (lv_sub hl [2, 3, 4, 5, 1, 0] rfl)
  have hb26 : ∀ (s1 : Int32) (M : mwM) (L : mwL) (H : Heap) (locs : List Loc) (ls : Array Slot), fX12_run_b26 fu a1 s1 M L = some (r0, M0, L0) → mw_W G ad NF TF FF M L H locs → lv_has ls 6 [(0, .ref (ad 821)), (1, .int a1)] → W p l e ({ frames := 6, cells := 0, slots := 0, locals := 153 }) s m [.ref (ad 821), .int a1].toArray below meth c H locs 0 0 (MQ below (mw_Qi G ad NF TF FF (mw_eqI r0 M0 L0)) [.ref (ad 821), .int a1].toArray s 0 0 (mw_fr G)) (F0 m 26 ls [.int s1, .ref (ad 821)]) := by
    intro s1 M L H locs ls hD hw hl
    unfold fX12_run_b26 at hD
    obtain ⟨M1, eM1, hD⟩ := g_let hD
    refine mr_putI C hw kc_12 0 (by decide) tf_821 wd_2100 dX12_run_26 (by decide) rfl rfl rfl rfl (fun H locs hw => ?_)
    replace hw : mw_W G ad NF TF FF M1 L H locs := by rw [eM1]; exact hw
    refine lv_aload_n C.1.1 C.1.2.1 dX12_run_29 rfl (lv_at hl 0 rfl) ?_
    refine mr_getI C hw kc_12 0 (by decide) tf_821 wd_2100 dX12_run_30 (by decide) rfl ?_
    refine lv_if_le (tgt := 38) C.1.1 C.1.2.1 dX12_run_33 (by decide) (fun c2 => ?_) (fun c2 => ?_)
    · replace hD := g_pos c2 hD
      refine lv_aload_n C.1.1 C.1.2.1 dX12_run_38 rfl (lv_at hl 0 rfl) ?_
      refine mr_getI C hw kc_12 11 (by decide) tf_821 wd_2111 dX12_run_39 (by decide) rfl ?_
      obtain ⟨x3, ex3, hD⟩ := g_let hD
      refine W.eq (g2 := F0 m 42 ls (.int x3 :: [])) (by rw [ex3]) ?_
      refine lv_istore_n (lv' := [(2, .int x3), (0, .ref (ad 821)), (1, .int a1)]) C.1.1 C.1.2.1 dX12_run_42 rfl hl (by decide) rfl (fun ls hl => ?_)
      refine lv_iconst (v := 0) C.1.1 C.1.2.1 dX12_run_43 (by decide) ?_
      refine lv_istore_n (lv' := [(3, .int 0), (2, .int x3), (0, .ref (ad 821)), (1, .int a1)]) C.1.1 C.1.2.1 dX12_run_44 rfl hl (by decide) rfl (fun ls hl => ?_)
      exact hh45 fu x3 0 M1 L _ _ ls hD hw (lv_sub hl [2, 3, 1, 0] rfl)
    · replace hD := g_neg c2 hD
      refine lv_iconst (v := 0) C.1.1 C.1.2.1 dX12_run_36 (by decide) ?_
      exact mr_iret C hr hlocks hw rfl (Option.some.inj hD) dX12_run_37
  unfold DX12_run at hD
  refine lv_aload_n C.1.1 C.1.2.1 dX12_run_0 rfl (lv_at hl 0 rfl) ?_
  refine lv_iload_n C.1.1 C.1.2.1 dX12_run_1 rfl (lv_at hl 1 rfl) ?_
  refine lv_if_ge (tgt := 9) C.1.1 C.1.2.1 dX12_run_2 (by decide) (fun c21 => ?_) (fun c21 => ?_)
  · replace hD := g_pos c21 hD
    refine lv_iload_n C.1.1 C.1.2.1 dX12_run_9 rfl (lv_at hl 1 rfl) ?_
    refine lv_sipush (v := 20000) C.1.1 C.1.2.1 dX12_run_10 (by decide) ?_
    refine lv_aload_n C.1.1 C.1.2.1 dX12_run_13 rfl (lv_at hl 0 rfl) ?_
    refine mr_getI C hw kc_12 2 (by decide) tf_821 wd_2102 dX12_run_14 (by decide) rfl ?_
    refine lv_isub C.1.1 C.1.2.1 dX12_run_17 ?_
    refine lv_icmp_le (tgt := 25) C.1.1 C.1.2.1 dX12_run_18 (by decide) (fun c22 => ?_) (fun c22 => ?_)
    · replace hD := g_pos c22 hD
      refine lv_iconst (v := 0) C.1.1 C.1.2.1 dX12_run_25 (by decide) ?_
      exact hb26 0 M L _ _ ls hD hw (lv_sub hl [0, 1] rfl)
    · replace hD := g_neg c22 hD
      refine lv_iconst (v := 2) C.1.1 C.1.2.1 dX12_run_21 (by decide) ?_
      refine lv_goto (tgt := 26) C.1.1 C.1.2.1 dX12_run_22 (by decide) ?_
      exact hb26 2 M L _ _ ls hD hw (lv_sub hl [0, 1] rfl)
  · replace hD := g_neg c21 hD
    refine lv_iconst (v := 1) C.1.1 C.1.2.1 dX12_run_5 (by decide) ?_
    refine lv_goto (tgt := 26) C.1.1 C.1.2.1 dX12_run_6 (by decide) ?_
    exact hb26 1 M L _ _ ls hD hw (lv_sub hl [0, 1] rfl)

theorem dX12_bit_0 : decode cX12_bit 0 = .ok (.aload_n 0, 1) := by decide +kernel
theorem dX12_bit_1 : decode cX12_bit 1 = .ok (.iload_n 1, 1) := by decide +kernel
theorem dX12_bit_2 : decode cX12_bit 2 = .ok (.ifCond .lt 11, 3) := by decide +kernel
theorem dX12_bit_5 : decode cX12_bit 5 = .ok (.iload_n 1, 1) := by decide +kernel
theorem dX12_bit_6 : decode cX12_bit 6 = .ok (.aload_n 0, 1) := by decide +kernel
theorem dX12_bit_7 : decode cX12_bit 7 = .ok (.getfield 123, 3) := by decide +kernel
theorem dX12_bit_10 : decode cX12_bit 10 = .ok (.if_icmp .lt 7, 3) := by decide +kernel
theorem dX12_bit_13 : decode cX12_bit 13 = .ok (.iconst 1, 1) := by decide +kernel
theorem dX12_bit_14 : decode cX12_bit 14 = .ok (.goto 4, 3) := by decide +kernel
theorem dX12_bit_17 : decode cX12_bit 17 = .ok (.iconst 0, 1) := by decide +kernel
theorem dX12_bit_18 : decode cX12_bit 18 = .ok (.putfield 120, 3) := by decide +kernel
theorem dX12_bit_21 : decode cX12_bit 21 = .ok (.aload_n 0, 1) := by decide +kernel
theorem dX12_bit_22 : decode cX12_bit 22 = .ok (.getfield 120, 3) := by decide +kernel
theorem dX12_bit_25 : decode cX12_bit 25 = .ok (.ifCond .le 7, 3) := by decide +kernel
theorem dX12_bit_28 : decode cX12_bit 28 = .ok (.iconst 0, 1) := by decide +kernel
theorem dX12_bit_29 : decode cX12_bit 29 = .ok (.goto 9, 3) := by decide +kernel
theorem dX12_bit_32 : decode cX12_bit 32 = .ok (.aload_n 0, 1) := by decide +kernel
theorem dX12_bit_33 : decode cX12_bit 33 = .ok (.getfield 13, 3) := by decide +kernel
theorem dX12_bit_36 : decode cX12_bit 36 = .ok (.iload_n 1, 1) := by decide +kernel
theorem dX12_bit_37 : decode cX12_bit 37 = .ok (.baload, 1) := by decide +kernel
theorem dX12_bit_38 : decode cX12_bit 38 = .ok (.ireturn, 1) := by decide +kernel
theorem cwX12_bit : mw_cwV yX12_bit cX12_bit 2 ((some .int)) 1 := ⟨⟨wd_15, wd_4213, by decide +kernel⟩, wd_4211, wd_4212⟩
noncomputable def fX12_bit_b38 (fu : Nat) (a1 : Int32) (s0 : Int32) (M : mwM) (L : mwL) : Option (Int32 × mwM × mwL) :=
  some (s0, M, L)
noncomputable def fX12_bit_b18 (fu : Nat) (a1 : Int32) (s1 : Int32) (M : mwM) (L : mwL) : Option (Int32 × mwM × mwL) :=
  mlet (mset M 821 0 s1) (fun M1 => (if (M1 821 0) ≤ 0 then mck a1 20000 (fX12_bit_b38 fu a1 (M1 822 a1.toNatClampNeg) M1 L) else fX12_bit_b38 fu a1 0 M1 L))
noncomputable def fX12_bit_b13 (fu : Nat) (a1 : Int32) (M : mwM) (L : mwL) : Option (Int32 × mwM × mwL) :=
  fX12_bit_b18 fu a1 1 M L
noncomputable def DX12_bit (fu : Nat) (a1 : Int32) (M : mwM) (L : mwL) : Option (Int32 × mwM × mwL) :=
  (if a1 < 0 then fX12_bit_b13 fu a1 M L else (if a1 < (M 821 2) then fX12_bit_b18 fu a1 0 M L else fX12_bit_b13 fu a1 M L))
set_option maxHeartbeats 4000000 in
set_option maxRecDepth 100000 in
theorem tX12_bit (l : Launch) (G : mwG) (ad : Nat → Nat) (fu : Nat) (a1 : Int32) (M : mwM) (L : mwL) {r0 : Int32} {M0 : mwM} {L0 : mwL} (hD : DX12_bit fu a1 M L = some (r0, M0, L0)) : Met l yX12_bit (Cond.code yX12_bit cX12_bit 2 ((some .int)) :: GT) ({ frames := 0, cells := 0, slots := 0, locals := 0 }) (mw_Pre G ad NF TF FF M L [.ref (ad 821), .int a1]) (mw_Qi G ad NF TF FF (mw_eqI r0 M0 L0)) 0 0 (mw_fr G) := by
  refine mw_enter (by decide) (Nat.le_of_ble_eq_true rfl) ?_
  intro p e s m below meth c ls C hr hlocks hnm hw hl
  have hl : lv_has ls 2 [(0, .ref (ad 821)), (1, .int a1)] := hl
  have hb38 : ∀ (s0 : Int32) (M : mwM) (L : mwL) (H : Heap) (locs : List Loc) (ls : Array Slot), fX12_bit_b38 fu a1 s0 M L = some (r0, M0, L0) → mw_W G ad NF TF FF M L H locs → lv_has ls 2 [] → W p l e ({ frames := 0, cells := 0, slots := 0, locals := 0 }) s m [.ref (ad 821), .int a1].toArray below meth c H locs 0 0 (MQ below (mw_Qi G ad NF TF FF (mw_eqI r0 M0 L0)) [.ref (ad 821), .int a1].toArray s 0 0 (mw_fr G)) (F0 m 38 ls [.int s0]) := by
    intro s0 M L H locs ls hD hw hl
    unfold fX12_bit_b38 at hD
    exact mr_iret C hr hlocks hw rfl (Option.some.inj hD) dX12_bit_38
  have hb18 : ∀ (s1 : Int32) (M : mwM) (L : mwL) (H : Heap) (locs : List Loc) (ls : Array Slot), fX12_bit_b18 fu a1 s1 M L = some (r0, M0, L0) → mw_W G ad NF TF FF M L H locs → lv_has ls 2 [(0, .ref (ad 821)), (1, .int a1)] → W p l e ({ frames := 0, cells := 0, slots := 0, locals := 0 }) s m [.ref (ad 821), .int a1].toArray below meth c H locs 0 0 (MQ below (mw_Qi G ad NF TF FF (mw_eqI r0 M0 L0)) [.ref (ad 821), .int a1].toArray s 0 0 (mw_fr G)) (F0 m 18 ls [.int s1, .ref (ad 821)]) := by
    intro s1 M L H locs ls hD hw hl
    unfold fX12_bit_b18 at hD
    obtain ⟨M1, eM1, hD⟩ := g_let hD
    refine mr_putI C hw kc_12 0 (by decide) tf_821 wd_2100 dX12_bit_18 (by decide) rfl rfl rfl rfl (fun H locs hw => ?_)
    replace hw : mw_W G ad NF TF FF M1 L H locs := by rw [eM1]; exact hw
    refine lv_aload_n C.1.1 C.1.2.1 dX12_bit_21 rfl (lv_at hl 0 rfl) ?_
    refine mr_getI C hw kc_12 0 (by decide) tf_821 wd_2100 dX12_bit_22 (by decide) rfl ?_
    refine lv_if_le (tgt := 32) C.1.1 C.1.2.1 dX12_bit_25 (by decide) (fun c2 => ?_) (fun c2 => ?_)
    · replace hD := g_pos c2 hD
      refine lv_aload_n C.1.1 C.1.2.1 dX12_bit_32 rfl (lv_at hl 0 rfl) ?_
      refine mr_getR C hw kc_12 3 (by decide) tf_821 ff_821_3 wd_2103 dX12_bit_33 (by decide) rfl ?_
      refine lv_iload_n C.1.1 C.1.2.1 dX12_bit_36 rfl (lv_at hl 1 rfl) ?_
      obtain ⟨q3, hD⟩ := g_ck hD
      refine mr_bald C hw (by decide) tf_822 q3 dX12_bit_37 ?_
      exact hb38 (M1 822 a1.toNatClampNeg) M1 L _ _ ls hD hw (lv_sub hl [] rfl)
    · replace hD := g_neg c2 hD
      refine lv_iconst (v := 0) C.1.1 C.1.2.1 dX12_bit_28 (by decide) ?_
      refine lv_goto (tgt := 38) C.1.1 C.1.2.1 dX12_bit_29 (by decide) ?_
      exact hb38 0 M1 L _ _ ls hD hw (lv_sub hl [] rfl)
  have hb13 : ∀ (M : mwM) (L : mwL) (H : Heap) (locs : List Loc) (ls : Array Slot), fX12_bit_b13 fu a1 M L = some (r0, M0, L0) → mw_W G ad NF TF FF M L H locs → lv_has ls 2 [(0, .ref (ad 821)), (1, .int a1)] → W p l e ({ frames := 0, cells := 0, slots := 0, locals := 0 }) s m [.ref (ad 821), .int a1].toArray below meth c H locs 0 0 (MQ below (mw_Qi G ad NF TF FF (mw_eqI r0 M0 L0)) [.ref (ad 821), .int a1].toArray s 0 0 (mw_fr G)) (F0 m 13 ls [.ref (ad 821)]) := by
    intro M L H locs ls hD hw hl
    unfold fX12_bit_b13 at hD
    refine lv_iconst (v := 1) C.1.1 C.1.2.1 dX12_bit_13 (by decide) ?_
    refine lv_goto (tgt := 18) C.1.1 C.1.2.1 dX12_bit_14 (by decide) ?_
    exact hb18 1 M L _ _ ls hD hw (lv_sub hl [0, 1] rfl)
  unfold DX12_bit at hD
  refine lv_aload_n C.1.1 C.1.2.1 dX12_bit_0 rfl (lv_at hl 0 rfl) ?_
  refine lv_iload_n C.1.1 C.1.2.1 dX12_bit_1 rfl (lv_at hl 1 rfl) ?_
  refine lv_if_lt (tgt := 13) C.1.1 C.1.2.1 dX12_bit_2 (by decide) (fun c4 => ?_) (fun c4 => ?_)
  · replace hD := g_pos c4 hD
    exact hb13 M L _ _ ls hD hw (lv_sub hl [0, 1] rfl)
  · replace hD := g_neg c4 hD
    refine lv_iload_n C.1.1 C.1.2.1 dX12_bit_5 rfl (lv_at hl 1 rfl) ?_
    refine lv_aload_n C.1.1 C.1.2.1 dX12_bit_6 rfl (lv_at hl 0 rfl) ?_
    refine mr_getI C hw kc_12 2 (by decide) tf_821 wd_2102 dX12_bit_7 (by decide) rfl ?_
    refine lv_icmp_lt (tgt := 17) C.1.1 C.1.2.1 dX12_bit_10 (by decide) (fun c5 => ?_) (fun c5 => ?_)
    · replace hD := g_pos c5 hD
      refine lv_iconst (v := 0) C.1.1 C.1.2.1 dX12_bit_17 (by decide) ?_
      exact hb18 0 M L _ _ ls hD hw (lv_sub hl [0, 1] rfl)
    · replace hD := g_neg c5 hD
      exact hb13 M L _ _ ls hD hw (lv_sub hl [0, 1] rfl)

theorem dX12_state_0 : decode cX12_state 0 = .ok (.aload_n 0, 1) := by decide +kernel
theorem dX12_state_1 : decode cX12_state 1 = .ok (.aload_n 0, 1) := by decide +kernel
theorem dX12_state_2 : decode cX12_state 2 = .ok (.iload_n 1, 1) := by decide +kernel
theorem dX12_state_3 : decode cX12_state 3 = .ok (.invokevirtual 139, 3) := by decide +kernel
theorem dX12_state_6 : decode cX12_state 6 = .ok (.ifCond .eq 7, 3) := by decide +kernel
theorem dX12_state_9 : decode cX12_state 9 = .ok (.iconst 1, 1) := by decide +kernel
theorem dX12_state_10 : decode cX12_state 10 = .ok (.goto 4, 3) := by decide +kernel
theorem dX12_state_13 : decode cX12_state 13 = .ok (.iconst 0, 1) := by decide +kernel
theorem dX12_state_14 : decode cX12_state 14 = .ok (.putfield 120, 3) := by decide +kernel
theorem dX12_state_17 : decode cX12_state 17 = .ok (.aload_n 0, 1) := by decide +kernel
theorem dX12_state_18 : decode cX12_state 18 = .ok (.getfield 120, 3) := by decide +kernel
theorem dX12_state_21 : decode cX12_state 21 = .ok (.ifCond .le 7, 3) := by decide +kernel
theorem dX12_state_24 : decode cX12_state 24 = .ok (.iconst 0, 1) := by decide +kernel
theorem dX12_state_25 : decode cX12_state 25 = .ok (.goto 9, 3) := by decide +kernel
theorem dX12_state_28 : decode cX12_state 28 = .ok (.aload_n 0, 1) := by decide +kernel
theorem dX12_state_29 : decode cX12_state 29 = .ok (.getfield 43, 3) := by decide +kernel
theorem dX12_state_32 : decode cX12_state 32 = .ok (.iload_n 1, 1) := by decide +kernel
theorem dX12_state_33 : decode cX12_state 33 = .ok (.iaload, 1) := by decide +kernel
theorem dX12_state_34 : decode cX12_state 34 = .ok (.ireturn, 1) := by decide +kernel
theorem cwX12_state : mw_cwV yX12_state cX12_state 2 ((some .int)) 1 := ⟨⟨wd_15, wd_4221, by decide +kernel⟩, wd_4219, wd_4220⟩
noncomputable def fX12_state_b34 (fu : Nat) (a1 : Int32) (s0 : Int32) (M : mwM) (L : mwL) : Option (Int32 × mwM × mwL) :=
  some (s0, M, L)
noncomputable def fX12_state_b14 (fu : Nat) (a1 : Int32) (s1 : Int32) (M : mwM) (L : mwL) : Option (Int32 × mwM × mwL) :=
  mlet (mset M 821 0 s1) (fun M1 => (if (M1 821 0) ≤ 0 then mck a1 32 (fX12_state_b34 fu a1 (M1 831 a1.toNatClampNeg) M1 L) else fX12_state_b34 fu a1 0 M1 L))
noncomputable def DX12_state (fu : Nat) (a1 : Int32) (M : mwM) (L : mwL) : Option (Int32 × mwM × mwL) :=
  mb3 (DX12_noNode fu a1 M L) (fun r6 M4 L5 => (if r6 = 0 then fX12_state_b14 fu a1 0 M4 L5 else fX12_state_b14 fu a1 1 M4 L5))
set_option maxHeartbeats 4000000 in
set_option maxRecDepth 100000 in
theorem tX12_state (l : Launch) (G : mwG) (ad : Nat → Nat) (fu : Nat) (a1 : Int32) (M : mwM) (L : mwL) {r0 : Int32} {M0 : mwM} {L0 : mwL} (hD : DX12_state fu a1 M L = some (r0, M0, L0)) : Met l yX12_state (Cond.code yX12_state cX12_state 2 ((some .int)) :: GT) ({ frames := 1, cells := 0, slots := 0, locals := 21 }) (mw_Pre G ad NF TF FF M L [.ref (ad 821), .int a1]) (mw_Qi G ad NF TF FF (mw_eqI r0 M0 L0)) 0 0 (mw_fr G) := by
  refine mw_enter (by decide) (Nat.le_of_ble_eq_true rfl) ?_
  intro p e s m below meth c ls C hr hlocks hnm hw hl
  have hl : lv_has ls 2 [(0, .ref (ad 821)), (1, .int a1)] := hl
  have hb34 : ∀ (s0 : Int32) (M : mwM) (L : mwL) (H : Heap) (locs : List Loc) (ls : Array Slot), fX12_state_b34 fu a1 s0 M L = some (r0, M0, L0) → mw_W G ad NF TF FF M L H locs → lv_has ls 2 [] → W p l e ({ frames := 1, cells := 0, slots := 0, locals := 21 }) s m [.ref (ad 821), .int a1].toArray below meth c H locs 0 0 (MQ below (mw_Qi G ad NF TF FF (mw_eqI r0 M0 L0)) [.ref (ad 821), .int a1].toArray s 0 0 (mw_fr G)) (F0 m 34 ls [.int s0]) := by
    intro s0 M L H locs ls hD hw hl
    unfold fX12_state_b34 at hD
    exact mr_iret C hr hlocks hw rfl (Option.some.inj hD) dX12_state_34
  have hb14 : ∀ (s1 : Int32) (M : mwM) (L : mwL) (H : Heap) (locs : List Loc) (ls : Array Slot), fX12_state_b14 fu a1 s1 M L = some (r0, M0, L0) → mw_W G ad NF TF FF M L H locs → lv_has ls 2 [(0, .ref (ad 821)), (1, .int a1)] → W p l e ({ frames := 1, cells := 0, slots := 0, locals := 21 }) s m [.ref (ad 821), .int a1].toArray below meth c H locs 0 0 (MQ below (mw_Qi G ad NF TF FF (mw_eqI r0 M0 L0)) [.ref (ad 821), .int a1].toArray s 0 0 (mw_fr G)) (F0 m 14 ls [.int s1, .ref (ad 821)]) := by
    intro s1 M L H locs ls hD hw hl
    unfold fX12_state_b14 at hD
    obtain ⟨M1, eM1, hD⟩ := g_let hD
    refine mr_putI C hw kc_12 0 (by decide) tf_821 wd_2100 dX12_state_14 (by decide) rfl rfl rfl rfl (fun H locs hw => ?_)
    replace hw : mw_W G ad NF TF FF M1 L H locs := by rw [eM1]; exact hw
    refine lv_aload_n C.1.1 C.1.2.1 dX12_state_17 rfl (lv_at hl 0 rfl) ?_
    refine mr_getI C hw kc_12 0 (by decide) tf_821 wd_2100 dX12_state_18 (by decide) rfl ?_
    refine lv_if_le (tgt := 28) C.1.1 C.1.2.1 dX12_state_21 (by decide) (fun c2 => ?_) (fun c2 => ?_)
    · replace hD := g_pos c2 hD
      refine lv_aload_n C.1.1 C.1.2.1 dX12_state_28 rfl (lv_at hl 0 rfl) ?_
      refine mr_getR C hw kc_12 14 (by decide) tf_821 ff_821_14 wd_2114 dX12_state_29 (by decide) rfl ?_
      refine lv_iload_n C.1.1 C.1.2.1 dX12_state_32 rfl (lv_at hl 1 rfl) ?_
      obtain ⟨q3, hD⟩ := g_ck hD
      refine mr_iald C hw (by decide) tf_831 q3 dX12_state_33 ?_
      exact hb34 (M1 831 a1.toNatClampNeg) M1 L _ _ ls hD hw (lv_sub hl [] rfl)
    · replace hD := g_neg c2 hD
      refine lv_iconst (v := 0) C.1.1 C.1.2.1 dX12_state_24 (by decide) ?_
      refine lv_goto (tgt := 34) C.1.1 C.1.2.1 dX12_state_25 (by decide) ?_
      exact hb34 0 M1 L _ _ ls hD hw (lv_sub hl [] rfl)
  unfold DX12_state at hD
  refine lv_aload_n C.1.1 C.1.2.1 dX12_state_0 rfl (lv_at hl 0 rfl) ?_
  refine lv_aload_n C.1.1 C.1.2.1 dX12_state_1 rfl (lv_at hl 0 rfl) ?_
  refine lv_iload_n C.1.1 C.1.2.1 dX12_state_2 rfl (lv_at hl 1 rfl) ?_
  obtain ⟨r6, M4, L5, h1, hD⟩ := g_b3 hD
  refine md_cvI (As := [.int a1]) (rest := [.ref (ad 821)]) C hw (tX12_noNode l G ad fu a1 M L h1) kc_12 (by decide) tf_821 wd_3623 cwX12_noNode ⟨Nat.le_of_ble_eq_true rfl, Nat.le_of_ble_eq_true rfl⟩ rfl hl.1 (Nat.le_of_ble_eq_true rfl) dX12_state_3 rfl rfl ⟨Nat.zero_le _, Nat.zero_le _⟩ rfl (fun H locs hw => ?_)
  refine lv_if_eq (tgt := 13) C.1.1 C.1.2.1 dX12_state_6 (by decide) (fun c7 => ?_) (fun c7 => ?_)
  · replace hD := g_pos c7 hD
    refine lv_iconst (v := 0) C.1.1 C.1.2.1 dX12_state_13 (by decide) ?_
    exact hb14 0 M4 L5 _ _ ls hD hw (lv_sub hl [0, 1] rfl)
  · replace hD := g_neg c7 hD
    refine lv_iconst (v := 1) C.1.1 C.1.2.1 dX12_state_9 (by decide) ?_
    refine lv_goto (tgt := 14) C.1.1 C.1.2.1 dX12_state_10 (by decide) ?_
    exact hb14 1 M4 L5 _ _ ls hD hw (lv_sub hl [0, 1] rfl)
