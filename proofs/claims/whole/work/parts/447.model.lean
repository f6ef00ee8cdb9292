theorem dX19_serveKey_0 : decode cX19_serveKey 0 = .ok (.aload_n 0, 1) := by decide +kernel
theorem dX19_serveKey_1 : decode cX19_serveKey 1 = .ok (.getfield 270, 3) := by decide +kernel
theorem dX19_serveKey_4 : decode cX19_serveKey 4 = .ok (.iload_n 1, 1) := by decide +kernel
theorem dX19_serveKey_5 : decode cX19_serveKey 5 = .ok (.iaload, 1) := by decide +kernel
theorem dX19_serveKey_6 : decode cX19_serveKey 6 = .ok (.iconst 3, 1) := by decide +kernel
theorem dX19_serveKey_7 : decode cX19_serveKey 7 = .ok (.if_icmp .eq 12, 3) := by decide +kernel
theorem dX19_serveKey_10 : decode cX19_serveKey 10 = .ok (.aload_n 0, 1) := by decide +kernel
theorem dX19_serveKey_11 : decode cX19_serveKey 11 = .ok (.getfield 264, 3) := by decide +kernel
theorem dX19_serveKey_14 : decode cX19_serveKey 14 = .ok (.iload_n 1, 1) := by decide +kernel
theorem dX19_serveKey_15 : decode cX19_serveKey 15 = .ok (.baload, 1) := by decide +kernel
theorem dX19_serveKey_16 : decode cX19_serveKey 16 = .ok (.ifCond .ne 25, 3) := by decide +kernel
theorem dX19_serveKey_19 : decode cX19_serveKey 19 = .ok (.aload_n 0, 1) := by decide +kernel
theorem dX19_serveKey_20 : decode cX19_serveKey 20 = .ok (.aload_n 0, 1) := by decide +kernel
theorem dX19_serveKey_21 : decode cX19_serveKey 21 = .ok (.getfield 270, 3) := by decide +kernel
theorem dX19_serveKey_24 : decode cX19_serveKey 24 = .ok (.iload_n 1, 1) := by decide +kernel
theorem dX19_serveKey_25 : decode cX19_serveKey 25 = .ok (.iaload, 1) := by decide +kernel
theorem dX19_serveKey_26 : decode cX19_serveKey 26 = .ok (.iconst 3, 1) := by decide +kernel
theorem dX19_serveKey_27 : decode cX19_serveKey 27 = .ok (.if_icmp .ne 8, 3) := by decide +kernel
theorem dX19_serveKey_30 : decode cX19_serveKey 30 = .ok (.bipush 54, 2) := by decide +kernel
theorem dX19_serveKey_32 : decode cX19_serveKey 32 = .ok (.goto 5, 3) := by decide +kernel
theorem dX19_serveKey_35 : decode cX19_serveKey 35 = .ok (.bipush 36, 2) := by decide +kernel
theorem dX19_serveKey_37 : decode cX19_serveKey 37 = .ok (.invokevirtual 744, 3) := by decide +kernel
theorem dX19_serveKey_40 : decode cX19_serveKey 40 = .ok (.return_, 1) := by decide +kernel
theorem dX19_serveKey_41 : decode cX19_serveKey 41 = .ok (.aload_n 0, 1) := by decide +kernel
theorem dX19_serveKey_42 : decode cX19_serveKey 42 = .ok (.getfield 264, 3) := by decide +kernel
theorem dX19_serveKey_45 : decode cX19_serveKey 45 = .ok (.iload_n 1, 1) := by decide +kernel
theorem dX19_serveKey_46 : decode cX19_serveKey 46 = .ok (.iconst 0, 1) := by decide +kernel
theorem dX19_serveKey_47 : decode cX19_serveKey 47 = .ok (.bastore, 1) := by decide +kernel
theorem dX19_serveKey_48 : decode cX19_serveKey 48 = .ok (.iconst 0, 1) := by decide +kernel
theorem dX19_serveKey_49 : decode cX19_serveKey 49 = .ok (.istore_n 2, 1) := by decide +kernel
theorem dX19_serveKey_50 : decode cX19_serveKey 50 = .ok (.iload_n 2, 1) := by decide +kernel
theorem dX19_serveKey_51 : decode cX19_serveKey 51 = .ok (.iconst 4, 1) := by decide +kernel
theorem dX19_serveKey_52 : decode cX19_serveKey 52 = .ok (.if_icmp .ge 30, 3) := by decide +kernel
theorem dX19_serveKey_55 : decode cX19_serveKey 55 = .ok (.aload_n 0, 1) := by decide +kernel
theorem dX19_serveKey_56 : decode cX19_serveKey 56 = .ok (.getfield 191, 3) := by decide +kernel
theorem dX19_serveKey_59 : decode cX19_serveKey 59 = .ok (.aload_n 0, 1) := by decide +kernel
theorem dX19_serveKey_60 : decode cX19_serveKey 60 = .ok (.getfield 267, 3) := by decide +kernel
theorem dX19_serveKey_63 : decode cX19_serveKey 63 = .ok (.iload_n 1, 1) := by decide +kernel
theorem dX19_serveKey_64 : decode cX19_serveKey 64 = .ok (.iaload, 1) := by decide +kernel
theorem dX19_serveKey_65 : decode cX19_serveKey 65 = .ok (.bipush 8, 2) := by decide +kernel
theorem dX19_serveKey_67 : decode cX19_serveKey 67 = .ok (.iconst 3, 1) := by decide +kernel
theorem dX19_serveKey_68 : decode cX19_serveKey 68 = .ok (.iload_n 2, 1) := by decide +kernel
theorem dX19_serveKey_69 : decode cX19_serveKey 69 = .ok (.isub, 1) := by decide +kernel
theorem dX19_serveKey_70 : decode cX19_serveKey 70 = .ok (.imul, 1) := by decide +kernel
theorem dX19_serveKey_71 : decode cX19_serveKey 71 = .ok (.ishr, 1) := by decide +kernel
theorem dX19_serveKey_72 : decode cX19_serveKey 72 = .ok (.i2b, 1) := by decide +kernel
theorem dX19_serveKey_73 : decode cX19_serveKey 73 = .ok (.invokevirtual 656, 3) := by decide +kernel
theorem dX19_serveKey_76 : decode cX19_serveKey 76 = .ok (.iinc 2 1, 3) := by decide +kernel
theorem dX19_serveKey_79 : decode cX19_serveKey 79 = .ok (.goto (-29), 3) := by decide +kernel
theorem dX19_serveKey_82 : decode cX19_serveKey 82 = .ok (.aload_n 0, 1) := by decide +kernel
theorem dX19_serveKey_83 : decode cX19_serveKey 83 = .ok (.getfield 191, 3) := by decide +kernel
theorem dX19_serveKey_86 : decode cX19_serveKey 86 = .ok (.bipush 16, 2) := by decide +kernel
theorem dX19_serveKey_88 : decode cX19_serveKey 88 = .ok (.bipush 32, 2) := by decide +kernel
theorem dX19_serveKey_90 : decode cX19_serveKey 90 = .ok (.invokevirtual 659, 3) := by decide +kernel
theorem dX19_serveKey_93 : decode cX19_serveKey 93 = .ok (.istore_n 2, 1) := by decide +kernel
theorem dX19_serveKey_94 : decode cX19_serveKey 94 = .ok (.aload_n 0, 1) := by decide +kernel
theorem dX19_serveKey_95 : decode cX19_serveKey 95 = .ok (.getfield 261, 3) := by decide +kernel
theorem dX19_serveKey_98 : decode cX19_serveKey 98 = .ok (.iload_n 1, 1) := by decide +kernel
theorem dX19_serveKey_99 : decode cX19_serveKey 99 = .ok (.iconst 1, 1) := by decide +kernel
theorem dX19_serveKey_100 : decode cX19_serveKey 100 = .ok (.bastore, 1) := by decide +kernel
theorem dX19_serveKey_101 : decode cX19_serveKey 101 = .ok (.iconst 0, 1) := by decide +kernel
theorem dX19_serveKey_102 : decode cX19_serveKey 102 = .ok (.istore_n 3, 1) := by decide +kernel
theorem dX19_serveKey_103 : decode cX19_serveKey 103 = .ok (.iload_n 3, 1) := by decide +kernel
theorem dX19_serveKey_104 : decode cX19_serveKey 104 = .ok (.iconst 4, 1) := by decide +kernel
theorem dX19_serveKey_105 : decode cX19_serveKey 105 = .ok (.if_icmp .ge 52, 3) := by decide +kernel
theorem dX19_serveKey_108 : decode cX19_serveKey 108 = .ok (.aload_n 0, 1) := by decide +kernel
theorem dX19_serveKey_109 : decode cX19_serveKey 109 = .ok (.getfield 261, 3) := by decide +kernel
theorem dX19_serveKey_112 : decode cX19_serveKey 112 = .ok (.iload_n 1, 1) := by decide +kernel
theorem dX19_serveKey_113 : decode cX19_serveKey 113 = .ok (.aload_n 0, 1) := by decide +kernel
theorem dX19_serveKey_114 : decode cX19_serveKey 114 = .ok (.getfield 261, 3) := by decide +kernel
theorem dX19_serveKey_117 : decode cX19_serveKey 117 = .ok (.iload_n 1, 1) := by decide +kernel
theorem dX19_serveKey_118 : decode cX19_serveKey 118 = .ok (.baload, 1) := by decide +kernel
theorem dX19_serveKey_119 : decode cX19_serveKey 119 = .ok (.ifCond .eq 30, 3) := by decide +kernel
theorem dX19_serveKey_122 : decode cX19_serveKey 122 = .ok (.aload_n 0, 1) := by decide +kernel
theorem dX19_serveKey_123 : decode cX19_serveKey 123 = .ok (.getfield 191, 3) := by decide +kernel
theorem dX19_serveKey_126 : decode cX19_serveKey 126 = .ok (.iload_n 3, 1) := by decide +kernel
theorem dX19_serveKey_127 : decode cX19_serveKey 127 = .ok (.invokevirtual 675, 3) := by decide +kernel
theorem dX19_serveKey_130 : decode cX19_serveKey 130 = .ok (.sipush 255, 3) := by decide +kernel
theorem dX19_serveKey_133 : decode cX19_serveKey 133 = .ok (.iand, 1) := by decide +kernel
theorem dX19_serveKey_134 : decode cX19_serveKey 134 = .ok (.aload_n 0, 1) := by decide +kernel
theorem dX19_serveKey_135 : decode cX19_serveKey 135 = .ok (.getfield 252, 3) := by decide +kernel
theorem dX19_serveKey_138 : decode cX19_serveKey 138 = .ok (.iconst 2, 1) := by decide +kernel
theorem dX19_serveKey_139 : decode cX19_serveKey 139 = .ok (.iload_n 3, 1) := by decide +kernel
theorem dX19_serveKey_140 : decode cX19_serveKey 140 = .ok (.iadd, 1) := by decide +kernel
theorem dX19_serveKey_141 : decode cX19_serveKey 141 = .ok (.iaload, 1) := by decide +kernel
theorem dX19_serveKey_142 : decode cX19_serveKey 142 = .ok (.if_icmp .ne 7, 3) := by decide +kernel
theorem dX19_serveKey_145 : decode cX19_serveKey 145 = .ok (.iconst 1, 1) := by decide +kernel
theorem dX19_serveKey_146 : decode cX19_serveKey 146 = .ok (.goto 4, 3) := by decide +kernel
theorem dX19_serveKey_149 : decode cX19_serveKey 149 = .ok (.iconst 0, 1) := by decide +kernel
theorem dX19_serveKey_150 : decode cX19_serveKey 150 = .ok (.bastore, 1) := by decide +kernel
theorem dX19_serveKey_151 : decode cX19_serveKey 151 = .ok (.iinc 3 1, 3) := by decide +kernel
theorem dX19_serveKey_154 : decode cX19_serveKey 154 = .ok (.goto (-51), 3) := by decide +kernel
theorem dX19_serveKey_157 : decode cX19_serveKey 157 = .ok (.aload_n 0, 1) := by decide +kernel
theorem dX19_serveKey_158 : decode cX19_serveKey 158 = .ok (.getfield 261, 3) := by decide +kernel
theorem dX19_serveKey_161 : decode cX19_serveKey 161 = .ok (.iload_n 1, 1) := by decide +kernel
theorem dX19_serveKey_162 : decode cX19_serveKey 162 = .ok (.baload, 1) := by decide +kernel
theorem dX19_serveKey_163 : decode cX19_serveKey 163 = .ok (.ifCond .eq 24, 3) := by decide +kernel
theorem dX19_serveKey_166 : decode cX19_serveKey 166 = .ok (.aload_n 0, 1) := by decide +kernel
theorem dX19_serveKey_167 : decode cX19_serveKey 167 = .ok (.getfield 255, 3) := by decide +kernel
theorem dX19_serveKey_170 : decode cX19_serveKey 170 = .ok (.iconst 0, 1) := by decide +kernel
theorem dX19_serveKey_171 : decode cX19_serveKey 171 = .ok (.bipush 103, 2) := by decide +kernel
theorem dX19_serveKey_173 : decode cX19_serveKey 173 = .ok (.iastore, 1) := by decide +kernel
theorem dX19_serveKey_174 : decode cX19_serveKey 174 = .ok (.aload_n 0, 1) := by decide +kernel
theorem dX19_serveKey_175 : decode cX19_serveKey 175 = .ok (.getfield 255, 3) := by decide +kernel
theorem dX19_serveKey_178 : decode cX19_serveKey 178 = .ok (.iconst 1, 1) := by decide +kernel
theorem dX19_serveKey_179 : decode cX19_serveKey 179 = .ok (.iconst 2, 1) := by decide +kernel
theorem dX19_serveKey_180 : decode cX19_serveKey 180 = .ok (.iastore, 1) := by decide +kernel
theorem dX19_serveKey_181 : decode cX19_serveKey 181 = .ok (.aload_n 0, 1) := by decide +kernel
theorem dX19_serveKey_182 : decode cX19_serveKey 182 = .ok (.iconst 2, 1) := by decide +kernel
theorem dX19_serveKey_183 : decode cX19_serveKey 183 = .ok (.putfield 730, 3) := by decide +kernel
theorem dX19_serveKey_186 : decode cX19_serveKey 186 = .ok (.return_, 1) := by decide +kernel
theorem dX19_serveKey_187 : decode cX19_serveKey 187 = .ok (.aload_n 0, 1) := by decide +kernel
theorem dX19_serveKey_188 : decode cX19_serveKey 188 = .ok (.getfield 270, 3) := by decide +kernel
theorem dX19_serveKey_191 : decode cX19_serveKey 191 = .ok (.iload_n 1, 1) := by decide +kernel
theorem dX19_serveKey_192 : decode cX19_serveKey 192 = .ok (.dup2, 1) := by decide +kernel
theorem dX19_serveKey_193 : decode cX19_serveKey 193 = .ok (.iaload, 1) := by decide +kernel
theorem dX19_serveKey_194 : decode cX19_serveKey 194 = .ok (.iconst 1, 1) := by decide +kernel
theorem dX19_serveKey_195 : decode cX19_serveKey 195 = .ok (.iadd, 1) := by decide +kernel
theorem dX19_serveKey_196 : decode cX19_serveKey 196 = .ok (.iastore, 1) := by decide +kernel
theorem dX19_serveKey_197 : decode cX19_serveKey 197 = .ok (.aload_n 0, 1) := by decide +kernel
theorem dX19_serveKey_198 : decode cX19_serveKey 198 = .ok (.aload_n 0, 1) := by decide +kernel
theorem dX19_serveKey_199 : decode cX19_serveKey 199 = .ok (.getfield 270, 3) := by decide +kernel
theorem dX19_serveKey_202 : decode cX19_serveKey 202 = .ok (.iload_n 1, 1) := by decide +kernel
theorem dX19_serveKey_203 : decode cX19_serveKey 203 = .ok (.iaload, 1) := by decide +kernel
theorem dX19_serveKey_204 : decode cX19_serveKey 204 = .ok (.iconst 3, 1) := by decide +kernel
theorem dX19_serveKey_205 : decode cX19_serveKey 205 = .ok (.if_icmp .ne 8, 3) := by decide +kernel
theorem dX19_serveKey_208 : decode cX19_serveKey 208 = .ok (.bipush 54, 2) := by decide +kernel
theorem dX19_serveKey_210 : decode cX19_serveKey 210 = .ok (.goto 5, 3) := by decide +kernel
theorem dX19_serveKey_213 : decode cX19_serveKey 213 = .ok (.bipush 53, 2) := by decide +kernel
theorem dX19_serveKey_215 : decode cX19_serveKey 215 = .ok (.invokevirtual 744, 3) := by decide +kernel
theorem dX19_serveKey_218 : decode cX19_serveKey 218 = .ok (.return_, 1) := by decide +kernel
theorem cwX19_serveKey : mw_cwV yX19_serveKey cX19_serveKey 4 (none) 1 := ⟨⟨wd_13, wd_4041, by decide +kernel⟩, wd_4040, sl_310⟩
noncomputable def fX19_serveKey_b37 (fu : Nat) (a1 : Int32) (s1 : Int32) (M : mwM) (L : mwL) : Option (mwM × mwL) :=
  mb2 (DX19_no fu s1 M L) (fun M3 L4 => some (M3, L4))
noncomputable def fX19_serveKey_b19 (fu : Nat) (a1 : Int32) (M : mwM) (L : mwL) : Option (mwM × mwL) :=
  mck a1 6 ((if (M 938 a1.toNatClampNeg) = 3 then fX19_serveKey_b37 fu a1 54 M L else fX19_serveKey_b37 fu a1 36 M L))
noncomputable def fX19_serveKey_b215 (fu : Nat) (a1 : Int32) (s1 : Int32) (M : mwM) (L : mwL) : Option (mwM × mwL) :=
  mb2 (DX19_no fu s1 M L) (fun M38 L39 => some (M38, L39))
noncomputable def fX19_serveKey_b150 (fu : Nat) (a1 : Int32) (r103 : (Int32 × mwM × mwL) → Option (mwM × mwL)) (v3 : Int32) (s2 : Int32) (M : mwM) (L : mwL) : Option (mwM × mwL) :=
  mck a1 6 (mlet (mset M 935 (a1.toNatClampNeg) (vp_nar .boolean s2)) (fun M36 => mlet (v3 + 1) (fun x37 => r103 (x37, M36, L))))
noncomputable def fX19_serveKey_b149 (fu : Nat) (a1 : Int32) (r103 : (Int32 × mwM × mwL) → Option (mwM × mwL)) (v3 : Int32) (M : mwM) (L : mwL) : Option (mwM × mwL) :=
  fX19_serveKey_b150 fu a1 r103 v3 0 M L
noncomputable def fX19_serveKey_i103 (fu : Nat) (a1 : Int32) (r103 : (Int32 × mwM × mwL) → Option (mwM × mwL)) (v3 : Int32) (M : mwM) (L : mwL) : Option (mwM × mwL) :=
  (if 4 ≤ v3 then mck a1 6 ((if (M 935 a1.toNatClampNeg) = 0 then mck a1 6 (mck a1 6 (mlet (mset M 938 (a1.toNatClampNeg) ((M 938 a1.toNatClampNeg) + 1)) (fun M20 => mck a1 6 ((if (M20 938 a1.toNatClampNeg) = 3 then fX19_serveKey_b215 fu a1 54 M20 L else fX19_serveKey_b215 fu a1 53 M20 L))))) else mlet (mset M 933 ((0 : Int32).toNatClampNeg) 103) (fun M24 => mlet (mset M24 933 ((1 : Int32).toNatClampNeg) 2) (fun M26 => mlet (mset M26 732 102 2) (fun M27 => some (M27, L)))))) else mck a1 6 ((if (M 935 a1.toNatClampNeg) = 0 then fX19_serveKey_b149 fu a1 r103 v3 M L else mb3 (DX14_out fu v3 M L) (fun r32 M30 L31 => mck (2 + v3) 128 ((if (r32 &&& 255) = (M30 932 (2 + v3).toNatClampNeg) then fX19_serveKey_b150 fu a1 r103 v3 1 M30 L31 else fX19_serveKey_b149 fu a1 r103 v3 M30 L31))))))
noncomputable def fX19_serveKey_h103 (fu : Nat) (a1 : Int32) : Nat → (Int32 × mwM × mwL) → Option (mwM × mwL) := mloop (fun r103 s => fX19_serveKey_i103 fu a1 r103 s.1 s.2.1 s.2.2)
noncomputable def fX19_serveKey_i50 (fu : Nat) (a1 : Int32) (r50 : (Int32 × mwM × mwL) → Option (mwM × mwL)) (v2 : Int32) (M : mwM) (L : mwL) : Option (mwM × mwL) :=
  (if 4 ≤ v2 then mb3 (DX14_code fu 16 32 M L) (fun r8 M6 L7 => mck a1 6 (mlet (mset M6 935 (a1.toNatClampNeg) (vp_nar .boolean 1)) (fun M10 => fX19_serveKey_h103 fu a1 fu (0, M10, L7)))) else mck a1 6 (mb2 (DX14_octet fu (((M 937 a1.toNatClampNeg) >>> ((8 * (3 - v2)) &&& 31)).toInt8.toInt32) M L) (fun M12 L13 => mlet (v2 + 1) (fun x14 => r50 (x14, M12, L13)))))
noncomputable def fX19_serveKey_h50 (fu : Nat) (a1 : Int32) : Nat → (Int32 × mwM × mwL) → Option (mwM × mwL) := mloop (fun r50 s => fX19_serveKey_i50 fu a1 r50 s.1 s.2.1 s.2.2)
noncomputable def DX19_serveKey (fu : Nat) (a1 : Int32) (M : mwM) (L : mwL) : Option (mwM × mwL) :=
  mck a1 6 ((if (M 938 a1.toNatClampNeg) = 3 then fX19_serveKey_b19 fu a1 M L else mck a1 6 ((if (M 936 a1.toNatClampNeg) = 0 then fX19_serveKey_b19 fu a1 M L else mck a1 6 (mlet (mset M 936 (a1.toNatClampNeg) (vp_nar .boolean 0)) (fun M45 => fX19_serveKey_h50 fu a1 fu (0, M45, L)))))))
set_option maxHeartbeats 4000000 in
set_option maxRecDepth 100000 in
theorem tX19_serveKey (l : Launch) (G : mwG) (ad : Nat → Nat) (fu : Nat) (a1 : Int32) (M : mwM) (L : mwL) {M0 : mwM} {L0 : mwL} (hD : DX19_serveKey fu a1 M L = some (M0, L0)) : Met l yX19_serveKey (Cond.code yX19_serveKey cX19_serveKey 4 (none) :: GT) ({ frames := 5, cells := 0, slots := 0, locals := 126 }) (mw_Pre G ad NF TF FF M L [.ref (ad 732), .int a1]) (mw_Qv G ad NF TF FF (mw_eqV M0 L0)) 0 0 (mw_fr G) := by
  refine mw_enter (by decide) (Nat.le_of_ble_eq_true rfl) ?_
  intro p e s m below meth c ls C hr hlocks hnm hw hl
  have hl : lv_has ls 4 [(0, .ref (ad 732)), (1, .int a1)] := hl
  have hb37 : ∀ (s1 : Int32) (M : mwM) (L : mwL) (H : Heap) (locs : List Loc) (ls : Array Slot), fX19_serveKey_b37 fu a1 s1 M L = some (M0, L0) → mw_W G ad NF TF FF M L H locs → lv_has ls 4 [] → W p l e ({ frames := 5, cells := 0, slots := 0, locals := 126 }) s m [.ref (ad 732), .int a1].toArray below meth c H locs 0 0 (MQ below (mw_Qv G ad NF TF FF (mw_eqV M0 L0)) [.ref (ad 732), .int a1].toArray s 0 0 (mw_fr G)) (F0 m 37 ls [.int s1, .ref (ad 732)]) := by
    intro s1 M L H locs ls hD hw hl
    unfold fX19_serveKey_b37 at hD
    obtain ⟨M3, L4, h1, hD⟩ := g_b2 hD
    refine md_cvV (As := [.int s1]) (rest := []) C hw (tX19_no l G ad fu s1 M L h1) kc_19 (by decide) tf_732 wd_3992 cwX19_no ⟨Nat.le_of_ble_eq_true rfl, Nat.le_of_ble_eq_true rfl⟩ rfl hl.1 (Nat.le_of_ble_eq_true rfl) dX19_serveKey_37 rfl rfl ⟨Nat.zero_le _, Nat.zero_le _⟩ rfl (fun H locs hw => ?_)
    exact mr_vret C hr hlocks hw (Option.some.inj hD) dX19_serveKey_40
  have hb19 : ∀ (M : mwM) (L : mwL) (H : Heap) (locs : List Loc) (ls : Array Slot), fX19_serveKey_b19 fu a1 M L = some (M0, L0) → mw_W G ad NF TF FF M L H locs → lv_has ls 4 [(0, .ref (ad 732)), (1, .int a1)] → W p l e ({ frames := 5, cells := 0, slots := 0, locals := 126 }) s m [.ref (ad 732), .int a1].toArray below meth c H locs 0 0 (MQ below (mw_Qv G ad NF TF FF (mw_eqV M0 L0)) [.ref (ad 732), .int a1].toArray s 0 0 (mw_fr G)) (F0 m 19 ls []) := by
    intro M L H locs ls hD hw hl
    unfold fX19_serveKey_b19 at hD
    refine lv_aload_n C.1.1 C.1.2.1 dX19_serveKey_19 rfl (lv_at hl 0 rfl) ?_
    refine lv_aload_n C.1.1 C.1.2.1 dX19_serveKey_20 rfl (lv_at hl 0 rfl) ?_
    refine mr_getR C hw kc_19 107 (by decide) tf_732 ff_732_107 wd_2888 dX19_serveKey_21 (by decide) rfl ?_
    refine lv_iload_n C.1.1 C.1.2.1 dX19_serveKey_24 rfl (lv_at hl 1 rfl) ?_
    obtain ⟨q1, hD⟩ := g_ck hD
    refine mr_iald C hw (by decide) tf_938 q1 dX19_serveKey_25 ?_
    refine lv_iconst (v := 3) C.1.1 C.1.2.1 dX19_serveKey_26 (by decide) ?_
    refine lv_icmp_ne (tgt := 35) C.1.1 C.1.2.1 dX19_serveKey_27 (by decide) (fun c2 => ?_) (fun c2 => ?_)
    · replace hD := g_neg c2 hD
      refine lv_bipush (v := 36) C.1.1 C.1.2.1 dX19_serveKey_35 (by decide) ?_
      exact hb37 36 M L _ _ ls hD hw (lv_sub hl [] rfl)
    · replace hD := g_pos c2 hD
      refine lv_bipush (v := 54) C.1.1 C.1.2.1 dX19_serveKey_30 (by decide) ?_
      refine lv_goto (tgt := 37) C.1.1 C.1.2.1 dX19_serveKey_32 (by decide) ?_
      exact hb37 54 M L _ _ ls hD hw (lv_sub hl [] rfl)
  have hb215 : ∀ (s1 : Int32) (M : mwM) (L : mwL) (H : Heap) (locs : List Loc) (ls : Array Slot), fX19_serveKey_b215 fu a1 s1 M L = some (M0, L0) → mw_W G ad NF TF FF M L H locs → lv_has ls 4 [] → W p l e ({ frames := 5, cells := 0, slots := 0, locals := 126 }) s m [.ref (ad 732), .int a1].toArray below meth c H locs 0 0 (MQ below (mw_Qv G ad NF TF FF (mw_eqV M0 L0)) [.ref (ad 732), .int a1].toArray s 0 0 (mw_fr G)) (F0 m 215 ls [.int s1, .ref (ad 732)]) := by
    intro s1 M L H locs ls hD hw hl
    unfold fX19_serveKey_b215 at hD
    obtain ⟨M38, L39, h1, hD⟩ := g_b2 hD
    refine md_cvV (As := [.int s1]) (rest := []) C hw (tX19_no l G ad fu s1 M L h1) kc_19 (by decide) tf_732 wd_3992 cwX19_no ⟨Nat.le_of_ble_eq_true rfl, Nat.le_of_ble_eq_true rfl⟩ rfl hl.1 (Nat.le_of_ble_eq_true rfl) dX19_serveKey_215 rfl rfl ⟨Nat.zero_le _, Nat.zero_le _⟩ rfl (fun H locs hw => ?_)
    exact mr_vret C hr hlocks hw (Option.some.inj hD) dX19_serveKey_218
  have hh103 : ∀ (f : Nat) (v3 : Int32) (M : mwM) (L : mwL) (H : Heap) (locs : List Loc) (ls : Array Slot), fX19_serveKey_h103 fu a1 f (v3, M, L) = some (M0, L0) → mw_W G ad NF TF FF M L H locs → lv_has ls 4 [(0, .ref (ad 732)), (1, .int a1), (3, .int v3)] → W p l e ({ frames := 5, cells := 0, slots := 0, locals := 126 }) s m [.ref (ad 732), .int a1].toArray below meth c H locs 0 0 (MQ below (mw_Qv G ad NF TF FF (mw_eqV M0 L0)) [.ref (ad 732), .int a1].toArray s 0 0 (mw_fr G)) (F0 m 103 ls []) := by
    intro f
    induction f with
    | zero => intro v3 M L H locs ls hD; cases hD
    | succ f103 ih103 =>
      intro v3 M L H locs ls hD hw hl
      replace hD : fX19_serveKey_i103 fu a1 (fX19_serveKey_h103 fu a1 f103) v3 M L = some (M0, L0) := hD
      have hb150 : ∀ (v3 : Int32) (s2 : Int32) (M : mwM) (L : mwL) (H : Heap) (locs : List Loc) (ls : Array Slot), fX19_serveKey_b150 fu a1 (fX19_serveKey_h103 fu a1 f103) v3 s2 M L = some (M0, L0) → mw_W G ad NF TF FF M L H locs → lv_has ls 4 [(0, .ref (ad 732)), (1, .int a1), (3, .int v3)] → W p l e ({ frames := 5, cells := 0, slots := 0, locals := 126 }) s m [.ref (ad 732), .int a1].toArray below meth c H locs 0 0 (MQ below (mw_Qv G ad NF TF FF (mw_eqV M0 L0)) [.ref (ad 732), .int a1].toArray s 0 0 (mw_fr G)) (F0 m 150 ls [.int s2, .int a1, .ref (ad 935)]) := by
        intro v3 s2 M L H locs ls hD hw hl
        unfold fX19_serveKey_b150 at hD
        obtain ⟨q35, hD⟩ := g_ck hD
        obtain ⟨M36, eM36, hD⟩ := g_let hD
        refine mr_zast C hw (by decide) tf_935 q35 dX19_serveKey_150 (fun H locs hw => ?_)
        replace hw : mw_W G ad NF TF FF M36 L H locs := by rw [eM36]; exact hw
        obtain ⟨x37, ex37, hD⟩ := g_let hD
        refine lv_iinc (v := x37) (lv' := [(3, .int x37), (0, .ref (ad 732)), (1, .int a1)]) C.1.1 C.1.2.1 dX19_serveKey_151 hl (k := 2) rfl (by rw [ex37]; rfl) (by decide) rfl (fun ls hl => ?_)
        refine lv_goto (tgt := 103) C.1.1 C.1.2.1 dX19_serveKey_154 (by decide) ?_
        exact ih103 x37 M36 L _ _ ls hD hw (lv_sub hl [1, 2, 0] rfl)
      have hb149 : ∀ (v3 : Int32) (M : mwM) (L : mwL) (H : Heap) (locs : List Loc) (ls : Array Slot), fX19_serveKey_b149 fu a1 (fX19_serveKey_h103 fu a1 f103) v3 M L = some (M0, L0) → mw_W G ad NF TF FF M L H locs → lv_has ls 4 [(0, .ref (ad 732)), (1, .int a1), (3, .int v3)] → W p l e ({ frames := 5, cells := 0, slots := 0, locals := 126 }) s m [.ref (ad 732), .int a1].toArray below meth c H locs 0 0 (MQ below (mw_Qv G ad NF TF FF (mw_eqV M0 L0)) [.ref (ad 732), .int a1].toArray s 0 0 (mw_fr G)) (F0 m 149 ls [.int a1, .ref (ad 935)]) := by
        intro v3 M L H locs ls hD hw hl
        unfold fX19_serveKey_b149 at hD
        refine lv_iconst (v := 0) C.1.1 C.1.2.1 dX19_serveKey_149 (by decide) ?_
        exact hb150 v3 0 M L _ _ ls hD hw (lv_sub hl [0, 1, 2] rfl)
      unfold fX19_serveKey_i103 at hD
      refine lv_iload_n C.1.1 C.1.2.1 dX19_serveKey_103 rfl (lv_at hl 2 rfl) ?_
      refine lv_iconst (v := 4) C.1.1 C.1.2.1 dX19_serveKey_104 (by decide) ?_
      refine lv_icmp_ge (tgt := 157) C.1.1 C.1.2.1 dX19_serveKey_105 (by decide) (fun c15 => ?_) (fun c15 => ?_)
      · replace hD := g_pos c15 hD
        refine lv_aload_n C.1.1 C.1.2.1 dX19_serveKey_157 rfl (lv_at hl 0 rfl) ?_
        refine mr_getR C hw kc_19 104 (by decide) tf_732 ff_732_104 wd_2885 dX19_serveKey_158 (by decide) rfl ?_
        refine lv_iload_n C.1.1 C.1.2.1 dX19_serveKey_161 rfl (lv_at hl 1 rfl) ?_
        obtain ⟨q16, hD⟩ := g_ck hD
        refine mr_zald C hw (by decide) tf_935 q16 dX19_serveKey_162 ?_
        refine lv_if_eq (tgt := 187) C.1.1 C.1.2.1 dX19_serveKey_163 (by decide) (fun c17 => ?_) (fun c17 => ?_)
        · replace hD := g_pos c17 hD
          refine lv_aload_n C.1.1 C.1.2.1 dX19_serveKey_187 rfl (lv_at hl 0 rfl) ?_
          refine mr_getR C hw kc_19 107 (by decide) tf_732 ff_732_107 wd_2888 dX19_serveKey_188 (by decide) rfl ?_
          refine lv_iload_n C.1.1 C.1.2.1 dX19_serveKey_191 rfl (lv_at hl 1 rfl) ?_
          refine lv_dup2_11 C.1.1 C.1.2.1 dX19_serveKey_192 rfl rfl ?_
          obtain ⟨q18, hD⟩ := g_ck hD
          refine mr_iald C hw (by decide) tf_938 q18 dX19_serveKey_193 ?_
          refine lv_iconst (v := 1) C.1.1 C.1.2.1 dX19_serveKey_194 (by decide) ?_
          refine lv_iadd C.1.1 C.1.2.1 dX19_serveKey_195 ?_
          obtain ⟨q19, hD⟩ := g_ck hD
          obtain ⟨M20, eM20, hD⟩ := g_let hD
          refine mr_iast C hw (by decide) tf_938 q19 dX19_serveKey_196 (fun H locs hw => ?_)
          replace hw : mw_W G ad NF TF FF M20 L H locs := by rw [eM20]; exact hw
          refine lv_aload_n C.1.1 C.1.2.1 dX19_serveKey_197 rfl (lv_at hl 0 rfl) ?_
          refine lv_aload_n C.1.1 C.1.2.1 dX19_serveKey_198 rfl (lv_at hl 0 rfl) ?_
          refine mr_getR C hw kc_19 107 (by decide) tf_732 ff_732_107 wd_2888 dX19_serveKey_199 (by decide) rfl ?_
          refine lv_iload_n C.1.1 C.1.2.1 dX19_serveKey_202 rfl (lv_at hl 1 rfl) ?_
          obtain ⟨q21, hD⟩ := g_ck hD
          refine mr_iald C hw (by decide) tf_938 q21 dX19_serveKey_203 ?_
          refine lv_iconst (v := 3) C.1.1 C.1.2.1 dX19_serveKey_204 (by decide) ?_
          refine lv_icmp_ne (tgt := 213) C.1.1 C.1.2.1 dX19_serveKey_205 (by decide) (fun c22 => ?_) (fun c22 => ?_)
          · replace hD := g_neg c22 hD
            refine lv_bipush (v := 53) C.1.1 C.1.2.1 dX19_serveKey_213 (by decide) ?_
            exact hb215 53 M20 L _ _ ls hD hw (lv_sub hl [] rfl)
          · replace hD := g_pos c22 hD
            refine lv_bipush (v := 54) C.1.1 C.1.2.1 dX19_serveKey_208 (by decide) ?_
            refine lv_goto (tgt := 215) C.1.1 C.1.2.1 dX19_serveKey_210 (by decide) ?_
            exact hb215 54 M20 L _ _ ls hD hw (lv_sub hl [] rfl)
        · replace hD := g_neg c17 hD
          refine lv_aload_n C.1.1 C.1.2.1 dX19_serveKey_166 rfl (lv_at hl 0 rfl) ?_
          refine mr_getR C hw kc_19 101 (by decide) tf_732 ff_732_101 wd_2882 dX19_serveKey_167 (by decide) rfl ?_
          refine lv_iconst (v := 0) C.1.1 C.1.2.1 dX19_serveKey_170 (by decide) ?_
          refine lv_bipush (v := 103) C.1.1 C.1.2.1 dX19_serveKey_171 (by decide) ?_
          obtain ⟨M24, eM24, hD⟩ := g_let hD
          refine mr_iast C hw (by decide) tf_933 (show vp_in 0 128 from by unfold vp_in; decide) dX19_serveKey_173 (fun H locs hw => ?_)
          replace hw : mw_W G ad NF TF FF M24 L H locs := by rw [eM24]; exact hw
          refine lv_aload_n C.1.1 C.1.2.1 dX19_serveKey_174 rfl (lv_at hl 0 rfl) ?_
          refine mr_getR C hw kc_19 101 (by decide) tf_732 ff_732_101 wd_2882 dX19_serveKey_175 (by decide) rfl ?_
          refine lv_iconst (v := 1) C.1.1 C.1.2.1 dX19_serveKey_178 (by decide) ?_
          refine lv_iconst (v := 2) C.1.1 C.1.2.1 dX19_serveKey_179 (by decide) ?_
          obtain ⟨M26, eM26, hD⟩ := g_let hD
          refine mr_iast C hw (by decide) tf_933 (show vp_in 1 128 from by unfold vp_in; decide) dX19_serveKey_180 (fun H locs hw => ?_)
          replace hw : mw_W G ad NF TF FF M26 L H locs := by rw [eM26]; exact hw
          refine lv_aload_n C.1.1 C.1.2.1 dX19_serveKey_181 rfl (lv_at hl 0 rfl) ?_
          refine lv_iconst (v := 2) C.1.1 C.1.2.1 dX19_serveKey_182 (by decide) ?_
          obtain ⟨M27, eM27, hD⟩ := g_let hD
          refine mr_putI C hw kc_19 102 (by decide) tf_732 wd_2883 dX19_serveKey_183 (by decide) rfl rfl rfl rfl (fun H locs hw => ?_)
          replace hw : mw_W G ad NF TF FF M27 L H locs := by rw [eM27]; exact hw
          exact mr_vret C hr hlocks hw (Option.some.inj hD) dX19_serveKey_186
      · replace hD := g_neg c15 hD
        refine lv_aload_n C.1.1 C.1.2.1 dX19_serveKey_108 rfl (lv_at hl 0 rfl) ?_
        refine mr_getR C hw kc_19 104 (by decide) tf_732 ff_732_104 wd_2885 dX19_serveKey_109 (by decide) rfl ?_
        refine lv_iload_n C.1.1 C.1.2.1 dX19_serveKey_112 rfl (lv_at hl 1 rfl) ?_
        refine lv_aload_n C.1.1 C.1.2.1 dX19_serveKey_113 rfl (lv_at hl 0 rfl) ?_
        refine mr_getR C hw kc_19 104 (by decide) tf_732 ff_732_104 wd_2885 dX19_serveKey_114 (by decide) rfl ?_
        refine lv_iload_n C.1.1 C.1.2.1 dX19_serveKey_117 rfl (lv_at hl 1 rfl) ?_
        obtain ⟨q28, hD⟩ := g_ck hD
        refine mr_zald C hw (by decide) tf_935 q28 dX19_serveKey_118 ?_
        refine lv_if_eq (tgt := 149) C.1.1 C.1.2.1 dX19_serveKey_119 (by decide) (fun c29 => ?_) (fun c29 => ?_)
        · replace hD := g_pos c29 hD
          exact hb149 v3 M L _ _ ls hD hw (lv_sub hl [0, 1, 2] rfl)
        · replace hD := g_neg c29 hD
          refine lv_aload_n C.1.1 C.1.2.1 dX19_serveKey_122 rfl (lv_at hl 0 rfl) ?_
          refine mr_getR C hw kc_19 78 (by decide) tf_732 ff_732_78 wd_2859 dX19_serveKey_123 (by decide) rfl ?_
          refine lv_iload_n C.1.1 C.1.2.1 dX19_serveKey_126 rfl (lv_at hl 2 rfl) ?_
          obtain ⟨r32, M30, L31, h1, hD⟩ := g_b3 hD
          refine md_cvI (As := [.int v3]) (rest := [.int a1, .ref (ad 935)]) C hw (tX14_out l G ad fu v3 M L h1) kc_14 (by decide) tf_854 wd_3610 cwX14_out ⟨Nat.le_of_ble_eq_true rfl, Nat.le_of_ble_eq_true rfl⟩ rfl hl.1 (Nat.le_of_ble_eq_true rfl) dX19_serveKey_127 rfl rfl ⟨Nat.zero_le _, Nat.zero_le _⟩ rfl (fun H locs hw => ?_)
          refine lv_sipush (v := 255) C.1.1 C.1.2.1 dX19_serveKey_130 (by decide) ?_
          refine lv_iand C.1.1 C.1.2.1 dX19_serveKey_133 ?_
          refine lv_aload_n C.1.1 C.1.2.1 dX19_serveKey_134 rfl (lv_at hl 0 rfl) ?_
          refine mr_getR C hw kc_19 100 (by decide) tf_732 ff_732_100 wd_2881 dX19_serveKey_135 (by decide) rfl ?_
          refine lv_iconst (v := 2) C.1.1 C.1.2.1 dX19_serveKey_138 (by decide) ?_
          refine lv_iload_n C.1.1 C.1.2.1 dX19_serveKey_139 rfl (lv_at hl 2 rfl) ?_
          refine lv_iadd C.1.1 C.1.2.1 dX19_serveKey_140 ?_
          obtain ⟨q33, hD⟩ := g_ck hD
          refine mr_iald C hw (by decide) tf_932 q33 dX19_serveKey_141 ?_
          refine lv_icmp_ne (tgt := 149) C.1.1 C.1.2.1 dX19_serveKey_142 (by decide) (fun c34 => ?_) (fun c34 => ?_)
          · replace hD := g_neg c34 hD
            exact hb149 v3 M30 L31 _ _ ls hD hw (lv_sub hl [0, 1, 2] rfl)
          · replace hD := g_pos c34 hD
            refine lv_iconst (v := 1) C.1.1 C.1.2.1 dX19_serveKey_145 (by decide) ?_
            refine lv_goto (tgt := 150) C.1.1 C.1.2.1 dX19_serveKey_146 (by decide) ?_
            exact hb150 v3 1 M30 L31 _ _ ls hD hw (lv_sub hl [0, 1, 2] rfl)
  have hh50 : ∀ (f : Nat) (v2 : Int32) (M : mwM) (L : mwL) (H : Heap) (locs : List Loc) (ls : Array Slot), fX19_serveKey_h50 fu a1 f (v2, M, L) = some (M0, L0) → mw_W G ad NF TF FF M L H locs → lv_has ls 4 [(0, .ref (ad 732)), (1, .int a1), (2, .int v2)] → W p l e ({ frames := 5, cells := 0, slots := 0, locals := 126 }) s m [.ref (ad 732), .int a1].toArray below meth c H locs 0 0 (MQ below (mw_Qv G ad NF TF FF (mw_eqV M0 L0)) [.ref (ad 732), .int a1].toArray s 0 0 (mw_fr G)) (F0 m 50 ls []) := by
    intro f
    induction f with
    | zero => intro v2 M L H locs ls hD; cases hD
    | succ f50 ih50 =>
      intro v2 M L H locs ls hD hw hl
      replace hD : fX19_serveKey_i50 fu a1 (fX19_serveKey_h50 fu a1 f50) v2 M L = some (M0, L0) := hD
      unfold fX19_serveKey_i50 at hD
      refine lv_iload_n C.1.1 C.1.2.1 dX19_serveKey_50 rfl (lv_at hl 2 rfl) ?_
      refine lv_iconst (v := 4) C.1.1 C.1.2.1 dX19_serveKey_51 (by decide) ?_
      refine lv_icmp_ge (tgt := 82) C.1.1 C.1.2.1 dX19_serveKey_52 (by decide) (fun c5 => ?_) (fun c5 => ?_)
      · replace hD := g_pos c5 hD
        refine lv_aload_n C.1.1 C.1.2.1 dX19_serveKey_82 rfl (lv_at hl 0 rfl) ?_
        refine mr_getR C hw kc_19 78 (by decide) tf_732 ff_732_78 wd_2859 dX19_serveKey_83 (by decide) rfl ?_
        refine lv_bipush (v := 16) C.1.1 C.1.2.1 dX19_serveKey_86 (by decide) ?_
        refine lv_bipush (v := 32) C.1.1 C.1.2.1 dX19_serveKey_88 (by decide) ?_
        obtain ⟨r8, M6, L7, h1, hD⟩ := g_b3 hD
        refine md_cvI (As := [.int 16, .int 32]) (rest := []) C hw (tX14_code l G ad fu 16 32 M L h1) kc_14 (by decide) tf_854 wd_3582 cwX14_code ⟨Nat.le_of_ble_eq_true rfl, Nat.le_of_ble_eq_true rfl⟩ rfl hl.1 (Nat.le_of_ble_eq_true rfl) dX19_serveKey_90 rfl rfl ⟨Nat.zero_le _, Nat.zero_le _⟩ rfl (fun H locs hw => ?_)
        refine lv_istore_n (lv' := [(2, .int r8), (0, .ref (ad 732)), (1, .int a1)]) C.1.1 C.1.2.1 dX19_serveKey_93 rfl hl (by decide) rfl (fun ls hl => ?_)
        refine lv_aload_n C.1.1 C.1.2.1 dX19_serveKey_94 rfl (lv_at hl 1 rfl) ?_
        refine mr_getR C hw kc_19 104 (by decide) tf_732 ff_732_104 wd_2885 dX19_serveKey_95 (by decide) rfl ?_
        refine lv_iload_n C.1.1 C.1.2.1 dX19_serveKey_98 rfl (lv_at hl 2 rfl) ?_
        refine lv_iconst (v := 1) C.1.1 C.1.2.1 dX19_serveKey_99 (by decide) ?_
        obtain ⟨q9, hD⟩ := g_ck hD
        obtain ⟨M10, eM10, hD⟩ := g_let hD
        refine mr_zast C hw (by decide) tf_935 q9 dX19_serveKey_100 (fun H locs hw => ?_)
        replace hw : mw_W G ad NF TF FF M10 L7 H locs := by rw [eM10]; exact hw
        refine lv_iconst (v := 0) C.1.1 C.1.2.1 dX19_serveKey_101 (by decide) ?_
        refine lv_istore_n (lv' := [(3, .int 0), (2, .int r8), (0, .ref (ad 732)), (1, .int a1)]) C.1.1 C.1.2.1 dX19_serveKey_102 rfl hl (by decide) rfl (fun ls hl => ?_)
        exact hh103 fu 0 M10 L7 _ _ ls hD hw (lv_sub hl [2, 3, 0] rfl)
      · replace hD := g_neg c5 hD
        refine lv_aload_n C.1.1 C.1.2.1 dX19_serveKey_55 rfl (lv_at hl 0 rfl) ?_
        refine mr_getR C hw kc_19 78 (by decide) tf_732 ff_732_78 wd_2859 dX19_serveKey_56 (by decide) rfl ?_
        refine lv_aload_n C.1.1 C.1.2.1 dX19_serveKey_59 rfl (lv_at hl 0 rfl) ?_
        refine mr_getR C hw kc_19 106 (by decide) tf_732 ff_732_106 wd_2887 dX19_serveKey_60 (by decide) rfl ?_
        refine lv_iload_n C.1.1 C.1.2.1 dX19_serveKey_63 rfl (lv_at hl 1 rfl) ?_
        obtain ⟨q11, hD⟩ := g_ck hD
        refine mr_iald C hw (by decide) tf_937 q11 dX19_serveKey_64 ?_
        refine lv_bipush (v := 8) C.1.1 C.1.2.1 dX19_serveKey_65 (by decide) ?_
        refine lv_iconst (v := 3) C.1.1 C.1.2.1 dX19_serveKey_67 (by decide) ?_
        refine lv_iload_n C.1.1 C.1.2.1 dX19_serveKey_68 rfl (lv_at hl 2 rfl) ?_
        refine lv_isub C.1.1 C.1.2.1 dX19_serveKey_69 ?_
        refine lv_imul C.1.1 C.1.2.1 dX19_serveKey_70 ?_
        refine lv_ishr C.1.1 C.1.2.1 dX19_serveKey_71 ?_
        refine lv_i2b C.1.1 C.1.2.1 dX19_serveKey_72 rfl ?_
        obtain ⟨M12, L13, h1, hD⟩ := g_b2 hD
        refine md_cvV (As := [.int (((M 937 a1.toNatClampNeg) >>> ((8 * (3 - v2)) &&& 31)).toInt8.toInt32)]) (rest := []) C hw (tX14_octet l G ad fu (((M 937 a1.toNatClampNeg) >>> ((8 * (3 - v2)) &&& 31)).toInt8.toInt32) M L h1) kc_14 (by decide) tf_854 wd_3578 cwX14_octet ⟨Nat.le_of_ble_eq_true rfl, Nat.le_of_ble_eq_true rfl⟩ rfl hl.1 (Nat.le_of_ble_eq_true rfl) dX19_serveKey_73 rfl rfl ⟨Nat.zero_le _, Nat.zero_le _⟩ rfl (fun H locs hw => ?_)
        obtain ⟨x14, ex14, hD⟩ := g_let hD
        refine lv_iinc (v := x14) (lv' := [(2, .int x14), (0, .ref (ad 732)), (1, .int a1)]) C.1.1 C.1.2.1 dX19_serveKey_76 hl (k := 2) rfl (by rw [ex14]; rfl) (by decide) rfl (fun ls hl => ?_)
        refine lv_goto (tgt := 50) C.1.1 C.1.2.1 dX19_serveKey_79 (by decide) ?_
        exact ih50 x14 M12 L13 _ _ ls hD hw (lv_sub hl [1, 2, 0] rfl)
  unfold DX19_serveKey at hD
  refine lv_aload_n C.1.1 C.1.2.1 dX19_serveKey_0 rfl (lv_at hl 0 rfl) ?_
  refine mr_getR C hw kc_19 107 (by decide) tf_732 ff_732_107 wd_2888 dX19_serveKey_1 (by decide) rfl ?_
  refine lv_iload_n C.1.1 C.1.2.1 dX19_serveKey_4 rfl (lv_at hl 1 rfl) ?_
  obtain ⟨q40, hD⟩ := g_ck hD
  refine mr_iald C hw (by decide) tf_938 q40 dX19_serveKey_5 ?_
  refine lv_iconst (v := 3) C.1.1 C.1.2.1 dX19_serveKey_6 (by decide) ?_
  refine lv_icmp_eq (tgt := 19) C.1.1 C.1.2.1 dX19_serveKey_7 (by decide) (fun c41 => ?_) (fun c41 => ?_)
  · replace hD := g_pos c41 hD
    exact hb19 M L _ _ ls hD hw (lv_sub hl [0, 1] rfl)
  · replace hD := g_neg c41 hD
    refine lv_aload_n C.1.1 C.1.2.1 dX19_serveKey_10 rfl (lv_at hl 0 rfl) ?_
    refine mr_getR C hw kc_19 105 (by decide) tf_732 ff_732_105 wd_2886 dX19_serveKey_11 (by decide) rfl ?_
    refine lv_iload_n C.1.1 C.1.2.1 dX19_serveKey_14 rfl (lv_at hl 1 rfl) ?_
    obtain ⟨q42, hD⟩ := g_ck hD
    refine mr_zald C hw (by decide) tf_936 q42 dX19_serveKey_15 ?_
    refine lv_if_ne (tgt := 41) C.1.1 C.1.2.1 dX19_serveKey_16 (by decide) (fun c43 => ?_) (fun c43 => ?_)
    · replace hD := g_neg c43 hD
      refine lv_aload_n C.1.1 C.1.2.1 dX19_serveKey_41 rfl (lv_at hl 0 rfl) ?_
      refine mr_getR C hw kc_19 105 (by decide) tf_732 ff_732_105 wd_2886 dX19_serveKey_42 (by decide) rfl ?_
      refine lv_iload_n C.1.1 C.1.2.1 dX19_serveKey_45 rfl (lv_at hl 1 rfl) ?_
      refine lv_iconst (v := 0) C.1.1 C.1.2.1 dX19_serveKey_46 (by decide) ?_
      obtain ⟨q44, hD⟩ := g_ck hD
      obtain ⟨M45, eM45, hD⟩ := g_let hD
      refine mr_zast C hw (by decide) tf_936 q44 dX19_serveKey_47 (fun H locs hw => ?_)
      replace hw : mw_W G ad NF TF FF M45 L H locs := by rw [eM45]; exact hw
      refine lv_iconst (v := 0) C.1.1 C.1.2.1 dX19_serveKey_48 (by decide) ?_
      refine lv_istore_n (lv' := [(2, .int 0), (0, .ref (ad 732)), (1, .int a1)]) C.1.1 C.1.2.1 dX19_serveKey_49 rfl hl (by decide) rfl (fun ls hl => ?_)
      exact hh50 fu 0 M45 L _ _ ls hD hw (lv_sub hl [1, 2, 0] rfl)
    · replace hD := g_pos c43 hD
      exact hb19 M L _ _ ls hD hw (lv_sub hl [0, 1] rfl)

theorem dX19_serve_0 : decode cX19_serve 0 = .ok (.aload_n 0, 1) := by decide +kernel
theorem dX19_serve_1 : decode cX19_serve 1 = .ok (.getfield 252, 3) := by decide +kernel
theorem dX19_serve_4 : decode cX19_serve 4 = .ok (.iconst 0, 1) := by decide +kernel
theorem dX19_serve_5 : decode cX19_serve 5 = .ok (.iaload, 1) := by decide +kernel
theorem dX19_serve_6 : decode cX19_serve 6 = .ok (.istore_n 3, 1) := by decide +kernel
theorem dX19_serve_7 : decode cX19_serve 7 = .ok (.iload_n 3, 1) := by decide +kernel
theorem dX19_serve_8 : decode cX19_serve 8 = .ok (.bipush 16, 2) := by decide +kernel
theorem dX19_serve_10 : decode cX19_serve 10 = .ok (.if_icmp .ne 7, 3) := by decide +kernel
theorem dX19_serve_13 : decode cX19_serve 13 = .ok (.iconst 2, 1) := by decide +kernel
theorem dX19_serve_14 : decode cX19_serve 14 = .ok (.goto 41, 3) := by decide +kernel
theorem dX19_serve_17 : decode cX19_serve 17 = .ok (.iload_n 3, 1) := by decide +kernel
theorem dX19_serve_18 : decode cX19_serve 18 = .ok (.bipush 34, 2) := by decide +kernel
theorem dX19_serve_20 : decode cX19_serve 20 = .ok (.if_icmp .ne 7, 3) := by decide +kernel
theorem dX19_serve_23 : decode cX19_serve 23 = .ok (.iconst 3, 1) := by decide +kernel
theorem dX19_serve_24 : decode cX19_serve 24 = .ok (.goto 31, 3) := by decide +kernel
theorem dX19_serve_27 : decode cX19_serve 27 = .ok (.iload_n 3, 1) := by decide +kernel
theorem dX19_serve_28 : decode cX19_serve 28 = .ok (.bipush 46, 2) := by decide +kernel
theorem dX19_serve_30 : decode cX19_serve 30 = .ok (.if_icmp .ne 8, 3) := by decide +kernel
theorem dX19_serve_33 : decode cX19_serve 33 = .ok (.bipush 11, 2) := by decide +kernel
theorem dX19_serve_35 : decode cX19_serve 35 = .ok (.goto 20, 3) := by decide +kernel
theorem dX19_serve_38 : decode cX19_serve 38 = .ok (.iload_n 3, 1) := by decide +kernel
theorem dX19_serve_39 : decode cX19_serve 39 = .ok (.bipush 25, 2) := by decide +kernel
theorem dX19_serve_41 : decode cX19_serve 41 = .ok (.if_icmp .eq 9, 3) := by decide +kernel
theorem dX19_serve_44 : decode cX19_serve 44 = .ok (.iload_n 3, 1) := by decide +kernel
theorem dX19_serve_45 : decode cX19_serve 45 = .ok (.bipush 20, 2) := by decide +kernel
theorem dX19_serve_47 : decode cX19_serve 47 = .ok (.if_icmp .ne 7, 3) := by decide +kernel
theorem dX19_serve_50 : decode cX19_serve 50 = .ok (.iconst 1, 1) := by decide +kernel
theorem dX19_serve_51 : decode cX19_serve 51 = .ok (.goto 4, 3) := by decide +kernel
theorem dX19_serve_54 : decode cX19_serve 54 = .ok (.iconst 0, 1) := by decide +kernel
theorem dX19_serve_55 : decode cX19_serve 55 = .ok (.istore 4, 2) := by decide +kernel
theorem dX19_serve_57 : decode cX19_serve 57 = .ok (.iload 4, 2) := by decide +kernel
theorem dX19_serve_59 : decode cX19_serve 59 = .ok (.ifCond .gt 9, 3) := by decide +kernel
theorem dX19_serve_62 : decode cX19_serve 62 = .ok (.iload_n 3, 1) := by decide +kernel
theorem dX19_serve_63 : decode cX19_serve 63 = .ok (.bipush 39, 2) := by decide +kernel
theorem dX19_serve_65 : decode cX19_serve 65 = .ok (.if_icmp .ne 7, 3) := by decide +kernel
theorem dX19_serve_68 : decode cX19_serve 68 = .ok (.iconst 1, 1) := by decide +kernel
theorem dX19_serve_69 : decode cX19_serve 69 = .ok (.goto 4, 3) := by decide +kernel
theorem dX19_serve_72 : decode cX19_serve 72 = .ok (.iconst 0, 1) := by decide +kernel
theorem dX19_serve_73 : decode cX19_serve 73 = .ok (.istore 5, 2) := by decide +kernel
theorem dX19_serve_75 : decode cX19_serve 75 = .ok (.iload_n 3, 1) := by decide +kernel
theorem dX19_serve_76 : decode cX19_serve 76 = .ok (.bipush 39, 2) := by decide +kernel
theorem dX19_serve_78 : decode cX19_serve 78 = .ok (.if_icmp .ne 22, 3) := by decide +kernel
theorem dX19_serve_81 : decode cX19_serve 81 = .ok (.iload_n 2, 1) := by decide +kernel
theorem dX19_serve_82 : decode cX19_serve 82 = .ok (.iconst 2, 1) := by decide +kernel
theorem dX19_serve_83 : decode cX19_serve 83 = .ok (.if_icmp .ne 17, 3) := by decide +kernel
theorem dX19_serve_86 : decode cX19_serve 86 = .ok (.aload_n 0, 1) := by decide +kernel
theorem dX19_serve_87 : decode cX19_serve 87 = .ok (.getfield 252, 3) := by decide +kernel
theorem dX19_serve_90 : decode cX19_serve 90 = .ok (.iconst 1, 1) := by decide +kernel
theorem dX19_serve_91 : decode cX19_serve 91 = .ok (.iaload, 1) := by decide +kernel
theorem dX19_serve_92 : decode cX19_serve 92 = .ok (.iconst 1, 1) := by decide +kernel
theorem dX19_serve_93 : decode cX19_serve 93 = .ok (.if_icmp .ne 7, 3) := by decide +kernel
theorem dX19_serve_96 : decode cX19_serve 96 = .ok (.iconst 1, 1) := by decide +kernel
theorem dX19_serve_97 : decode cX19_serve 97 = .ok (.goto 4, 3) := by decide +kernel
theorem dX19_serve_100 : decode cX19_serve 100 = .ok (.iconst 0, 1) := by decide +kernel
theorem dX19_serve_101 : decode cX19_serve 101 = .ok (.istore 6, 2) := by decide +kernel
theorem dX19_serve_103 : decode cX19_serve 103 = .ok (.iload_n 3, 1) := by decide +kernel
theorem dX19_serve_104 : decode cX19_serve 104 = .ok (.bipush 39, 2) := by decide +kernel
theorem dX19_serve_106 : decode cX19_serve 106 = .ok (.if_icmp .ne 23, 3) := by decide +kernel
theorem dX19_serve_109 : decode cX19_serve 109 = .ok (.iload_n 2, 1) := by decide +kernel
theorem dX19_serve_110 : decode cX19_serve 110 = .ok (.bipush 6, 2) := by decide +kernel
theorem dX19_serve_112 : decode cX19_serve 112 = .ok (.if_icmp .ne 17, 3) := by decide +kernel
theorem dX19_serve_115 : decode cX19_serve 115 = .ok (.aload_n 0, 1) := by decide +kernel
theorem dX19_serve_116 : decode cX19_serve 116 = .ok (.getfield 252, 3) := by decide +kernel
theorem dX19_serve_119 : decode cX19_serve 119 = .ok (.iconst 1, 1) := by decide +kernel
theorem dX19_serve_120 : decode cX19_serve 120 = .ok (.iaload, 1) := by decide +kernel
theorem dX19_serve_121 : decode cX19_serve 121 = .ok (.iconst 2, 1) := by decide +kernel
theorem dX19_serve_122 : decode cX19_serve 122 = .ok (.if_icmp .ne 7, 3) := by decide +kernel
theorem dX19_serve_125 : decode cX19_serve 125 = .ok (.iconst 1, 1) := by decide +kernel
theorem dX19_serve_126 : decode cX19_serve 126 = .ok (.goto 4, 3) := by decide +kernel
theorem dX19_serve_129 : decode cX19_serve 129 = .ok (.iconst 0, 1) := by decide +kernel
theorem dX19_serve_130 : decode cX19_serve 130 = .ok (.istore 7, 2) := by decide +kernel
theorem dX19_serve_132 : decode cX19_serve 132 = .ok (.iload 5, 2) := by decide +kernel
theorem dX19_serve_134 : decode cX19_serve 134 = .ok (.ifCond .ne 12, 3) := by decide +kernel
theorem dX19_serve_137 : decode cX19_serve 137 = .ok (.aload_n 0, 1) := by decide +kernel
theorem dX19_serve_138 : decode cX19_serve 138 = .ok (.bipush 17, 2) := by decide +kernel
theorem dX19_serve_140 : decode cX19_serve 140 = .ok (.invokevirtual 744, 3) := by decide +kernel
theorem dX19_serve_143 : decode cX19_serve 143 = .ok (.goto 123, 3) := by decide +kernel
theorem dX19_serve_146 : decode cX19_serve 146 = .ok (.iload_n 3, 1) := by decide +kernel
theorem dX19_serve_147 : decode cX19_serve 147 = .ok (.bipush 39, 2) := by decide +kernel
theorem dX19_serve_149 : decode cX19_serve 149 = .ok (.if_icmp .ne 16, 3) := by decide +kernel
theorem dX19_serve_152 : decode cX19_serve 152 = .ok (.iload 6, 2) := by decide +kernel
theorem dX19_serve_154 : decode cX19_serve 154 = .ok (.ifCond .ne 26, 3) := by decide +kernel
theorem dX19_serve_157 : decode cX19_serve 157 = .ok (.iload 7, 2) := by decide +kernel
theorem dX19_serve_159 : decode cX19_serve 159 = .ok (.ifCond .ne 21, 3) := by decide +kernel
theorem dX19_serve_162 : decode cX19_serve 162 = .ok (.goto 9, 3) := by decide +kernel
theorem dX19_serve_165 : decode cX19_serve 165 = .ok (.iload_n 2, 1) := by decide +kernel
theorem dX19_serve_166 : decode cX19_serve 166 = .ok (.iload 4, 2) := by decide +kernel
theorem dX19_serve_168 : decode cX19_serve 168 = .ok (.if_icmp .eq 12, 3) := by decide +kernel
theorem dX19_serve_171 : decode cX19_serve 171 = .ok (.aload_n 0, 1) := by decide +kernel
theorem dX19_serve_172 : decode cX19_serve 172 = .ok (.bipush 19, 2) := by decide +kernel
theorem dX19_serve_174 : decode cX19_serve 174 = .ok (.invokevirtual 744, 3) := by decide +kernel
theorem dX19_serve_177 : decode cX19_serve 177 = .ok (.goto 89, 3) := by decide +kernel
theorem dX19_serve_180 : decode cX19_serve 180 = .ok (.iload_n 3, 1) := by decide +kernel
theorem dX19_serve_181 : decode cX19_serve 181 = .ok (.bipush 16, 2) := by decide +kernel
theorem dX19_serve_183 : decode cX19_serve 183 = .ok (.if_icmp .ne 11, 3) := by decide +kernel
theorem dX19_serve_186 : decode cX19_serve 186 = .ok (.aload_n 0, 1) := by decide +kernel
theorem dX19_serve_187 : decode cX19_serve 187 = .ok (.iload_n 1, 1) := by decide +kernel
theorem dX19_serve_188 : decode cX19_serve 188 = .ok (.invokevirtual 747, 3) := by decide +kernel
theorem dX19_serve_191 : decode cX19_serve 191 = .ok (.goto 75, 3) := by decide +kernel
theorem dX19_serve_194 : decode cX19_serve 194 = .ok (.iload_n 3, 1) := by decide +kernel
theorem dX19_serve_195 : decode cX19_serve 195 = .ok (.bipush 34, 2) := by decide +kernel
theorem dX19_serve_197 : decode cX19_serve 197 = .ok (.if_icmp .ne 11, 3) := by decide +kernel
theorem dX19_serve_200 : decode cX19_serve 200 = .ok (.aload_n 0, 1) := by decide +kernel
theorem dX19_serve_201 : decode cX19_serve 201 = .ok (.iload_n 1, 1) := by decide +kernel
theorem dX19_serve_202 : decode cX19_serve 202 = .ok (.invokevirtual 750, 3) := by decide +kernel
theorem dX19_serve_205 : decode cX19_serve 205 = .ok (.goto 61, 3) := by decide +kernel
theorem dX19_serve_208 : decode cX19_serve 208 = .ok (.iload_n 3, 1) := by decide +kernel
theorem dX19_serve_209 : decode cX19_serve 209 = .ok (.bipush 46, 2) := by decide +kernel
theorem dX19_serve_211 : decode cX19_serve 211 = .ok (.if_icmp .ne 11, 3) := by decide +kernel
theorem dX19_serve_214 : decode cX19_serve 214 = .ok (.aload_n 0, 1) := by decide +kernel
theorem dX19_serve_215 : decode cX19_serve 215 = .ok (.iload_n 1, 1) := by decide +kernel
theorem dX19_serve_216 : decode cX19_serve 216 = .ok (.invokevirtual 753, 3) := by decide +kernel
theorem dX19_serve_219 : decode cX19_serve 219 = .ok (.goto 47, 3) := by decide +kernel
theorem dX19_serve_222 : decode cX19_serve 222 = .ok (.iload_n 3, 1) := by decide +kernel
theorem dX19_serve_223 : decode cX19_serve 223 = .ok (.bipush 25, 2) := by decide +kernel
theorem dX19_serve_225 : decode cX19_serve 225 = .ok (.if_icmp .ne 10, 3) := by decide +kernel
theorem dX19_serve_228 : decode cX19_serve 228 = .ok (.aload_n 0, 1) := by decide +kernel
theorem dX19_serve_229 : decode cX19_serve 229 = .ok (.invokevirtual 756, 3) := by decide +kernel
theorem dX19_serve_232 : decode cX19_serve 232 = .ok (.goto 34, 3) := by decide +kernel
theorem dX19_serve_235 : decode cX19_serve 235 = .ok (.iload_n 3, 1) := by decide +kernel
theorem dX19_serve_236 : decode cX19_serve 236 = .ok (.bipush 20, 2) := by decide +kernel
theorem dX19_serve_238 : decode cX19_serve 238 = .ok (.if_icmp .ne 10, 3) := by decide +kernel
theorem dX19_serve_241 : decode cX19_serve 241 = .ok (.aload_n 0, 1) := by decide +kernel
theorem dX19_serve_242 : decode cX19_serve 242 = .ok (.invokevirtual 759, 3) := by decide +kernel
theorem dX19_serve_245 : decode cX19_serve 245 = .ok (.goto 21, 3) := by decide +kernel
theorem dX19_serve_248 : decode cX19_serve 248 = .ok (.iload 6, 2) := by decide +kernel
theorem dX19_serve_250 : decode cX19_serve 250 = .ok (.ifCond .eq 11, 3) := by decide +kernel
theorem dX19_serve_253 : decode cX19_serve 253 = .ok (.aload_n 0, 1) := by decide +kernel
theorem dX19_serve_254 : decode cX19_serve 254 = .ok (.iload_n 1, 1) := by decide +kernel
theorem dX19_serve_255 : decode cX19_serve 255 = .ok (.invokevirtual 762, 3) := by decide +kernel
theorem dX19_serve_258 : decode cX19_serve 258 = .ok (.goto 8, 3) := by decide +kernel
theorem dX19_serve_261 : decode cX19_serve 261 = .ok (.aload_n 0, 1) := by decide +kernel
theorem dX19_serve_262 : decode cX19_serve 262 = .ok (.iload_n 1, 1) := by decide +kernel
theorem dX19_serve_263 : decode cX19_serve 263 = .ok (.invokevirtual 765, 3) := by decide +kernel
theorem dX19_serve_266 : decode cX19_serve 266 = .ok (.return_, 1) := by decide +kernel
theorem cwX19_serve : mw_cwV yX19_serve cX19_serve 8 (none) 2 := ⟨⟨wd_13, wd_3991, by decide +kernel⟩, wd_3990, sl_301⟩
noncomputable def fX19_serve_b266 (fu : Nat) (a1 : Int32) (a2 : Int32) (M : mwM) (L : mwL) : Option (mwM × mwL) :=
  some (M, L)
noncomputable def fX19_serve_b171 (fu : Nat) (a1 : Int32) (a2 : Int32) (M : mwM) (L : mwL) : Option (mwM × mwL) :=
  mb2 (DX19_no fu 19 M L) (fun M18 L19 => fX19_serve_b266 fu a1 a2 M18 L19)
noncomputable def fX19_serve_b180 (fu : Nat) (a1 : Int32) (a2 : Int32) (v3 : Int32) (v6 : Int32) (M : mwM) (L : mwL) : Option (mwM × mwL) :=
  (if v3 = 16 then mb2 (DX19_serveSession fu a1 M L) (fun M38 L39 => fX19_serve_b266 fu a1 a2 M38 L39) else (if v3 = 34 then mb2 (DX19_serveRead fu a1 M L) (fun M36 L37 => fX19_serve_b266 fu a1 a2 M36 L37) else (if v3 = 46 then mb2 (DX19_serveWrite fu a1 M L) (fun M34 L35 => fX19_serve_b266 fu a1 a2 M34 L35) else (if v3 = 25 then mb2 (DX19_serveTroubles fu M L) (fun M32 L33 => fX19_serve_b266 fu a1 a2 M32 L33) else (if v3 = 20 then mb2 (DX19_serveClear fu M L) (fun M30 L31 => fX19_serve_b266 fu a1 a2 M30 L31) else (if v6 = 0 then mb2 (DX19_serveKey fu a1 M L) (fun M26 L27 => fX19_serve_b266 fu a1 a2 M26 L27) else mb2 (DX19_serveSeed fu a1 M L) (fun M28 L29 => fX19_serve_b266 fu a1 a2 M28 L29)))))))
noncomputable def fX19_serve_b130 (fu : Nat) (a1 : Int32) (a2 : Int32) (v3 : Int32) (v4 : Int32) (v5 : Int32) (v6 : Int32) (s0 : Int32) (M : mwM) (L : mwL) : Option (mwM × mwL) :=
  (if v5 = 0 then mb2 (DX19_no fu 17 M L) (fun M16 L17 => fX19_serve_b266 fu a1 a2 M16 L17) else (if v3 = 39 then (if v6 = 0 then (if s0 = 0 then fX19_serve_b171 fu a1 a2 M L else fX19_serve_b180 fu a1 a2 v3 v6 M L) else fX19_serve_b180 fu a1 a2 v3 v6 M L) else (if a2 = v4 then fX19_serve_b180 fu a1 a2 v3 v6 M L else fX19_serve_b171 fu a1 a2 M L)))
noncomputable def fX19_serve_b129 (fu : Nat) (a1 : Int32) (a2 : Int32) (v3 : Int32) (v4 : Int32) (v5 : Int32) (v6 : Int32) (M : mwM) (L : mwL) : Option (mwM × mwL) :=
  fX19_serve_b130 fu a1 a2 v3 v4 v5 v6 0 M L
noncomputable def fX19_serve_b101 (fu : Nat) (a1 : Int32) (a2 : Int32) (v3 : Int32) (v4 : Int32) (v5 : Int32) (s0 : Int32) (M : mwM) (L : mwL) : Option (mwM × mwL) :=
  (if v3 = 39 then (if a2 = 6 then (if (M 932 (1 : Int32).toNatClampNeg) = 2 then fX19_serve_b130 fu a1 a2 v3 v4 v5 s0 1 M L else fX19_serve_b129 fu a1 a2 v3 v4 v5 s0 M L) else fX19_serve_b129 fu a1 a2 v3 v4 v5 s0 M L) else fX19_serve_b129 fu a1 a2 v3 v4 v5 s0 M L)
noncomputable def fX19_serve_b100 (fu : Nat) (a1 : Int32) (a2 : Int32) (v3 : Int32) (v4 : Int32) (v5 : Int32) (M : mwM) (L : mwL) : Option (mwM × mwL) :=
  fX19_serve_b101 fu a1 a2 v3 v4 v5 0 M L
noncomputable def fX19_serve_b73 (fu : Nat) (a1 : Int32) (a2 : Int32) (v3 : Int32) (v4 : Int32) (s0 : Int32) (M : mwM) (L : mwL) : Option (mwM × mwL) :=
  (if v3 = 39 then (if a2 = 2 then (if (M 932 (1 : Int32).toNatClampNeg) = 1 then fX19_serve_b101 fu a1 a2 v3 v4 s0 1 M L else fX19_serve_b100 fu a1 a2 v3 v4 s0 M L) else fX19_serve_b100 fu a1 a2 v3 v4 s0 M L) else fX19_serve_b100 fu a1 a2 v3 v4 s0 M L)
noncomputable def fX19_serve_b68 (fu : Nat) (a1 : Int32) (a2 : Int32) (v3 : Int32) (v4 : Int32) (M : mwM) (L : mwL) : Option (mwM × mwL) :=
  fX19_serve_b73 fu a1 a2 v3 v4 1 M L
noncomputable def fX19_serve_b55 (fu : Nat) (a1 : Int32) (a2 : Int32) (v3 : Int32) (s0 : Int32) (M : mwM) (L : mwL) : Option (mwM × mwL) :=
  (if 0 < s0 then fX19_serve_b68 fu a1 a2 v3 s0 M L else (if v3 = 39 then fX19_serve_b68 fu a1 a2 v3 s0 M L else fX19_serve_b73 fu a1 a2 v3 s0 0 M L))
noncomputable def fX19_serve_b50 (fu : Nat) (a1 : Int32) (a2 : Int32) (v3 : Int32) (M : mwM) (L : mwL) : Option (mwM × mwL) :=
  fX19_serve_b55 fu a1 a2 v3 1 M L
noncomputable def DX19_serve (fu : Nat) (a1 : Int32) (a2 : Int32) (M : mwM) (L : mwL) : Option (mwM × mwL) :=
  mlet (M 932 (0 : Int32).toNatClampNeg) (fun x41 => (if x41 = 16 then fX19_serve_b55 fu a1 a2 x41 2 M L else (if x41 = 34 then fX19_serve_b55 fu a1 a2 x41 3 M L else (if x41 = 46 then fX19_serve_b55 fu a1 a2 x41 11 M L else (if x41 = 25 then fX19_serve_b50 fu a1 a2 x41 M L else (if x41 = 20 then fX19_serve_b50 fu a1 a2 x41 M L else fX19_serve_b55 fu a1 a2 x41 0 M L))))))
set_option maxHeartbeats 4000000 in
set_option maxRecDepth 100000 in
theorem tX19_serve (l : Launch) (G : mwG) (ad : Nat → Nat) (fu : Nat) (a1 : Int32) (a2 : Int32) (M : mwM) (L : mwL) {M0 : mwM} {L0 : mwL} (hD : DX19_serve fu a1 a2 M L = some (M0, L0)) : Met l yX19_serve (Cond.code yX19_serve cX19_serve 8 (none) :: GT) ({ frames := 6, cells := 0, slots := 0, locals := 149 }) (mw_Pre G ad NF TF FF M L [.ref (ad 732), .int a1, .int a2]) (mw_Qv G ad NF TF FF (mw_eqV M0 L0)) 0 0 (mw_fr G) := by
  refine mw_enter (by decide) (Nat.le_of_ble_eq_true rfl) ?_
  intro p e s m below meth c ls C hr hlocks hnm hw hl
  have hl : lv_has ls 8 [(0, .ref (ad 732)), (1, .int a1), (2, .int a2)] := hl
  have hb266 : ∀ (M : mwM) (L : mwL) (H : Heap) (locs : List Loc) (ls : Array Slot), fX19_serve_b266 fu a1 a2 M L = some (M0, L0) → mw_W G ad NF TF FF M L H locs → lv_has ls 8 [] → W p l e ({ frames := 6, cells := 0, slots := 0, locals := 149 }) s m [.ref (ad 732), .int a1, .int a2].toArray below meth c H locs 0 0 (MQ below (mw_Qv G ad NF TF FF (mw_eqV M0 L0)) [.ref (ad 732), .int a1, .int a2].toArray s 0 0 (mw_fr G)) (F0 m 266 ls []) := by
    intro M L H locs ls hD hw hl
    unfold fX19_serve_b266 at hD
    exact mr_vret C hr hlocks hw (Option.some.inj hD) dX19_serve_266
  have hb171 : ∀ (M : mwM) (L : mwL) (H : Heap) (locs : List Loc) (ls : Array Slot), fX19_serve_b171 fu a1 a2 M L = some (M0, L0) → mw_W G ad NF TF FF M L H locs → lv_has ls 8 [(0, .ref (ad 732))] → W p l e ({ frames := 6, cells := 0, slots := 0, locals := 149 }) s m [.ref (ad 732), .int a1, .int a2].toArray below meth c H locs 0 0 (MQ below (mw_Qv G ad NF TF FF (mw_eqV M0 L0)) [.ref (ad 732), .int a1, .int a2].toArray s 0 0 (mw_fr G)) (F0 m 171 ls []) := by
    intro M L H locs ls hD hw hl
    unfold fX19_serve_b171 at hD
    refine lv_aload_n C.1.1 C.1.2.1 dX19_serve_171 rfl (lv_at hl 0 rfl) ?_
    refine lv_bipush (v := 19) C.1.1 C.1.2.1 dX19_serve_172 (by decide) ?_
    obtain ⟨M18, L19, h1, hD⟩ := g_b2 hD
    refine md_cvV (As := [.int 19]) (rest := []) C hw (tX19_no l G ad fu 19 M L h1) kc_19 (by decide) tf_732 wd_3992 cwX19_no ⟨Nat.le_of_ble_eq_true rfl, Nat.le_of_ble_eq_true rfl⟩ rfl hl.1 (Nat.le_of_ble_eq_true rfl) dX19_serve_174 rfl rfl ⟨Nat.zero_le _, Nat.zero_le _⟩ rfl (fun H locs hw => ?_)
    refine lv_goto (tgt := 266) C.1.1 C.1.2.1 dX19_serve_177 (by decide) ?_
    exact hb266 M18 L19 _ _ ls hD hw (lv_sub hl [] rfl)
  have hb180 : ∀ (v3 : Int32) (v6 : Int32) (M : mwM) (L : mwL) (H : Heap) (locs : List Loc) (ls : Array Slot), fX19_serve_b180 fu a1 a2 v3 v6 M L = some (M0, L0) → mw_W G ad NF TF FF M L H locs → lv_has ls 8 [(0, .ref (ad 732)), (1, .int a1), (3, .int v3), (6, .int v6)] → W p l e ({ frames := 6, cells := 0, slots := 0, locals := 149 }) s m [.ref (ad 732), .int a1, .int a2].toArray below meth c H locs 0 0 (MQ below (mw_Qv G ad NF TF FF (mw_eqV M0 L0)) [.ref (ad 732), .int a1, .int a2].toArray s 0 0 (mw_fr G)) (F0 m 180 ls []) := by
    intro v3 v6 M L H locs ls hD hw hl
    unfold fX19_serve_b180 at hD
    refine lv_iload_n C.1.1 C.1.2.1 dX19_serve_180 rfl (lv_at hl 2 rfl) ?_
    refine lv_bipush (v := 16) C.1.1 C.1.2.1 dX19_serve_181 (by decide) ?_
    refine lv_icmp_ne (tgt := 194) C.1.1 C.1.2.1 dX19_serve_183 (by decide) (fun c20 => ?_) (fun c20 => ?_)
    · replace hD := g_neg c20 hD
      refine lv_iload_n C.1.1 C.1.2.1 dX19_serve_194 rfl (lv_at hl 2 rfl) ?_
      refine lv_bipush (v := 34) C.1.1 C.1.2.1 dX19_serve_195 (by decide) ?_
      refine lv_icmp_ne (tgt := 208) C.1.1 C.1.2.1 dX19_serve_197 (by decide) (fun c21 => ?_) (fun c21 => ?_)
      · replace hD := g_neg c21 hD
        refine lv_iload_n C.1.1 C.1.2.1 dX19_serve_208 rfl (lv_at hl 2 rfl) ?_
        refine lv_bipush (v := 46) C.1.1 C.1.2.1 dX19_serve_209 (by decide) ?_
        refine lv_icmp_ne (tgt := 222) C.1.1 C.1.2.1 dX19_serve_211 (by decide) (fun c22 => ?_) (fun c22 => ?_)
        · replace hD := g_neg c22 hD
          refine lv_iload_n C.1.1 C.1.2.1 dX19_serve_222 rfl (lv_at hl 2 rfl) ?_
          refine lv_bipush (v := 25) C.1.1 C.1.2.1 dX19_serve_223 (by decide) ?_
          refine lv_icmp_ne (tgt := 235) C.1.1 C.1.2.1 dX19_serve_225 (by decide) (fun c23 => ?_) (fun c23 => ?_)
          · replace hD := g_neg c23 hD
            refine lv_iload_n C.1.1 C.1.2.1 dX19_serve_235 rfl (lv_at hl 2 rfl) ?_
            refine lv_bipush (v := 20) C.1.1 C.1.2.1 dX19_serve_236 (by decide) ?_
            refine lv_icmp_ne (tgt := 248) C.1.1 C.1.2.1 dX19_serve_238 (by decide) (fun c24 => ?_) (fun c24 => ?_)
            · replace hD := g_neg c24 hD
              refine lv_iload C.1.1 C.1.2.1 dX19_serve_248 (lv_at hl 3 rfl) ?_
              refine lv_if_eq (tgt := 261) C.1.1 C.1.2.1 dX19_serve_250 (by decide) (fun c25 => ?_) (fun c25 => ?_)
              · replace hD := g_pos c25 hD
                refine lv_aload_n C.1.1 C.1.2.1 dX19_serve_261 rfl (lv_at hl 0 rfl) ?_
                refine lv_iload_n C.1.1 C.1.2.1 dX19_serve_262 rfl (lv_at hl 1 rfl) ?_
                obtain ⟨M26, L27, h1, hD⟩ := g_b2 hD
                refine md_cvV (As := [.int a1]) (rest := []) C hw (tX19_serveKey l G ad fu a1 M L h1) kc_19 (by decide) tf_732 wd_4038 cwX19_serveKey ⟨Nat.le_of_ble_eq_true rfl, Nat.le_of_ble_eq_true rfl⟩ rfl hl.1 (Nat.le_of_ble_eq_true rfl) dX19_serve_263 rfl rfl ⟨Nat.zero_le _, Nat.zero_le _⟩ rfl (fun H locs hw => ?_)
                exact hb266 M26 L27 _ _ ls hD hw (lv_sub hl [] rfl)
              · replace hD := g_neg c25 hD
                refine lv_aload_n C.1.1 C.1.2.1 dX19_serve_253 rfl (lv_at hl 0 rfl) ?_
                refine lv_iload_n C.1.1 C.1.2.1 dX19_serve_254 rfl (lv_at hl 1 rfl) ?_
                obtain ⟨M28, L29, h1, hD⟩ := g_b2 hD
                refine md_cvV (As := [.int a1]) (rest := []) C hw (tX19_serveSeed l G ad fu a1 M L h1) kc_19 (by decide) tf_732 wd_4032 cwX19_serveSeed ⟨Nat.le_of_ble_eq_true rfl, Nat.le_of_ble_eq_true rfl⟩ rfl hl.1 (Nat.le_of_ble_eq_true rfl) dX19_serve_255 rfl rfl ⟨Nat.zero_le _, Nat.zero_le _⟩ rfl (fun H locs hw => ?_)
                refine lv_goto (tgt := 266) C.1.1 C.1.2.1 dX19_serve_258 (by decide) ?_
                exact hb266 M28 L29 _ _ ls hD hw (lv_sub hl [] rfl)
            · replace hD := g_pos c24 hD
              refine lv_aload_n C.1.1 C.1.2.1 dX19_serve_241 rfl (lv_at hl 0 rfl) ?_
              obtain ⟨M30, L31, h1, hD⟩ := g_b2 hD
              refine md_cvV (As := []) (rest := []) C hw (tX19_serveClear l G ad fu M L h1) kc_19 (by decide) tf_732 wd_4024 cwX19_serveClear ⟨Nat.le_of_ble_eq_true rfl, Nat.le_of_ble_eq_true rfl⟩ rfl hl.1 (Nat.le_of_ble_eq_true rfl) dX19_serve_242 rfl rfl ⟨Nat.zero_le _, Nat.zero_le _⟩ rfl (fun H locs hw => ?_)
              refine lv_goto (tgt := 266) C.1.1 C.1.2.1 dX19_serve_245 (by decide) ?_
              exact hb266 M30 L31 _ _ ls hD hw (lv_sub hl [] rfl)
          · replace hD := g_pos c23 hD
            refine lv_aload_n C.1.1 C.1.2.1 dX19_serve_228 rfl (lv_at hl 0 rfl) ?_
            obtain ⟨M32, L33, h1, hD⟩ := g_b2 hD
            refine md_cvV (As := []) (rest := []) C hw (tX19_serveTroubles l G ad fu M L h1) kc_19 (by decide) tf_732 wd_4012 cwX19_serveTroubles ⟨Nat.le_of_ble_eq_true rfl, Nat.le_of_ble_eq_true rfl⟩ rfl hl.1 (Nat.le_of_ble_eq_true rfl) dX19_serve_229 rfl rfl ⟨Nat.zero_le _, Nat.zero_le _⟩ rfl (fun H locs hw => ?_)
            refine lv_goto (tgt := 266) C.1.1 C.1.2.1 dX19_serve_232 (by decide) ?_
            exact hb266 M32 L33 _ _ ls hD hw (lv_sub hl [] rfl)
        · replace hD := g_pos c22 hD
          refine lv_aload_n C.1.1 C.1.2.1 dX19_serve_214 rfl (lv_at hl 0 rfl) ?_
          refine lv_iload_n C.1.1 C.1.2.1 dX19_serve_215 rfl (lv_at hl 1 rfl) ?_
          obtain ⟨M34, L35, h1, hD⟩ := g_b2 hD
          refine md_cvV (As := [.int a1]) (rest := []) C hw (tX19_serveWrite l G ad fu a1 M L h1) kc_19 (by decide) tf_732 wd_4008 cwX19_serveWrite ⟨Nat.le_of_ble_eq_true rfl, Nat.le_of_ble_eq_true rfl⟩ rfl hl.1 (Nat.le_of_ble_eq_true rfl) dX19_serve_216 rfl rfl ⟨Nat.zero_le _, Nat.zero_le _⟩ rfl (fun H locs hw => ?_)
          refine lv_goto (tgt := 266) C.1.1 C.1.2.1 dX19_serve_219 (by decide) ?_
          exact hb266 M34 L35 _ _ ls hD hw (lv_sub hl [] rfl)
      · replace hD := g_pos c21 hD
        refine lv_aload_n C.1.1 C.1.2.1 dX19_serve_200 rfl (lv_at hl 0 rfl) ?_
        refine lv_iload_n C.1.1 C.1.2.1 dX19_serve_201 rfl (lv_at hl 1 rfl) ?_
        obtain ⟨M36, L37, h1, hD⟩ := g_b2 hD
        refine md_cvV (As := [.int a1]) (rest := []) C hw (tX19_serveRead l G ad fu a1 M L h1) kc_19 (by decide) tf_732 wd_4000 cwX19_serveRead ⟨Nat.le_of_ble_eq_true rfl, Nat.le_of_ble_eq_true rfl⟩ rfl hl.1 (Nat.le_of_ble_eq_true rfl) dX19_serve_202 rfl rfl ⟨Nat.zero_le _, Nat.zero_le _⟩ rfl (fun H locs hw => ?_)
        refine lv_goto (tgt := 266) C.1.1 C.1.2.1 dX19_serve_205 (by decide) ?_
        exact hb266 M36 L37 _ _ ls hD hw (lv_sub hl [] rfl)
    · replace hD := g_pos c20 hD
      refine lv_aload_n C.1.1 C.1.2.1 dX19_serve_186 rfl (lv_at hl 0 rfl) ?_
      refine lv_iload_n C.1.1 C.1.2.1 dX19_serve_187 rfl (lv_at hl 1 rfl) ?_
      obtain ⟨M38, L39, h1, hD⟩ := g_b2 hD
      refine md_cvV (As := [.int a1]) (rest := []) C hw (tX19_serveSession l G ad fu a1 M L h1) kc_19 (by decide) tf_732 wd_3996 cwX19_serveSession ⟨Nat.le_of_ble_eq_true rfl, Nat.le_of_ble_eq_true rfl⟩ rfl hl.1 (Nat.le_of_ble_eq_true rfl) dX19_serve_188 rfl rfl ⟨Nat.zero_le _, Nat.zero_le _⟩ rfl (fun H locs hw => ?_)
      refine lv_goto (tgt := 266) C.1.1 C.1.2.1 dX19_serve_191 (by decide) ?_
      exact hb266 M38 L39 _ _ ls hD hw (lv_sub hl [] rfl)
  have hb130 : ∀ (v3 : Int32) (v4 : Int32) (v5 : Int32) (v6 : Int32) (s0 : Int32) (M : mwM) (L : mwL) (H : Heap) (locs : List Loc) (ls : Array Slot), fX19_serve_b130 fu a1 a2 v3 v4 v5 v6 s0 M L = some (M0, L0) → mw_W G ad NF TF FF M L H locs → lv_has ls 8 [(0, .ref (ad 732)), (1, .int a1), (2, .int a2), (3, .int v3), (4, .int v4), (5, .int v5), (6, .int v6)] → W p l e ({ frames := 6, cells := 0, slots := 0, locals := 149 }) s m [.ref (ad 732), .int a1, .int a2].toArray below meth c H locs 0 0 (MQ below (mw_Qv G ad NF TF FF (mw_eqV M0 L0)) [.ref (ad 732), .int a1, .int a2].toArray s 0 0 (mw_fr G)) (F0 m 130 ls [.int s0]) := by
    intro v3 v4 v5 v6 s0 M L H locs ls hD hw hl
    unfold fX19_serve_b130 at hD
    refine lv_istore (lv' := [(7, .int s0), (0, .ref (ad 732)), (1, .int a1), (2, .int a2), (3, .int v3), (4, .int v4), (5, .int v5), (6, .int v6)]) C.1.1 C.1.2.1 dX19_serve_130 hl (by decide) rfl (fun ls hl => ?_)
    refine lv_iload C.1.1 C.1.2.1 dX19_serve_132 (lv_at hl 6 rfl) ?_
    refine lv_if_ne (tgt := 146) C.1.1 C.1.2.1 dX19_serve_134 (by decide) (fun c11 => ?_) (fun c11 => ?_)
    · replace hD := g_neg c11 hD
      refine lv_iload_n C.1.1 C.1.2.1 dX19_serve_146 rfl (lv_at hl 4 rfl) ?_
      refine lv_bipush (v := 39) C.1.1 C.1.2.1 dX19_serve_147 (by decide) ?_
      refine lv_icmp_ne (tgt := 165) C.1.1 C.1.2.1 dX19_serve_149 (by decide) (fun c12 => ?_) (fun c12 => ?_)
      · replace hD := g_neg c12 hD
        refine lv_iload_n C.1.1 C.1.2.1 dX19_serve_165 rfl (lv_at hl 3 rfl) ?_
        refine lv_iload C.1.1 C.1.2.1 dX19_serve_166 (lv_at hl 5 rfl) ?_
        refine lv_icmp_eq (tgt := 180) C.1.1 C.1.2.1 dX19_serve_168 (by decide) (fun c13 => ?_) (fun c13 => ?_)
        · replace hD := g_pos c13 hD
          exact hb180 v3 v6 M L _ _ ls hD hw (lv_sub hl [1, 2, 4, 7] rfl)
        · replace hD := g_neg c13 hD
          exact hb171 M L _ _ ls hD hw (lv_sub hl [1] rfl)
      · replace hD := g_pos c12 hD
        refine lv_iload C.1.1 C.1.2.1 dX19_serve_152 (lv_at hl 7 rfl) ?_
        refine lv_if_ne (tgt := 180) C.1.1 C.1.2.1 dX19_serve_154 (by decide) (fun c14 => ?_) (fun c14 => ?_)
        · replace hD := g_neg c14 hD
          exact hb180 v3 v6 M L _ _ ls hD hw (lv_sub hl [1, 2, 4, 7] rfl)
        · replace hD := g_pos c14 hD
          refine lv_iload C.1.1 C.1.2.1 dX19_serve_157 (lv_at hl 0 rfl) ?_
          refine lv_if_ne (tgt := 180) C.1.1 C.1.2.1 dX19_serve_159 (by decide) (fun c15 => ?_) (fun c15 => ?_)
          · replace hD := g_neg c15 hD
            exact hb180 v3 v6 M L _ _ ls hD hw (lv_sub hl [1, 2, 4, 7] rfl)
          · replace hD := g_pos c15 hD
            refine lv_goto (tgt := 171) C.1.1 C.1.2.1 dX19_serve_162 (by decide) ?_
            exact hb171 M L _ _ ls hD hw (lv_sub hl [1] rfl)
    · replace hD := g_pos c11 hD
      refine lv_aload_n C.1.1 C.1.2.1 dX19_serve_137 rfl (lv_at hl 1 rfl) ?_
      refine lv_bipush (v := 17) C.1.1 C.1.2.1 dX19_serve_138 (by decide) ?_
      obtain ⟨M16, L17, h1, hD⟩ := g_b2 hD
      refine md_cvV (As := [.int 17]) (rest := []) C hw (tX19_no l G ad fu 17 M L h1) kc_19 (by decide) tf_732 wd_3992 cwX19_no ⟨Nat.le_of_ble_eq_true rfl, Nat.le_of_ble_eq_true rfl⟩ rfl hl.1 (Nat.le_of_ble_eq_true rfl) dX19_serve_140 rfl rfl ⟨Nat.zero_le _, Nat.zero_le _⟩ rfl (fun H locs hw => ?_)
      refine lv_goto (tgt := 266) C.1.1 C.1.2.1 dX19_serve_143 (by decide) ?_
      exact hb266 M16 L17 _ _ ls hD hw (lv_sub hl [] rfl)
  have hb129 : ∀ (v3 : Int32) (v4 : Int32) (v5 : Int32) (v6 : Int32) (M : mwM) (L : mwL) (H : Heap) (locs : List Loc) (ls : Array Slot), fX19_serve_b129 fu a1 a2 v3 v4 v5 v6 M L = some (M0, L0) → mw_W G ad NF TF FF M L H locs → lv_has ls 8 [(0, .ref (ad 732)), (1, .int a1), (2, .int a2), (3, .int v3), (4, .int v4), (5, .int v5), (6, .int v6)] → W p l e ({ frames := 6, cells := 0, slots := 0, locals := 149 }) s m [.ref (ad 732), .int a1, .int a2].toArray below meth c H locs 0 0 (MQ below (mw_Qv G ad NF TF FF (mw_eqV M0 L0)) [.ref (ad 732), .int a1, .int a2].toArray s 0 0 (mw_fr G)) (F0 m 129 ls []) := by
    intro v3 v4 v5 v6 M L H locs ls hD hw hl
    unfold fX19_serve_b129 at hD
    refine lv_iconst (v := 0) C.1.1 C.1.2.1 dX19_serve_129 (by decide) ?_
    exact hb130 v3 v4 v5 v6 0 M L _ _ ls hD hw (lv_sub hl [0, 1, 2, 3, 4, 5, 6] rfl)
  have hb101 : ∀ (v3 : Int32) (v4 : Int32) (v5 : Int32) (s0 : Int32) (M : mwM) (L : mwL) (H : Heap) (locs : List Loc) (ls : Array Slot), fX19_serve_b101 fu a1 a2 v3 v4 v5 s0 M L = some (M0, L0) → mw_W G ad NF TF FF M L H locs → lv_has ls 8 [(0, .ref (ad 732)), (1, .int a1), (2, .int a2), (3, .int v3), (4, .int v4), (5, .int v5)] → W p l e ({ frames := 6, cells := 0, slots := 0, locals := 149 }) s m [.ref (ad 732), .int a1, .int a2].toArray below meth c H locs 0 0 (MQ below (mw_Qv G ad NF TF FF (mw_eqV M0 L0)) [.ref (ad 732), .int a1, .int a2].toArray s 0 0 (mw_fr G)) (F0 m 101 ls [.int s0]) := by
    intro v3 v4 v5 s0 M L H locs ls hD hw hl
    unfold fX19_serve_b101 at hD
    refine lv_istore (lv' := [(6, .int s0), (0, .ref (ad 732)), (1, .int a1), (2, .int a2), (3, .int v3), (4, .int v4), (5, .int v5)]) C.1.1 C.1.2.1 dX19_serve_101 hl (by decide) rfl (fun ls hl => ?_)
    refine lv_iload_n C.1.1 C.1.2.1 dX19_serve_103 rfl (lv_at hl 4 rfl) ?_
    refine lv_bipush (v := 39) C.1.1 C.1.2.1 dX19_serve_104 (by decide) ?_
    refine lv_icmp_ne (tgt := 129) C.1.1 C.1.2.1 dX19_serve_106 (by decide) (fun c7 => ?_) (fun c7 => ?_)
    · replace hD := g_neg c7 hD
      exact hb129 v3 v4 v5 s0 M L _ _ ls hD hw (lv_sub hl [1, 2, 3, 4, 5, 6, 0] rfl)
    · replace hD := g_pos c7 hD
      refine lv_iload_n C.1.1 C.1.2.1 dX19_serve_109 rfl (lv_at hl 3 rfl) ?_
      refine lv_bipush (v := 6) C.1.1 C.1.2.1 dX19_serve_110 (by decide) ?_
      refine lv_icmp_ne (tgt := 129) C.1.1 C.1.2.1 dX19_serve_112 (by decide) (fun c8 => ?_) (fun c8 => ?_)
      · replace hD := g_neg c8 hD
        exact hb129 v3 v4 v5 s0 M L _ _ ls hD hw (lv_sub hl [1, 2, 3, 4, 5, 6, 0] rfl)
      · replace hD := g_pos c8 hD
        refine lv_aload_n C.1.1 C.1.2.1 dX19_serve_115 rfl (lv_at hl 1 rfl) ?_
        refine mr_getR C hw kc_19 100 (by decide) tf_732 ff_732_100 wd_2881 dX19_serve_116 (by decide) rfl ?_
        refine lv_iconst (v := 1) C.1.1 C.1.2.1 dX19_serve_119 (by decide) ?_
        refine mr_iald C hw (by decide) tf_932 (show vp_in 1 128 from by unfold vp_in; decide) dX19_serve_120 ?_
        refine lv_iconst (v := 2) C.1.1 C.1.2.1 dX19_serve_121 (by decide) ?_
        refine lv_icmp_ne (tgt := 129) C.1.1 C.1.2.1 dX19_serve_122 (by decide) (fun c10 => ?_) (fun c10 => ?_)
        · replace hD := g_neg c10 hD
          exact hb129 v3 v4 v5 s0 M L _ _ ls hD hw (lv_sub hl [1, 2, 3, 4, 5, 6, 0] rfl)
        · replace hD := g_pos c10 hD
          refine lv_iconst (v := 1) C.1.1 C.1.2.1 dX19_serve_125 (by decide) ?_
          refine lv_goto (tgt := 130) C.1.1 C.1.2.1 dX19_serve_126 (by decide) ?_
          exact hb130 v3 v4 v5 s0 1 M L _ _ ls hD hw (lv_sub hl [1, 2, 3, 4, 5, 6, 0] rfl)
  have hb100 : ∀ (v3 : Int32) (v4 : Int32) (v5 : Int32) (M : mwM) (L : mwL) (H : Heap) (locs : List Loc) (ls : Array Slot), fX19_serve_b100 fu a1 a2 v3 v4 v5 M L = some (M0, L0) → mw_W G ad NF TF FF M L H locs → lv_has ls 8 [(0, .ref (ad 732)), (1, .int a1), (2, .int a2), (3, .int v3), (4, .int v4), (5, .int v5)] → W p l e ({ frames := 6, cells := 0, slots := 0, locals := 149 }) s m [.ref (ad 732), .int a1, .int a2].toArray below meth c H locs 0 0 (MQ below (mw_Qv G ad NF TF FF (mw_eqV M0 L0)) [.ref (ad 732), .int a1, .int a2].toArray s 0 0 (mw_fr G)) (F0 m 100 ls []) := by
    intro v3 v4 v5 M L H locs ls hD hw hl
    unfold fX19_serve_b100 at hD
    refine lv_iconst (v := 0) C.1.1 C.1.2.1 dX19_serve_100 (by decide) ?_
    exact hb101 v3 v4 v5 0 M L _ _ ls hD hw (lv_sub hl [0, 1, 2, 3, 4, 5] rfl)
  have hb73 : ∀ (v3 : Int32) (v4 : Int32) (s0 : Int32) (M : mwM) (L : mwL) (H : Heap) (locs : List Loc) (ls : Array Slot), fX19_serve_b73 fu a1 a2 v3 v4 s0 M L = some (M0, L0) → mw_W G ad NF TF FF M L H locs → lv_has ls 8 [(0, .ref (ad 732)), (1, .int a1), (2, .int a2), (3, .int v3), (4, .int v4)] → W p l e ({ frames := 6, cells := 0, slots := 0, locals := 149 }) s m [.ref (ad 732), .int a1, .int a2].toArray below meth c H locs 0 0 (MQ below (mw_Qv G ad NF TF FF (mw_eqV M0 L0)) [.ref (ad 732), .int a1, .int a2].toArray s 0 0 (mw_fr G)) (F0 m 73 ls [.int s0]) := by
    intro v3 v4 s0 M L H locs ls hD hw hl
    unfold fX19_serve_b73 at hD
    refine lv_istore (lv' := [(5, .int s0), (0, .ref (ad 732)), (1, .int a1), (2, .int a2), (3, .int v3), (4, .int v4)]) C.1.1 C.1.2.1 dX19_serve_73 hl (by decide) rfl (fun ls hl => ?_)
    refine lv_iload_n C.1.1 C.1.2.1 dX19_serve_75 rfl (lv_at hl 4 rfl) ?_
    refine lv_bipush (v := 39) C.1.1 C.1.2.1 dX19_serve_76 (by decide) ?_
    refine lv_icmp_ne (tgt := 100) C.1.1 C.1.2.1 dX19_serve_78 (by decide) (fun c3 => ?_) (fun c3 => ?_)
    · replace hD := g_neg c3 hD
      exact hb100 v3 v4 s0 M L _ _ ls hD hw (lv_sub hl [1, 2, 3, 4, 5, 0] rfl)
    · replace hD := g_pos c3 hD
      refine lv_iload_n C.1.1 C.1.2.1 dX19_serve_81 rfl (lv_at hl 3 rfl) ?_
      refine lv_iconst (v := 2) C.1.1 C.1.2.1 dX19_serve_82 (by decide) ?_
      refine lv_icmp_ne (tgt := 100) C.1.1 C.1.2.1 dX19_serve_83 (by decide) (fun c4 => ?_) (fun c4 => ?_)
      · replace hD := g_neg c4 hD
        exact hb100 v3 v4 s0 M L _ _ ls hD hw (lv_sub hl [1, 2, 3, 4, 5, 0] rfl)
      · replace hD := g_pos c4 hD
        refine lv_aload_n C.1.1 C.1.2.1 dX19_serve_86 rfl (lv_at hl 1 rfl) ?_
        refine mr_getR C hw kc_19 100 (by decide) tf_732 ff_732_100 wd_2881 dX19_serve_87 (by decide) rfl ?_
        refine lv_iconst (v := 1) C.1.1 C.1.2.1 dX19_serve_90 (by decide) ?_
        refine mr_iald C hw (by decide) tf_932 (show vp_in 1 128 from by unfold vp_in; decide) dX19_serve_91 ?_
        refine lv_iconst (v := 1) C.1.1 C.1.2.1 dX19_serve_92 (by decide) ?_
        refine lv_icmp_ne (tgt := 100) C.1.1 C.1.2.1 dX19_serve_93 (by decide) (fun c6 => ?_) (fun c6 => ?_)
        · replace hD := g_neg c6 hD
          exact hb100 v3 v4 s0 M L _ _ ls hD hw (lv_sub hl [1, 2, 3, 4, 5, 0] rfl)
        · replace hD := g_pos c6 hD
          refine lv_iconst (v := 1) C.1.1 C.1.2.1 dX19_serve_96 (by decide) ?_
          refine lv_goto (tgt := 101) C.1.1 C.1.2.1 dX19_serve_97 (by decide) ?_
          exact hb101 v3 v4 s0 1 M L _ _ ls hD hw (lv_sub hl [1, 2, 3, 4, 5, 0] rfl)
  have hb68 : ∀ (v3 : Int32) (v4 : Int32) (M : mwM) (L : mwL) (H : Heap) (locs : List Loc) (ls : Array Slot), fX19_serve_b68 fu a1 a2 v3 v4 M L = some (M0, L0) → mw_W G ad NF TF FF M L H locs → lv_has ls 8 [(0, .ref (ad 732)), (1, .int a1), (2, .int a2), (3, .int v3), (4, .int v4)] → W p l e ({ frames := 6, cells := 0, slots := 0, locals := 149 }) s m [.ref (ad 732), .int a1, .int a2].toArray below meth c H locs 0 0 (MQ below (mw_Qv G ad NF TF FF (mw_eqV M0 L0)) [.ref (ad 732), .int a1, .int a2].toArray s 0 0 (mw_fr G)) (F0 m 68 ls []) := by
    intro v3 v4 M L H locs ls hD hw hl
    unfold fX19_serve_b68 at hD
    refine lv_iconst (v := 1) C.1.1 C.1.2.1 dX19_serve_68 (by decide) ?_
    refine lv_goto (tgt := 73) C.1.1 C.1.2.1 dX19_serve_69 (by decide) ?_
    exact hb73 v3 v4 1 M L _ _ ls hD hw (lv_sub hl [0, 1, 2, 3, 4] rfl)
  have hb55 : ∀ (v3 : Int32) (s0 : Int32) (M : mwM) (L : mwL) (H : Heap) (locs : List Loc) (ls : Array Slot), fX19_serve_b55 fu a1 a2 v3 s0 M L = some (M0, L0) → mw_W G ad NF TF FF M L H locs → lv_has ls 8 [(0, .ref (ad 732)), (1, .int a1), (2, .int a2), (3, .int v3)] → W p l e ({ frames := 6, cells := 0, slots := 0, locals := 149 }) s m [.ref (ad 732), .int a1, .int a2].toArray below meth c H locs 0 0 (MQ below (mw_Qv G ad NF TF FF (mw_eqV M0 L0)) [.ref (ad 732), .int a1, .int a2].toArray s 0 0 (mw_fr G)) (F0 m 55 ls [.int s0]) := by
    intro v3 s0 M L H locs ls hD hw hl
    unfold fX19_serve_b55 at hD
    refine lv_istore (lv' := [(4, .int s0), (0, .ref (ad 732)), (1, .int a1), (2, .int a2), (3, .int v3)]) C.1.1 C.1.2.1 dX19_serve_55 hl (by decide) rfl (fun ls hl => ?_)
    refine lv_iload C.1.1 C.1.2.1 dX19_serve_57 (lv_at hl 0 rfl) ?_
    refine lv_if_gt (tgt := 68) C.1.1 C.1.2.1 dX19_serve_59 (by decide) (fun c1 => ?_) (fun c1 => ?_)
    · replace hD := g_pos c1 hD
      exact hb68 v3 s0 M L _ _ ls hD hw (lv_sub hl [1, 2, 3, 4, 0] rfl)
    · replace hD := g_neg c1 hD
      refine lv_iload_n C.1.1 C.1.2.1 dX19_serve_62 rfl (lv_at hl 4 rfl) ?_
      refine lv_bipush (v := 39) C.1.1 C.1.2.1 dX19_serve_63 (by decide) ?_
      refine lv_icmp_ne (tgt := 72) C.1.1 C.1.2.1 dX19_serve_65 (by decide) (fun c2 => ?_) (fun c2 => ?_)
      · replace hD := g_neg c2 hD
        refine lv_iconst (v := 0) C.1.1 C.1.2.1 dX19_serve_72 (by decide) ?_
        exact hb73 v3 s0 0 M L _ _ ls hD hw (lv_sub hl [1, 2, 3, 4, 0] rfl)
      · replace hD := g_pos c2 hD
        exact hb68 v3 s0 M L _ _ ls hD hw (lv_sub hl [1, 2, 3, 4, 0] rfl)
  have hb50 : ∀ (v3 : Int32) (M : mwM) (L : mwL) (H : Heap) (locs : List Loc) (ls : Array Slot), fX19_serve_b50 fu a1 a2 v3 M L = some (M0, L0) → mw_W G ad NF TF FF M L H locs → lv_has ls 8 [(0, .ref (ad 732)), (1, .int a1), (2, .int a2), (3, .int v3)] → W p l e ({ frames := 6, cells := 0, slots := 0, locals := 149 }) s m [.ref (ad 732), .int a1, .int a2].toArray below meth c H locs 0 0 (MQ below (mw_Qv G ad NF TF FF (mw_eqV M0 L0)) [.ref (ad 732), .int a1, .int a2].toArray s 0 0 (mw_fr G)) (F0 m 50 ls []) := by
    intro v3 M L H locs ls hD hw hl
    unfold fX19_serve_b50 at hD
    refine lv_iconst (v := 1) C.1.1 C.1.2.1 dX19_serve_50 (by decide) ?_
    refine lv_goto (tgt := 55) C.1.1 C.1.2.1 dX19_serve_51 (by decide) ?_
    exact hb55 v3 1 M L _ _ ls hD hw (lv_sub hl [0, 1, 2, 3] rfl)
  unfold DX19_serve at hD
  refine lv_aload_n C.1.1 C.1.2.1 dX19_serve_0 rfl (lv_at hl 0 rfl) ?_
  refine mr_getR C hw kc_19 100 (by decide) tf_732 ff_732_100 wd_2881 dX19_serve_1 (by decide) rfl ?_
  refine lv_iconst (v := 0) C.1.1 C.1.2.1 dX19_serve_4 (by decide) ?_
  refine mr_iald C hw (by decide) tf_932 (show vp_in 0 128 from by unfold vp_in; decide) dX19_serve_5 ?_
  obtain ⟨x41, ex41, hD⟩ := g_let hD
  refine W.eq (g2 := F0 m 6 ls (.int x41 :: [])) (by rw [ex41]) ?_
  refine lv_istore_n (lv' := [(3, .int x41), (0, .ref (ad 732)), (1, .int a1), (2, .int a2)]) C.1.1 C.1.2.1 dX19_serve_6 rfl hl (by decide) rfl (fun ls hl => ?_)
  refine lv_iload_n C.1.1 C.1.2.1 dX19_serve_7 rfl (lv_at hl 0 rfl) ?_
  refine lv_bipush (v := 16) C.1.1 C.1.2.1 dX19_serve_8 (by decide) ?_
  refine lv_icmp_ne (tgt := 17) C.1.1 C.1.2.1 dX19_serve_10 (by decide) (fun c42 => ?_) (fun c42 => ?_)
  · replace hD := g_neg c42 hD
    refine lv_iload_n C.1.1 C.1.2.1 dX19_serve_17 rfl (lv_at hl 0 rfl) ?_
    refine lv_bipush (v := 34) C.1.1 C.1.2.1 dX19_serve_18 (by decide) ?_
    refine lv_icmp_ne (tgt := 27) C.1.1 C.1.2.1 dX19_serve_20 (by decide) (fun c43 => ?_) (fun c43 => ?_)
    · replace hD := g_neg c43 hD
      refine lv_iload_n C.1.1 C.1.2.1 dX19_serve_27 rfl (lv_at hl 0 rfl) ?_
      refine lv_bipush (v := 46) C.1.1 C.1.2.1 dX19_serve_28 (by decide) ?_
      refine lv_icmp_ne (tgt := 38) C.1.1 C.1.2.1 dX19_serve_30 (by decide) (fun c44 => ?_) (fun c44 => ?_)
      · replace hD := g_neg c44 hD
        refine lv_iload_n C.1.1 C.1.2.1 dX19_serve_38 rfl (lv_at hl 0 rfl) ?_
        refine lv_bipush (v := 25) C.1.1 C.1.2.1 dX19_serve_39 (by decide) ?_
        refine lv_icmp_eq (tgt := 50) C.1.1 C.1.2.1 dX19_serve_41 (by decide) (fun c45 => ?_) (fun c45 => ?_)
        · replace hD := g_pos c45 hD
          exact hb50 x41 M L _ _ ls hD hw (lv_sub hl [1, 2, 3, 0] rfl)
        · replace hD := g_neg c45 hD
          refine lv_iload_n C.1.1 C.1.2.1 dX19_serve_44 rfl (lv_at hl 0 rfl) ?_
          refine lv_bipush (v := 20) C.1.1 C.1.2.1 dX19_serve_45 (by decide) ?_
          refine lv_icmp_ne (tgt := 54) C.1.1 C.1.2.1 dX19_serve_47 (by decide) (fun c46 => ?_) (fun c46 => ?_)
          · replace hD := g_neg c46 hD
            refine lv_iconst (v := 0) C.1.1 C.1.2.1 dX19_serve_54 (by decide) ?_
            exact hb55 x41 0 M L _ _ ls hD hw (lv_sub hl [1, 2, 3, 0] rfl)
          · replace hD := g_pos c46 hD
            exact hb50 x41 M L _ _ ls hD hw (lv_sub hl [1, 2, 3, 0] rfl)
      · replace hD := g_pos c44 hD
        refine lv_bipush (v := 11) C.1.1 C.1.2.1 dX19_serve_33 (by decide) ?_
        refine lv_goto (tgt := 55) C.1.1 C.1.2.1 dX19_serve_35 (by decide) ?_
        exact hb55 x41 11 M L _ _ ls hD hw (lv_sub hl [1, 2, 3, 0] rfl)
    · replace hD := g_pos c43 hD
      refine lv_iconst (v := 3) C.1.1 C.1.2.1 dX19_serve_23 (by decide) ?_
      refine lv_goto (tgt := 55) C.1.1 C.1.2.1 dX19_serve_24 (by decide) ?_
      exact hb55 x41 3 M L _ _ ls hD hw (lv_sub hl [1, 2, 3, 0] rfl)
  · replace hD := g_pos c42 hD
    refine lv_iconst (v := 2) C.1.1 C.1.2.1 dX19_serve_13 (by decide) ?_
    refine lv_goto (tgt := 55) C.1.1 C.1.2.1 dX19_serve_14 (by decide) ?_
    exact hb55 x41 2 M L _ _ ls hD hw (lv_sub hl [1, 2, 3, 0] rfl)

theorem dX19_say_0 : decode cX19_say 0 = .ok (.aload_n 0, 1) := by decide +kernel
theorem dX19_say_1 : decode cX19_say 1 = .ok (.getfield 198, 3) := by decide +kernel
theorem dX19_say_4 : decode cX19_say 4 = .ok (.aload_n 0, 1) := by decide +kernel
theorem dX19_say_5 : decode cX19_say 5 = .ok (.getfield 730, 3) := by decide +kernel
theorem dX19_say_8 : decode cX19_say 8 = .ok (.invokevirtual 733, 3) := by decide +kernel
theorem dX19_say_11 : decode cX19_say 11 = .ok (.istore_n 3, 1) := by decide +kernel
theorem dX19_say_12 : decode cX19_say 12 = .ok (.iload_n 3, 1) := by decide +kernel
theorem dX19_say_13 : decode cX19_say 13 = .ok (.iconst 1, 1) := by decide +kernel
theorem dX19_say_14 : decode cX19_say 14 = .ok (.if_icmp .ge 4, 3) := by decide +kernel
theorem dX19_say_17 : decode cX19_say 17 = .ok (.return_, 1) := by decide +kernel
theorem dX19_say_18 : decode cX19_say 18 = .ok (.aload_n 0, 1) := by decide +kernel
theorem dX19_say_19 : decode cX19_say 19 = .ok (.dup, 1) := by decide +kernel
theorem dX19_say_20 : decode cX19_say 20 = .ok (.getfield 603, 3) := by decide +kernel
theorem dX19_say_23 : decode cX19_say 23 = .ok (.iconst 1, 1) := by decide +kernel
theorem dX19_say_24 : decode cX19_say 24 = .ok (.iadd, 1) := by decide +kernel
theorem dX19_say_25 : decode cX19_say 25 = .ok (.putfield 603, 3) := by decide +kernel
theorem dX19_say_28 : decode cX19_say 28 = .ok (.aload_n 0, 1) := by decide +kernel
theorem dX19_say_29 : decode cX19_say 29 = .ok (.getfield 233, 3) := by decide +kernel
theorem dX19_say_32 : decode cX19_say 32 = .ok (.iload_n 3, 1) := by decide +kernel
theorem dX19_say_33 : decode cX19_say 33 = .ok (.iload_n 1, 1) := by decide +kernel
theorem dX19_say_34 : decode cX19_say 34 = .ok (.iastore, 1) := by decide +kernel
theorem dX19_say_35 : decode cX19_say 35 = .ok (.aload_n 0, 1) := by decide +kernel
theorem dX19_say_36 : decode cX19_say 36 = .ok (.getfield 236, 3) := by decide +kernel
theorem dX19_say_39 : decode cX19_say 39 = .ok (.iload_n 3, 1) := by decide +kernel
theorem dX19_say_40 : decode cX19_say 40 = .ok (.iload_n 2, 1) := by decide +kernel
theorem dX19_say_41 : decode cX19_say 41 = .ok (.bastore, 1) := by decide +kernel
theorem dX19_say_42 : decode cX19_say 42 = .ok (.iconst 0, 1) := by decide +kernel
theorem dX19_say_43 : decode cX19_say 43 = .ok (.istore 4, 2) := by decide +kernel
theorem dX19_say_45 : decode cX19_say 45 = .ok (.iload 4, 2) := by decide +kernel
theorem dX19_say_47 : decode cX19_say 47 = .ok (.aload_n 0, 1) := by decide +kernel
theorem dX19_say_48 : decode cX19_say 48 = .ok (.getfield 730, 3) := by decide +kernel
theorem dX19_say_51 : decode cX19_say 51 = .ok (.if_icmp .ge 27, 3) := by decide +kernel
theorem dX19_say_54 : decode cX19_say 54 = .ok (.aload_n 0, 1) := by decide +kernel
theorem dX19_say_55 : decode cX19_say 55 = .ok (.getfield 198, 3) := by decide +kernel
theorem dX19_say_58 : decode cX19_say 58 = .ok (.iload_n 3, 1) := by decide +kernel
theorem dX19_say_59 : decode cX19_say 59 = .ok (.iload 4, 2) := by decide +kernel
theorem dX19_say_61 : decode cX19_say 61 = .ok (.aload_n 0, 1) := by decide +kernel
theorem dX19_say_62 : decode cX19_say 62 = .ok (.getfield 255, 3) := by decide +kernel
theorem dX19_say_65 : decode cX19_say 65 = .ok (.iload 4, 2) := by decide +kernel
theorem dX19_say_67 : decode cX19_say 67 = .ok (.iaload, 1) := by decide +kernel
theorem dX19_say_68 : decode cX19_say 68 = .ok (.i2b, 1) := by decide +kernel
theorem dX19_say_69 : decode cX19_say 69 = .ok (.invokevirtual 735, 3) := by decide +kernel
theorem dX19_say_72 : decode cX19_say 72 = .ok (.iinc 4 1, 3) := by decide +kernel
theorem dX19_say_75 : decode cX19_say 75 = .ok (.goto (-30), 3) := by decide +kernel
theorem dX19_say_78 : decode cX19_say 78 = .ok (.return_, 1) := by decide +kernel
theorem cwX19_say : mw_cwV yX19_say cX19_say 5 (none) 2 := ⟨⟨wd_13, wd_4045, by decide +kernel⟩, wd_4044, sl_311⟩
noncomputable def fX19_say_i45 (fu : Nat) (a1 : Int32) (a2 : Int32) (r45 : (Int32 × Int32 × mwM × mwL) → Option (mwM × mwL)) (v3 : Int32) (v4 : Int32) (M : mwM) (L : mwL) : Option (mwM × mwL) :=
  (if (M 732 102) ≤ v4 then some (M, L) else mck v4 128 (mb2 (DX17_octet fu v3 v4 ((M 933 v4.toNatClampNeg).toInt8.toInt32) M L) (fun M3 L4 => mlet (v4 + 1) (fun x5 => r45 (v3, x5, M3, L4)))))
noncomputable def fX19_say_h45 (fu : Nat) (a1 : Int32) (a2 : Int32) : Nat → (Int32 × Int32 × mwM × mwL) → Option (mwM × mwL) := mloop (fun r45 s => fX19_say_i45 fu a1 a2 r45 s.1 s.2.1 s.2.2.1 s.2.2.2)
noncomputable def DX19_say (fu : Nat) (a1 : Int32) (a2 : Int32) (M : mwM) (L : mwL) : Option (mwM × mwL) :=
  mb3 (DX17_send fu (M 732 102) M L) (fun r8 M6 L7 => (if 1 ≤ r8 then mlet (mset M6 732 88 ((M6 732 88) + 1)) (fun M10 => mck r8 101 (mlet (mset M10 927 (r8.toNatClampNeg) a1) (fun M12 => mck r8 101 (mlet (mset M12 928 (r8.toNatClampNeg) (vp_nar .boolean a2)) (fun M14 => fX19_say_h45 fu a1 a2 fu (r8, 0, M14, L7)))))) else some (M6, L7)))
set_option maxHeartbeats 4000000 in
set_option maxRecDepth 100000 in
theorem tX19_say (l : Launch) (G : mwG) (ad : Nat → Nat) (fu : Nat) (a1 : Int32) (a2 : Int32) (M : mwM) (L : mwL) {M0 : mwM} {L0 : mwL} (hD : DX19_say fu a1 a2 M L = some (M0, L0)) : Met l yX19_say (Cond.code yX19_say cX19_say 5 (none) :: GT) ({ frames := 2, cells := 0, slots := 0, locals := 44 }) (mw_Pre G ad NF TF FF M L [.ref (ad 732), .int a1, .int a2]) (mw_Qv G ad NF TF FF (mw_eqV M0 L0)) 0 0 (mw_fr G) := by
  refine mw_enter (by decide) (Nat.le_of_ble_eq_true rfl) ?_
  intro p e s m below meth c ls C hr hlocks hnm hw hl
  have hl : lv_has ls 5 [(0, .ref (ad 732)), (1, .int a1), (2, .int a2)] := hl
  have hh45 : ∀ (f : Nat) (v3 : Int32) (v4 : Int32) (M : mwM) (L : mwL) (H : Heap) (locs : List Loc) (ls : Array Slot), fX19_say_h45 fu a1 a2 f (v3, v4, M, L) = some (M0, L0) → mw_W G ad NF TF FF M L H locs → lv_has ls 5 [(0, .ref (ad 732)), (3, .int v3), (4, .int v4)] → W p l e ({ frames := 2, cells := 0, slots := 0, locals := 44 }) s m [.ref (ad 732), .int a1, .int a2].toArray below meth c H locs 0 0 (MQ below (mw_Qv G ad NF TF FF (mw_eqV M0 L0)) [.ref (ad 732), .int a1, .int a2].toArray s 0 0 (mw_fr G)) (F0 m 45 ls []) := by
    intro f
    induction f with
    | zero => intro v3 v4 M L H locs ls hD; cases hD
    | succ f45 ih45 =>
      intro v3 v4 M L H locs ls hD hw hl
      replace hD : fX19_say_i45 fu a1 a2 (fX19_say_h45 fu a1 a2 f45) v3 v4 M L = some (M0, L0) := hD
      unfold fX19_say_i45 at hD
      refine lv_iload C.1.1 C.1.2.1 dX19_say_45 (lv_at hl 2 rfl) ?_
      refine lv_aload_n C.1.1 C.1.2.1 dX19_say_47 rfl (lv_at hl 0 rfl) ?_
      refine mr_getI C hw kc_19 102 (by decide) tf_732 wd_2883 dX19_say_48 (by decide) rfl ?_
      refine lv_icmp_ge (tgt := 78) C.1.1 C.1.2.1 dX19_say_51 (by decide) (fun c1 => ?_) (fun c1 => ?_)
      · replace hD := g_pos c1 hD
        exact mr_vret C hr hlocks hw (Option.some.inj hD) dX19_say_78
      · replace hD := g_neg c1 hD
        refine lv_aload_n C.1.1 C.1.2.1 dX19_say_54 rfl (lv_at hl 0 rfl) ?_
        refine mr_getR C hw kc_19 79 (by decide) tf_732 ff_732_79 wd_2860 dX19_say_55 (by decide) rfl ?_
        refine lv_iload_n C.1.1 C.1.2.1 dX19_say_58 rfl (lv_at hl 1 rfl) ?_
        refine lv_iload C.1.1 C.1.2.1 dX19_say_59 (lv_at hl 2 rfl) ?_
        refine lv_aload_n C.1.1 C.1.2.1 dX19_say_61 rfl (lv_at hl 0 rfl) ?_
        refine mr_getR C hw kc_19 101 (by decide) tf_732 ff_732_101 wd_2882 dX19_say_62 (by decide) rfl ?_
        refine lv_iload C.1.1 C.1.2.1 dX19_say_65 (lv_at hl 2 rfl) ?_
        obtain ⟨q2, hD⟩ := g_ck hD
        refine mr_iald C hw (by decide) tf_933 q2 dX19_say_67 ?_
        refine lv_i2b C.1.1 C.1.2.1 dX19_say_68 rfl ?_
        obtain ⟨M3, L4, h1, hD⟩ := g_b2 hD
        refine md_cvV (As := [.int v3, .int v4, .int ((M 933 v4.toNatClampNeg).toInt8.toInt32)]) (rest := []) C hw (tX17_octet l G ad fu v3 v4 ((M 933 v4.toNatClampNeg).toInt8.toInt32) M L h1) kc_17 (by decide) tf_869 wd_4050 cwX17_octet ⟨Nat.le_of_ble_eq_true rfl, Nat.le_of_ble_eq_true rfl⟩ rfl hl.1 (Nat.le_of_ble_eq_true rfl) dX19_say_69 rfl rfl ⟨Nat.zero_le _, Nat.zero_le _⟩ rfl (fun H locs hw => ?_)
        obtain ⟨x5, ex5, hD⟩ := g_let hD
        refine lv_iinc (v := x5) (lv' := [(4, .int x5), (0, .ref (ad 732)), (3, .int v3)]) C.1.1 C.1.2.1 dX19_say_72 hl (k := 2) rfl (by rw [ex5]; rfl) (by decide) rfl (fun ls hl => ?_)
        refine lv_goto (tgt := 45) C.1.1 C.1.2.1 dX19_say_75 (by decide) ?_
        exact ih45 v3 x5 M3 L4 _ _ ls hD hw (lv_sub hl [1, 2, 0] rfl)
  unfold DX19_say at hD
  refine lv_aload_n C.1.1 C.1.2.1 dX19_say_0 rfl (lv_at hl 0 rfl) ?_
  refine mr_getR C hw kc_19 79 (by decide) tf_732 ff_732_79 wd_2860 dX19_say_1 (by decide) rfl ?_
  refine lv_aload_n C.1.1 C.1.2.1 dX19_say_4 rfl (lv_at hl 0 rfl) ?_
  refine mr_getI C hw kc_19 102 (by decide) tf_732 wd_2883 dX19_say_5 (by decide) rfl ?_
  obtain ⟨r8, M6, L7, h1, hD⟩ := g_b3 hD
  refine md_cvI (As := [.int (M 732 102)]) (rest := []) C hw (tX17_send l G ad fu (M 732 102) M L h1) kc_17 (by decide) tf_869 wd_4046 cwX17_send ⟨Nat.le_of_ble_eq_true rfl, Nat.le_of_ble_eq_true rfl⟩ rfl hl.1 (Nat.le_of_ble_eq_true rfl) dX19_say_8 rfl rfl ⟨Nat.zero_le _, Nat.zero_le _⟩ rfl (fun H locs hw => ?_)
  refine lv_istore_n (lv' := [(3, .int r8), (0, .ref (ad 732)), (1, .int a1), (2, .int a2)]) C.1.1 C.1.2.1 dX19_say_11 rfl hl (by decide) rfl (fun ls hl => ?_)
  refine lv_iload_n C.1.1 C.1.2.1 dX19_say_12 rfl (lv_at hl 0 rfl) ?_
  refine lv_iconst (v := 1) C.1.1 C.1.2.1 dX19_say_13 (by decide) ?_
  refine lv_icmp_ge (tgt := 18) C.1.1 C.1.2.1 dX19_say_14 (by decide) (fun c9 => ?_) (fun c9 => ?_)
  · replace hD := g_pos c9 hD
    refine lv_aload_n C.1.1 C.1.2.1 dX19_say_18 rfl (lv_at hl 1 rfl) ?_
    refine lv_dup C.1.1 C.1.2.1 dX19_say_19 rfl ?_
    refine mr_getI C hw kc_19 88 (by decide) tf_732 wd_2869 dX19_say_20 (by decide) rfl ?_
    refine lv_iconst (v := 1) C.1.1 C.1.2.1 dX19_say_23 (by decide) ?_
    refine lv_iadd C.1.1 C.1.2.1 dX19_say_24 ?_
    obtain ⟨M10, eM10, hD⟩ := g_let hD
    refine mr_putI C hw kc_19 88 (by decide) tf_732 wd_2869 dX19_say_25 (by decide) rfl rfl rfl rfl (fun H locs hw => ?_)
    replace hw : mw_W G ad NF TF FF M10 L7 H locs := by rw [eM10]; exact hw
    refine lv_aload_n C.1.1 C.1.2.1 dX19_say_28 rfl (lv_at hl 1 rfl) ?_
    refine mr_getR C hw kc_19 89 (by decide) tf_732 ff_732_89 wd_2870 dX19_say_29 (by decide) rfl ?_
    refine lv_iload_n C.1.1 C.1.2.1 dX19_say_32 rfl (lv_at hl 0 rfl) ?_
    refine lv_iload_n C.1.1 C.1.2.1 dX19_say_33 rfl (lv_at hl 2 rfl) ?_
    obtain ⟨q11, hD⟩ := g_ck hD
    obtain ⟨M12, eM12, hD⟩ := g_let hD
    refine mr_iast C hw (by decide) tf_927 q11 dX19_say_34 (fun H locs hw => ?_)
    replace hw : mw_W G ad NF TF FF M12 L7 H locs := by rw [eM12]; exact hw
    refine lv_aload_n C.1.1 C.1.2.1 dX19_say_35 rfl (lv_at hl 1 rfl) ?_
    refine mr_getR C hw kc_19 90 (by decide) tf_732 ff_732_90 wd_2871 dX19_say_36 (by decide) rfl ?_
    refine lv_iload_n C.1.1 C.1.2.1 dX19_say_39 rfl (lv_at hl 0 rfl) ?_
    refine lv_iload_n C.1.1 C.1.2.1 dX19_say_40 rfl (lv_at hl 3 rfl) ?_
    obtain ⟨q13, hD⟩ := g_ck hD
    obtain ⟨M14, eM14, hD⟩ := g_let hD
    refine mr_zast C hw (by decide) tf_928 q13 dX19_say_41 (fun H locs hw => ?_)
    replace hw : mw_W G ad NF TF FF M14 L7 H locs := by rw [eM14]; exact hw
    refine lv_iconst (v := 0) C.1.1 C.1.2.1 dX19_say_42 (by decide) ?_
    refine lv_istore (lv' := [(4, .int 0), (3, .int r8), (0, .ref (ad 732)), (1, .int a1), (2, .int a2)]) C.1.1 C.1.2.1 dX19_say_43 hl (by decide) rfl (fun ls hl => ?_)
    exact hh45 fu r8 0 M14 L7 _ _ ls hD hw (lv_sub hl [2, 1, 0] rfl)
  · replace hD := g_neg c9 hD
    exact mr_vret C hr hlocks hw (Option.some.inj hD) dX19_say_17

theorem dX19_arrive_0 : decode cX19_arrive 0 = .ok (.iconst 0, 1) := by decide +kernel
theorem dX19_arrive_1 : decode cX19_arrive 1 = .ok (.istore_n 2, 1) := by decide +kernel
theorem dX19_arrive_2 : decode cX19_arrive 2 = .ok (.iload_n 2, 1) := by decide +kernel
theorem dX19_arrive_3 : decode cX19_arrive 3 = .ok (.aload_n 0, 1) := by decide +kernel
theorem dX19_arrive_4 : decode cX19_arrive 4 = .ok (.getfield 606, 3) := by decide +kernel
theorem dX19_arrive_7 : decode cX19_arrive 7 = .ok (.if_icmp .ge 19, 3) := by decide +kernel
theorem dX19_arrive_10 : decode cX19_arrive 10 = .ok (.aload_n 0, 1) := by decide +kernel
theorem dX19_arrive_11 : decode cX19_arrive 11 = .ok (.getfield 242, 3) := by decide +kernel
theorem dX19_arrive_14 : decode cX19_arrive 14 = .ok (.iload_n 2, 1) := by decide +kernel
theorem dX19_arrive_15 : decode cX19_arrive 15 = .ok (.iaload, 1) := by decide +kernel
theorem dX19_arrive_16 : decode cX19_arrive 16 = .ok (.iload_n 1, 1) := by decide +kernel
theorem dX19_arrive_17 : decode cX19_arrive 17 = .ok (.if_icmp .eq 9, 3) := by decide +kernel
theorem dX19_arrive_20 : decode cX19_arrive 20 = .ok (.iinc 2 1, 3) := by decide +kernel
theorem dX19_arrive_23 : decode cX19_arrive 23 = .ok (.goto (-21), 3) := by decide +kernel
theorem dX19_arrive_26 : decode cX19_arrive 26 = .ok (.iload_n 2, 1) := by decide +kernel
theorem dX19_arrive_27 : decode cX19_arrive 27 = .ok (.aload_n 0, 1) := by decide +kernel
theorem dX19_arrive_28 : decode cX19_arrive 28 = .ok (.getfield 606, 3) := by decide +kernel
theorem dX19_arrive_31 : decode cX19_arrive 31 = .ok (.if_icmp .ne 4, 3) := by decide +kernel
theorem dX19_arrive_34 : decode cX19_arrive 34 = .ok (.return_, 1) := by decide +kernel
theorem dX19_arrive_35 : decode cX19_arrive 35 = .ok (.aload_n 0, 1) := by decide +kernel
theorem dX19_arrive_36 : decode cX19_arrive 36 = .ok (.getfield 239, 3) := by decide +kernel
theorem dX19_arrive_39 : decode cX19_arrive 39 = .ok (.iload_n 2, 1) := by decide +kernel
theorem dX19_arrive_40 : decode cX19_arrive 40 = .ok (.iaload, 1) := by decide +kernel
theorem dX19_arrive_41 : decode cX19_arrive 41 = .ok (.istore_n 3, 1) := by decide +kernel
theorem dX19_arrive_42 : decode cX19_arrive 42 = .ok (.aload_n 0, 1) := by decide +kernel
theorem dX19_arrive_43 : decode cX19_arrive 43 = .ok (.dup, 1) := by decide +kernel
theorem dX19_arrive_44 : decode cX19_arrive 44 = .ok (.getfield 606, 3) := by decide +kernel
theorem dX19_arrive_47 : decode cX19_arrive 47 = .ok (.iconst 1, 1) := by decide +kernel
theorem dX19_arrive_48 : decode cX19_arrive 48 = .ok (.isub, 1) := by decide +kernel
theorem dX19_arrive_49 : decode cX19_arrive 49 = .ok (.putfield 606, 3) := by decide +kernel
theorem dX19_arrive_52 : decode cX19_arrive 52 = .ok (.iload_n 2, 1) := by decide +kernel
theorem dX19_arrive_53 : decode cX19_arrive 53 = .ok (.istore 4, 2) := by decide +kernel
theorem dX19_arrive_55 : decode cX19_arrive 55 = .ok (.iload 4, 2) := by decide +kernel
theorem dX19_arrive_57 : decode cX19_arrive 57 = .ok (.aload_n 0, 1) := by decide +kernel
theorem dX19_arrive_58 : decode cX19_arrive 58 = .ok (.getfield 606, 3) := by decide +kernel
theorem dX19_arrive_61 : decode cX19_arrive 61 = .ok (.if_icmp .ge 41, 3) := by decide +kernel
theorem dX19_arrive_64 : decode cX19_arrive 64 = .ok (.aload_n 0, 1) := by decide +kernel
theorem dX19_arrive_65 : decode cX19_arrive 65 = .ok (.getfield 239, 3) := by decide +kernel
theorem dX19_arrive_68 : decode cX19_arrive 68 = .ok (.iload 4, 2) := by decide +kernel
theorem dX19_arrive_70 : decode cX19_arrive 70 = .ok (.aload_n 0, 1) := by decide +kernel
theorem dX19_arrive_71 : decode cX19_arrive 71 = .ok (.getfield 239, 3) := by decide +kernel
theorem dX19_arrive_74 : decode cX19_arrive 74 = .ok (.iload 4, 2) := by decide +kernel
theorem dX19_arrive_76 : decode cX19_arrive 76 = .ok (.iconst 1, 1) := by decide +kernel
theorem dX19_arrive_77 : decode cX19_arrive 77 = .ok (.iadd, 1) := by decide +kernel
theorem dX19_arrive_78 : decode cX19_arrive 78 = .ok (.iaload, 1) := by decide +kernel
theorem dX19_arrive_79 : decode cX19_arrive 79 = .ok (.iastore, 1) := by decide +kernel
theorem dX19_arrive_80 : decode cX19_arrive 80 = .ok (.aload_n 0, 1) := by decide +kernel
theorem dX19_arrive_81 : decode cX19_arrive 81 = .ok (.getfield 242, 3) := by decide +kernel
theorem dX19_arrive_84 : decode cX19_arrive 84 = .ok (.iload 4, 2) := by decide +kernel
theorem dX19_arrive_86 : decode cX19_arrive 86 = .ok (.aload_n 0, 1) := by decide +kernel
theorem dX19_arrive_87 : decode cX19_arrive 87 = .ok (.getfield 242, 3) := by decide +kernel
theorem dX19_arrive_90 : decode cX19_arrive 90 = .ok (.iload 4, 2) := by decide +kernel
theorem dX19_arrive_92 : decode cX19_arrive 92 = .ok (.iconst 1, 1) := by decide +kernel
theorem dX19_arrive_93 : decode cX19_arrive 93 = .ok (.iadd, 1) := by decide +kernel
theorem dX19_arrive_94 : decode cX19_arrive 94 = .ok (.iaload, 1) := by decide +kernel
theorem dX19_arrive_95 : decode cX19_arrive 95 = .ok (.iastore, 1) := by decide +kernel
theorem dX19_arrive_96 : decode cX19_arrive 96 = .ok (.iinc 4 1, 3) := by decide +kernel
theorem dX19_arrive_99 : decode cX19_arrive 99 = .ok (.goto (-44), 3) := by decide +kernel
theorem dX19_arrive_102 : decode cX19_arrive 102 = .ok (.aload_n 0, 1) := by decide +kernel
theorem dX19_arrive_103 : decode cX19_arrive 103 = .ok (.getfield 198, 3) := by decide +kernel
theorem dX19_arrive_106 : decode cX19_arrive 106 = .ok (.iload_n 3, 1) := by decide +kernel
theorem dX19_arrive_107 : decode cX19_arrive 107 = .ok (.invokevirtual 710, 3) := by decide +kernel
theorem dX19_arrive_110 : decode cX19_arrive 110 = .ok (.istore 4, 2) := by decide +kernel
theorem dX19_arrive_112 : decode cX19_arrive 112 = .ok (.aload_n 0, 1) := by decide +kernel
theorem dX19_arrive_113 : decode cX19_arrive 113 = .ok (.getfield 198, 3) := by decide +kernel
theorem dX19_arrive_116 : decode cX19_arrive 116 = .ok (.iconst 0, 1) := by decide +kernel
theorem dX19_arrive_117 : decode cX19_arrive 117 = .ok (.invokevirtual 713, 3) := by decide +kernel
theorem dX19_arrive_120 : decode cX19_arrive 120 = .ok (.aload_n 0, 1) := by decide +kernel
theorem dX19_arrive_121 : decode cX19_arrive 121 = .ok (.getfield 612, 3) := by decide +kernel
theorem dX19_arrive_124 : decode cX19_arrive 124 = .ok (.if_icmp .ne 4, 3) := by decide +kernel
theorem dX19_arrive_127 : decode cX19_arrive 127 = .ok (.return_, 1) := by decide +kernel
theorem dX19_arrive_128 : decode cX19_arrive 128 = .ok (.aload_n 0, 1) := by decide +kernel
theorem dX19_arrive_129 : decode cX19_arrive 129 = .ok (.dup, 1) := by decide +kernel
theorem dX19_arrive_130 : decode cX19_arrive 130 = .ok (.getfield 612, 3) := by decide +kernel
theorem dX19_arrive_133 : decode cX19_arrive 133 = .ok (.iconst 1, 1) := by decide +kernel
theorem dX19_arrive_134 : decode cX19_arrive 134 = .ok (.iadd, 1) := by decide +kernel
theorem dX19_arrive_135 : decode cX19_arrive 135 = .ok (.putfield 612, 3) := by decide +kernel
theorem dX19_arrive_138 : decode cX19_arrive 138 = .ok (.aload_n 0, 1) := by decide +kernel
theorem dX19_arrive_139 : decode cX19_arrive 139 = .ok (.getfield 198, 3) := by decide +kernel
theorem dX19_arrive_142 : decode cX19_arrive 142 = .ok (.invokevirtual 716, 3) := by decide +kernel
theorem dX19_arrive_145 : decode cX19_arrive 145 = .ok (.istore 5, 2) := by decide +kernel
theorem dX19_arrive_147 : decode cX19_arrive 147 = .ok (.iconst 0, 1) := by decide +kernel
theorem dX19_arrive_148 : decode cX19_arrive 148 = .ok (.istore 6, 2) := by decide +kernel
theorem dX19_arrive_150 : decode cX19_arrive 150 = .ok (.iload 6, 2) := by decide +kernel
theorem dX19_arrive_152 : decode cX19_arrive 152 = .ok (.iload 5, 2) := by decide +kernel
theorem dX19_arrive_154 : decode cX19_arrive 154 = .ok (.if_icmp .ge 29, 3) := by decide +kernel
theorem dX19_arrive_157 : decode cX19_arrive 157 = .ok (.aload_n 0, 1) := by decide +kernel
theorem dX19_arrive_158 : decode cX19_arrive 158 = .ok (.getfield 252, 3) := by decide +kernel
theorem dX19_arrive_161 : decode cX19_arrive 161 = .ok (.iload 6, 2) := by decide +kernel
theorem dX19_arrive_163 : decode cX19_arrive 163 = .ok (.aload_n 0, 1) := by decide +kernel
theorem dX19_arrive_164 : decode cX19_arrive 164 = .ok (.getfield 198, 3) := by decide +kernel
theorem dX19_arrive_167 : decode cX19_arrive 167 = .ok (.iload 6, 2) := by decide +kernel
theorem dX19_arrive_169 : decode cX19_arrive 169 = .ok (.invokevirtual 718, 3) := by decide +kernel
theorem dX19_arrive_172 : decode cX19_arrive 172 = .ok (.sipush 255, 3) := by decide +kernel
theorem dX19_arrive_175 : decode cX19_arrive 175 = .ok (.iand, 1) := by decide +kernel
theorem dX19_arrive_176 : decode cX19_arrive 176 = .ok (.iastore, 1) := by decide +kernel
theorem dX19_arrive_177 : decode cX19_arrive 177 = .ok (.iinc 6 1, 3) := by decide +kernel
theorem dX19_arrive_180 : decode cX19_arrive 180 = .ok (.goto (-30), 3) := by decide +kernel
theorem dX19_arrive_183 : decode cX19_arrive 183 = .ok (.aload_n 0, 1) := by decide +kernel
theorem dX19_arrive_184 : decode cX19_arrive 184 = .ok (.getfield 198, 3) := by decide +kernel
theorem dX19_arrive_187 : decode cX19_arrive 187 = .ok (.iload_n 3, 1) := by decide +kernel
theorem dX19_arrive_188 : decode cX19_arrive 188 = .ok (.iconst 1, 1) := by decide +kernel
theorem dX19_arrive_189 : decode cX19_arrive 189 = .ok (.invokevirtual 720, 3) := by decide +kernel
theorem dX19_arrive_192 : decode cX19_arrive 192 = .ok (.istore 6, 2) := by decide +kernel
theorem dX19_arrive_194 : decode cX19_arrive 194 = .ok (.aload_n 0, 1) := by decide +kernel
theorem dX19_arrive_195 : decode cX19_arrive 195 = .ok (.getfield 236, 3) := by decide +kernel
theorem dX19_arrive_198 : decode cX19_arrive 198 = .ok (.iload 6, 2) := by decide +kernel
theorem dX19_arrive_200 : decode cX19_arrive 200 = .ok (.baload, 1) := by decide +kernel
theorem dX19_arrive_201 : decode cX19_arrive 201 = .ok (.ifCond .eq 31, 3) := by decide +kernel
theorem dX19_arrive_204 : decode cX19_arrive 204 = .ok (.aload_n 0, 1) := by decide +kernel
theorem dX19_arrive_205 : decode cX19_arrive 205 = .ok (.aload_n 0, 1) := by decide +kernel
theorem dX19_arrive_206 : decode cX19_arrive 206 = .ok (.getfield 233, 3) := by decide +kernel
theorem dX19_arrive_209 : decode cX19_arrive 209 = .ok (.iload 6, 2) := by decide +kernel
theorem dX19_arrive_211 : decode cX19_arrive 211 = .ok (.iaload, 1) := by decide +kernel
theorem dX19_arrive_212 : decode cX19_arrive 212 = .ok (.iload 5, 2) := by decide +kernel
theorem dX19_arrive_214 : decode cX19_arrive 214 = .ok (.invokevirtual 723, 3) := by decide +kernel
theorem dX19_arrive_217 : decode cX19_arrive 217 = .ok (.aload_n 0, 1) := by decide +kernel
theorem dX19_arrive_218 : decode cX19_arrive 218 = .ok (.aload_n 0, 1) := by decide +kernel
theorem dX19_arrive_219 : decode cX19_arrive 219 = .ok (.getfield 233, 3) := by decide +kernel
theorem dX19_arrive_222 : decode cX19_arrive 222 = .ok (.iload 6, 2) := by decide +kernel
theorem dX19_arrive_224 : decode cX19_arrive 224 = .ok (.iaload, 1) := by decide +kernel
theorem dX19_arrive_225 : decode cX19_arrive 225 = .ok (.iconst 0, 1) := by decide +kernel
theorem dX19_arrive_226 : decode cX19_arrive 226 = .ok (.invokevirtual 726, 3) := by decide +kernel
theorem dX19_arrive_229 : decode cX19_arrive 229 = .ok (.goto 68, 3) := by decide +kernel
theorem dX19_arrive_232 : decode cX19_arrive 232 = .ok (.aload_n 0, 1) := by decide +kernel
theorem dX19_arrive_233 : decode cX19_arrive 233 = .ok (.getfield 245, 3) := by decide +kernel
theorem dX19_arrive_236 : decode cX19_arrive 236 = .ok (.aload_n 0, 1) := by decide +kernel
theorem dX19_arrive_237 : decode cX19_arrive 237 = .ok (.getfield 233, 3) := by decide +kernel
theorem dX19_arrive_240 : decode cX19_arrive 240 = .ok (.iload 6, 2) := by decide +kernel
theorem dX19_arrive_242 : decode cX19_arrive 242 = .ok (.iaload, 1) := by decide +kernel
theorem dX19_arrive_243 : decode cX19_arrive 243 = .ok (.if_icmp .ne 54, 3) := by decide +kernel
theorem dX19_arrive_246 : decode cX19_arrive 246 = .ok (.aload_n 0, 1) := by decide +kernel
theorem dX19_arrive_247 : decode cX19_arrive 247 = .ok (.iload 5, 2) := by decide +kernel
theorem dX19_arrive_249 : decode cX19_arrive 249 = .ok (.putfield 618, 3) := by decide +kernel
theorem dX19_arrive_252 : decode cX19_arrive 252 = .ok (.iconst 0, 1) := by decide +kernel
theorem dX19_arrive_253 : decode cX19_arrive 253 = .ok (.istore 7, 2) := by decide +kernel
theorem dX19_arrive_255 : decode cX19_arrive 255 = .ok (.iload 7, 2) := by decide +kernel
theorem dX19_arrive_257 : decode cX19_arrive 257 = .ok (.iload 5, 2) := by decide +kernel
theorem dX19_arrive_259 : decode cX19_arrive 259 = .ok (.if_icmp .ge 23, 3) := by decide +kernel
theorem dX19_arrive_262 : decode cX19_arrive 262 = .ok (.aload_n 0, 1) := by decide +kernel
theorem dX19_arrive_263 : decode cX19_arrive 263 = .ok (.getfield 249, 3) := by decide +kernel
theorem dX19_arrive_266 : decode cX19_arrive 266 = .ok (.iload 7, 2) := by decide +kernel
theorem dX19_arrive_268 : decode cX19_arrive 268 = .ok (.aload_n 0, 1) := by decide +kernel
theorem dX19_arrive_269 : decode cX19_arrive 269 = .ok (.getfield 252, 3) := by decide +kernel
theorem dX19_arrive_272 : decode cX19_arrive 272 = .ok (.iload 7, 2) := by decide +kernel
theorem dX19_arrive_274 : decode cX19_arrive 274 = .ok (.iaload, 1) := by decide +kernel
theorem dX19_arrive_275 : decode cX19_arrive 275 = .ok (.iastore, 1) := by decide +kernel
theorem dX19_arrive_276 : decode cX19_arrive 276 = .ok (.iinc 7 1, 3) := by decide +kernel
theorem dX19_arrive_279 : decode cX19_arrive 279 = .ok (.goto (-24), 3) := by decide +kernel
theorem dX19_arrive_282 : decode cX19_arrive 282 = .ok (.aload_n 0, 1) := by decide +kernel
theorem dX19_arrive_283 : decode cX19_arrive 283 = .ok (.getfield 273, 3) := by decide +kernel
theorem dX19_arrive_286 : decode cX19_arrive 286 = .ok (.iconst 3, 1) := by decide +kernel
theorem dX19_arrive_287 : decode cX19_arrive 287 = .ok (.dup2, 1) := by decide +kernel
theorem dX19_arrive_288 : decode cX19_arrive 288 = .ok (.iaload, 1) := by decide +kernel
theorem dX19_arrive_289 : decode cX19_arrive 289 = .ok (.iconst 1, 1) := by decide +kernel
theorem dX19_arrive_290 : decode cX19_arrive 290 = .ok (.iadd, 1) := by decide +kernel
theorem dX19_arrive_291 : decode cX19_arrive 291 = .ok (.iastore, 1) := by decide +kernel
theorem dX19_arrive_292 : decode cX19_arrive 292 = .ok (.aload_n 0, 1) := by decide +kernel
theorem dX19_arrive_293 : decode cX19_arrive 293 = .ok (.iconst (-1), 1) := by decide +kernel
theorem dX19_arrive_294 : decode cX19_arrive 294 = .ok (.putfield 245, 3) := by decide +kernel
theorem dX19_arrive_297 : decode cX19_arrive 297 = .ok (.return_, 1) := by decide +kernel
theorem cwX19_arrive : mw_cwV yX19_arrive cX19_arrive 8 (none) 1 := ⟨⟨wd_13, wd_3931, by decide +kernel⟩, wd_3930, sl_291⟩
noncomputable def fX19_arrive_b297 (fu : Nat) (a1 : Int32) (M : mwM) (L : mwL) : Option (mwM × mwL) :=
  some (M, L)
noncomputable def fX19_arrive_i255 (fu : Nat) (a1 : Int32) (r255 : (Int32 × Int32 × mwM × mwL) → Option (mwM × mwL)) (v5 : Int32) (v7 : Int32) (M : mwM) (L : mwL) : Option (mwM × mwL) :=
  (if v5 ≤ v7 then mlet (mset M 939 ((3 : Int32).toNatClampNeg) ((M 939 (3 : Int32).toNatClampNeg) + 1)) (fun M52 => mlet (mset M52 732 97 ((-1))) (fun M53 => fX19_arrive_b297 fu a1 M53 L)) else mck v7 128 (mck v7 128 (mlet (mset M 931 (v7.toNatClampNeg) (M 932 v7.toNatClampNeg)) (fun M56 => mlet (v7 + 1) (fun x57 => r255 (v5, x57, M56, L))))))
noncomputable def fX19_arrive_h255 (fu : Nat) (a1 : Int32) : Nat → (Int32 × Int32 × mwM × mwL) → Option (mwM × mwL) := mloop (fun r255 s => fX19_arrive_i255 fu a1 r255 s.1 s.2.1 s.2.2.1 s.2.2.2)
noncomputable def fX19_arrive_i150 (fu : Nat) (a1 : Int32) (r150 : (Int32 × Int32 × Int32 × mwM × mwL) → Option (mwM × mwL)) (v3 : Int32) (v5 : Int32) (v6 : Int32) (M : mwM) (L : mwL) : Option (mwM × mwL) :=
  (if v5 ≤ v6 then mb3 (DX17_frame fu v3 1 M L) (fun r31 M29 L30 => mck r31 101 ((if (M29 928 r31.toNatClampNeg) = 0 then mck r31 101 ((if (M29 732 97) = (M29 927 r31.toNatClampNeg) then mlet (mset M29 732 98 v5) (fun M36 => fX19_arrive_h255 fu a1 fu (v5, 0, M36, L30)) else fX19_arrive_b297 fu a1 M29 L30)) else mck r31 101 (mb2 (DX19_serve fu (M29 927 r31.toNatClampNeg) v5 M29 L30) (fun M38 L39 => mck r31 101 (mb2 (DX19_say fu (M38 927 r31.toNatClampNeg) 0 M38 L39) (fun M41 L42 => fX19_arrive_b297 fu a1 M41 L42))))))) else mb3 (DX17_got fu v6 M L) (fun r45 M43 L44 => mck v6 128 (mlet (mset M43 932 (v6.toNatClampNeg) (r45 &&& 255)) (fun M47 => mlet (v6 + 1) (fun x48 => r150 (v3, v5, x48, M47, L44))))))
noncomputable def fX19_arrive_h150 (fu : Nat) (a1 : Int32) : Nat → (Int32 × Int32 × Int32 × mwM × mwL) → Option (mwM × mwL) := mloop (fun r150 s => fX19_arrive_i150 fu a1 r150 s.1 s.2.1 s.2.2.1 s.2.2.2.1 s.2.2.2.2)
noncomputable def fX19_arrive_i55 (fu : Nat) (a1 : Int32) (r55 : (Int32 × Int32 × mwM × mwL) → Option (mwM × mwL)) (v3 : Int32) (v4 : Int32) (M : mwM) (L : mwL) : Option (mwM × mwL) :=
  (if (M 732 91) ≤ v4 then mb3 (DX17_receive fu v3 M L) (fun r12 M10 L11 => mb3 (DX17_ended fu 0 M10 L11) (fun r15 M13 L14 => (if r15 = (M13 732 95) then some (M13, L14) else mlet (mset M13 732 95 ((M13 732 95) + 1)) (fun M17 => mb3 (DX17_length fu M17 L14) (fun r20 M18 L19 => fX19_arrive_h150 fu a1 fu (v3, r20, 0, M18, L19)))))) else mck (v4 + 1) 6001 (mck v4 6001 (mlet (mset M 929 (v4.toNatClampNeg) (M 929 (v4 + 1).toNatClampNeg)) (fun M23 => mck (v4 + 1) 6001 (mck v4 6001 (mlet (mset M23 930 (v4.toNatClampNeg) (M23 930 (v4 + 1).toNatClampNeg)) (fun M26 => mlet (v4 + 1) (fun x27 => r55 (v3, x27, M26, L)))))))))
noncomputable def fX19_arrive_h55 (fu : Nat) (a1 : Int32) : Nat → (Int32 × Int32 × mwM × mwL) → Option (mwM × mwL) := mloop (fun r55 s => fX19_arrive_i55 fu a1 r55 s.1 s.2.1 s.2.2.1 s.2.2.2)
noncomputable def fX19_arrive_b26 (fu : Nat) (a1 : Int32) (v2 : Int32) (M : mwM) (L : mwL) : Option (mwM × mwL) :=
  (if v2 = (M 732 91) then some (M, L) else mck v2 6001 (mlet (M 929 v2.toNatClampNeg) (fun x7 => mlet (mset M 732 91 ((M 732 91) - 1)) (fun M8 => fX19_arrive_h55 fu a1 fu (x7, v2, M8, L)))))
noncomputable def fX19_arrive_i2 (fu : Nat) (a1 : Int32) (r2 : (Int32 × mwM × mwL) → Option (mwM × mwL)) (v2 : Int32) (M : mwM) (L : mwL) : Option (mwM × mwL) :=
  (if (M 732 91) ≤ v2 then fX19_arrive_b26 fu a1 v2 M L else mck v2 6001 ((if (M 930 v2.toNatClampNeg) = a1 then fX19_arrive_b26 fu a1 v2 M L else mlet (v2 + 1) (fun x4 => r2 (x4, M, L)))))
noncomputable def fX19_arrive_h2 (fu : Nat) (a1 : Int32) : Nat → (Int32 × mwM × mwL) → Option (mwM × mwL) := mloop (fun r2 s => fX19_arrive_i2 fu a1 r2 s.1 s.2.1 s.2.2)
noncomputable def DX19_arrive (fu : Nat) (a1 : Int32) (M : mwM) (L : mwL) : Option (mwM × mwL) :=
  fX19_arrive_h2 fu a1 fu (0, M, L)
set_option maxHeartbeats 4000000 in
set_option maxRecDepth 100000 in
theorem tX19_arrive (l : Launch) (G : mwG) (ad : Nat → Nat) (fu : Nat) (a1 : Int32) (M : mwM) (L : mwL) {M0 : mwM} {L0 : mwL} (hD : DX19_arrive fu a1 M L = some (M0, L0)) : Met l yX19_arrive (Cond.code yX19_arrive cX19_arrive 8 (none) :: GT) ({ frames := 7, cells := 0, slots := 0, locals := 176 }) (mw_Pre G ad NF TF FF M L [.ref (ad 732), .int a1]) (mw_Qv G ad NF TF FF (mw_eqV M0 L0)) 0 0 (mw_fr G) := by
  refine mw_enter (by decide) (Nat.le_of_ble_eq_true rfl) ?_
  intro p e s m below meth c ls C hr hlocks hnm hw hl
  have hl : lv_has ls 8 [(0, .ref (ad 732)), (1, .int a1)] := hl
  have hb297 : ∀ (M : mwM) (L : mwL) (H : Heap) (locs : List Loc) (ls : Array Slot), fX19_arrive_b297 fu a1 M L = some (M0, L0) → mw_W G ad NF TF FF M L H locs → lv_has ls 8 [] → W p l e ({ frames := 7, cells := 0, slots := 0, locals := 176 }) s m [.ref (ad 732), .int a1].toArray below meth c H locs 0 0 (MQ below (mw_Qv G ad NF TF FF (mw_eqV M0 L0)) [.ref (ad 732), .int a1].toArray s 0 0 (mw_fr G)) (F0 m 297 ls []) := by
    intro M L H locs ls hD hw hl
    unfold fX19_arrive_b297 at hD
    exact mr_vret C hr hlocks hw (Option.some.inj hD) dX19_arrive_297
  have hh255 : ∀ (f : Nat) (v5 : Int32) (v7 : Int32) (M : mwM) (L : mwL) (H : Heap) (locs : List Loc) (ls : Array Slot), fX19_arrive_h255 fu a1 f (v5, v7, M, L) = some (M0, L0) → mw_W G ad NF TF FF M L H locs → lv_has ls 8 [(0, .ref (ad 732)), (5, .int v5), (7, .int v7)] → W p l e ({ frames := 7, cells := 0, slots := 0, locals := 176 }) s m [.ref (ad 732), .int a1].toArray below meth c H locs 0 0 (MQ below (mw_Qv G ad NF TF FF (mw_eqV M0 L0)) [.ref (ad 732), .int a1].toArray s 0 0 (mw_fr G)) (F0 m 255 ls []) := by
    intro f
    induction f with
    | zero => intro v5 v7 M L H locs ls hD; cases hD
    | succ f255 ih255 =>
      intro v5 v7 M L H locs ls hD hw hl
      replace hD : fX19_arrive_i255 fu a1 (fX19_arrive_h255 fu a1 f255) v5 v7 M L = some (M0, L0) := hD
      unfold fX19_arrive_i255 at hD
      refine lv_iload C.1.1 C.1.2.1 dX19_arrive_255 (lv_at hl 2 rfl) ?_
      refine lv_iload C.1.1 C.1.2.1 dX19_arrive_257 (lv_at hl 1 rfl) ?_
      refine lv_icmp_ge (tgt := 282) C.1.1 C.1.2.1 dX19_arrive_259 (by decide) (fun c49 => ?_) (fun c49 => ?_)
      · replace hD := g_pos c49 hD
        refine lv_aload_n C.1.1 C.1.2.1 dX19_arrive_282 rfl (lv_at hl 0 rfl) ?_
        refine mr_getR C hw kc_19 109 (by decide) tf_732 ff_732_109 wd_2890 dX19_arrive_283 (by decide) rfl ?_
        refine lv_iconst (v := 3) C.1.1 C.1.2.1 dX19_arrive_286 (by decide) ?_
        refine lv_dup2_11 C.1.1 C.1.2.1 dX19_arrive_287 rfl rfl ?_
        refine mr_iald C hw (by decide) tf_939 (show vp_in 3 5 from by unfold vp_in; decide) dX19_arrive_288 ?_
        refine lv_iconst (v := 1) C.1.1 C.1.2.1 dX19_arrive_289 (by decide) ?_
        refine lv_iadd C.1.1 C.1.2.1 dX19_arrive_290 ?_
        obtain ⟨M52, eM52, hD⟩ := g_let hD
        refine mr_iast C hw (by decide) tf_939 (show vp_in 3 5 from by unfold vp_in; decide) dX19_arrive_291 (fun H locs hw => ?_)
        replace hw : mw_W G ad NF TF FF M52 L H locs := by rw [eM52]; exact hw
        refine lv_aload_n C.1.1 C.1.2.1 dX19_arrive_292 rfl (lv_at hl 0 rfl) ?_
        refine lv_iconst (v := (-1)) C.1.1 C.1.2.1 dX19_arrive_293 (by decide) ?_
        obtain ⟨M53, eM53, hD⟩ := g_let hD
        refine mr_putI C hw kc_19 97 (by decide) tf_732 wd_2878 dX19_arrive_294 (by decide) rfl rfl rfl rfl (fun H locs hw => ?_)
        replace hw : mw_W G ad NF TF FF M53 L H locs := by rw [eM53]; exact hw
        exact hb297 M53 L _ _ ls hD hw (lv_sub hl [] rfl)
      · replace hD := g_neg c49 hD
        refine lv_aload_n C.1.1 C.1.2.1 dX19_arrive_262 rfl (lv_at hl 0 rfl) ?_
        refine mr_getR C hw kc_19 99 (by decide) tf_732 ff_732_99 wd_2880 dX19_arrive_263 (by decide) rfl ?_
        refine lv_iload C.1.1 C.1.2.1 dX19_arrive_266 (lv_at hl 2 rfl) ?_
        refine lv_aload_n C.1.1 C.1.2.1 dX19_arrive_268 rfl (lv_at hl 0 rfl) ?_
        refine mr_getR C hw kc_19 100 (by decide) tf_732 ff_732_100 wd_2881 dX19_arrive_269 (by decide) rfl ?_
        refine lv_iload C.1.1 C.1.2.1 dX19_arrive_272 (lv_at hl 2 rfl) ?_
        obtain ⟨q54, hD⟩ := g_ck hD
        refine mr_iald C hw (by decide) tf_932 q54 dX19_arrive_274 ?_
        obtain ⟨q55, hD⟩ := g_ck hD
        obtain ⟨M56, eM56, hD⟩ := g_let hD
        refine mr_iast C hw (by decide) tf_931 q55 dX19_arrive_275 (fun H locs hw => ?_)
        replace hw : mw_W G ad NF TF FF M56 L H locs := by rw [eM56]; exact hw
        obtain ⟨x57, ex57, hD⟩ := g_let hD
        refine lv_iinc (v := x57) (lv' := [(7, .int x57), (0, .ref (ad 732)), (5, .int v5)]) C.1.1 C.1.2.1 dX19_arrive_276 hl (k := 2) rfl (by rw [ex57]; rfl) (by decide) rfl (fun ls hl => ?_)
        refine lv_goto (tgt := 255) C.1.1 C.1.2.1 dX19_arrive_279 (by decide) ?_
        exact ih255 v5 x57 M56 L _ _ ls hD hw (lv_sub hl [1, 2, 0] rfl)
  have hh150 : ∀ (f : Nat) (v3 : Int32) (v5 : Int32) (v6 : Int32) (M : mwM) (L : mwL) (H : Heap) (locs : List Loc) (ls : Array Slot), fX19_arrive_h150 fu a1 f (v3, v5, v6, M, L) = some (M0, L0) → mw_W G ad NF TF FF M L H locs → lv_has ls 8 [(0, .ref (ad 732)), (3, .int v3), (5, .int v5), (6, .int v6)] → W p l e ({ frames := 7, cells := 0, slots := 0, locals := 176 }) s m [.ref (ad 732), .int a1].toArray below meth c H locs 0 0 (MQ below (mw_Qv G ad NF TF FF (mw_eqV M0 L0)) [.ref (ad 732), .int a1].toArray s 0 0 (mw_fr G)) (F0 m 150 ls []) := by
    intro f
    induction f with
    | zero => intro v3 v5 v6 M L H locs ls hD; cases hD
    | succ f150 ih150 =>
      intro v3 v5 v6 M L H locs ls hD hw hl
      replace hD : fX19_arrive_i150 fu a1 (fX19_arrive_h150 fu a1 f150) v3 v5 v6 M L = some (M0, L0) := hD
      unfold fX19_arrive_i150 at hD
      refine lv_iload C.1.1 C.1.2.1 dX19_arrive_150 (lv_at hl 3 rfl) ?_
      refine lv_iload C.1.1 C.1.2.1 dX19_arrive_152 (lv_at hl 2 rfl) ?_
      refine lv_icmp_ge (tgt := 183) C.1.1 C.1.2.1 dX19_arrive_154 (by decide) (fun c28 => ?_) (fun c28 => ?_)
      · replace hD := g_pos c28 hD
        refine lv_aload_n C.1.1 C.1.2.1 dX19_arrive_183 rfl (lv_at hl 0 rfl) ?_
        refine mr_getR C hw kc_19 79 (by decide) tf_732 ff_732_79 wd_2860 dX19_arrive_184 (by decide) rfl ?_
        refine lv_iload_n C.1.1 C.1.2.1 dX19_arrive_187 rfl (lv_at hl 1 rfl) ?_
        refine lv_iconst (v := 1) C.1.1 C.1.2.1 dX19_arrive_188 (by decide) ?_
        obtain ⟨r31, M29, L30, h1, hD⟩ := g_b3 hD
        refine md_cvI (As := [.int v3, .int 1]) (rest := []) C hw (tX17_frame l G ad fu v3 1 M L h1) kc_17 (by decide) tf_869 wd_3984 cwX17_frame ⟨Nat.le_of_ble_eq_true rfl, Nat.le_of_ble_eq_true rfl⟩ rfl hl.1 (Nat.le_of_ble_eq_true rfl) dX19_arrive_189 rfl rfl ⟨Nat.zero_le _, Nat.zero_le _⟩ rfl (fun H locs hw => ?_)
        refine lv_istore (lv' := [(6, .int r31), (0, .ref (ad 732)), (3, .int v3), (5, .int v5)]) C.1.1 C.1.2.1 dX19_arrive_192 hl (by decide) rfl (fun ls hl => ?_)
        refine lv_aload_n C.1.1 C.1.2.1 dX19_arrive_194 rfl (lv_at hl 1 rfl) ?_
        refine mr_getR C hw kc_19 90 (by decide) tf_732 ff_732_90 wd_2871 dX19_arrive_195 (by decide) rfl ?_
        refine lv_iload C.1.1 C.1.2.1 dX19_arrive_198 (lv_at hl 0 rfl) ?_
        obtain ⟨q32, hD⟩ := g_ck hD
        refine mr_zald C hw (by decide) tf_928 q32 dX19_arrive_200 ?_
        refine lv_if_eq (tgt := 232) C.1.1 C.1.2.1 dX19_arrive_201 (by decide) (fun c33 => ?_) (fun c33 => ?_)
        · replace hD := g_pos c33 hD
          refine lv_aload_n C.1.1 C.1.2.1 dX19_arrive_232 rfl (lv_at hl 1 rfl) ?_
          refine mr_getI C hw kc_19 97 (by decide) tf_732 wd_2878 dX19_arrive_233 (by decide) rfl ?_
          refine lv_aload_n C.1.1 C.1.2.1 dX19_arrive_236 rfl (lv_at hl 1 rfl) ?_
          refine mr_getR C hw kc_19 89 (by decide) tf_732 ff_732_89 wd_2870 dX19_arrive_237 (by decide) rfl ?_
          refine lv_iload C.1.1 C.1.2.1 dX19_arrive_240 (lv_at hl 0 rfl) ?_
          obtain ⟨q34, hD⟩ := g_ck hD
          refine mr_iald C hw (by decide) tf_927 q34 dX19_arrive_242 ?_
          refine lv_icmp_ne (tgt := 297) C.1.1 C.1.2.1 dX19_arrive_243 (by decide) (fun c35 => ?_) (fun c35 => ?_)
          · replace hD := g_neg c35 hD
            exact hb297 M29 L30 _ _ ls hD hw (lv_sub hl [] rfl)
          · replace hD := g_pos c35 hD
            refine lv_aload_n C.1.1 C.1.2.1 dX19_arrive_246 rfl (lv_at hl 1 rfl) ?_
            refine lv_iload C.1.1 C.1.2.1 dX19_arrive_247 (lv_at hl 3 rfl) ?_
            obtain ⟨M36, eM36, hD⟩ := g_let hD
            refine mr_putI C hw kc_19 98 (by decide) tf_732 wd_2879 dX19_arrive_249 (by decide) rfl rfl rfl rfl (fun H locs hw => ?_)
            replace hw : mw_W G ad NF TF FF M36 L30 H locs := by rw [eM36]; exact hw
            refine lv_iconst (v := 0) C.1.1 C.1.2.1 dX19_arrive_252 (by decide) ?_
            refine lv_istore (lv' := [(7, .int 0), (6, .int r31), (0, .ref (ad 732)), (3, .int v3), (5, .int v5)]) C.1.1 C.1.2.1 dX19_arrive_253 hl (by decide) rfl (fun ls hl => ?_)
            exact hh255 fu v5 0 M36 L30 _ _ ls hD hw (lv_sub hl [2, 4, 0] rfl)
        · replace hD := g_neg c33 hD
          refine lv_aload_n C.1.1 C.1.2.1 dX19_arrive_204 rfl (lv_at hl 1 rfl) ?_
          refine lv_aload_n C.1.1 C.1.2.1 dX19_arrive_205 rfl (lv_at hl 1 rfl) ?_
          refine mr_getR C hw kc_19 89 (by decide) tf_732 ff_732_89 wd_2870 dX19_arrive_206 (by decide) rfl ?_
          refine lv_iload C.1.1 C.1.2.1 dX19_arrive_209 (lv_at hl 0 rfl) ?_
          obtain ⟨q37, hD⟩ := g_ck hD
          refine mr_iald C hw (by decide) tf_927 q37 dX19_arrive_211 ?_
          refine lv_iload C.1.1 C.1.2.1 dX19_arrive_212 (lv_at hl 3 rfl) ?_
          obtain ⟨M38, L39, h1, hD⟩ := g_b2 hD
          refine md_cvV (As := [.int (M29 927 r31.toNatClampNeg), .int v5]) (rest := []) C hw (tX19_serve l G ad fu (M29 927 r31.toNatClampNeg) v5 M29 L30 h1) kc_19 (by decide) tf_732 wd_3988 cwX19_serve ⟨Nat.le_of_ble_eq_true rfl, Nat.le_of_ble_eq_true rfl⟩ rfl hl.1 (Nat.le_of_ble_eq_true rfl) dX19_arrive_214 rfl rfl ⟨Nat.zero_le _, Nat.zero_le _⟩ rfl (fun H locs hw => ?_)
          refine lv_aload_n C.1.1 C.1.2.1 dX19_arrive_217 rfl (lv_at hl 1 rfl) ?_
          refine lv_aload_n C.1.1 C.1.2.1 dX19_arrive_218 rfl (lv_at hl 1 rfl) ?_
          refine mr_getR C hw kc_19 89 (by decide) tf_732 ff_732_89 wd_2870 dX19_arrive_219 (by decide) rfl ?_
          refine lv_iload C.1.1 C.1.2.1 dX19_arrive_222 (lv_at hl 0 rfl) ?_
          obtain ⟨q40, hD⟩ := g_ck hD
          refine mr_iald C hw (by decide) tf_927 q40 dX19_arrive_224 ?_
          refine lv_iconst (v := 0) C.1.1 C.1.2.1 dX19_arrive_225 (by decide) ?_
          obtain ⟨M41, L42, h1, hD⟩ := g_b2 hD
          refine md_cvV (As := [.int (M38 927 r31.toNatClampNeg), .int 0]) (rest := []) C hw (tX19_say l G ad fu (M38 927 r31.toNatClampNeg) 0 M38 L39 h1) kc_19 (by decide) tf_732 wd_4042 cwX19_say ⟨Nat.le_of_ble_eq_true rfl, Nat.le_of_ble_eq_true rfl⟩ rfl hl.1 (Nat.le_of_ble_eq_true rfl) dX19_arrive_226 rfl rfl ⟨Nat.zero_le _, Nat.zero_le _⟩ rfl (fun H locs hw => ?_)
          refine lv_goto (tgt := 297) C.1.1 C.1.2.1 dX19_arrive_229 (by decide) ?_
          exact hb297 M41 L42 _ _ ls hD hw (lv_sub hl [] rfl)
      · replace hD := g_neg c28 hD
        refine lv_aload_n C.1.1 C.1.2.1 dX19_arrive_157 rfl (lv_at hl 0 rfl) ?_
        refine mr_getR C hw kc_19 100 (by decide) tf_732 ff_732_100 wd_2881 dX19_arrive_158 (by decide) rfl ?_
        refine lv_iload C.1.1 C.1.2.1 dX19_arrive_161 (lv_at hl 3 rfl) ?_
        refine lv_aload_n C.1.1 C.1.2.1 dX19_arrive_163 rfl (lv_at hl 0 rfl) ?_
        refine mr_getR C hw kc_19 79 (by decide) tf_732 ff_732_79 wd_2860 dX19_arrive_164 (by decide) rfl ?_
        refine lv_iload C.1.1 C.1.2.1 dX19_arrive_167 (lv_at hl 3 rfl) ?_
        obtain ⟨r45, M43, L44, h1, hD⟩ := g_b3 hD
        refine md_cvI (As := [.int v6]) (rest := [.int v6, .ref (ad 932)]) C hw (tX17_got l G ad fu v6 M L h1) kc_17 (by decide) tf_869 wd_3980 cwX17_got ⟨Nat.le_of_ble_eq_true rfl, Nat.le_of_ble_eq_true rfl⟩ rfl hl.1 (Nat.le_of_ble_eq_true rfl) dX19_arrive_169 rfl rfl ⟨Nat.zero_le _, Nat.zero_le _⟩ rfl (fun H locs hw => ?_)
        refine lv_sipush (v := 255) C.1.1 C.1.2.1 dX19_arrive_172 (by decide) ?_
        refine lv_iand C.1.1 C.1.2.1 dX19_arrive_175 ?_
        obtain ⟨q46, hD⟩ := g_ck hD
        obtain ⟨M47, eM47, hD⟩ := g_let hD
        refine mr_iast C hw (by decide) tf_932 q46 dX19_arrive_176 (fun H locs hw => ?_)
        replace hw : mw_W G ad NF TF FF M47 L44 H locs := by rw [eM47]; exact hw
        obtain ⟨x48, ex48, hD⟩ := g_let hD
        refine lv_iinc (v := x48) (lv' := [(6, .int x48), (0, .ref (ad 732)), (3, .int v3), (5, .int v5)]) C.1.1 C.1.2.1 dX19_arrive_177 hl (k := 3) rfl (by rw [ex48]; rfl) (by decide) rfl (fun ls hl => ?_)
        refine lv_goto (tgt := 150) C.1.1 C.1.2.1 dX19_arrive_180 (by decide) ?_
        exact ih150 v3 v5 x48 M47 L44 _ _ ls hD hw (lv_sub hl [1, 2, 3, 0] rfl)
  have hh55 : ∀ (f : Nat) (v3 : Int32) (v4 : Int32) (M : mwM) (L : mwL) (H : Heap) (locs : List Loc) (ls : Array Slot), fX19_arrive_h55 fu a1 f (v3, v4, M, L) = some (M0, L0) → mw_W G ad NF TF FF M L H locs → lv_has ls 8 [(0, .ref (ad 732)), (3, .int v3), (4, .int v4)] → W p l e ({ frames := 7, cells := 0, slots := 0, locals := 176 }) s m [.ref (ad 732), .int a1].toArray below meth c H locs 0 0 (MQ below (mw_Qv G ad NF TF FF (mw_eqV M0 L0)) [.ref (ad 732), .int a1].toArray s 0 0 (mw_fr G)) (F0 m 55 ls []) := by
    intro f
    induction f with
    | zero => intro v3 v4 M L H locs ls hD; cases hD
    | succ f55 ih55 =>
      intro v3 v4 M L H locs ls hD hw hl
      replace hD : fX19_arrive_i55 fu a1 (fX19_arrive_h55 fu a1 f55) v3 v4 M L = some (M0, L0) := hD
      unfold fX19_arrive_i55 at hD
      refine lv_iload C.1.1 C.1.2.1 dX19_arrive_55 (lv_at hl 2 rfl) ?_
      refine lv_aload_n C.1.1 C.1.2.1 dX19_arrive_57 rfl (lv_at hl 0 rfl) ?_
      refine mr_getI C hw kc_19 91 (by decide) tf_732 wd_2872 dX19_arrive_58 (by decide) rfl ?_
      refine lv_icmp_ge (tgt := 102) C.1.1 C.1.2.1 dX19_arrive_61 (by decide) (fun c9 => ?_) (fun c9 => ?_)
      · replace hD := g_pos c9 hD
        refine lv_aload_n C.1.1 C.1.2.1 dX19_arrive_102 rfl (lv_at hl 0 rfl) ?_
        refine mr_getR C hw kc_19 79 (by decide) tf_732 ff_732_79 wd_2860 dX19_arrive_103 (by decide) rfl ?_
        refine lv_iload_n C.1.1 C.1.2.1 dX19_arrive_106 rfl (lv_at hl 1 rfl) ?_
        obtain ⟨r12, M10, L11, h1, hD⟩ := g_b3 hD
        refine md_cvI (As := [.int v3]) (rest := []) C hw (tX17_receive l G ad fu v3 M L h1) kc_17 (by decide) tf_869 wd_3932 cwX17_receive ⟨Nat.le_of_ble_eq_true rfl, Nat.le_of_ble_eq_true rfl⟩ rfl hl.1 (Nat.le_of_ble_eq_true rfl) dX19_arrive_107 rfl rfl ⟨Nat.zero_le _, Nat.zero_le _⟩ rfl (fun H locs hw => ?_)
        refine lv_istore (lv' := [(4, .int r12), (0, .ref (ad 732)), (3, .int v3)]) C.1.1 C.1.2.1 dX19_arrive_110 hl (by decide) rfl (fun ls hl => ?_)
        refine lv_aload_n C.1.1 C.1.2.1 dX19_arrive_112 rfl (lv_at hl 1 rfl) ?_
        refine mr_getR C hw kc_19 79 (by decide) tf_732 ff_732_79 wd_2860 dX19_arrive_113 (by decide) rfl ?_
        refine lv_iconst (v := 0) C.1.1 C.1.2.1 dX19_arrive_116 (by decide) ?_
        obtain ⟨r15, M13, L14, h1, hD⟩ := g_b3 hD
        refine md_cvI (As := [.int 0]) (rest := []) C hw (tX17_ended l G ad fu 0 M10 L11 h1) kc_17 (by decide) tf_869 wd_3972 cwX17_ended ⟨Nat.le_of_ble_eq_true rfl, Nat.le_of_ble_eq_true rfl⟩ rfl hl.1 (Nat.le_of_ble_eq_true rfl) dX19_arrive_117 rfl rfl ⟨Nat.zero_le _, Nat.zero_le _⟩ rfl (fun H locs hw => ?_)
        refine lv_aload_n C.1.1 C.1.2.1 dX19_arrive_120 rfl (lv_at hl 1 rfl) ?_
        refine mr_getI C hw kc_19 95 (by decide) tf_732 wd_2876 dX19_arrive_121 (by decide) rfl ?_
        refine lv_icmp_ne (tgt := 128) C.1.1 C.1.2.1 dX19_arrive_124 (by decide) (fun c16 => ?_) (fun c16 => ?_)
        · replace hD := g_neg c16 hD
          refine lv_aload_n C.1.1 C.1.2.1 dX19_arrive_128 rfl (lv_at hl 1 rfl) ?_
          refine lv_dup C.1.1 C.1.2.1 dX19_arrive_129 rfl ?_
          refine mr_getI C hw kc_19 95 (by decide) tf_732 wd_2876 dX19_arrive_130 (by decide) rfl ?_
          refine lv_iconst (v := 1) C.1.1 C.1.2.1 dX19_arrive_133 (by decide) ?_
          refine lv_iadd C.1.1 C.1.2.1 dX19_arrive_134 ?_
          obtain ⟨M17, eM17, hD⟩ := g_let hD
          refine mr_putI C hw kc_19 95 (by decide) tf_732 wd_2876 dX19_arrive_135 (by decide) rfl rfl rfl rfl (fun H locs hw => ?_)
          replace hw : mw_W G ad NF TF FF M17 L14 H locs := by rw [eM17]; exact hw
          refine lv_aload_n C.1.1 C.1.2.1 dX19_arrive_138 rfl (lv_at hl 1 rfl) ?_
          refine mr_getR C hw kc_19 79 (by decide) tf_732 ff_732_79 wd_2860 dX19_arrive_139 (by decide) rfl ?_
          obtain ⟨r20, M18, L19, h1, hD⟩ := g_b3 hD
          refine md_cvI (As := []) (rest := []) C hw (tX17_length l G ad fu M17 L14 h1) kc_17 (by decide) tf_869 wd_3976 cwX17_length ⟨Nat.le_of_ble_eq_true rfl, Nat.le_of_ble_eq_true rfl⟩ rfl hl.1 (Nat.le_of_ble_eq_true rfl) dX19_arrive_142 rfl rfl ⟨Nat.zero_le _, Nat.zero_le _⟩ rfl (fun H locs hw => ?_)
          refine lv_istore (lv' := [(5, .int r20), (4, .int r12), (0, .ref (ad 732)), (3, .int v3)]) C.1.1 C.1.2.1 dX19_arrive_145 hl (by decide) rfl (fun ls hl => ?_)
          refine lv_iconst (v := 0) C.1.1 C.1.2.1 dX19_arrive_147 (by decide) ?_
          refine lv_istore (lv' := [(6, .int 0), (5, .int r20), (4, .int r12), (0, .ref (ad 732)), (3, .int v3)]) C.1.1 C.1.2.1 dX19_arrive_148 hl (by decide) rfl (fun ls hl => ?_)
          exact hh150 fu v3 r20 0 M18 L19 _ _ ls hD hw (lv_sub hl [3, 4, 1, 0] rfl)
        · replace hD := g_pos c16 hD
          exact mr_vret C hr hlocks hw (Option.some.inj hD) dX19_arrive_127
      · replace hD := g_neg c9 hD
        refine lv_aload_n C.1.1 C.1.2.1 dX19_arrive_64 rfl (lv_at hl 0 rfl) ?_
        refine mr_getR C hw kc_19 92 (by decide) tf_732 ff_732_92 wd_2873 dX19_arrive_65 (by decide) rfl ?_
        refine lv_iload C.1.1 C.1.2.1 dX19_arrive_68 (lv_at hl 2 rfl) ?_
        refine lv_aload_n C.1.1 C.1.2.1 dX19_arrive_70 rfl (lv_at hl 0 rfl) ?_
        refine mr_getR C hw kc_19 92 (by decide) tf_732 ff_732_92 wd_2873 dX19_arrive_71 (by decide) rfl ?_
        refine lv_iload C.1.1 C.1.2.1 dX19_arrive_74 (lv_at hl 2 rfl) ?_
        refine lv_iconst (v := 1) C.1.1 C.1.2.1 dX19_arrive_76 (by decide) ?_
        refine lv_iadd C.1.1 C.1.2.1 dX19_arrive_77 ?_
        obtain ⟨q21, hD⟩ := g_ck hD
        refine mr_iald C hw (by decide) tf_929 q21 dX19_arrive_78 ?_
        obtain ⟨q22, hD⟩ := g_ck hD
        obtain ⟨M23, eM23, hD⟩ := g_let hD
        refine mr_iast C hw (by decide) tf_929 q22 dX19_arrive_79 (fun H locs hw => ?_)
        replace hw : mw_W G ad NF TF FF M23 L H locs := by rw [eM23]; exact hw
        refine lv_aload_n C.1.1 C.1.2.1 dX19_arrive_80 rfl (lv_at hl 0 rfl) ?_
        refine mr_getR C hw kc_19 93 (by decide) tf_732 ff_732_93 wd_2874 dX19_arrive_81 (by decide) rfl ?_
        refine lv_iload C.1.1 C.1.2.1 dX19_arrive_84 (lv_at hl 2 rfl) ?_
        refine lv_aload_n C.1.1 C.1.2.1 dX19_arrive_86 rfl (lv_at hl 0 rfl) ?_
        refine mr_getR C hw kc_19 93 (by decide) tf_732 ff_732_93 wd_2874 dX19_arrive_87 (by decide) rfl ?_
        refine lv_iload C.1.1 C.1.2.1 dX19_arrive_90 (lv_at hl 2 rfl) ?_
        refine lv_iconst (v := 1) C.1.1 C.1.2.1 dX19_arrive_92 (by decide) ?_
        refine lv_iadd C.1.1 C.1.2.1 dX19_arrive_93 ?_
        obtain ⟨q24, hD⟩ := g_ck hD
        refine mr_iald C hw (by decide) tf_930 q24 dX19_arrive_94 ?_
        obtain ⟨q25, hD⟩ := g_ck hD
        obtain ⟨M26, eM26, hD⟩ := g_let hD
        refine mr_iast C hw (by decide) tf_930 q25 dX19_arrive_95 (fun H locs hw => ?_)
        replace hw : mw_W G ad NF TF FF M26 L H locs := by rw [eM26]; exact hw
        obtain ⟨x27, ex27, hD⟩ := g_let hD
        refine lv_iinc (v := x27) (lv' := [(4, .int x27), (0, .ref (ad 732)), (3, .int v3)]) C.1.1 C.1.2.1 dX19_arrive_96 hl (k := 2) rfl (by rw [ex27]; rfl) (by decide) rfl (fun ls hl => ?_)
        refine lv_goto (tgt := 55) C.1.1 C.1.2.1 dX19_arrive_99 (by decide) ?_
        exact ih55 v3 x27 M26 L _ _ ls hD hw (lv_sub hl [1, 2, 0] rfl)
  have hb26 : ∀ (v2 : Int32) (M : mwM) (L : mwL) (H : Heap) (locs : List Loc) (ls : Array Slot), fX19_arrive_b26 fu a1 v2 M L = some (M0, L0) → mw_W G ad NF TF FF M L H locs → lv_has ls 8 [(0, .ref (ad 732)), (2, .int v2)] → W p l e ({ frames := 7, cells := 0, slots := 0, locals := 176 }) s m [.ref (ad 732), .int a1].toArray below meth c H locs 0 0 (MQ below (mw_Qv G ad NF TF FF (mw_eqV M0 L0)) [.ref (ad 732), .int a1].toArray s 0 0 (mw_fr G)) (F0 m 26 ls []) := by
    intro v2 M L H locs ls hD hw hl
    unfold fX19_arrive_b26 at hD
    refine lv_iload_n C.1.1 C.1.2.1 dX19_arrive_26 rfl (lv_at hl 1 rfl) ?_
    refine lv_aload_n C.1.1 C.1.2.1 dX19_arrive_27 rfl (lv_at hl 0 rfl) ?_
    refine mr_getI C hw kc_19 91 (by decide) tf_732 wd_2872 dX19_arrive_28 (by decide) rfl ?_
    refine lv_icmp_ne (tgt := 35) C.1.1 C.1.2.1 dX19_arrive_31 (by decide) (fun c5 => ?_) (fun c5 => ?_)
    · replace hD := g_neg c5 hD
      refine lv_aload_n C.1.1 C.1.2.1 dX19_arrive_35 rfl (lv_at hl 0 rfl) ?_
      refine mr_getR C hw kc_19 92 (by decide) tf_732 ff_732_92 wd_2873 dX19_arrive_36 (by decide) rfl ?_
      refine lv_iload_n C.1.1 C.1.2.1 dX19_arrive_39 rfl (lv_at hl 1 rfl) ?_
      obtain ⟨q6, hD⟩ := g_ck hD
      refine mr_iald C hw (by decide) tf_929 q6 dX19_arrive_40 ?_
      obtain ⟨x7, ex7, hD⟩ := g_let hD
      refine W.eq (g2 := F0 m 41 ls (.int x7 :: [])) (by rw [ex7]) ?_
      refine lv_istore_n (lv' := [(3, .int x7), (0, .ref (ad 732)), (2, .int v2)]) C.1.1 C.1.2.1 dX19_arrive_41 rfl hl (by decide) rfl (fun ls hl => ?_)
      refine lv_aload_n C.1.1 C.1.2.1 dX19_arrive_42 rfl (lv_at hl 1 rfl) ?_
      refine lv_dup C.1.1 C.1.2.1 dX19_arrive_43 rfl ?_
      refine mr_getI C hw kc_19 91 (by decide) tf_732 wd_2872 dX19_arrive_44 (by decide) rfl ?_
      refine lv_iconst (v := 1) C.1.1 C.1.2.1 dX19_arrive_47 (by decide) ?_
      refine lv_isub C.1.1 C.1.2.1 dX19_arrive_48 ?_
      obtain ⟨M8, eM8, hD⟩ := g_let hD
      refine mr_putI C hw kc_19 91 (by decide) tf_732 wd_2872 dX19_arrive_49 (by decide) rfl rfl rfl rfl (fun H locs hw => ?_)
      replace hw : mw_W G ad NF TF FF M8 L H locs := by rw [eM8]; exact hw
      refine lv_iload_n C.1.1 C.1.2.1 dX19_arrive_52 rfl (lv_at hl 2 rfl) ?_
      refine lv_istore (lv' := [(4, .int v2), (3, .int x7), (0, .ref (ad 732)), (2, .int v2)]) C.1.1 C.1.2.1 dX19_arrive_53 hl (by decide) rfl (fun ls hl => ?_)
      exact hh55 fu x7 v2 M8 L _ _ ls hD hw (lv_sub hl [2, 1, 0] rfl)
    · replace hD := g_pos c5 hD
      exact mr_vret C hr hlocks hw (Option.some.inj hD) dX19_arrive_34
  have hh2 : ∀ (f : Nat) (v2 : Int32) (M : mwM) (L : mwL) (H : Heap) (locs : List Loc) (ls : Array Slot), fX19_arrive_h2 fu a1 f (v2, M, L) = some (M0, L0) → mw_W G ad NF TF FF M L H locs → lv_has ls 8 [(0, .ref (ad 732)), (1, .int a1), (2, .int v2)] → W p l e ({ frames := 7, cells := 0, slots := 0, locals := 176 }) s m [.ref (ad 732), .int a1].toArray below meth c H locs 0 0 (MQ below (mw_Qv G ad NF TF FF (mw_eqV M0 L0)) [.ref (ad 732), .int a1].toArray s 0 0 (mw_fr G)) (F0 m 2 ls []) := by
    intro f
    induction f with
    | zero => intro v2 M L H locs ls hD; cases hD
    | succ f2 ih2 =>
      intro v2 M L H locs ls hD hw hl
      replace hD : fX19_arrive_i2 fu a1 (fX19_arrive_h2 fu a1 f2) v2 M L = some (M0, L0) := hD
      unfold fX19_arrive_i2 at hD
      refine lv_iload_n C.1.1 C.1.2.1 dX19_arrive_2 rfl (lv_at hl 2 rfl) ?_
      refine lv_aload_n C.1.1 C.1.2.1 dX19_arrive_3 rfl (lv_at hl 0 rfl) ?_
      refine mr_getI C hw kc_19 91 (by decide) tf_732 wd_2872 dX19_arrive_4 (by decide) rfl ?_
      refine lv_icmp_ge (tgt := 26) C.1.1 C.1.2.1 dX19_arrive_7 (by decide) (fun c1 => ?_) (fun c1 => ?_)
      · replace hD := g_pos c1 hD
        exact hb26 v2 M L _ _ ls hD hw (lv_sub hl [0, 2] rfl)
      · replace hD := g_neg c1 hD
        refine lv_aload_n C.1.1 C.1.2.1 dX19_arrive_10 rfl (lv_at hl 0 rfl) ?_
        refine mr_getR C hw kc_19 93 (by decide) tf_732 ff_732_93 wd_2874 dX19_arrive_11 (by decide) rfl ?_
        refine lv_iload_n C.1.1 C.1.2.1 dX19_arrive_14 rfl (lv_at hl 2 rfl) ?_
        obtain ⟨q2, hD⟩ := g_ck hD
        refine mr_iald C hw (by decide) tf_930 q2 dX19_arrive_15 ?_
        refine lv_iload_n C.1.1 C.1.2.1 dX19_arrive_16 rfl (lv_at hl 1 rfl) ?_
        refine lv_icmp_eq (tgt := 26) C.1.1 C.1.2.1 dX19_arrive_17 (by decide) (fun c3 => ?_) (fun c3 => ?_)
        · replace hD := g_pos c3 hD
          exact hb26 v2 M L _ _ ls hD hw (lv_sub hl [0, 2] rfl)
        · replace hD := g_neg c3 hD
          obtain ⟨x4, ex4, hD⟩ := g_let hD
          refine lv_iinc (v := x4) (lv' := [(2, .int x4), (0, .ref (ad 732)), (1, .int a1)]) C.1.1 C.1.2.1 dX19_arrive_20 hl (k := 2) rfl (by rw [ex4]; rfl) (by decide) rfl (fun ls hl => ?_)
          refine lv_goto (tgt := 2) C.1.1 C.1.2.1 dX19_arrive_23 (by decide) ?_
          exact ih2 x4 M L _ _ ls hD hw (lv_sub hl [1, 2, 0] rfl)
  unfold DX19_arrive at hD
  refine lv_iconst (v := 0) C.1.1 C.1.2.1 dX19_arrive_0 (by decide) ?_
  refine lv_istore_n (lv' := [(2, .int 0), (0, .ref (ad 732)), (1, .int a1)]) C.1.1 C.1.2.1 dX19_arrive_1 rfl hl (by decide) rfl (fun ls hl => ?_)
  exact hh2 fu 0 M L _ _ ls hD hw (lv_sub hl [1, 2, 0] rfl)

theorem dX19_lookAt_0 : decode cX19_lookAt 0 = .ok (.aload_n 0, 1) := by decide +kernel
theorem dX19_lookAt_1 : decode cX19_lookAt 1 = .ok (.getfield 184, 3) := by decide +kernel
theorem dX19_lookAt_4 : decode cX19_lookAt 4 = .ok (.iload_n 1, 1) := by decide +kernel
theorem dX19_lookAt_5 : decode cX19_lookAt 5 = .ok (.iconst (-1), 1) := by decide +kernel
theorem dX19_lookAt_6 : decode cX19_lookAt 6 = .ok (.iconst 0, 1) := by decide +kernel
theorem dX19_lookAt_7 : decode cX19_lookAt 7 = .ok (.invokevirtual 682, 3) := by decide +kernel
theorem dX19_lookAt_10 : decode cX19_lookAt 10 = .ok (.istore_n 2, 1) := by decide +kernel
theorem dX19_lookAt_11 : decode cX19_lookAt 11 = .ok (.aload_n 0, 1) := by decide +kernel
theorem dX19_lookAt_12 : decode cX19_lookAt 12 = .ok (.getfield 224, 3) := by decide +kernel
theorem dX19_lookAt_15 : decode cX19_lookAt 15 = .ok (.iload_n 1, 1) := by decide +kernel
theorem dX19_lookAt_16 : decode cX19_lookAt 16 = .ok (.iaload, 1) := by decide +kernel
theorem dX19_lookAt_17 : decode cX19_lookAt 17 = .ok (.iload_n 2, 1) := by decide +kernel
theorem dX19_lookAt_18 : decode cX19_lookAt 18 = .ok (.if_icmp .ge 199, 3) := by decide +kernel
theorem dX19_lookAt_21 : decode cX19_lookAt 21 = .ok (.aload_n 0, 1) := by decide +kernel
theorem dX19_lookAt_22 : decode cX19_lookAt 22 = .ok (.getfield 224, 3) := by decide +kernel
theorem dX19_lookAt_25 : decode cX19_lookAt 25 = .ok (.iload_n 1, 1) := by decide +kernel
theorem dX19_lookAt_26 : decode cX19_lookAt 26 = .ok (.iaload, 1) := by decide +kernel
theorem dX19_lookAt_27 : decode cX19_lookAt 27 = .ok (.istore_n 3, 1) := by decide +kernel
theorem dX19_lookAt_28 : decode cX19_lookAt 28 = .ok (.aload_n 0, 1) := by decide +kernel
theorem dX19_lookAt_29 : decode cX19_lookAt 29 = .ok (.getfield 224, 3) := by decide +kernel
theorem dX19_lookAt_32 : decode cX19_lookAt 32 = .ok (.iload_n 1, 1) := by decide +kernel
theorem dX19_lookAt_33 : decode cX19_lookAt 33 = .ok (.dup2, 1) := by decide +kernel
theorem dX19_lookAt_34 : decode cX19_lookAt 34 = .ok (.iaload, 1) := by decide +kernel
theorem dX19_lookAt_35 : decode cX19_lookAt 35 = .ok (.iconst 1, 1) := by decide +kernel
theorem dX19_lookAt_36 : decode cX19_lookAt 36 = .ok (.iadd, 1) := by decide +kernel
theorem dX19_lookAt_37 : decode cX19_lookAt 37 = .ok (.iastore, 1) := by decide +kernel
theorem dX19_lookAt_38 : decode cX19_lookAt 38 = .ok (.aload_n 0, 1) := by decide +kernel
theorem dX19_lookAt_39 : decode cX19_lookAt 39 = .ok (.getfield 184, 3) := by decide +kernel
theorem dX19_lookAt_42 : decode cX19_lookAt 42 = .ok (.iload_n 1, 1) := by decide +kernel
theorem dX19_lookAt_43 : decode cX19_lookAt 43 = .ok (.iload_n 3, 1) := by decide +kernel
theorem dX19_lookAt_44 : decode cX19_lookAt 44 = .ok (.iconst 0, 1) := by decide +kernel
theorem dX19_lookAt_45 : decode cX19_lookAt 45 = .ok (.invokevirtual 682, 3) := by decide +kernel
theorem dX19_lookAt_48 : decode cX19_lookAt 48 = .ok (.istore 4, 2) := by decide +kernel
theorem dX19_lookAt_50 : decode cX19_lookAt 50 = .ok (.aload_n 0, 1) := by decide +kernel
theorem dX19_lookAt_51 : decode cX19_lookAt 51 = .ok (.getfield 184, 3) := by decide +kernel
theorem dX19_lookAt_54 : decode cX19_lookAt 54 = .ok (.iload_n 1, 1) := by decide +kernel
theorem dX19_lookAt_55 : decode cX19_lookAt 55 = .ok (.iload_n 3, 1) := by decide +kernel
theorem dX19_lookAt_56 : decode cX19_lookAt 56 = .ok (.iconst 1, 1) := by decide +kernel
theorem dX19_lookAt_57 : decode cX19_lookAt 57 = .ok (.invokevirtual 682, 3) := by decide +kernel
theorem dX19_lookAt_60 : decode cX19_lookAt 60 = .ok (.ifCond .ne (-49), 3) := by decide +kernel
theorem dX19_lookAt_63 : decode cX19_lookAt 63 = .ok (.aload_n 0, 1) := by decide +kernel
theorem dX19_lookAt_64 : decode cX19_lookAt 64 = .ok (.getfield 184, 3) := by decide +kernel
theorem dX19_lookAt_67 : decode cX19_lookAt 67 = .ok (.iload_n 1, 1) := by decide +kernel
theorem dX19_lookAt_68 : decode cX19_lookAt 68 = .ok (.iload_n 3, 1) := by decide +kernel
theorem dX19_lookAt_69 : decode cX19_lookAt 69 = .ok (.iconst 3, 1) := by decide +kernel
theorem dX19_lookAt_70 : decode cX19_lookAt 70 = .ok (.invokevirtual 682, 3) := by decide +kernel
theorem dX19_lookAt_73 : decode cX19_lookAt 73 = .ok (.bipush 8, 2) := by decide +kernel
theorem dX19_lookAt_75 : decode cX19_lookAt 75 = .ok (.if_icmp .eq 6, 3) := by decide +kernel
theorem dX19_lookAt_78 : decode cX19_lookAt 78 = .ok (.goto (-67), 3) := by decide +kernel
theorem dX19_lookAt_81 : decode cX19_lookAt 81 = .ok (.iconst 0, 1) := by decide +kernel
theorem dX19_lookAt_82 : decode cX19_lookAt 82 = .ok (.istore 5, 2) := by decide +kernel
theorem dX19_lookAt_84 : decode cX19_lookAt 84 = .ok (.iload 5, 2) := by decide +kernel
theorem dX19_lookAt_86 : decode cX19_lookAt 86 = .ok (.bipush 8, 2) := by decide +kernel
theorem dX19_lookAt_88 : decode cX19_lookAt 88 = .ok (.if_icmp .ge 27, 3) := by decide +kernel
theorem dX19_lookAt_91 : decode cX19_lookAt 91 = .ok (.aload_n 0, 1) := by decide +kernel
theorem dX19_lookAt_92 : decode cX19_lookAt 92 = .ok (.getfield 230, 3) := by decide +kernel
theorem dX19_lookAt_95 : decode cX19_lookAt 95 = .ok (.iload 5, 2) := by decide +kernel
theorem dX19_lookAt_97 : decode cX19_lookAt 97 = .ok (.aload_n 0, 1) := by decide +kernel
theorem dX19_lookAt_98 : decode cX19_lookAt 98 = .ok (.getfield 184, 3) := by decide +kernel
theorem dX19_lookAt_101 : decode cX19_lookAt 101 = .ok (.iload_n 1, 1) := by decide +kernel
theorem dX19_lookAt_102 : decode cX19_lookAt 102 = .ok (.iload_n 3, 1) := by decide +kernel
theorem dX19_lookAt_103 : decode cX19_lookAt 103 = .ok (.iload 5, 2) := by decide +kernel
theorem dX19_lookAt_105 : decode cX19_lookAt 105 = .ok (.invokevirtual 685, 3) := by decide +kernel
theorem dX19_lookAt_108 : decode cX19_lookAt 108 = .ok (.iastore, 1) := by decide +kernel
theorem dX19_lookAt_109 : decode cX19_lookAt 109 = .ok (.iinc 5 1, 3) := by decide +kernel
theorem dX19_lookAt_112 : decode cX19_lookAt 112 = .ok (.goto (-28), 3) := by decide +kernel
theorem dX19_lookAt_115 : decode cX19_lookAt 115 = .ok (.iload 4, 2) := by decide +kernel
theorem dX19_lookAt_117 : decode cX19_lookAt 117 = .ok (.sipush 1536, 3) := by decide +kernel
theorem dX19_lookAt_120 : decode cX19_lookAt 120 = .ok (.if_icmp .ge 57, 3) := by decide +kernel
theorem dX19_lookAt_123 : decode cX19_lookAt 123 = .ok (.iconst 0, 1) := by decide +kernel
theorem dX19_lookAt_124 : decode cX19_lookAt 124 = .ok (.istore 5, 2) := by decide +kernel
theorem dX19_lookAt_126 : decode cX19_lookAt 126 = .ok (.iload 5, 2) := by decide +kernel
theorem dX19_lookAt_128 : decode cX19_lookAt 128 = .ok (.aload_n 0, 1) := by decide +kernel
theorem dX19_lookAt_129 : decode cX19_lookAt 129 = .ok (.getfield 568, 3) := by decide +kernel
theorem dX19_lookAt_132 : decode cX19_lookAt 132 = .ok (.if_icmp .ge 42, 3) := by decide +kernel
theorem dX19_lookAt_135 : decode cX19_lookAt 135 = .ok (.iload_n 1, 1) := by decide +kernel
theorem dX19_lookAt_136 : decode cX19_lookAt 136 = .ok (.aload_n 0, 1) := by decide +kernel
theorem dX19_lookAt_137 : decode cX19_lookAt 137 = .ok (.getfield 435, 3) := by decide +kernel
theorem dX19_lookAt_140 : decode cX19_lookAt 140 = .ok (.if_icmp .ge 34, 3) := by decide +kernel
theorem dX19_lookAt_143 : decode cX19_lookAt 143 = .ok (.iload 4, 2) := by decide +kernel
theorem dX19_lookAt_145 : decode cX19_lookAt 145 = .ok (.bipush 64, 2) := by decide +kernel
theorem dX19_lookAt_147 : decode cX19_lookAt 147 = .ok (.bipush 8, 2) := by decide +kernel
theorem dX19_lookAt_149 : decode cX19_lookAt 149 = .ok (.aload_n 0, 1) := by decide +kernel
theorem dX19_lookAt_150 : decode cX19_lookAt 150 = .ok (.getfield 165, 3) := by decide +kernel
theorem dX19_lookAt_153 : decode cX19_lookAt 153 = .ok (.iload 5, 2) := by decide +kernel
theorem dX19_lookAt_155 : decode cX19_lookAt 155 = .ok (.iaload, 1) := by decide +kernel
theorem dX19_lookAt_156 : decode cX19_lookAt 156 = .ok (.imul, 1) := by decide +kernel
theorem dX19_lookAt_157 : decode cX19_lookAt 157 = .ok (.iadd, 1) := by decide +kernel
theorem dX19_lookAt_158 : decode cX19_lookAt 158 = .ok (.if_icmp .ne 10, 3) := by decide +kernel
theorem dX19_lookAt_161 : decode cX19_lookAt 161 = .ok (.aload_n 0, 1) := by decide +kernel
theorem dX19_lookAt_162 : decode cX19_lookAt 162 = .ok (.iload_n 1, 1) := by decide +kernel
theorem dX19_lookAt_163 : decode cX19_lookAt 163 = .ok (.iload 5, 2) := by decide +kernel
theorem dX19_lookAt_165 : decode cX19_lookAt 165 = .ok (.invokevirtual 688, 3) := by decide +kernel
theorem dX19_lookAt_168 : decode cX19_lookAt 168 = .ok (.iinc 5 1, 3) := by decide +kernel
theorem dX19_lookAt_171 : decode cX19_lookAt 171 = .ok (.goto (-45), 3) := by decide +kernel
theorem dX19_lookAt_174 : decode cX19_lookAt 174 = .ok (.goto 40, 3) := by decide +kernel
theorem dX19_lookAt_177 : decode cX19_lookAt 177 = .ok (.iload_n 1, 1) := by decide +kernel
theorem dX19_lookAt_178 : decode cX19_lookAt 178 = .ok (.aload_n 0, 1) := by decide +kernel
theorem dX19_lookAt_179 : decode cX19_lookAt 179 = .ok (.getfield 435, 3) := by decide +kernel
theorem dX19_lookAt_182 : decode cX19_lookAt 182 = .ok (.if_icmp .ne 14, 3) := by decide +kernel
theorem dX19_lookAt_185 : decode cX19_lookAt 185 = .ok (.iload 4, 2) := by decide +kernel
theorem dX19_lookAt_187 : decode cX19_lookAt 187 = .ok (.iconst 2, 1) := by decide +kernel
theorem dX19_lookAt_188 : decode cX19_lookAt 188 = .ok (.irem, 1) := by decide +kernel
theorem dX19_lookAt_189 : decode cX19_lookAt 189 = .ok (.iconst 1, 1) := by decide +kernel
theorem dX19_lookAt_190 : decode cX19_lookAt 190 = .ok (.if_icmp .ne 24, 3) := by decide +kernel
theorem dX19_lookAt_193 : decode cX19_lookAt 193 = .ok (.goto 15, 3) := by decide +kernel
theorem dX19_lookAt_196 : decode cX19_lookAt 196 = .ok (.iload 4, 2) := by decide +kernel
theorem dX19_lookAt_198 : decode cX19_lookAt 198 = .ok (.sipush 1536, 3) := by decide +kernel
theorem dX19_lookAt_201 : decode cX19_lookAt 201 = .ok (.iconst 2, 1) := by decide +kernel
theorem dX19_lookAt_202 : decode cX19_lookAt 202 = .ok (.iload_n 1, 1) := by decide +kernel
theorem dX19_lookAt_203 : decode cX19_lookAt 203 = .ok (.imul, 1) := by decide +kernel
theorem dX19_lookAt_204 : decode cX19_lookAt 204 = .ok (.iadd, 1) := by decide +kernel
theorem dX19_lookAt_205 : decode cX19_lookAt 205 = .ok (.if_icmp .ne 9, 3) := by decide +kernel
theorem dX19_lookAt_208 : decode cX19_lookAt 208 = .ok (.aload_n 0, 1) := by decide +kernel
theorem dX19_lookAt_209 : decode cX19_lookAt 209 = .ok (.iload 4, 2) := by decide +kernel
theorem dX19_lookAt_211 : decode cX19_lookAt 211 = .ok (.invokevirtual 692, 3) := by decide +kernel
theorem dX19_lookAt_214 : decode cX19_lookAt 214 = .ok (.goto (-203), 3) := by decide +kernel
theorem dX19_lookAt_217 : decode cX19_lookAt 217 = .ok (.return_, 1) := by decide +kernel
theorem cwX19_lookAt : mw_cwV yX19_lookAt cX19_lookAt 6 (none) 1 := ⟨⟨wd_13, wd_3857, by decide +kernel⟩, wd_3856, sl_277⟩
noncomputable def fX19_lookAt_b214 (fu : Nat) (a1 : Int32) (r11 : (Int32 × mwM × mwL) → Option (mwM × mwL)) (v2 : Int32) (M : mwM) (L : mwL) : Option (mwM × mwL) :=
  r11 (v2, M, L)
noncomputable def fX19_lookAt_b208 (fu : Nat) (a1 : Int32) (r11 : (Int32 × mwM × mwL) → Option (mwM × mwL)) (v2 : Int32) (v4 : Int32) (M : mwM) (L : mwL) : Option (mwM × mwL) :=
  mb2 (DX19_arrive fu v4 M L) (fun M38 L39 => fX19_lookAt_b214 fu a1 r11 v2 M38 L39)
noncomputable def fX19_lookAt_b174 (fu : Nat) (a1 : Int32) (r11 : (Int32 × mwM × mwL) → Option (mwM × mwL)) (v2 : Int32) (M : mwM) (L : mwL) : Option (mwM × mwL) :=
  fX19_lookAt_b214 fu a1 r11 v2 M L
noncomputable def fX19_lookAt_b168 (fu : Nat) (a1 : Int32) (r11 : (Int32 × mwM × mwL) → Option (mwM × mwL)) (r126 : (Int32 × Int32 × Int32 × mwM × mwL) → Option (mwM × mwL)) (v2 : Int32) (v4 : Int32) (v5 : Int32) (M : mwM) (L : mwL) : Option (mwM × mwL) :=
  mlet (v5 + 1) (fun x37 => r126 (v2, v4, x37, M, L))
noncomputable def fX19_lookAt_i126 (fu : Nat) (a1 : Int32) (r11 : (Int32 × mwM × mwL) → Option (mwM × mwL)) (r126 : (Int32 × Int32 × Int32 × mwM × mwL) → Option (mwM × mwL)) (v2 : Int32) (v4 : Int32) (v5 : Int32) (M : mwM) (L : mwL) : Option (mwM × mwL) :=
  (if (M 732 67) ≤ v5 then fX19_lookAt_b174 fu a1 r11 v2 M L else (if (M 732 19) ≤ a1 then fX19_lookAt_b174 fu a1 r11 v2 M L else mck v5 40 ((if v4 = (64 + (8 * (M 784 v5.toNatClampNeg))) then mb2 (DX19_come fu a1 v5 M L) (fun M35 L36 => fX19_lookAt_b168 fu a1 r11 r126 v2 v4 v5 M35 L36) else fX19_lookAt_b168 fu a1 r11 r126 v2 v4 v5 M L))))
noncomputable def fX19_lookAt_h126 (fu : Nat) (a1 : Int32) (r11 : (Int32 × mwM × mwL) → Option (mwM × mwL)) : Nat → (Int32 × Int32 × Int32 × mwM × mwL) → Option (mwM × mwL) := mloop (fun r126 s => fX19_lookAt_i126 fu a1 r11 r126 s.1 s.2.1 s.2.2.1 s.2.2.2.1 s.2.2.2.2)
noncomputable def fX19_lookAt_i84 (fu : Nat) (a1 : Int32) (r11 : (Int32 × mwM × mwL) → Option (mwM × mwL)) (r84 : (Int32 × Int32 × Int32 × Int32 × mwM × mwL) → Option (mwM × mwL)) (v2 : Int32) (v3 : Int32) (v4 : Int32) (v5 : Int32) (M : mwM) (L : mwL) : Option (mwM × mwL) :=
  (if 8 ≤ v5 then (if 1536 ≤ v4 then (if a1 = (M 732 19) then (if (v4 - v4 / 2 * 2) = 1 then fX19_lookAt_b208 fu a1 r11 v2 v4 M L else fX19_lookAt_b214 fu a1 r11 v2 M L) else (if v4 = (1536 + (2 * a1)) then fX19_lookAt_b208 fu a1 r11 v2 v4 M L else fX19_lookAt_b214 fu a1 r11 v2 M L)) else fX19_lookAt_h126 fu a1 r11 fu (v2, v4, 0, M, L)) else mb3 (DX12_takenOctet fu a1 v3 v5 M L) (fun r27 M25 L26 => mck v5 8 (mlet (mset M25 926 (v5.toNatClampNeg) r27) (fun M29 => mlet (v5 + 1) (fun x30 => r84 (v2, v3, v4, x30, M29, L26))))))
noncomputable def fX19_lookAt_h84 (fu : Nat) (a1 : Int32) (r11 : (Int32 × mwM × mwL) → Option (mwM × mwL)) : Nat → (Int32 × Int32 × Int32 × Int32 × mwM × mwL) → Option (mwM × mwL) := mloop (fun r84 s => fX19_lookAt_i84 fu a1 r11 r84 s.1 s.2.1 s.2.2.1 s.2.2.2.1 s.2.2.2.2.1 s.2.2.2.2.2)
noncomputable def fX19_lookAt_i11 (fu : Nat) (a1 : Int32) (r11 : (Int32 × mwM × mwL) → Option (mwM × mwL)) (v2 : Int32) (M : mwM) (L : mwL) : Option (mwM × mwL) :=
  mck a1 7 ((if v2 ≤ (M 924 a1.toNatClampNeg) then some (M, L) else mck a1 7 (mlet (M 924 a1.toNatClampNeg) (fun x4 => mck a1 7 (mck a1 7 (mlet (mset M 924 (a1.toNatClampNeg) ((M 924 a1.toNatClampNeg) + 1)) (fun M7 => mb3 (DX12_taken fu a1 x4 0 M7 L) (fun r10 M8 L9 => mb3 (DX12_taken fu a1 x4 1 M8 L9) (fun r13 M11 L12 => (if r13 = 0 then mb3 (DX12_taken fu a1 x4 3 M11 L12) (fun r17 M15 L16 => (if r17 = 8 then fX19_lookAt_h84 fu a1 r11 fu (v2, x4, r10, 0, M15, L16) else r11 (v2, M15, L16))) else r11 (v2, M11, L12)))))))))))
noncomputable def fX19_lookAt_h11 (fu : Nat) (a1 : Int32) : Nat → (Int32 × mwM × mwL) → Option (mwM × mwL) := mloop (fun r11 s => fX19_lookAt_i11 fu a1 r11 s.1 s.2.1 s.2.2)
noncomputable def DX19_lookAt (fu : Nat) (a1 : Int32) (M : mwM) (L : mwL) : Option (mwM × mwL) :=
  mb3 (DX12_taken fu a1 ((-1)) 0 M L) (fun r42 M40 L41 => fX19_lookAt_h11 fu a1 fu (r42, M40, L41))
set_option maxHeartbeats 4000000 in
set_option maxRecDepth 100000 in
theorem tX19_lookAt (l : Launch) (G : mwG) (ad : Nat → Nat) (fu : Nat) (a1 : Int32) (M : mwM) (L : mwL) {M0 : mwM} {L0 : mwL} (hD : DX19_lookAt fu a1 M L = some (M0, L0)) : Met l yX19_lookAt (Cond.code yX19_lookAt cX19_lookAt 6 (none) :: GT) ({ frames := 8, cells := 0, slots := 0, locals := 204 }) (mw_Pre G ad NF TF FF M L [.ref (ad 732), .int a1]) (mw_Qv G ad NF TF FF (mw_eqV M0 L0)) 0 0 (mw_fr G) := by
  refine mw_enter (by decide) (Nat.le_of_ble_eq_true rfl) ?_
  intro p e s m below meth c ls C hr hlocks hnm hw hl
  have hl : lv_has ls 6 [(0, .ref (ad 732)), (1, .int a1)] := hl
  have hh11 : ∀ (f : Nat) (v2 : Int32) (M : mwM) (L : mwL) (H : Heap) (locs : List Loc) (ls : Array Slot), fX19_lookAt_h11 fu a1 f (v2, M, L) = some (M0, L0) → mw_W G ad NF TF FF M L H locs → lv_has ls 6 [(0, .ref (ad 732)), (1, .int a1), (2, .int v2)] → W p l e ({ frames := 8, cells := 0, slots := 0, locals := 204 }) s m [.ref (ad 732), .int a1].toArray below meth c H locs 0 0 (MQ below (mw_Qv G ad NF TF FF (mw_eqV M0 L0)) [.ref (ad 732), .int a1].toArray s 0 0 (mw_fr G)) (F0 m 11 ls []) := by
    intro f
    induction f with
    | zero => intro v2 M L H locs ls hD; cases hD
    | succ f11 ih11 =>
      intro v2 M L H locs ls hD hw hl
      replace hD : fX19_lookAt_i11 fu a1 (fX19_lookAt_h11 fu a1 f11) v2 M L = some (M0, L0) := hD
      have hb214 : ∀ (v2 : Int32) (M : mwM) (L : mwL) (H : Heap) (locs : List Loc) (ls : Array Slot), fX19_lookAt_b214 fu a1 (fX19_lookAt_h11 fu a1 f11) v2 M L = some (M0, L0) → mw_W G ad NF TF FF M L H locs → lv_has ls 6 [(0, .ref (ad 732)), (1, .int a1), (2, .int v2)] → W p l e ({ frames := 8, cells := 0, slots := 0, locals := 204 }) s m [.ref (ad 732), .int a1].toArray below meth c H locs 0 0 (MQ below (mw_Qv G ad NF TF FF (mw_eqV M0 L0)) [.ref (ad 732), .int a1].toArray s 0 0 (mw_fr G)) (F0 m 214 ls []) := by
        intro v2 M L H locs ls hD hw hl
        unfold fX19_lookAt_b214 at hD
        refine lv_goto (tgt := 11) C.1.1 C.1.2.1 dX19_lookAt_214 (by decide) ?_
        exact ih11 v2 M L _ _ ls hD hw (lv_sub hl [0, 1, 2] rfl)
      have hb208 : ∀ (v2 : Int32) (v4 : Int32) (M : mwM) (L : mwL) (H : Heap) (locs : List Loc) (ls : Array Slot), fX19_lookAt_b208 fu a1 (fX19_lookAt_h11 fu a1 f11) v2 v4 M L = some (M0, L0) → mw_W G ad NF TF FF M L H locs → lv_has ls 6 [(0, .ref (ad 732)), (1, .int a1), (2, .int v2), (4, .int v4)] → W p l e ({ frames := 8, cells := 0, slots := 0, locals := 204 }) s m [.ref (ad 732), .int a1].toArray below meth c H locs 0 0 (MQ below (mw_Qv G ad NF TF FF (mw_eqV M0 L0)) [.ref (ad 732), .int a1].toArray s 0 0 (mw_fr G)) (F0 m 208 ls []) := by
        intro v2 v4 M L H locs ls hD hw hl
        unfold fX19_lookAt_b208 at hD
        refine lv_aload_n C.1.1 C.1.2.1 dX19_lookAt_208 rfl (lv_at hl 0 rfl) ?_
        refine lv_iload C.1.1 C.1.2.1 dX19_lookAt_209 (lv_at hl 3 rfl) ?_
        obtain ⟨M38, L39, h1, hD⟩ := g_b2 hD
        refine md_cvV (As := [.int v4]) (rest := []) C hw (tX19_arrive l G ad fu v4 M L h1) kc_19 (by decide) tf_732 wd_3928 cwX19_arrive ⟨Nat.le_of_ble_eq_true rfl, Nat.le_of_ble_eq_true rfl⟩ rfl hl.1 (Nat.le_of_ble_eq_true rfl) dX19_lookAt_211 rfl rfl ⟨Nat.zero_le _, Nat.zero_le _⟩ rfl (fun H locs hw => ?_)
        exact hb214 v2 M38 L39 _ _ ls hD hw (lv_sub hl [0, 1, 2] rfl)
      have hb174 : ∀ (v2 : Int32) (M : mwM) (L : mwL) (H : Heap) (locs : List Loc) (ls : Array Slot), fX19_lookAt_b174 fu a1 (fX19_lookAt_h11 fu a1 f11) v2 M L = some (M0, L0) → mw_W G ad NF TF FF M L H locs → lv_has ls 6 [(0, .ref (ad 732)), (1, .int a1), (2, .int v2)] → W p l e ({ frames := 8, cells := 0, slots := 0, locals := 204 }) s m [.ref (ad 732), .int a1].toArray below meth c H locs 0 0 (MQ below (mw_Qv G ad NF TF FF (mw_eqV M0 L0)) [.ref (ad 732), .int a1].toArray s 0 0 (mw_fr G)) (F0 m 174 ls []) := by
        intro v2 M L H locs ls hD hw hl
        unfold fX19_lookAt_b174 at hD
        refine lv_goto (tgt := 214) C.1.1 C.1.2.1 dX19_lookAt_174 (by decide) ?_
        exact hb214 v2 M L _ _ ls hD hw (lv_sub hl [0, 1, 2] rfl)
      have hh126 : ∀ (f : Nat) (v2 : Int32) (v4 : Int32) (v5 : Int32) (M : mwM) (L : mwL) (H : Heap) (locs : List Loc) (ls : Array Slot), fX19_lookAt_h126 fu a1 (fX19_lookAt_h11 fu a1 f11) f (v2, v4, v5, M, L) = some (M0, L0) → mw_W G ad NF TF FF M L H locs → lv_has ls 6 [(0, .ref (ad 732)), (1, .int a1), (2, .int v2), (4, .int v4), (5, .int v5)] → W p l e ({ frames := 8, cells := 0, slots := 0, locals := 204 }) s m [.ref (ad 732), .int a1].toArray below meth c H locs 0 0 (MQ below (mw_Qv G ad NF TF FF (mw_eqV M0 L0)) [.ref (ad 732), .int a1].toArray s 0 0 (mw_fr G)) (F0 m 126 ls []) := by
        intro f
        induction f with
        | zero => intro v2 v4 v5 M L H locs ls hD; cases hD
        | succ f126 ih126 =>
          intro v2 v4 v5 M L H locs ls hD hw hl
          replace hD : fX19_lookAt_i126 fu a1 (fX19_lookAt_h11 fu a1 f11) (fX19_lookAt_h126 fu a1 (fX19_lookAt_h11 fu a1 f11) f126) v2 v4 v5 M L = some (M0, L0) := hD
          have hb168 : ∀ (v2 : Int32) (v4 : Int32) (v5 : Int32) (M : mwM) (L : mwL) (H : Heap) (locs : List Loc) (ls : Array Slot), fX19_lookAt_b168 fu a1 (fX19_lookAt_h11 fu a1 f11) (fX19_lookAt_h126 fu a1 (fX19_lookAt_h11 fu a1 f11) f126) v2 v4 v5 M L = some (M0, L0) → mw_W G ad NF TF FF M L H locs → lv_has ls 6 [(0, .ref (ad 732)), (1, .int a1), (2, .int v2), (4, .int v4), (5, .int v5)] → W p l e ({ frames := 8, cells := 0, slots := 0, locals := 204 }) s m [.ref (ad 732), .int a1].toArray below meth c H locs 0 0 (MQ below (mw_Qv G ad NF TF FF (mw_eqV M0 L0)) [.ref (ad 732), .int a1].toArray s 0 0 (mw_fr G)) (F0 m 168 ls []) := by
            intro v2 v4 v5 M L H locs ls hD hw hl
            unfold fX19_lookAt_b168 at hD
            obtain ⟨x37, ex37, hD⟩ := g_let hD
            refine lv_iinc (v := x37) (lv' := [(5, .int x37), (0, .ref (ad 732)), (1, .int a1), (2, .int v2), (4, .int v4)]) C.1.1 C.1.2.1 dX19_lookAt_168 hl (k := 4) rfl (by rw [ex37]; rfl) (by decide) rfl (fun ls hl => ?_)
            refine lv_goto (tgt := 126) C.1.1 C.1.2.1 dX19_lookAt_171 (by decide) ?_
            exact ih126 v2 v4 x37 M L _ _ ls hD hw (lv_sub hl [1, 2, 3, 4, 0] rfl)
          unfold fX19_lookAt_i126 at hD
          refine lv_iload C.1.1 C.1.2.1 dX19_lookAt_126 (lv_at hl 4 rfl) ?_
          refine lv_aload_n C.1.1 C.1.2.1 dX19_lookAt_128 rfl (lv_at hl 0 rfl) ?_
          refine mr_getI C hw kc_19 67 (by decide) tf_732 wd_2848 dX19_lookAt_129 (by decide) rfl ?_
          refine lv_icmp_ge (tgt := 174) C.1.1 C.1.2.1 dX19_lookAt_132 (by decide) (fun c31 => ?_) (fun c31 => ?_)
          · replace hD := g_pos c31 hD
            exact hb174 v2 M L _ _ ls hD hw (lv_sub hl [0, 1, 2] rfl)
          · replace hD := g_neg c31 hD
            refine lv_iload_n C.1.1 C.1.2.1 dX19_lookAt_135 rfl (lv_at hl 1 rfl) ?_
            refine lv_aload_n C.1.1 C.1.2.1 dX19_lookAt_136 rfl (lv_at hl 0 rfl) ?_
            refine mr_getI C hw kc_19 19 (by decide) tf_732 wd_2800 dX19_lookAt_137 (by decide) rfl ?_
            refine lv_icmp_ge (tgt := 174) C.1.1 C.1.2.1 dX19_lookAt_140 (by decide) (fun c32 => ?_) (fun c32 => ?_)
            · replace hD := g_pos c32 hD
              exact hb174 v2 M L _ _ ls hD hw (lv_sub hl [0, 1, 2] rfl)
            · replace hD := g_neg c32 hD
              refine lv_iload C.1.1 C.1.2.1 dX19_lookAt_143 (lv_at hl 3 rfl) ?_
              refine lv_bipush (v := 64) C.1.1 C.1.2.1 dX19_lookAt_145 (by decide) ?_
              refine lv_bipush (v := 8) C.1.1 C.1.2.1 dX19_lookAt_147 (by decide) ?_
              refine lv_aload_n C.1.1 C.1.2.1 dX19_lookAt_149 rfl (lv_at hl 0 rfl) ?_
              refine mr_getR C hw kc_19 73 (by decide) tf_732 ff_732_73 wd_2854 dX19_lookAt_150 (by decide) rfl ?_
              refine lv_iload C.1.1 C.1.2.1 dX19_lookAt_153 (lv_at hl 4 rfl) ?_
              obtain ⟨q33, hD⟩ := g_ck hD
              refine mr_iald C hw (by decide) tf_784 q33 dX19_lookAt_155 ?_
              refine lv_imul C.1.1 C.1.2.1 dX19_lookAt_156 ?_
              refine lv_iadd C.1.1 C.1.2.1 dX19_lookAt_157 ?_
              refine lv_icmp_ne (tgt := 168) C.1.1 C.1.2.1 dX19_lookAt_158 (by decide) (fun c34 => ?_) (fun c34 => ?_)
              · replace hD := g_neg c34 hD
                exact hb168 v2 v4 v5 M L _ _ ls hD hw (lv_sub hl [0, 1, 2, 3, 4] rfl)
              · replace hD := g_pos c34 hD
                refine lv_aload_n C.1.1 C.1.2.1 dX19_lookAt_161 rfl (lv_at hl 0 rfl) ?_
                refine lv_iload_n C.1.1 C.1.2.1 dX19_lookAt_162 rfl (lv_at hl 1 rfl) ?_
                refine lv_iload C.1.1 C.1.2.1 dX19_lookAt_163 (lv_at hl 4 rfl) ?_
                obtain ⟨M35, L36, h1, hD⟩ := g_b2 hD
                refine md_cvV (As := [.int a1, .int v5]) (rest := []) C hw (tX19_come l G ad fu a1 v5 M L h1) kc_19 (by decide) tf_732 wd_3870 cwX19_come ⟨Nat.le_of_ble_eq_true rfl, Nat.le_of_ble_eq_true rfl⟩ rfl hl.1 (Nat.le_of_ble_eq_true rfl) dX19_lookAt_165 rfl rfl ⟨Nat.zero_le _, Nat.zero_le _⟩ rfl (fun H locs hw => ?_)
                exact hb168 v2 v4 v5 M35 L36 _ _ ls hD hw (lv_sub hl [0, 1, 2, 3, 4] rfl)
      have hh84 : ∀ (f : Nat) (v2 : Int32) (v3 : Int32) (v4 : Int32) (v5 : Int32) (M : mwM) (L : mwL) (H : Heap) (locs : List Loc) (ls : Array Slot), fX19_lookAt_h84 fu a1 (fX19_lookAt_h11 fu a1 f11) f (v2, v3, v4, v5, M, L) = some (M0, L0) → mw_W G ad NF TF FF M L H locs → lv_has ls 6 [(0, .ref (ad 732)), (1, .int a1), (2, .int v2), (3, .int v3), (4, .int v4), (5, .int v5)] → W p l e ({ frames := 8, cells := 0, slots := 0, locals := 204 }) s m [.ref (ad 732), .int a1].toArray below meth c H locs 0 0 (MQ below (mw_Qv G ad NF TF FF (mw_eqV M0 L0)) [.ref (ad 732), .int a1].toArray s 0 0 (mw_fr G)) (F0 m 84 ls []) := by
        intro f
        induction f with
        | zero => intro v2 v3 v4 v5 M L H locs ls hD; cases hD
        | succ f84 ih84 =>
          intro v2 v3 v4 v5 M L H locs ls hD hw hl
          replace hD : fX19_lookAt_i84 fu a1 (fX19_lookAt_h11 fu a1 f11) (fX19_lookAt_h84 fu a1 (fX19_lookAt_h11 fu a1 f11) f84) v2 v3 v4 v5 M L = some (M0, L0) := hD
          unfold fX19_lookAt_i84 at hD
          refine lv_iload C.1.1 C.1.2.1 dX19_lookAt_84 (lv_at hl 5 rfl) ?_
          refine lv_bipush (v := 8) C.1.1 C.1.2.1 dX19_lookAt_86 (by decide) ?_
          refine lv_icmp_ge (tgt := 115) C.1.1 C.1.2.1 dX19_lookAt_88 (by decide) (fun c19 => ?_) (fun c19 => ?_)
          · replace hD := g_pos c19 hD
            refine lv_iload C.1.1 C.1.2.1 dX19_lookAt_115 (lv_at hl 4 rfl) ?_
            refine lv_sipush (v := 1536) C.1.1 C.1.2.1 dX19_lookAt_117 (by decide) ?_
            refine lv_icmp_ge (tgt := 177) C.1.1 C.1.2.1 dX19_lookAt_120 (by decide) (fun c20 => ?_) (fun c20 => ?_)
            · replace hD := g_pos c20 hD
              refine lv_iload_n C.1.1 C.1.2.1 dX19_lookAt_177 rfl (lv_at hl 1 rfl) ?_
              refine lv_aload_n C.1.1 C.1.2.1 dX19_lookAt_178 rfl (lv_at hl 0 rfl) ?_
              refine mr_getI C hw kc_19 19 (by decide) tf_732 wd_2800 dX19_lookAt_179 (by decide) rfl ?_
              refine lv_icmp_ne (tgt := 196) C.1.1 C.1.2.1 dX19_lookAt_182 (by decide) (fun c21 => ?_) (fun c21 => ?_)
              · replace hD := g_neg c21 hD
                refine lv_iload C.1.1 C.1.2.1 dX19_lookAt_196 (lv_at hl 4 rfl) ?_
                refine lv_sipush (v := 1536) C.1.1 C.1.2.1 dX19_lookAt_198 (by decide) ?_
                refine lv_iconst (v := 2) C.1.1 C.1.2.1 dX19_lookAt_201 (by decide) ?_
                refine lv_iload_n C.1.1 C.1.2.1 dX19_lookAt_202 rfl (lv_at hl 1 rfl) ?_
                refine lv_imul C.1.1 C.1.2.1 dX19_lookAt_203 ?_
                refine lv_iadd C.1.1 C.1.2.1 dX19_lookAt_204 ?_
                refine lv_icmp_ne (tgt := 214) C.1.1 C.1.2.1 dX19_lookAt_205 (by decide) (fun c22 => ?_) (fun c22 => ?_)
                · replace hD := g_neg c22 hD
                  exact hb214 v2 M L _ _ ls hD hw (lv_sub hl [0, 1, 2] rfl)
                · replace hD := g_pos c22 hD
                  exact hb208 v2 v4 M L _ _ ls hD hw (lv_sub hl [0, 1, 2, 4] rfl)
              · replace hD := g_pos c21 hD
                refine lv_iload C.1.1 C.1.2.1 dX19_lookAt_185 (lv_at hl 4 rfl) ?_
                refine lv_iconst (v := 2) C.1.1 C.1.2.1 dX19_lookAt_187 (by decide) ?_
                refine lv_irem C.1.1 C.1.2.1 dX19_lookAt_188 (by decide) ?_
                refine lv_iconst (v := 1) C.1.1 C.1.2.1 dX19_lookAt_189 (by decide) ?_
                refine lv_icmp_ne (tgt := 214) C.1.1 C.1.2.1 dX19_lookAt_190 (by decide) (fun c24 => ?_) (fun c24 => ?_)
                · replace hD := g_neg c24 hD
                  exact hb214 v2 M L _ _ ls hD hw (lv_sub hl [0, 1, 2] rfl)
                · replace hD := g_pos c24 hD
                  refine lv_goto (tgt := 208) C.1.1 C.1.2.1 dX19_lookAt_193 (by decide) ?_
                  exact hb208 v2 v4 M L _ _ ls hD hw (lv_sub hl [0, 1, 2, 4] rfl)
            · replace hD := g_neg c20 hD
              refine lv_iconst (v := 0) C.1.1 C.1.2.1 dX19_lookAt_123 (by decide) ?_
              refine lv_istore (lv' := [(5, .int 0), (0, .ref (ad 732)), (1, .int a1), (2, .int v2), (3, .int v3), (4, .int v4)]) C.1.1 C.1.2.1 dX19_lookAt_124 hl (by decide) rfl (fun ls hl => ?_)
              exact hh126 fu v2 v4 0 M L _ _ ls hD hw (lv_sub hl [1, 2, 3, 5, 0] rfl)
          · replace hD := g_neg c19 hD
            refine lv_aload_n C.1.1 C.1.2.1 dX19_lookAt_91 rfl (lv_at hl 0 rfl) ?_
            refine mr_getR C hw kc_19 87 (by decide) tf_732 ff_732_87 wd_2868 dX19_lookAt_92 (by decide) rfl ?_
            refine lv_iload C.1.1 C.1.2.1 dX19_lookAt_95 (lv_at hl 5 rfl) ?_
            refine lv_aload_n C.1.1 C.1.2.1 dX19_lookAt_97 rfl (lv_at hl 0 rfl) ?_
            refine mr_getR C hw kc_19 77 (by decide) tf_732 ff_732_77 wd_2858 dX19_lookAt_98 (by decide) rfl ?_
            refine lv_iload_n C.1.1 C.1.2.1 dX19_lookAt_101 rfl (lv_at hl 1 rfl) ?_
            refine lv_iload_n C.1.1 C.1.2.1 dX19_lookAt_102 rfl (lv_at hl 3 rfl) ?_
            refine lv_iload C.1.1 C.1.2.1 dX19_lookAt_103 (lv_at hl 5 rfl) ?_
            obtain ⟨r27, M25, L26, h1, hD⟩ := g_b3 hD
            refine md_cvI (As := [.int a1, .int v3, .int v5]) (rest := [.int v5, .ref (ad 926)]) C hw (tX12_takenOctet l G ad fu a1 v3 v5 M L h1) kc_12 (by decide) tf_821 wd_3866 cwX12_takenOctet ⟨Nat.le_of_ble_eq_true rfl, Nat.le_of_ble_eq_true rfl⟩ rfl hl.1 (Nat.le_of_ble_eq_true rfl) dX19_lookAt_105 rfl rfl ⟨Nat.zero_le _, Nat.zero_le _⟩ rfl (fun H locs hw => ?_)
            obtain ⟨q28, hD⟩ := g_ck hD
            obtain ⟨M29, eM29, hD⟩ := g_let hD
            refine mr_iast C hw (by decide) tf_926 q28 dX19_lookAt_108 (fun H locs hw => ?_)
            replace hw : mw_W G ad NF TF FF M29 L26 H locs := by rw [eM29]; exact hw
            obtain ⟨x30, ex30, hD⟩ := g_let hD
            refine lv_iinc (v := x30) (lv' := [(5, .int x30), (0, .ref (ad 732)), (1, .int a1), (2, .int v2), (3, .int v3), (4, .int v4)]) C.1.1 C.1.2.1 dX19_lookAt_109 hl (k := 5) rfl (by rw [ex30]; rfl) (by decide) rfl (fun ls hl => ?_)
            refine lv_goto (tgt := 84) C.1.1 C.1.2.1 dX19_lookAt_112 (by decide) ?_
            exact ih84 v2 v3 v4 x30 M29 L26 _ _ ls hD hw (lv_sub hl [1, 2, 3, 4, 5, 0] rfl)
      unfold fX19_lookAt_i11 at hD
      refine lv_aload_n C.1.1 C.1.2.1 dX19_lookAt_11 rfl (lv_at hl 0 rfl) ?_
      refine mr_getR C hw kc_19 85 (by decide) tf_732 ff_732_85 wd_2866 dX19_lookAt_12 (by decide) rfl ?_
      refine lv_iload_n C.1.1 C.1.2.1 dX19_lookAt_15 rfl (lv_at hl 1 rfl) ?_
      obtain ⟨q1, hD⟩ := g_ck hD
      refine mr_iald C hw (by decide) tf_924 q1 dX19_lookAt_16 ?_
      refine lv_iload_n C.1.1 C.1.2.1 dX19_lookAt_17 rfl (lv_at hl 2 rfl) ?_
      refine lv_icmp_ge (tgt := 217) C.1.1 C.1.2.1 dX19_lookAt_18 (by decide) (fun c2 => ?_) (fun c2 => ?_)
      · replace hD := g_pos c2 hD
        exact mr_vret C hr hlocks hw (Option.some.inj hD) dX19_lookAt_217
      · replace hD := g_neg c2 hD
        refine lv_aload_n C.1.1 C.1.2.1 dX19_lookAt_21 rfl (lv_at hl 0 rfl) ?_
        refine mr_getR C hw kc_19 85 (by decide) tf_732 ff_732_85 wd_2866 dX19_lookAt_22 (by decide) rfl ?_
        refine lv_iload_n C.1.1 C.1.2.1 dX19_lookAt_25 rfl (lv_at hl 1 rfl) ?_
        obtain ⟨q3, hD⟩ := g_ck hD
        refine mr_iald C hw (by decide) tf_924 q3 dX19_lookAt_26 ?_
        obtain ⟨x4, ex4, hD⟩ := g_let hD
        refine W.eq (g2 := F0 m 27 ls (.int x4 :: [])) (by rw [ex4]) ?_
        refine lv_istore_n (lv' := [(3, .int x4), (0, .ref (ad 732)), (1, .int a1), (2, .int v2)]) C.1.1 C.1.2.1 dX19_lookAt_27 rfl hl (by decide) rfl (fun ls hl => ?_)
        refine lv_aload_n C.1.1 C.1.2.1 dX19_lookAt_28 rfl (lv_at hl 1 rfl) ?_
        refine mr_getR C hw kc_19 85 (by decide) tf_732 ff_732_85 wd_2866 dX19_lookAt_29 (by decide) rfl ?_
        refine lv_iload_n C.1.1 C.1.2.1 dX19_lookAt_32 rfl (lv_at hl 2 rfl) ?_
        refine lv_dup2_11 C.1.1 C.1.2.1 dX19_lookAt_33 rfl rfl ?_
        obtain ⟨q5, hD⟩ := g_ck hD
        refine mr_iald C hw (by decide) tf_924 q5 dX19_lookAt_34 ?_
        refine lv_iconst (v := 1) C.1.1 C.1.2.1 dX19_lookAt_35 (by decide) ?_
        refine lv_iadd C.1.1 C.1.2.1 dX19_lookAt_36 ?_
        obtain ⟨q6, hD⟩ := g_ck hD
        obtain ⟨M7, eM7, hD⟩ := g_let hD
        refine mr_iast C hw (by decide) tf_924 q6 dX19_lookAt_37 (fun H locs hw => ?_)
        replace hw : mw_W G ad NF TF FF M7 L H locs := by rw [eM7]; exact hw
        refine lv_aload_n C.1.1 C.1.2.1 dX19_lookAt_38 rfl (lv_at hl 1 rfl) ?_
        refine mr_getR C hw kc_19 77 (by decide) tf_732 ff_732_77 wd_2858 dX19_lookAt_39 (by decide) rfl ?_
        refine lv_iload_n C.1.1 C.1.2.1 dX19_lookAt_42 rfl (lv_at hl 2 rfl) ?_
        refine lv_iload_n C.1.1 C.1.2.1 dX19_lookAt_43 rfl (lv_at hl 0 rfl) ?_
        refine lv_iconst (v := 0) C.1.1 C.1.2.1 dX19_lookAt_44 (by decide) ?_
        obtain ⟨r10, M8, L9, h1, hD⟩ := g_b3 hD
        refine md_cvI (As := [.int a1, .int x4, .int 0]) (rest := []) C hw (tX12_taken l G ad fu a1 x4 0 M7 L h1) kc_12 (by decide) tf_821 wd_3858 cwX12_taken ⟨Nat.le_of_ble_eq_true rfl, Nat.le_of_ble_eq_true rfl⟩ rfl hl.1 (Nat.le_of_ble_eq_true rfl) dX19_lookAt_45 rfl rfl ⟨Nat.zero_le _, Nat.zero_le _⟩ rfl (fun H locs hw => ?_)
        refine lv_istore (lv' := [(4, .int r10), (3, .int x4), (0, .ref (ad 732)), (1, .int a1), (2, .int v2)]) C.1.1 C.1.2.1 dX19_lookAt_48 hl (by decide) rfl (fun ls hl => ?_)
        refine lv_aload_n C.1.1 C.1.2.1 dX19_lookAt_50 rfl (lv_at hl 2 rfl) ?_
        refine mr_getR C hw kc_19 77 (by decide) tf_732 ff_732_77 wd_2858 dX19_lookAt_51 (by decide) rfl ?_
        refine lv_iload_n C.1.1 C.1.2.1 dX19_lookAt_54 rfl (lv_at hl 3 rfl) ?_
        refine lv_iload_n C.1.1 C.1.2.1 dX19_lookAt_55 rfl (lv_at hl 1 rfl) ?_
        refine lv_iconst (v := 1) C.1.1 C.1.2.1 dX19_lookAt_56 (by decide) ?_
        obtain ⟨r13, M11, L12, h1, hD⟩ := g_b3 hD
        refine md_cvI (As := [.int a1, .int x4, .int 1]) (rest := []) C hw (tX12_taken l G ad fu a1 x4 1 M8 L9 h1) kc_12 (by decide) tf_821 wd_3858 cwX12_taken ⟨Nat.le_of_ble_eq_true rfl, Nat.le_of_ble_eq_true rfl⟩ rfl hl.1 (Nat.le_of_ble_eq_true rfl) dX19_lookAt_57 rfl rfl ⟨Nat.zero_le _, Nat.zero_le _⟩ rfl (fun H locs hw => ?_)
        refine lv_if_ne (tgt := 11) C.1.1 C.1.2.1 dX19_lookAt_60 (by decide) (fun c14 => ?_) (fun c14 => ?_)
        · replace hD := g_neg c14 hD
          exact ih11 v2 M11 L12 _ _ ls hD hw (lv_sub hl [2, 3, 4] rfl)
        · replace hD := g_pos c14 hD
          refine lv_aload_n C.1.1 C.1.2.1 dX19_lookAt_63 rfl (lv_at hl 2 rfl) ?_
          refine mr_getR C hw kc_19 77 (by decide) tf_732 ff_732_77 wd_2858 dX19_lookAt_64 (by decide) rfl ?_
          refine lv_iload_n C.1.1 C.1.2.1 dX19_lookAt_67 rfl (lv_at hl 3 rfl) ?_
          refine lv_iload_n C.1.1 C.1.2.1 dX19_lookAt_68 rfl (lv_at hl 1 rfl) ?_
          refine lv_iconst (v := 3) C.1.1 C.1.2.1 dX19_lookAt_69 (by decide) ?_
          obtain ⟨r17, M15, L16, h1, hD⟩ := g_b3 hD
          refine md_cvI (As := [.int a1, .int x4, .int 3]) (rest := []) C hw (tX12_taken l G ad fu a1 x4 3 M11 L12 h1) kc_12 (by decide) tf_821 wd_3858 cwX12_taken ⟨Nat.le_of_ble_eq_true rfl, Nat.le_of_ble_eq_true rfl⟩ rfl hl.1 (Nat.le_of_ble_eq_true rfl) dX19_lookAt_70 rfl rfl ⟨Nat.zero_le _, Nat.zero_le _⟩ rfl (fun H locs hw => ?_)
          refine lv_bipush (v := 8) C.1.1 C.1.2.1 dX19_lookAt_73 (by decide) ?_
          refine lv_icmp_eq (tgt := 81) C.1.1 C.1.2.1 dX19_lookAt_75 (by decide) (fun c18 => ?_) (fun c18 => ?_)
          · replace hD := g_pos c18 hD
            refine lv_iconst (v := 0) C.1.1 C.1.2.1 dX19_lookAt_81 (by decide) ?_
            refine lv_istore (lv' := [(5, .int 0), (4, .int r10), (3, .int x4), (0, .ref (ad 732)), (1, .int a1), (2, .int v2)]) C.1.1 C.1.2.1 dX19_lookAt_82 hl (by decide) rfl (fun ls hl => ?_)
            exact hh84 fu v2 x4 r10 0 M15 L16 _ _ ls hD hw (lv_sub hl [3, 4, 5, 2, 1, 0] rfl)
          · replace hD := g_neg c18 hD
            refine lv_goto (tgt := 11) C.1.1 C.1.2.1 dX19_lookAt_78 (by decide) ?_
            exact ih11 v2 M15 L16 _ _ ls hD hw (lv_sub hl [2, 3, 4] rfl)
  unfold DX19_lookAt at hD
  refine lv_aload_n C.1.1 C.1.2.1 dX19_lookAt_0 rfl (lv_at hl 0 rfl) ?_
  refine mr_getR C hw kc_19 77 (by decide) tf_732 ff_732_77 wd_2858 dX19_lookAt_1 (by decide) rfl ?_
  refine lv_iload_n C.1.1 C.1.2.1 dX19_lookAt_4 rfl (lv_at hl 1 rfl) ?_
  refine lv_iconst (v := (-1)) C.1.1 C.1.2.1 dX19_lookAt_5 (by decide) ?_
  refine lv_iconst (v := 0) C.1.1 C.1.2.1 dX19_lookAt_6 (by decide) ?_
  obtain ⟨r42, M40, L41, h1, hD⟩ := g_b3 hD
  refine md_cvI (As := [.int a1, .int ((-1)), .int 0]) (rest := []) C hw (tX12_taken l G ad fu a1 ((-1)) 0 M L h1) kc_12 (by decide) tf_821 wd_3858 cwX12_taken ⟨Nat.le_of_ble_eq_true rfl, Nat.le_of_ble_eq_true rfl⟩ rfl hl.1 (Nat.le_of_ble_eq_true rfl) dX19_lookAt_7 rfl rfl ⟨Nat.zero_le _, Nat.zero_le _⟩ rfl (fun H locs hw => ?_)
  refine lv_istore_n (lv' := [(2, .int r42), (0, .ref (ad 732)), (1, .int a1)]) C.1.1 C.1.2.1 dX19_lookAt_10 rfl hl (by decide) rfl (fun ls hl => ?_)
  exact hh11 fu r42 M40 L41 _ _ ls hD hw (lv_sub hl [1, 2, 0] rfl)
