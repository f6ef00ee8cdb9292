theorem dX9_writeOctets_0 : decode cX9_writeOctets 0 = .ok (.aload_n 0, 1) := by decide +kernel
theorem dX9_writeOctets_1 : decode cX9_writeOctets 1 = .ok (.getfield 22, 3) := by decide +kernel
theorem dX9_writeOctets_4 : decode cX9_writeOctets 4 = .ok (.iconst 1, 1) := by decide +kernel
theorem dX9_writeOctets_5 : decode cX9_writeOctets 5 = .ok (.aaload, 1) := by decide +kernel
theorem dX9_writeOctets_6 : decode cX9_writeOctets 6 = .ok (.iload_n 1, 1) := by decide +kernel
theorem dX9_writeOctets_7 : decode cX9_writeOctets 7 = .ok (.iaload, 1) := by decide +kernel
theorem dX9_writeOctets_8 : decode cX9_writeOctets 8 = .ok (.istore_n 2, 1) := by decide +kernel
theorem dX9_writeOctets_9 : decode cX9_writeOctets 9 = .ok (.aload_n 0, 1) := by decide +kernel
theorem dX9_writeOctets_10 : decode cX9_writeOctets 10 = .ok (.getfield 22, 3) := by decide +kernel
theorem dX9_writeOctets_13 : decode cX9_writeOctets 13 = .ok (.iconst 0, 1) := by decide +kernel
theorem dX9_writeOctets_14 : decode cX9_writeOctets 14 = .ok (.aaload, 1) := by decide +kernel
theorem dX9_writeOctets_15 : decode cX9_writeOctets 15 = .ok (.iload_n 1, 1) := by decide +kernel
theorem dX9_writeOctets_16 : decode cX9_writeOctets 16 = .ok (.iaload, 1) := by decide +kernel
theorem dX9_writeOctets_17 : decode cX9_writeOctets 17 = .ok (.istore_n 3, 1) := by decide +kernel
theorem dX9_writeOctets_18 : decode cX9_writeOctets 18 = .ok (.iload_n 3, 1) := by decide +kernel
theorem dX9_writeOctets_19 : decode cX9_writeOctets 19 = .ok (.iconst 1, 1) := by decide +kernel
theorem dX9_writeOctets_20 : decode cX9_writeOctets 20 = .ok (.if_icmp .ne 14, 3) := by decide +kernel
theorem dX9_writeOctets_23 : decode cX9_writeOctets 23 = .ok (.aload_n 0, 1) := by decide +kernel
theorem dX9_writeOctets_24 : decode cX9_writeOctets 24 = .ok (.getfield 13, 3) := by decide +kernel
theorem dX9_writeOctets_27 : decode cX9_writeOctets 27 = .ok (.iconst 2, 1) := by decide +kernel
theorem dX9_writeOctets_28 : decode cX9_writeOctets 28 = .ok (.aaload, 1) := by decide +kernel
theorem dX9_writeOctets_29 : decode cX9_writeOctets 29 = .ok (.iload_n 2, 1) := by decide +kernel
theorem dX9_writeOctets_30 : decode cX9_writeOctets 30 = .ok (.iaload, 1) := by decide +kernel
theorem dX9_writeOctets_31 : decode cX9_writeOctets 31 = .ok (.goto 11, 3) := by decide +kernel
theorem dX9_writeOctets_34 : decode cX9_writeOctets 34 = .ok (.aload_n 0, 1) := by decide +kernel
theorem dX9_writeOctets_35 : decode cX9_writeOctets 35 = .ok (.getfield 22, 3) := by decide +kernel
theorem dX9_writeOctets_38 : decode cX9_writeOctets 38 = .ok (.iconst 2, 1) := by decide +kernel
theorem dX9_writeOctets_39 : decode cX9_writeOctets 39 = .ok (.aaload, 1) := by decide +kernel
theorem dX9_writeOctets_40 : decode cX9_writeOctets 40 = .ok (.iload_n 1, 1) := by decide +kernel
theorem dX9_writeOctets_41 : decode cX9_writeOctets 41 = .ok (.iaload, 1) := by decide +kernel
theorem dX9_writeOctets_42 : decode cX9_writeOctets 42 = .ok (.istore 4, 2) := by decide +kernel
theorem dX9_writeOctets_44 : decode cX9_writeOctets 44 = .ok (.iload_n 3, 1) := by decide +kernel
theorem dX9_writeOctets_45 : decode cX9_writeOctets 45 = .ok (.iconst 2, 1) := by decide +kernel
theorem dX9_writeOctets_46 : decode cX9_writeOctets 46 = .ok (.if_icmp .ne 22, 3) := by decide +kernel
theorem dX9_writeOctets_49 : decode cX9_writeOctets 49 = .ok (.bipush 6, 2) := by decide +kernel
theorem dX9_writeOctets_51 : decode cX9_writeOctets 51 = .ok (.bipush 7, 2) := by decide +kernel
theorem dX9_writeOctets_53 : decode cX9_writeOctets 53 = .ok (.aload_n 0, 1) := by decide +kernel
theorem dX9_writeOctets_54 : decode cX9_writeOctets 54 = .ok (.getfield 22, 3) := by decide +kernel
theorem dX9_writeOctets_57 : decode cX9_writeOctets 57 = .ok (.iconst 2, 1) := by decide +kernel
theorem dX9_writeOctets_58 : decode cX9_writeOctets 58 = .ok (.aaload, 1) := by decide +kernel
theorem dX9_writeOctets_59 : decode cX9_writeOctets 59 = .ok (.iload_n 1, 1) := by decide +kernel
theorem dX9_writeOctets_60 : decode cX9_writeOctets 60 = .ok (.iaload, 1) := by decide +kernel
theorem dX9_writeOctets_61 : decode cX9_writeOctets 61 = .ok (.iconst 1, 1) := by decide +kernel
theorem dX9_writeOctets_62 : decode cX9_writeOctets 62 = .ok (.isub, 1) := by decide +kernel
theorem dX9_writeOctets_63 : decode cX9_writeOctets 63 = .ok (.imul, 1) := by decide +kernel
theorem dX9_writeOctets_64 : decode cX9_writeOctets 64 = .ok (.iadd, 1) := by decide +kernel
theorem dX9_writeOctets_65 : decode cX9_writeOctets 65 = .ok (.goto 4, 3) := by decide +kernel
theorem dX9_writeOctets_68 : decode cX9_writeOctets 68 = .ok (.iconst 0, 1) := by decide +kernel
theorem dX9_writeOctets_69 : decode cX9_writeOctets 69 = .ok (.istore 5, 2) := by decide +kernel
theorem dX9_writeOctets_71 : decode cX9_writeOctets 71 = .ok (.iload_n 3, 1) := by decide +kernel
theorem dX9_writeOctets_72 : decode cX9_writeOctets 72 = .ok (.iconst 3, 1) := by decide +kernel
theorem dX9_writeOctets_73 : decode cX9_writeOctets 73 = .ok (.if_icmp .ne 7, 3) := by decide +kernel
theorem dX9_writeOctets_76 : decode cX9_writeOctets 76 = .ok (.iconst 0, 1) := by decide +kernel
theorem dX9_writeOctets_77 : decode cX9_writeOctets 77 = .ok (.goto 15, 3) := by decide +kernel
theorem dX9_writeOctets_80 : decode cX9_writeOctets 80 = .ok (.iload_n 3, 1) := by decide +kernel
theorem dX9_writeOctets_81 : decode cX9_writeOctets 81 = .ok (.iconst 1, 1) := by decide +kernel
theorem dX9_writeOctets_82 : decode cX9_writeOctets 82 = .ok (.if_icmp .ne 8, 3) := by decide +kernel
theorem dX9_writeOctets_85 : decode cX9_writeOctets 85 = .ok (.bipush 6, 2) := by decide +kernel
theorem dX9_writeOctets_87 : decode cX9_writeOctets 87 = .ok (.goto 5, 3) := by decide +kernel
theorem dX9_writeOctets_90 : decode cX9_writeOctets 90 = .ok (.bipush 7, 2) := by decide +kernel
theorem dX9_writeOctets_92 : decode cX9_writeOctets 92 = .ok (.istore 6, 2) := by decide +kernel
theorem dX9_writeOctets_94 : decode cX9_writeOctets 94 = .ok (.aload_n 0, 1) := by decide +kernel
theorem dX9_writeOctets_95 : decode cX9_writeOctets 95 = .ok (.getfield 25, 3) := by decide +kernel
theorem dX9_writeOctets_98 : decode cX9_writeOctets 98 = .ok (.iconst 0, 1) := by decide +kernel
theorem dX9_writeOctets_99 : decode cX9_writeOctets 99 = .ok (.bipush 16, 2) := by decide +kernel
theorem dX9_writeOctets_101 : decode cX9_writeOctets 101 = .ok (.iload_n 3, 1) := by decide +kernel
theorem dX9_writeOctets_102 : decode cX9_writeOctets 102 = .ok (.imul, 1) := by decide +kernel
theorem dX9_writeOctets_103 : decode cX9_writeOctets 103 = .ok (.iload 4, 2) := by decide +kernel
theorem dX9_writeOctets_105 : decode cX9_writeOctets 105 = .ok (.bipush 15, 2) := by decide +kernel
theorem dX9_writeOctets_107 : decode cX9_writeOctets 107 = .ok (.iand, 1) := by decide +kernel
theorem dX9_writeOctets_108 : decode cX9_writeOctets 108 = .ok (.iadd, 1) := by decide +kernel
theorem dX9_writeOctets_109 : decode cX9_writeOctets 109 = .ok (.iastore, 1) := by decide +kernel
theorem dX9_writeOctets_110 : decode cX9_writeOctets 110 = .ok (.iconst 0, 1) := by decide +kernel
theorem dX9_writeOctets_111 : decode cX9_writeOctets 111 = .ok (.istore 7, 2) := by decide +kernel
theorem dX9_writeOctets_113 : decode cX9_writeOctets 113 = .ok (.iload 7, 2) := by decide +kernel
theorem dX9_writeOctets_115 : decode cX9_writeOctets 115 = .ok (.bipush 7, 2) := by decide +kernel
theorem dX9_writeOctets_117 : decode cX9_writeOctets 117 = .ok (.if_icmp .ge 74, 3) := by decide +kernel
theorem dX9_writeOctets_120 : decode cX9_writeOctets 120 = .ok (.iload 7, 2) := by decide +kernel
theorem dX9_writeOctets_122 : decode cX9_writeOctets 122 = .ok (.iload 6, 2) := by decide +kernel
theorem dX9_writeOctets_124 : decode cX9_writeOctets 124 = .ok (.if_icmp .ge 28, 3) := by decide +kernel
theorem dX9_writeOctets_127 : decode cX9_writeOctets 127 = .ok (.iload 5, 2) := by decide +kernel
theorem dX9_writeOctets_129 : decode cX9_writeOctets 129 = .ok (.ifCond .lt 23, 3) := by decide +kernel
theorem dX9_writeOctets_132 : decode cX9_writeOctets 132 = .ok (.iload 5, 2) := by decide +kernel
theorem dX9_writeOctets_134 : decode cX9_writeOctets 134 = .ok (.iload 7, 2) := by decide +kernel
theorem dX9_writeOctets_136 : decode cX9_writeOctets 136 = .ok (.iadd, 1) := by decide +kernel
theorem dX9_writeOctets_137 : decode cX9_writeOctets 137 = .ok (.aload_n 0, 1) := by decide +kernel
theorem dX9_writeOctets_138 : decode cX9_writeOctets 138 = .ok (.getfield 13, 3) := by decide +kernel
theorem dX9_writeOctets_141 : decode cX9_writeOctets 141 = .ok (.iconst 2, 1) := by decide +kernel
theorem dX9_writeOctets_142 : decode cX9_writeOctets 142 = .ok (.aaload, 1) := by decide +kernel
theorem dX9_writeOctets_143 : decode cX9_writeOctets 143 = .ok (.iload_n 2, 1) := by decide +kernel
theorem dX9_writeOctets_144 : decode cX9_writeOctets 144 = .ok (.iaload, 1) := by decide +kernel
theorem dX9_writeOctets_145 : decode cX9_writeOctets 145 = .ok (.if_icmp .ge 7, 3) := by decide +kernel
theorem dX9_writeOctets_148 : decode cX9_writeOctets 148 = .ok (.iconst 1, 1) := by decide +kernel
theorem dX9_writeOctets_149 : decode cX9_writeOctets 149 = .ok (.goto 4, 3) := by decide +kernel
theorem dX9_writeOctets_152 : decode cX9_writeOctets 152 = .ok (.iconst 0, 1) := by decide +kernel
theorem dX9_writeOctets_153 : decode cX9_writeOctets 153 = .ok (.istore 8, 2) := by decide +kernel
theorem dX9_writeOctets_155 : decode cX9_writeOctets 155 = .ok (.aload_n 0, 1) := by decide +kernel
theorem dX9_writeOctets_156 : decode cX9_writeOctets 156 = .ok (.getfield 25, 3) := by decide +kernel
theorem dX9_writeOctets_159 : decode cX9_writeOctets 159 = .ok (.iconst 1, 1) := by decide +kernel
theorem dX9_writeOctets_160 : decode cX9_writeOctets 160 = .ok (.iload 7, 2) := by decide +kernel
theorem dX9_writeOctets_162 : decode cX9_writeOctets 162 = .ok (.iadd, 1) := by decide +kernel
theorem dX9_writeOctets_163 : decode cX9_writeOctets 163 = .ok (.iload 8, 2) := by decide +kernel
theorem dX9_writeOctets_165 : decode cX9_writeOctets 165 = .ok (.ifCond .eq 18, 3) := by decide +kernel
theorem dX9_writeOctets_168 : decode cX9_writeOctets 168 = .ok (.aload_n 0, 1) := by decide +kernel
theorem dX9_writeOctets_169 : decode cX9_writeOctets 169 = .ok (.getfield 16, 3) := by decide +kernel
theorem dX9_writeOctets_172 : decode cX9_writeOctets 172 = .ok (.iload_n 2, 1) := by decide +kernel
theorem dX9_writeOctets_173 : decode cX9_writeOctets 173 = .ok (.aaload, 1) := by decide +kernel
theorem dX9_writeOctets_174 : decode cX9_writeOctets 174 = .ok (.iload 5, 2) := by decide +kernel
theorem dX9_writeOctets_176 : decode cX9_writeOctets 176 = .ok (.iload 7, 2) := by decide +kernel
theorem dX9_writeOctets_178 : decode cX9_writeOctets 178 = .ok (.iadd, 1) := by decide +kernel
theorem dX9_writeOctets_179 : decode cX9_writeOctets 179 = .ok (.iaload, 1) := by decide +kernel
theorem dX9_writeOctets_180 : decode cX9_writeOctets 180 = .ok (.goto 4, 3) := by decide +kernel
theorem dX9_writeOctets_183 : decode cX9_writeOctets 183 = .ok (.iconst 0, 1) := by decide +kernel
theorem dX9_writeOctets_184 : decode cX9_writeOctets 184 = .ok (.iastore, 1) := by decide +kernel
theorem dX9_writeOctets_185 : decode cX9_writeOctets 185 = .ok (.iinc 7 1, 3) := by decide +kernel
theorem dX9_writeOctets_188 : decode cX9_writeOctets 188 = .ok (.goto (-75), 3) := by decide +kernel
theorem dX9_writeOctets_191 : decode cX9_writeOctets 191 = .ok (.return_, 1) := by decide +kernel
theorem cwX9_writeOctets : mw_cwV yX9_writeOctets cX9_writeOctets 9 (none) 1 := ⟨⟨wd_10, wd_1780, by decide +kernel⟩, wd_1778, wd_1779⟩
noncomputable def fX9_writeOctets_b184 (fu : Nat) (a1 : Int32) (r113 : (Int32 × Int32 × Int32 × Int32 × mwM × mwL) → Option (mwM × mwL)) (v2 : Int32) (v5 : Int32) (v6 : Int32) (v7 : Int32) (s1 : Int32) (s2 : Int32) (M : mwM) (L : mwL) : Option (mwM × mwL) :=
  mck s1 8 (mlet (mset M 274 (s1.toNatClampNeg) s2) (fun M18 => mlet (v7 + 1) (fun x19 => r113 (v2, v5, v6, x19, M18, L))))
noncomputable def fX9_writeOctets_b153 (fu : Nat) (a1 : Int32) (r113 : (Int32 × Int32 × Int32 × Int32 × mwM × mwL) → Option (mwM × mwL)) (v2 : Int32) (v5 : Int32) (v6 : Int32) (v7 : Int32) (s0 : Int32) (M : mwM) (L : mwL) : Option (mwM × mwL) :=
  (if s0 = 0 then fX9_writeOctets_b184 fu a1 r113 v2 v5 v6 v7 (1 + v7) 0 M L else mck v2 101 (mck (v5 + v7) 100 (fX9_writeOctets_b184 fu a1 r113 v2 v5 v6 v7 (1 + v7) (M (162 + v2.toNatClampNeg) (v5 + v7).toNatClampNeg) M L)))
noncomputable def fX9_writeOctets_b152 (fu : Nat) (a1 : Int32) (r113 : (Int32 × Int32 × Int32 × Int32 × mwM × mwL) → Option (mwM × mwL)) (v2 : Int32) (v5 : Int32) (v6 : Int32) (v7 : Int32) (M : mwM) (L : mwL) : Option (mwM × mwL) :=
  fX9_writeOctets_b153 fu a1 r113 v2 v5 v6 v7 0 M L
noncomputable def fX9_writeOctets_i113 (fu : Nat) (a1 : Int32) (r113 : (Int32 × Int32 × Int32 × Int32 × mwM × mwL) → Option (mwM × mwL)) (v2 : Int32) (v5 : Int32) (v6 : Int32) (v7 : Int32) (M : mwM) (L : mwL) : Option (mwM × mwL) :=
  (if 7 ≤ v7 then some (M, L) else (if v6 ≤ v7 then fX9_writeOctets_b152 fu a1 r113 v2 v5 v6 v7 M L else (if v5 < 0 then fX9_writeOctets_b152 fu a1 r113 v2 v5 v6 v7 M L else mck v2 101 ((if (M 158 v2.toNatClampNeg) ≤ (v5 + v7) then fX9_writeOctets_b152 fu a1 r113 v2 v5 v6 v7 M L else fX9_writeOctets_b153 fu a1 r113 v2 v5 v6 v7 1 M L)))))
noncomputable def fX9_writeOctets_h113 (fu : Nat) (a1 : Int32) : Nat → (Int32 × Int32 × Int32 × Int32 × mwM × mwL) → Option (mwM × mwL) := mloop (fun r113 s => fX9_writeOctets_i113 fu a1 r113 s.1 s.2.1 s.2.2.1 s.2.2.2.1 s.2.2.2.2.1 s.2.2.2.2.2)
noncomputable def fX9_writeOctets_b92 (fu : Nat) (a1 : Int32) (v2 : Int32) (v3 : Int32) (v4 : Int32) (v5 : Int32) (s0 : Int32) (M : mwM) (L : mwL) : Option (mwM × mwL) :=
  mlet (mset M 274 ((0 : Int32).toNatClampNeg) ((16 * v3) + (v4 &&& 15))) (fun M7 => fX9_writeOctets_h113 fu a1 fu (v2, v5, s0, 0, M7, L))
noncomputable def fX9_writeOctets_b69 (fu : Nat) (a1 : Int32) (v2 : Int32) (v3 : Int32) (v4 : Int32) (s0 : Int32) (M : mwM) (L : mwL) : Option (mwM × mwL) :=
  (if v3 = 3 then fX9_writeOctets_b92 fu a1 v2 v3 v4 s0 0 M L else (if v3 = 1 then fX9_writeOctets_b92 fu a1 v2 v3 v4 s0 6 M L else fX9_writeOctets_b92 fu a1 v2 v3 v4 s0 7 M L))
noncomputable def fX9_writeOctets_b42 (fu : Nat) (a1 : Int32) (v2 : Int32) (v3 : Int32) (s0 : Int32) (M : mwM) (L : mwL) : Option (mwM × mwL) :=
  (if v3 = 2 then mck a1 1600 (fX9_writeOctets_b69 fu a1 v2 v3 s0 (6 + (7 * ((M 272 a1.toNatClampNeg) - 1))) M L) else fX9_writeOctets_b69 fu a1 v2 v3 s0 0 M L)
noncomputable def DX9_writeOctets (fu : Nat) (a1 : Int32) (M : mwM) (L : mwL) : Option (mwM × mwL) :=
  mck a1 1600 (mlet (M 271 a1.toNatClampNeg) (fun x22 => mck a1 1600 (mlet (M 270 a1.toNatClampNeg) (fun x25 => (if x25 = 1 then mck x22 101 (fX9_writeOctets_b42 fu a1 x22 x25 (M 158 x22.toNatClampNeg) M L) else mck a1 1600 (fX9_writeOctets_b42 fu a1 x22 x25 (M 272 a1.toNatClampNeg) M L))))))
set_option maxHeartbeats 4000000 in
set_option maxRecDepth 100000 in
theorem tX9_writeOctets (l : Launch) (G : mwG) (ad : Nat → Nat) (fu : Nat) (a1 : Int32) (M : mwM) (L : mwL) {M0 : mwM} {L0 : mwL} (hD : DX9_writeOctets fu a1 M L = some (M0, L0)) : Met l yX9_writeOctets (Cond.code yX9_writeOctets cX9_writeOctets 9 (none) :: GT) ({ frames := 0, cells := 0, slots := 0, locals := 0 }) (mw_Pre G ad NF TF FF M L [.ref (ad 154), .int a1]) (mw_Qv G ad NF TF FF (mw_eqV M0 L0)) 0 0 (mw_fr G) := by
  refine mw_enter (by decide) (Nat.le_of_ble_eq_true rfl) ?_
  intro p e s m below meth c ls C hr hlocks hnm hw hl
  have hl : lv_has ls 9 [(0, .ref (ad 154)), (1, .int a1)] := hl
  have hh113 : ∀ (f : Nat) (v2 : Int32) (v5 : Int32) (v6 : Int32) (v7 : Int32) (M : mwM) (L : mwL) (H : Heap) (locs : List Loc) (ls : Array Slot), fX9_writeOctets_h113 fu a1 f (v2, v5, v6, v7, M, L) = some (M0, L0) → mw_W G ad NF TF FF M L H locs → lv_has ls 9 [(0, .ref (ad 154)), (2, .int v2), (5, .int v5), (6, .int v6), (7, .int v7)] → W p l e ({ frames := 0, cells := 0, slots := 0, locals := 0 }) s m [.ref (ad 154), .int a1].toArray below meth c H locs 0 0 (MQ below (mw_Qv G ad NF TF FF (mw_eqV M0 L0)) [.ref (ad 154), .int a1].toArray s 0 0 (mw_fr G)) (F0 m 113 ls []) := by
    intro f
    induction f with
    | zero => intro v2 v5 v6 v7 M L H locs ls hD; cases hD
    | succ f113 ih113 =>
      intro v2 v5 v6 v7 M L H locs ls hD hw hl
      replace hD : fX9_writeOctets_i113 fu a1 (fX9_writeOctets_h113 fu a1 f113) v2 v5 v6 v7 M L = some (M0, L0) := hD
      have hb184 : ∀ (v2 : Int32) (v5 : Int32) (v6 : Int32) (v7 : Int32) (s1 : Int32) (s2 : Int32) (M : mwM) (L : mwL) (H : Heap) (locs : List Loc) (ls : Array Slot), fX9_writeOctets_b184 fu a1 (fX9_writeOctets_h113 fu a1 f113) v2 v5 v6 v7 s1 s2 M L = some (M0, L0) → mw_W G ad NF TF FF M L H locs → lv_has ls 9 [(0, .ref (ad 154)), (2, .int v2), (5, .int v5), (6, .int v6), (7, .int v7)] → W p l e ({ frames := 0, cells := 0, slots := 0, locals := 0 }) s m [.ref (ad 154), .int a1].toArray below meth c H locs 0 0 (MQ below (mw_Qv G ad NF TF FF (mw_eqV M0 L0)) [.ref (ad 154), .int a1].toArray s 0 0 (mw_fr G)) (F0 m 184 ls [.int s2, .int s1, .ref (ad 274)]) := by
        intro v2 v5 v6 v7 s1 s2 M L H locs ls hD hw hl
        unfold fX9_writeOctets_b184 at hD
        obtain ⟨q17, hD⟩ := g_ck hD
        obtain ⟨M18, eM18, hD⟩ := g_let hD
        refine mr_iast C hw (by decide) tf_274 q17 dX9_writeOctets_184 (fun H locs hw => ?_)
        replace hw : mw_W G ad NF TF FF M18 L H locs := by rw [eM18]; exact hw
        obtain ⟨x19, ex19, hD⟩ := g_let hD
        refine lv_iinc (v := x19) (lv' := [(7, .int x19), (0, .ref (ad 154)), (2, .int v2), (5, .int v5), (6, .int v6)]) C.1.1 C.1.2.1 dX9_writeOctets_185 hl (k := 4) rfl (by rw [ex19]; rfl) (by decide) rfl (fun ls hl => ?_)
        refine lv_goto (tgt := 113) C.1.1 C.1.2.1 dX9_writeOctets_188 (by decide) ?_
        exact ih113 v2 v5 v6 x19 M18 L _ _ ls hD hw (lv_sub hl [1, 2, 3, 4, 0] rfl)
      have hb153 : ∀ (v2 : Int32) (v5 : Int32) (v6 : Int32) (v7 : Int32) (s0 : Int32) (M : mwM) (L : mwL) (H : Heap) (locs : List Loc) (ls : Array Slot), fX9_writeOctets_b153 fu a1 (fX9_writeOctets_h113 fu a1 f113) v2 v5 v6 v7 s0 M L = some (M0, L0) → mw_W G ad NF TF FF M L H locs → lv_has ls 9 [(0, .ref (ad 154)), (2, .int v2), (5, .int v5), (6, .int v6), (7, .int v7)] → W p l e ({ frames := 0, cells := 0, slots := 0, locals := 0 }) s m [.ref (ad 154), .int a1].toArray below meth c H locs 0 0 (MQ below (mw_Qv G ad NF TF FF (mw_eqV M0 L0)) [.ref (ad 154), .int a1].toArray s 0 0 (mw_fr G)) (F0 m 153 ls [.int s0]) := by
        intro v2 v5 v6 v7 s0 M L H locs ls hD hw hl
        unfold fX9_writeOctets_b153 at hD
        refine lv_istore (lv' := [(8, .int s0), (0, .ref (ad 154)), (2, .int v2), (5, .int v5), (6, .int v6), (7, .int v7)]) C.1.1 C.1.2.1 dX9_writeOctets_153 hl (by decide) rfl (fun ls hl => ?_)
        refine lv_aload_n C.1.1 C.1.2.1 dX9_writeOctets_155 rfl (lv_at hl 1 rfl) ?_
        refine mr_getR C hw kc_9 4 (by decide) tf_154 ff_154_4 wd_366 dX9_writeOctets_156 (by decide) rfl ?_
        refine lv_iconst (v := 1) C.1.1 C.1.2.1 dX9_writeOctets_159 (by decide) ?_
        refine lv_iload C.1.1 C.1.2.1 dX9_writeOctets_160 (lv_at hl 5 rfl) ?_
        refine lv_iadd C.1.1 C.1.2.1 dX9_writeOctets_162 ?_
        refine lv_iload C.1.1 C.1.2.1 dX9_writeOctets_163 (lv_at hl 0 rfl) ?_
        refine lv_if_eq (tgt := 183) C.1.1 C.1.2.1 dX9_writeOctets_165 (by decide) (fun c14 => ?_) (fun c14 => ?_)
        · replace hD := g_pos c14 hD
          refine lv_iconst (v := 0) C.1.1 C.1.2.1 dX9_writeOctets_183 (by decide) ?_
          exact hb184 v2 v5 v6 v7 (1 + v7) 0 M L _ _ ls hD hw (lv_sub hl [1, 2, 3, 4, 5] rfl)
        · replace hD := g_neg c14 hD
          refine lv_aload_n C.1.1 C.1.2.1 dX9_writeOctets_168 rfl (lv_at hl 1 rfl) ?_
          refine mr_getR C hw kc_9 1 (by decide) tf_154 ff_154_1 wd_361 dX9_writeOctets_169 (by decide) rfl ?_
          refine lv_iload_n C.1.1 C.1.2.1 dX9_writeOctets_172 rfl (lv_at hl 2 rfl) ?_
          obtain ⟨q15, hD⟩ := g_ck hD
          refine mr_aald C hw (by decide) tf_161 (by decide) (by decide) rfl rfl q15 (fr_161 _ (g_lt q15)).1 dX9_writeOctets_173 ?_
          refine lv_iload C.1.1 C.1.2.1 dX9_writeOctets_174 (lv_at hl 3 rfl) ?_
          refine lv_iload C.1.1 C.1.2.1 dX9_writeOctets_176 (lv_at hl 5 rfl) ?_
          refine lv_iadd C.1.1 C.1.2.1 dX9_writeOctets_178 ?_
          obtain ⟨q16, hD⟩ := g_ck hD
          refine mr_iald C hw (fr_161 _ (g_lt q15)).2.2 (fr_161 _ (g_lt q15)).2.1 q16 dX9_writeOctets_179 ?_
          refine lv_goto (tgt := 184) C.1.1 C.1.2.1 dX9_writeOctets_180 (by decide) ?_
          exact hb184 v2 v5 v6 v7 (1 + v7) (M (162 + v2.toNatClampNeg) (v5 + v7).toNatClampNeg) M L _ _ ls hD hw (lv_sub hl [1, 2, 3, 4, 5] rfl)
      have hb152 : ∀ (v2 : Int32) (v5 : Int32) (v6 : Int32) (v7 : Int32) (M : mwM) (L : mwL) (H : Heap) (locs : List Loc) (ls : Array Slot), fX9_writeOctets_b152 fu a1 (fX9_writeOctets_h113 fu a1 f113) v2 v5 v6 v7 M L = some (M0, L0) → mw_W G ad NF TF FF M L H locs → lv_has ls 9 [(0, .ref (ad 154)), (2, .int v2), (5, .int v5), (6, .int v6), (7, .int v7)] → W p l e ({ frames := 0, cells := 0, slots := 0, locals := 0 }) s m [.ref (ad 154), .int a1].toArray below meth c H locs 0 0 (MQ below (mw_Qv G ad NF TF FF (mw_eqV M0 L0)) [.ref (ad 154), .int a1].toArray s 0 0 (mw_fr G)) (F0 m 152 ls []) := by
        intro v2 v5 v6 v7 M L H locs ls hD hw hl
        unfold fX9_writeOctets_b152 at hD
        refine lv_iconst (v := 0) C.1.1 C.1.2.1 dX9_writeOctets_152 (by decide) ?_
        exact hb153 v2 v5 v6 v7 0 M L _ _ ls hD hw (lv_sub hl [0, 1, 2, 3, 4] rfl)
      unfold fX9_writeOctets_i113 at hD
      refine lv_iload C.1.1 C.1.2.1 dX9_writeOctets_113 (lv_at hl 4 rfl) ?_
      refine lv_bipush (v := 7) C.1.1 C.1.2.1 dX9_writeOctets_115 (by decide) ?_
      refine lv_icmp_ge (tgt := 191) C.1.1 C.1.2.1 dX9_writeOctets_117 (by decide) (fun c8 => ?_) (fun c8 => ?_)
      · replace hD := g_pos c8 hD
        exact mr_vret C hr hlocks hw (Option.some.inj hD) dX9_writeOctets_191
      · replace hD := g_neg c8 hD
        refine lv_iload C.1.1 C.1.2.1 dX9_writeOctets_120 (lv_at hl 4 rfl) ?_
        refine lv_iload C.1.1 C.1.2.1 dX9_writeOctets_122 (lv_at hl 3 rfl) ?_
        refine lv_icmp_ge (tgt := 152) C.1.1 C.1.2.1 dX9_writeOctets_124 (by decide) (fun c9 => ?_) (fun c9 => ?_)
        · replace hD := g_pos c9 hD
          exact hb152 v2 v5 v6 v7 M L _ _ ls hD hw (lv_sub hl [0, 1, 2, 3, 4] rfl)
        · replace hD := g_neg c9 hD
          refine lv_iload C.1.1 C.1.2.1 dX9_writeOctets_127 (lv_at hl 2 rfl) ?_
          refine lv_if_lt (tgt := 152) C.1.1 C.1.2.1 dX9_writeOctets_129 (by decide) (fun c10 => ?_) (fun c10 => ?_)
          · replace hD := g_pos c10 hD
            exact hb152 v2 v5 v6 v7 M L _ _ ls hD hw (lv_sub hl [0, 1, 2, 3, 4] rfl)
          · replace hD := g_neg c10 hD
            refine lv_iload C.1.1 C.1.2.1 dX9_writeOctets_132 (lv_at hl 2 rfl) ?_
            refine lv_iload C.1.1 C.1.2.1 dX9_writeOctets_134 (lv_at hl 4 rfl) ?_
            refine lv_iadd C.1.1 C.1.2.1 dX9_writeOctets_136 ?_
            refine lv_aload_n C.1.1 C.1.2.1 dX9_writeOctets_137 rfl (lv_at hl 0 rfl) ?_
            refine mr_getR C hw kc_9 0 (by decide) tf_154 ff_154_0 wd_358 dX9_writeOctets_138 (by decide) rfl ?_
            refine lv_iconst (v := 2) C.1.1 C.1.2.1 dX9_writeOctets_141 (by decide) ?_
            refine mr_aald C hw (by decide) tf_155 (by decide) (by decide) rfl rfl (show vp_in 2 5 from by unfold vp_in; decide) ff_155_2 dX9_writeOctets_142 ?_
            refine lv_iload_n C.1.1 C.1.2.1 dX9_writeOctets_143 rfl (lv_at hl 1 rfl) ?_
            obtain ⟨q12, hD⟩ := g_ck hD
            refine mr_iald C hw (by decide) tf_158 q12 dX9_writeOctets_144 ?_
            refine lv_icmp_ge (tgt := 152) C.1.1 C.1.2.1 dX9_writeOctets_145 (by decide) (fun c13 => ?_) (fun c13 => ?_)
            · replace hD := g_pos c13 hD
              exact hb152 v2 v5 v6 v7 M L _ _ ls hD hw (lv_sub hl [0, 1, 2, 3, 4] rfl)
            · replace hD := g_neg c13 hD
              refine lv_iconst (v := 1) C.1.1 C.1.2.1 dX9_writeOctets_148 (by decide) ?_
              refine lv_goto (tgt := 153) C.1.1 C.1.2.1 dX9_writeOctets_149 (by decide) ?_
              exact hb153 v2 v5 v6 v7 1 M L _ _ ls hD hw (lv_sub hl [0, 1, 2, 3, 4] rfl)
  have hb92 : ∀ (v2 : Int32) (v3 : Int32) (v4 : Int32) (v5 : Int32) (s0 : Int32) (M : mwM) (L : mwL) (H : Heap) (locs : List Loc) (ls : Array Slot), fX9_writeOctets_b92 fu a1 v2 v3 v4 v5 s0 M L = some (M0, L0) → mw_W G ad NF TF FF M L H locs → lv_has ls 9 [(0, .ref (ad 154)), (2, .int v2), (3, .int v3), (4, .int v4), (5, .int v5)] → W p l e ({ frames := 0, cells := 0, slots := 0, locals := 0 }) s m [.ref (ad 154), .int a1].toArray below meth c H locs 0 0 (MQ below (mw_Qv G ad NF TF FF (mw_eqV M0 L0)) [.ref (ad 154), .int a1].toArray s 0 0 (mw_fr G)) (F0 m 92 ls [.int s0]) := by
    intro v2 v3 v4 v5 s0 M L H locs ls hD hw hl
    unfold fX9_writeOctets_b92 at hD
    refine lv_istore (lv' := [(6, .int s0), (0, .ref (ad 154)), (2, .int v2), (3, .int v3), (4, .int v4), (5, .int v5)]) C.1.1 C.1.2.1 dX9_writeOctets_92 hl (by decide) rfl (fun ls hl => ?_)
    refine lv_aload_n C.1.1 C.1.2.1 dX9_writeOctets_94 rfl (lv_at hl 1 rfl) ?_
    refine mr_getR C hw kc_9 4 (by decide) tf_154 ff_154_4 wd_366 dX9_writeOctets_95 (by decide) rfl ?_
    refine lv_iconst (v := 0) C.1.1 C.1.2.1 dX9_writeOctets_98 (by decide) ?_
    refine lv_bipush (v := 16) C.1.1 C.1.2.1 dX9_writeOctets_99 (by decide) ?_
    refine lv_iload_n C.1.1 C.1.2.1 dX9_writeOctets_101 rfl (lv_at hl 3 rfl) ?_
    refine lv_imul C.1.1 C.1.2.1 dX9_writeOctets_102 ?_
    refine lv_iload C.1.1 C.1.2.1 dX9_writeOctets_103 (lv_at hl 4 rfl) ?_
    refine lv_bipush (v := 15) C.1.1 C.1.2.1 dX9_writeOctets_105 (by decide) ?_
    refine lv_iand C.1.1 C.1.2.1 dX9_writeOctets_107 ?_
    refine lv_iadd C.1.1 C.1.2.1 dX9_writeOctets_108 ?_
    obtain ⟨M7, eM7, hD⟩ := g_let hD
    refine mr_iast C hw (by decide) tf_274 (show vp_in 0 8 from by unfold vp_in; decide) dX9_writeOctets_109 (fun H locs hw => ?_)
    replace hw : mw_W G ad NF TF FF M7 L H locs := by rw [eM7]; exact hw
    refine lv_iconst (v := 0) C.1.1 C.1.2.1 dX9_writeOctets_110 (by decide) ?_
    refine lv_istore (lv' := [(7, .int 0), (6, .int s0), (0, .ref (ad 154)), (2, .int v2), (3, .int v3), (4, .int v4), (5, .int v5)]) C.1.1 C.1.2.1 dX9_writeOctets_111 hl (by decide) rfl (fun ls hl => ?_)
    exact hh113 fu v2 v5 s0 0 M7 L _ _ ls hD hw (lv_sub hl [2, 3, 6, 1, 0] rfl)
  have hb69 : ∀ (v2 : Int32) (v3 : Int32) (v4 : Int32) (s0 : Int32) (M : mwM) (L : mwL) (H : Heap) (locs : List Loc) (ls : Array Slot), fX9_writeOctets_b69 fu a1 v2 v3 v4 s0 M L = some (M0, L0) → mw_W G ad NF TF FF M L H locs → lv_has ls 9 [(0, .ref (ad 154)), (2, .int v2), (3, .int v3), (4, .int v4)] → W p l e ({ frames := 0, cells := 0, slots := 0, locals := 0 }) s m [.ref (ad 154), .int a1].toArray below meth c H locs 0 0 (MQ below (mw_Qv G ad NF TF FF (mw_eqV M0 L0)) [.ref (ad 154), .int a1].toArray s 0 0 (mw_fr G)) (F0 m 69 ls [.int s0]) := by
    intro v2 v3 v4 s0 M L H locs ls hD hw hl
    unfold fX9_writeOctets_b69 at hD
    refine lv_istore (lv' := [(5, .int s0), (0, .ref (ad 154)), (2, .int v2), (3, .int v3), (4, .int v4)]) C.1.1 C.1.2.1 dX9_writeOctets_69 hl (by decide) rfl (fun ls hl => ?_)
    refine lv_iload_n C.1.1 C.1.2.1 dX9_writeOctets_71 rfl (lv_at hl 3 rfl) ?_
    refine lv_iconst (v := 3) C.1.1 C.1.2.1 dX9_writeOctets_72 (by decide) ?_
    refine lv_icmp_ne (tgt := 80) C.1.1 C.1.2.1 dX9_writeOctets_73 (by decide) (fun c4 => ?_) (fun c4 => ?_)
    · replace hD := g_neg c4 hD
      refine lv_iload_n C.1.1 C.1.2.1 dX9_writeOctets_80 rfl (lv_at hl 3 rfl) ?_
      refine lv_iconst (v := 1) C.1.1 C.1.2.1 dX9_writeOctets_81 (by decide) ?_
      refine lv_icmp_ne (tgt := 90) C.1.1 C.1.2.1 dX9_writeOctets_82 (by decide) (fun c5 => ?_) (fun c5 => ?_)
      · replace hD := g_neg c5 hD
        refine lv_bipush (v := 7) C.1.1 C.1.2.1 dX9_writeOctets_90 (by decide) ?_
        exact hb92 v2 v3 v4 s0 7 M L _ _ ls hD hw (lv_sub hl [1, 2, 3, 4, 0] rfl)
      · replace hD := g_pos c5 hD
        refine lv_bipush (v := 6) C.1.1 C.1.2.1 dX9_writeOctets_85 (by decide) ?_
        refine lv_goto (tgt := 92) C.1.1 C.1.2.1 dX9_writeOctets_87 (by decide) ?_
        exact hb92 v2 v3 v4 s0 6 M L _ _ ls hD hw (lv_sub hl [1, 2, 3, 4, 0] rfl)
    · replace hD := g_pos c4 hD
      refine lv_iconst (v := 0) C.1.1 C.1.2.1 dX9_writeOctets_76 (by decide) ?_
      refine lv_goto (tgt := 92) C.1.1 C.1.2.1 dX9_writeOctets_77 (by decide) ?_
      exact hb92 v2 v3 v4 s0 0 M L _ _ ls hD hw (lv_sub hl [1, 2, 3, 4, 0] rfl)
  have hb42 : ∀ (v2 : Int32) (v3 : Int32) (s0 : Int32) (M : mwM) (L : mwL) (H : Heap) (locs : List Loc) (ls : Array Slot), fX9_writeOctets_b42 fu a1 v2 v3 s0 M L = some (M0, L0) → mw_W G ad NF TF FF M L H locs → lv_has ls 9 [(0, .ref (ad 154)), (1, .int a1), (2, .int v2), (3, .int v3)] → W p l e ({ frames := 0, cells := 0, slots := 0, locals := 0 }) s m [.ref (ad 154), .int a1].toArray below meth c H locs 0 0 (MQ below (mw_Qv G ad NF TF FF (mw_eqV M0 L0)) [.ref (ad 154), .int a1].toArray s 0 0 (mw_fr G)) (F0 m 42 ls [.int s0]) := by
    intro v2 v3 s0 M L H locs ls hD hw hl
    unfold fX9_writeOctets_b42 at hD
    refine lv_istore (lv' := [(4, .int s0), (0, .ref (ad 154)), (1, .int a1), (2, .int v2), (3, .int v3)]) C.1.1 C.1.2.1 dX9_writeOctets_42 hl (by decide) rfl (fun ls hl => ?_)
    refine lv_iload_n C.1.1 C.1.2.1 dX9_writeOctets_44 rfl (lv_at hl 4 rfl) ?_
    refine lv_iconst (v := 2) C.1.1 C.1.2.1 dX9_writeOctets_45 (by decide) ?_
    refine lv_icmp_ne (tgt := 68) C.1.1 C.1.2.1 dX9_writeOctets_46 (by decide) (fun c1 => ?_) (fun c1 => ?_)
    · replace hD := g_neg c1 hD
      refine lv_iconst (v := 0) C.1.1 C.1.2.1 dX9_writeOctets_68 (by decide) ?_
      exact hb69 v2 v3 s0 0 M L _ _ ls hD hw (lv_sub hl [1, 3, 4, 0] rfl)
    · replace hD := g_pos c1 hD
      refine lv_bipush (v := 6) C.1.1 C.1.2.1 dX9_writeOctets_49 (by decide) ?_
      refine lv_bipush (v := 7) C.1.1 C.1.2.1 dX9_writeOctets_51 (by decide) ?_
      refine lv_aload_n C.1.1 C.1.2.1 dX9_writeOctets_53 rfl (lv_at hl 1 rfl) ?_
      refine mr_getR C hw kc_9 3 (by decide) tf_154 ff_154_3 wd_365 dX9_writeOctets_54 (by decide) rfl ?_
      refine lv_iconst (v := 2) C.1.1 C.1.2.1 dX9_writeOctets_57 (by decide) ?_
      refine mr_aald C hw (by decide) tf_269 (by decide) (by decide) rfl rfl (show vp_in 2 4 from by unfold vp_in; decide) ff_269_2 dX9_writeOctets_58 ?_
      refine lv_iload_n C.1.1 C.1.2.1 dX9_writeOctets_59 rfl (lv_at hl 2 rfl) ?_
      obtain ⟨q3, hD⟩ := g_ck hD
      refine mr_iald C hw (by decide) tf_272 q3 dX9_writeOctets_60 ?_
      refine lv_iconst (v := 1) C.1.1 C.1.2.1 dX9_writeOctets_61 (by decide) ?_
      refine lv_isub C.1.1 C.1.2.1 dX9_writeOctets_62 ?_
      refine lv_imul C.1.1 C.1.2.1 dX9_writeOctets_63 ?_
      refine lv_iadd C.1.1 C.1.2.1 dX9_writeOctets_64 ?_
      refine lv_goto (tgt := 69) C.1.1 C.1.2.1 dX9_writeOctets_65 (by decide) ?_
      exact hb69 v2 v3 s0 (6 + (7 * ((M 272 a1.toNatClampNeg) - 1))) M L _ _ ls hD hw (lv_sub hl [1, 3, 4, 0] rfl)
  unfold DX9_writeOctets at hD
  refine lv_aload_n C.1.1 C.1.2.1 dX9_writeOctets_0 rfl (lv_at hl 0 rfl) ?_
  refine mr_getR C hw kc_9 3 (by decide) tf_154 ff_154_3 wd_365 dX9_writeOctets_1 (by decide) rfl ?_
  refine lv_iconst (v := 1) C.1.1 C.1.2.1 dX9_writeOctets_4 (by decide) ?_
  refine mr_aald C hw (by decide) tf_269 (by decide) (by decide) rfl rfl (show vp_in 1 4 from by unfold vp_in; decide) ff_269_1 dX9_writeOctets_5 ?_
  refine lv_iload_n C.1.1 C.1.2.1 dX9_writeOctets_6 rfl (lv_at hl 1 rfl) ?_
  obtain ⟨q21, hD⟩ := g_ck hD
  refine mr_iald C hw (by decide) tf_271 q21 dX9_writeOctets_7 ?_
  obtain ⟨x22, ex22, hD⟩ := g_let hD
  refine W.eq (g2 := F0 m 8 ls (.int x22 :: [])) (by rw [ex22]) ?_
  refine lv_istore_n (lv' := [(2, .int x22), (0, .ref (ad 154)), (1, .int a1)]) C.1.1 C.1.2.1 dX9_writeOctets_8 rfl hl (by decide) rfl (fun ls hl => ?_)
  refine lv_aload_n C.1.1 C.1.2.1 dX9_writeOctets_9 rfl (lv_at hl 1 rfl) ?_
  refine mr_getR C hw kc_9 3 (by decide) tf_154 ff_154_3 wd_365 dX9_writeOctets_10 (by decide) rfl ?_
  refine lv_iconst (v := 0) C.1.1 C.1.2.1 dX9_writeOctets_13 (by decide) ?_
  refine mr_aald C hw (by decide) tf_269 (by decide) (by decide) rfl rfl (show vp_in 0 4 from by unfold vp_in; decide) ff_269_0 dX9_writeOctets_14 ?_
  refine lv_iload_n C.1.1 C.1.2.1 dX9_writeOctets_15 rfl (lv_at hl 2 rfl) ?_
  obtain ⟨q24, hD⟩ := g_ck hD
  refine mr_iald C hw (by decide) tf_270 q24 dX9_writeOctets_16 ?_
  obtain ⟨x25, ex25, hD⟩ := g_let hD
  refine W.eq (g2 := F0 m 17 ls (.int x25 :: [])) (by rw [ex25]) ?_
  refine lv_istore_n (lv' := [(3, .int x25), (2, .int x22), (0, .ref (ad 154)), (1, .int a1)]) C.1.1 C.1.2.1 dX9_writeOctets_17 rfl hl (by decide) rfl (fun ls hl => ?_)
  refine lv_iload_n C.1.1 C.1.2.1 dX9_writeOctets_18 rfl (lv_at hl 0 rfl) ?_
  refine lv_iconst (v := 1) C.1.1 C.1.2.1 dX9_writeOctets_19 (by decide) ?_
  refine lv_icmp_ne (tgt := 34) C.1.1 C.1.2.1 dX9_writeOctets_20 (by decide) (fun c26 => ?_) (fun c26 => ?_)
  · replace hD := g_neg c26 hD
    refine lv_aload_n C.1.1 C.1.2.1 dX9_writeOctets_34 rfl (lv_at hl 2 rfl) ?_
    refine mr_getR C hw kc_9 3 (by decide) tf_154 ff_154_3 wd_365 dX9_writeOctets_35 (by decide) rfl ?_
    refine lv_iconst (v := 2) C.1.1 C.1.2.1 dX9_writeOctets_38 (by decide) ?_
    refine mr_aald C hw (by decide) tf_269 (by decide) (by decide) rfl rfl (show vp_in 2 4 from by unfold vp_in; decide) ff_269_2 dX9_writeOctets_39 ?_
    refine lv_iload_n C.1.1 C.1.2.1 dX9_writeOctets_40 rfl (lv_at hl 3 rfl) ?_
    obtain ⟨q28, hD⟩ := g_ck hD
    refine mr_iald C hw (by decide) tf_272 q28 dX9_writeOctets_41 ?_
    exact hb42 x22 x25 (M 272 a1.toNatClampNeg) M L _ _ ls hD hw (lv_sub hl [2, 3, 1, 0] rfl)
  · replace hD := g_pos c26 hD
    refine lv_aload_n C.1.1 C.1.2.1 dX9_writeOctets_23 rfl (lv_at hl 2 rfl) ?_
    refine mr_getR C hw kc_9 0 (by decide) tf_154 ff_154_0 wd_358 dX9_writeOctets_24 (by decide) rfl ?_
    refine lv_iconst (v := 2) C.1.1 C.1.2.1 dX9_writeOctets_27 (by decide) ?_
    refine mr_aald C hw (by decide) tf_155 (by decide) (by decide) rfl rfl (show vp_in 2 5 from by unfold vp_in; decide) ff_155_2 dX9_writeOctets_28 ?_
    refine lv_iload_n C.1.1 C.1.2.1 dX9_writeOctets_29 rfl (lv_at hl 1 rfl) ?_
    obtain ⟨q30, hD⟩ := g_ck hD
    refine mr_iald C hw (by decide) tf_158 q30 dX9_writeOctets_30 ?_
    refine lv_goto (tgt := 42) C.1.1 C.1.2.1 dX9_writeOctets_31 (by decide) ?_
    exact hb42 x22 x25 (M 158 x22.toNatClampNeg) M L _ _ ls hD hw (lv_sub hl [2, 3, 1, 0] rfl)
