theorem dX1_init_0 : decode cX1_init 0 = .ok (.aload_n 0, 1) := by decide +kernel
theorem dX1_init_1 : decode cX1_init 1 = .ok (.invokespecial 3, 3) := by decide +kernel
theorem dX1_init_4 : decode cX1_init 4 = .ok (.aload_n 0, 1) := by decide +kernel
theorem dX1_init_5 : decode cX1_init 5 = .ok (.bipush 12, 2) := by decide +kernel
theorem dX1_init_7 : decode cX1_init 7 = .ok (.anewarray 9, 3) := by decide +kernel
theorem dX1_init_10 : decode cX1_init 10 = .ok (.putfield 11, 3) := by decide +kernel
theorem dX1_init_13 : decode cX1_init 13 = .ok (.aload_n 0, 1) := by decide +kernel
theorem dX1_init_14 : decode cX1_init 14 = .ok (.new 17, 3) := by decide +kernel
theorem dX1_init_17 : decode cX1_init 17 = .ok (.dup, 1) := by decide +kernel
theorem dX1_init_18 : decode cX1_init 18 = .ok (.invokespecial 19, 3) := by decide +kernel
theorem dX1_init_21 : decode cX1_init 21 = .ok (.putfield 20, 3) := by decide +kernel
theorem dX1_init_24 : decode cX1_init 24 = .ok (.aload_n 0, 1) := by decide +kernel
theorem dX1_init_25 : decode cX1_init 25 = .ok (.new 24, 3) := by decide +kernel
theorem dX1_init_28 : decode cX1_init 28 = .ok (.dup, 1) := by decide +kernel
theorem dX1_init_29 : decode cX1_init 29 = .ok (.invokespecial 26, 3) := by decide +kernel
theorem dX1_init_32 : decode cX1_init 32 = .ok (.putfield 27, 3) := by decide +kernel
theorem dX1_init_35 : decode cX1_init 35 = .ok (.aload_n 0, 1) := by decide +kernel
theorem dX1_init_36 : decode cX1_init 36 = .ok (.new 31, 3) := by decide +kernel
theorem dX1_init_39 : decode cX1_init 39 = .ok (.dup, 1) := by decide +kernel
theorem dX1_init_40 : decode cX1_init 40 = .ok (.invokespecial 33, 3) := by decide +kernel
theorem dX1_init_43 : decode cX1_init 43 = .ok (.putfield 34, 3) := by decide +kernel
theorem dX1_init_46 : decode cX1_init 46 = .ok (.aload_n 0, 1) := by decide +kernel
theorem dX1_init_47 : decode cX1_init 47 = .ok (.new 38, 3) := by decide +kernel
theorem dX1_init_50 : decode cX1_init 50 = .ok (.dup, 1) := by decide +kernel
theorem dX1_init_51 : decode cX1_init 51 = .ok (.invokespecial 40, 3) := by decide +kernel
theorem dX1_init_54 : decode cX1_init 54 = .ok (.putfield 41, 3) := by decide +kernel
theorem dX1_init_57 : decode cX1_init 57 = .ok (.aload_n 0, 1) := by decide +kernel
theorem dX1_init_58 : decode cX1_init 58 = .ok (.new 45, 3) := by decide +kernel
theorem dX1_init_61 : decode cX1_init 61 = .ok (.dup, 1) := by decide +kernel
theorem dX1_init_62 : decode cX1_init 62 = .ok (.invokespecial 47, 3) := by decide +kernel
theorem dX1_init_65 : decode cX1_init 65 = .ok (.putfield 48, 3) := by decide +kernel
theorem dX1_init_68 : decode cX1_init 68 = .ok (.aload_n 0, 1) := by decide +kernel
theorem dX1_init_69 : decode cX1_init 69 = .ok (.new 52, 3) := by decide +kernel
theorem dX1_init_72 : decode cX1_init 72 = .ok (.dup, 1) := by decide +kernel
theorem dX1_init_73 : decode cX1_init 73 = .ok (.invokespecial 54, 3) := by decide +kernel
theorem dX1_init_76 : decode cX1_init 76 = .ok (.putfield 55, 3) := by decide +kernel
theorem dX1_init_79 : decode cX1_init 79 = .ok (.aload_n 0, 1) := by decide +kernel
theorem dX1_init_80 : decode cX1_init 80 = .ok (.new 59, 3) := by decide +kernel
theorem dX1_init_83 : decode cX1_init 83 = .ok (.dup, 1) := by decide +kernel
theorem dX1_init_84 : decode cX1_init 84 = .ok (.invokespecial 61, 3) := by decide +kernel
theorem dX1_init_87 : decode cX1_init 87 = .ok (.putfield 62, 3) := by decide +kernel
theorem dX1_init_90 : decode cX1_init 90 = .ok (.aload_n 0, 1) := by decide +kernel
theorem dX1_init_91 : decode cX1_init 91 = .ok (.bipush 12, 2) := by decide +kernel
theorem dX1_init_93 : decode cX1_init 93 = .ok (.newarray .int, 2) := by decide +kernel
theorem dX1_init_95 : decode cX1_init 95 = .ok (.putfield 66, 3) := by decide +kernel
theorem dX1_init_98 : decode cX1_init 98 = .ok (.aload_n 0, 1) := by decide +kernel
theorem dX1_init_99 : decode cX1_init 99 = .ok (.bipush 6, 2) := by decide +kernel
theorem dX1_init_101 : decode cX1_init 101 = .ok (.newarray .boolean, 2) := by decide +kernel
theorem dX1_init_103 : decode cX1_init 103 = .ok (.putfield 70, 3) := by decide +kernel
theorem dX1_init_106 : decode cX1_init 106 = .ok (.aload_n 0, 1) := by decide +kernel
theorem dX1_init_107 : decode cX1_init 107 = .ok (.iconst 5, 1) := by decide +kernel
theorem dX1_init_108 : decode cX1_init 108 = .ok (.bipush 60, 2) := by decide +kernel
theorem dX1_init_110 : decode cX1_init 110 = .ok (.multianewarray 74 2, 4) := by decide +kernel
theorem dX1_init_114 : decode cX1_init 114 = .ok (.putfield 76, 3) := by decide +kernel
theorem dX1_init_117 : decode cX1_init 117 = .ok (.aload_n 0, 1) := by decide +kernel
theorem dX1_init_118 : decode cX1_init 118 = .ok (.bipush 60, 2) := by decide +kernel
theorem dX1_init_120 : decode cX1_init 120 = .ok (.newarray .long, 2) := by decide +kernel
theorem dX1_init_122 : decode cX1_init 122 = .ok (.putfield 79, 3) := by decide +kernel
theorem dX1_init_125 : decode cX1_init 125 = .ok (.aload_n 0, 1) := by decide +kernel
theorem dX1_init_126 : decode cX1_init 126 = .ok (.iconst 5, 1) := by decide +kernel
theorem dX1_init_127 : decode cX1_init 127 = .ok (.newarray .int, 2) := by decide +kernel
theorem dX1_init_129 : decode cX1_init 129 = .ok (.putfield 83, 3) := by decide +kernel
theorem dX1_init_132 : decode cX1_init 132 = .ok (.iconst 0, 1) := by decide +kernel
theorem dX1_init_133 : decode cX1_init 133 = .ok (.istore_n 1, 1) := by decide +kernel
theorem dX1_init_134 : decode cX1_init 134 = .ok (.iload_n 1, 1) := by decide +kernel
theorem dX1_init_135 : decode cX1_init 135 = .ok (.bipush 12, 2) := by decide +kernel
theorem dX1_init_137 : decode cX1_init 137 = .ok (.if_icmp .ge 22, 3) := by decide +kernel
theorem dX1_init_140 : decode cX1_init 140 = .ok (.aload_n 0, 1) := by decide +kernel
theorem dX1_init_141 : decode cX1_init 141 = .ok (.getfield 11, 3) := by decide +kernel
theorem dX1_init_144 : decode cX1_init 144 = .ok (.iload_n 1, 1) := by decide +kernel
theorem dX1_init_145 : decode cX1_init 145 = .ok (.new 9, 3) := by decide +kernel
theorem dX1_init_148 : decode cX1_init 148 = .ok (.dup, 1) := by decide +kernel
theorem dX1_init_149 : decode cX1_init 149 = .ok (.invokespecial 86, 3) := by decide +kernel
theorem dX1_init_152 : decode cX1_init 152 = .ok (.aastore, 1) := by decide +kernel
theorem dX1_init_153 : decode cX1_init 153 = .ok (.iinc 1 1, 3) := by decide +kernel
theorem dX1_init_156 : decode cX1_init 156 = .ok (.goto (-22), 3) := by decide +kernel
theorem dX1_init_159 : decode cX1_init 159 = .ok (.return_, 1) := by decide +kernel
theorem cwX1_init : mw_cw yX1_init cX1_init 2 none 0 := ⟨wd_3, wd_51, by decide +kernel⟩
noncomputable def DX1_init (fu : Nat) (F : mwF) (M : mwM) (L : mwL) : Option (mwF × mwM × mwL) :=
  mlet (mz none F 4) (fun F1 => mlet (mset F1 3 0 (some 4)) (fun F2 => mlet (mz none F2 5) (fun F3 => mlet (mz 0 M 5) (fun M4 => mlet (mz 0 L 5) (fun L5 => mb3 (DX4_init fu F3 M4 L5) (fun F6 M7 L8 => mlet (mset F6 3 1 (some 5)) (fun F9 => mlet (mz none F9 20) (fun F10 => mlet (mz 0 M7 20) (fun M11 => mlet (mz 0 L8 20) (fun L12 => mb3 (DX0_init fu F10 M11 L12) (fun F13 M14 L15 => mlet (mset F13 3 2 (some 20)) (fun F16 => mlet (mz none F16 61) (fun F17 => mlet (mz 0 M14 61) (fun M18 => mlet (mz 0 L15 61) (fun L19 => mb3 (DX6_init fu F17 M18 L19) (fun F20 M21 L22 => mlet (mset F20 3 3 (some 61)) (fun F23 => mlet (mz none F23 97) (fun F24 => mlet (mz 0 M21 97) (fun M25 => mlet (mz 0 L22 97) (fun L26 => mb3 (DX3_init fu F24 M25 L26) (fun F27 M28 L29 => mlet (mset F27 3 4 (some 97)) (fun F30 => mlet (mz none F30 139) (fun F31 => mlet (mz 0 M28 139) (fun M32 => mlet (mz 0 L29 139) (fun L33 => mb3 (DX10_init fu F31 M32 L33) (fun F34 M35 L36 => mlet (mset F34 3 5 (some 139)) (fun F37 => mlet (mz none F37 154) (fun F38 => mlet (mz 0 M35 154) (fun M39 => mlet (mz 0 L36 154) (fun L40 => mb3 (DX9_init fu F38 M39 L40) (fun F41 M42 L43 => mlet (mset F41 3 6 (some 154)) (fun F44 => mlet (mz none F44 275) (fun F45 => mlet (mz 0 M42 275) (fun M46 => mlet (mz 0 L43 275) (fun L47 => mb3 (DX7_init fu F45 M46 L47) (fun F48 M49 L50 => mlet (mset F48 3 7 (some 275)) (fun F51 => mlet (mz 0 M49 283) (fun M52 => mlet (mset F51 3 8 (some 283)) (fun F53 => mlet (mz 0 M52 284) (fun M54 => mlet (mset F53 3 9 (some 284)) (fun F55 => mlet (mrow F55 285 5) (fun F56 => mlet (mzr M54 285 5) (fun M57 => mlet (mset F56 3 10 (some 285)) (fun F58 => mlet (mz 0 L50 291) (fun L59 => mlet (mset F58 3 11 (some 291)) (fun F60 => mlet (mz 0 M57 292) (fun M61 => mlet (mset F60 3 12 (some 292)) (fun F62 => mlet (mz none F62 293) (fun F63 => mlet (mz 0 M61 293) (fun M64 => mlet (mz 0 L59 293) (fun L65 => mb3 (DX2_init fu 293 F63 M64 L65) (fun F66 M67 L68 => mlet (mset F66 4 ((0 : Int32).toNatClampNeg) (some 293)) (fun F69 => mlet (mz none F69 329) (fun F70 => mlet (mz 0 M67 329) (fun M71 => mlet (mz 0 L68 329) (fun L72 => mb3 (DX2_init fu 329 F70 M71 L72) (fun F73 M74 L75 => mlet (mset F73 4 ((1 : Int32).toNatClampNeg) (some 329)) (fun F76 => mlet (mz none F76 365) (fun F77 => mlet (mz 0 M74 365) (fun M78 => mlet (mz 0 L75 365) (fun L79 => mb3 (DX2_init fu 365 F77 M78 L79) (fun F80 M81 L82 => mlet (mset F80 4 ((2 : Int32).toNatClampNeg) (some 365)) (fun F83 => mlet (mz none F83 401) (fun F84 => mlet (mz 0 M81 401) (fun M85 => mlet (mz 0 L82 401) (fun L86 => mb3 (DX2_init fu 401 F84 M85 L86) (fun F87 M88 L89 => mlet (mset F87 4 ((3 : Int32).toNatClampNeg) (some 401)) (fun F90 => mlet (mz none F90 437) (fun F91 => mlet (mz 0 M88 437) (fun M92 => mlet (mz 0 L89 437) (fun L93 => mb3 (DX2_init fu 437 F91 M92 L93) (fun F94 M95 L96 => mlet (mset F94 4 ((4 : Int32).toNatClampNeg) (some 437)) (fun F97 => mlet (mz none F97 473) (fun F98 => mlet (mz 0 M95 473) (fun M99 => mlet (mz 0 L96 473) (fun L100 => mb3 (DX2_init fu 473 F98 M99 L100) (fun F101 M102 L103 => mlet (mset F101 4 ((5 : Int32).toNatClampNeg) (some 473)) (fun F104 => mlet (mz none F104 509) (fun F105 => mlet (mz 0 M102 509) (fun M106 => mlet (mz 0 L103 509) (fun L107 => mb3 (DX2_init fu 509 F105 M106 L107) (fun F108 M109 L110 => mlet (mset F108 4 ((6 : Int32).toNatClampNeg) (some 509)) (fun F111 => mlet (mz none F111 545) (fun F112 => mlet (mz 0 M109 545) (fun M113 => mlet (mz 0 L110 545) (fun L114 => mb3 (DX2_init fu 545 F112 M113 L114) (fun F115 M116 L117 => mlet (mset F115 4 ((7 : Int32).toNatClampNeg) (some 545)) (fun F118 => mlet (mz none F118 581) (fun F119 => mlet (mz 0 M116 581) (fun M120 => mlet (mz 0 L117 581) (fun L121 => mb3 (DX2_init fu 581 F119 M120 L121) (fun F122 M123 L124 => mlet (mset F122 4 ((8 : Int32).toNatClampNeg) (some 581)) (fun F125 => mlet (mz none F125 617) (fun F126 => mlet (mz 0 M123 617) (fun M127 => mlet (mz 0 L124 617) (fun L128 => mb3 (DX2_init fu 617 F126 M127 L128) (fun F129 M130 L131 => mlet (mset F129 4 ((9 : Int32).toNatClampNeg) (some 617)) (fun F132 => mlet (mz none F132 653) (fun F133 => mlet (mz 0 M130 653) (fun M134 => mlet (mz 0 L131 653) (fun L135 => mb3 (DX2_init fu 653 F133 M134 L135) (fun F136 M137 L138 => mlet (mset F136 4 ((10 : Int32).toNatClampNeg) (some 653)) (fun F139 => mlet (mz none F139 689) (fun F140 => mlet (mz 0 M137 689) (fun M141 => mlet (mz 0 L138 689) (fun L142 => mb3 (DX2_init fu 689 F140 M141 L142) (fun F143 M144 L145 => mlet (mset F143 4 ((11 : Int32).toNatClampNeg) (some 689)) (fun F146 => some (F146, M144, L145)))))))))))))))))))))))))))))))))))))))))))))))))))))))))))))))))))))))))))))))))))))))))))))))))))))))))))))
set_option maxHeartbeats 4000000 in
theorem kX1_init {fu : Nat} {F : mwF} {M : mwM} {L : mwL} {FZ : mwF} {MZ : mwM} {LZ : mwL} (hD : DX1_init fu F M L = some (FZ, MZ, LZ)) : ∀ a j, (a < 3 ∨ 725 ≤ a) → FZ a j = F a j := by
  intro a j ha
  unfold DX1_init at hD
  obtain ⟨F1, eF1, hD⟩ := g_let hD
  obtain ⟨F2, eF2, hD⟩ := g_let hD
  obtain ⟨F3, eF3, hD⟩ := g_let hD
  obtain ⟨M4, eM4, hD⟩ := g_let hD
  obtain ⟨L5, eL5, hD⟩ := g_let hD
  obtain ⟨F6, M7, L8, hc6, hD⟩ := g_b3 hD
  have eF6 : ∀ a j, (a < 5 ∨ 20 ≤ a) → F6 a j = F3 a j := fun a j ha => kX4_init hc6 a j (by omega)
  obtain ⟨F9, eF9, hD⟩ := g_let hD
  obtain ⟨F10, eF10, hD⟩ := g_let hD
  obtain ⟨M11, eM11, hD⟩ := g_let hD
  obtain ⟨L12, eL12, hD⟩ := g_let hD
  obtain ⟨F13, M14, L15, hc13, hD⟩ := g_b3 hD
  have eF13 : ∀ a j, (a < 20 ∨ 61 ≤ a) → F13 a j = F10 a j := fun a j ha => kX0_init hc13 a j (by omega)
  obtain ⟨F16, eF16, hD⟩ := g_let hD
  obtain ⟨F17, eF17, hD⟩ := g_let hD
  obtain ⟨M18, eM18, hD⟩ := g_let hD
  obtain ⟨L19, eL19, hD⟩ := g_let hD
  obtain ⟨F20, M21, L22, hc20, hD⟩ := g_b3 hD
  have eF20 : ∀ a j, (a < 61 ∨ 97 ≤ a) → F20 a j = F17 a j := fun a j ha => kX6_init hc20 a j (by omega)
  obtain ⟨F23, eF23, hD⟩ := g_let hD
  obtain ⟨F24, eF24, hD⟩ := g_let hD
  obtain ⟨M25, eM25, hD⟩ := g_let hD
  obtain ⟨L26, eL26, hD⟩ := g_let hD
  obtain ⟨F27, M28, L29, hc27, hD⟩ := g_b3 hD
  have eF27 : ∀ a j, (a < 97 ∨ 139 ≤ a) → F27 a j = F24 a j := fun a j ha => kX3_init hc27 a j (by omega)
  obtain ⟨F30, eF30, hD⟩ := g_let hD
  obtain ⟨F31, eF31, hD⟩ := g_let hD
  obtain ⟨M32, eM32, hD⟩ := g_let hD
  obtain ⟨L33, eL33, hD⟩ := g_let hD
  obtain ⟨F34, M35, L36, hc34, hD⟩ := g_b3 hD
  have eF34 : ∀ a j, (a < 139 ∨ 154 ≤ a) → F34 a j = F31 a j := fun a j ha => kX10_init hc34 a j (by omega)
  obtain ⟨F37, eF37, hD⟩ := g_let hD
  obtain ⟨F38, eF38, hD⟩ := g_let hD
  obtain ⟨M39, eM39, hD⟩ := g_let hD
  obtain ⟨L40, eL40, hD⟩ := g_let hD
  obtain ⟨F41, M42, L43, hc41, hD⟩ := g_b3 hD
  have eF41 : ∀ a j, (a < 154 ∨ 275 ≤ a) → F41 a j = F38 a j := fun a j ha => kX9_init hc41 a j (by omega)
  obtain ⟨F44, eF44, hD⟩ := g_let hD
  obtain ⟨F45, eF45, hD⟩ := g_let hD
  obtain ⟨M46, eM46, hD⟩ := g_let hD
  obtain ⟨L47, eL47, hD⟩ := g_let hD
  obtain ⟨F48, M49, L50, hc48, hD⟩ := g_b3 hD
  have eF48 : ∀ a j, (a < 275 ∨ 283 ≤ a) → F48 a j = F45 a j := fun a j ha => kX7_init hc48 a j (by omega)
  obtain ⟨F51, eF51, hD⟩ := g_let hD
  obtain ⟨M52, eM52, hD⟩ := g_let hD
  obtain ⟨F53, eF53, hD⟩ := g_let hD
  obtain ⟨M54, eM54, hD⟩ := g_let hD
  obtain ⟨F55, eF55, hD⟩ := g_let hD
  obtain ⟨F56, eF56, hD⟩ := g_let hD
  obtain ⟨M57, eM57, hD⟩ := g_let hD
  obtain ⟨F58, eF58, hD⟩ := g_let hD
  obtain ⟨L59, eL59, hD⟩ := g_let hD
  obtain ⟨F60, eF60, hD⟩ := g_let hD
  obtain ⟨M61, eM61, hD⟩ := g_let hD
  obtain ⟨F62, eF62, hD⟩ := g_let hD
  obtain ⟨F63, eF63, hD⟩ := g_let hD
  obtain ⟨M64, eM64, hD⟩ := g_let hD
  obtain ⟨L65, eL65, hD⟩ := g_let hD
  obtain ⟨F66, M67, L68, hc66, hD⟩ := g_b3 hD
  have eF66 : ∀ a j, (a < 293 ∨ 329 ≤ a) → F66 a j = F63 a j := fun a j ha => kX2_init hc66 a j (by omega)
  obtain ⟨F69, eF69, hD⟩ := g_let hD
  obtain ⟨F70, eF70, hD⟩ := g_let hD
  obtain ⟨M71, eM71, hD⟩ := g_let hD
  obtain ⟨L72, eL72, hD⟩ := g_let hD
  obtain ⟨F73, M74, L75, hc73, hD⟩ := g_b3 hD
  have eF73 : ∀ a j, (a < 329 ∨ 365 ≤ a) → F73 a j = F70 a j := fun a j ha => kX2_init hc73 a j (by omega)
  obtain ⟨F76, eF76, hD⟩ := g_let hD
  obtain ⟨F77, eF77, hD⟩ := g_let hD
  obtain ⟨M78, eM78, hD⟩ := g_let hD
  obtain ⟨L79, eL79, hD⟩ := g_let hD
  obtain ⟨F80, M81, L82, hc80, hD⟩ := g_b3 hD
  have eF80 : ∀ a j, (a < 365 ∨ 401 ≤ a) → F80 a j = F77 a j := fun a j ha => kX2_init hc80 a j (by omega)
  obtain ⟨F83, eF83, hD⟩ := g_let hD
  obtain ⟨F84, eF84, hD⟩ := g_let hD
  obtain ⟨M85, eM85, hD⟩ := g_let hD
  obtain ⟨L86, eL86, hD⟩ := g_let hD
  obtain ⟨F87, M88, L89, hc87, hD⟩ := g_b3 hD
  have eF87 : ∀ a j, (a < 401 ∨ 437 ≤ a) → F87 a j = F84 a j := fun a j ha => kX2_init hc87 a j (by omega)
  obtain ⟨F90, eF90, hD⟩ := g_let hD
  obtain ⟨F91, eF91, hD⟩ := g_let hD
  obtain ⟨M92, eM92, hD⟩ := g_let hD
  obtain ⟨L93, eL93, hD⟩ := g_let hD
  obtain ⟨F94, M95, L96, hc94, hD⟩ := g_b3 hD
  have eF94 : ∀ a j, (a < 437 ∨ 473 ≤ a) → F94 a j = F91 a j := fun a j ha => kX2_init hc94 a j (by omega)
  obtain ⟨F97, eF97, hD⟩ := g_let hD
  obtain ⟨F98, eF98, hD⟩ := g_let hD
  obtain ⟨M99, eM99, hD⟩ := g_let hD
  obtain ⟨L100, eL100, hD⟩ := g_let hD
  obtain ⟨F101, M102, L103, hc101, hD⟩ := g_b3 hD
  have eF101 : ∀ a j, (a < 473 ∨ 509 ≤ a) → F101 a j = F98 a j := fun a j ha => kX2_init hc101 a j (by omega)
  obtain ⟨F104, eF104, hD⟩ := g_let hD
  obtain ⟨F105, eF105, hD⟩ := g_let hD
  obtain ⟨M106, eM106, hD⟩ := g_let hD
  obtain ⟨L107, eL107, hD⟩ := g_let hD
  obtain ⟨F108, M109, L110, hc108, hD⟩ := g_b3 hD
  have eF108 : ∀ a j, (a < 509 ∨ 545 ≤ a) → F108 a j = F105 a j := fun a j ha => kX2_init hc108 a j (by omega)
  obtain ⟨F111, eF111, hD⟩ := g_let hD
  obtain ⟨F112, eF112, hD⟩ := g_let hD
  obtain ⟨M113, eM113, hD⟩ := g_let hD
  obtain ⟨L114, eL114, hD⟩ := g_let hD
  obtain ⟨F115, M116, L117, hc115, hD⟩ := g_b3 hD
  have eF115 : ∀ a j, (a < 545 ∨ 581 ≤ a) → F115 a j = F112 a j := fun a j ha => kX2_init hc115 a j (by omega)
  obtain ⟨F118, eF118, hD⟩ := g_let hD
  obtain ⟨F119, eF119, hD⟩ := g_let hD
  obtain ⟨M120, eM120, hD⟩ := g_let hD
  obtain ⟨L121, eL121, hD⟩ := g_let hD
  obtain ⟨F122, M123, L124, hc122, hD⟩ := g_b3 hD
  have eF122 : ∀ a j, (a < 581 ∨ 617 ≤ a) → F122 a j = F119 a j := fun a j ha => kX2_init hc122 a j (by omega)
  obtain ⟨F125, eF125, hD⟩ := g_let hD
  obtain ⟨F126, eF126, hD⟩ := g_let hD
  obtain ⟨M127, eM127, hD⟩ := g_let hD
  obtain ⟨L128, eL128, hD⟩ := g_let hD
  obtain ⟨F129, M130, L131, hc129, hD⟩ := g_b3 hD
  have eF129 : ∀ a j, (a < 617 ∨ 653 ≤ a) → F129 a j = F126 a j := fun a j ha => kX2_init hc129 a j (by omega)
  obtain ⟨F132, eF132, hD⟩ := g_let hD
  obtain ⟨F133, eF133, hD⟩ := g_let hD
  obtain ⟨M134, eM134, hD⟩ := g_let hD
  obtain ⟨L135, eL135, hD⟩ := g_let hD
  obtain ⟨F136, M137, L138, hc136, hD⟩ := g_b3 hD
  have eF136 : ∀ a j, (a < 653 ∨ 689 ≤ a) → F136 a j = F133 a j := fun a j ha => kX2_init hc136 a j (by omega)
  obtain ⟨F139, eF139, hD⟩ := g_let hD
  obtain ⟨F140, eF140, hD⟩ := g_let hD
  obtain ⟨M141, eM141, hD⟩ := g_let hD
  obtain ⟨L142, eL142, hD⟩ := g_let hD
  obtain ⟨F143, M144, L145, hc143, hD⟩ := g_b3 hD
  have eF143 : ∀ a j, (a < 689 ∨ 725 ≤ a) → F143 a j = F140 a j := fun a j ha => kX2_init hc143 a j (by omega)
  obtain ⟨F146, eF146, hD⟩ := g_let hD
  have hf := congrArg (fun q => q.1) (Option.some.inj hD)
  dsimp only at hf
  rw [← hf]
  rw [eF146, mset_k (by omega)]
  rw [eF143 a j (by omega)]
  rw [eF140, mz_n (by omega)]
  rw [eF139, mset_k (by omega)]
  rw [eF136 a j (by omega)]
  rw [eF133, mz_n (by omega)]
  rw [eF132, mset_k (by omega)]
  rw [eF129 a j (by omega)]
  rw [eF126, mz_n (by omega)]
  rw [eF125, mset_k (by omega)]
  rw [eF122 a j (by omega)]
  rw [eF119, mz_n (by omega)]
  rw [eF118, mset_k (by omega)]
  rw [eF115 a j (by omega)]
  rw [eF112, mz_n (by omega)]
  rw [eF111, mset_k (by omega)]
  rw [eF108 a j (by omega)]
  rw [eF105, mz_n (by omega)]
  rw [eF104, mset_k (by omega)]
  rw [eF101 a j (by omega)]
  rw [eF98, mz_n (by omega)]
  rw [eF97, mset_k (by omega)]
  rw [eF94 a j (by omega)]
  rw [eF91, mz_n (by omega)]
  rw [eF90, mset_k (by omega)]
  rw [eF87 a j (by omega)]
  rw [eF84, mz_n (by omega)]
  rw [eF83, mset_k (by omega)]
  rw [eF80 a j (by omega)]
  rw [eF77, mz_n (by omega)]
  rw [eF76, mset_k (by omega)]
  rw [eF73 a j (by omega)]
  rw [eF70, mz_n (by omega)]
  rw [eF69, mset_k (by omega)]
  rw [eF66 a j (by omega)]
  rw [eF63, mz_n (by omega)]
  rw [eF62, mset_k (by omega)]
  rw [eF60, mset_k (by omega)]
  rw [eF58, mset_k (by omega)]
  rw [eF56, mrow_n (by omega)]
  rw [eF55, mset_k (by omega)]
  rw [eF53, mset_k (by omega)]
  rw [eF51, mset_k (by omega)]
  rw [eF48 a j (by omega)]
  rw [eF45, mz_n (by omega)]
  rw [eF44, mset_k (by omega)]
  rw [eF41 a j (by omega)]
  rw [eF38, mz_n (by omega)]
  rw [eF37, mset_k (by omega)]
  rw [eF34 a j (by omega)]
  rw [eF31, mz_n (by omega)]
  rw [eF30, mset_k (by omega)]
  rw [eF27 a j (by omega)]
  rw [eF24, mz_n (by omega)]
  rw [eF23, mset_k (by omega)]
  rw [eF20 a j (by omega)]
  rw [eF17, mz_n (by omega)]
  rw [eF16, mset_k (by omega)]
  rw [eF13 a j (by omega)]
  rw [eF10, mz_n (by omega)]
  rw [eF9, mset_k (by omega)]
  rw [eF6 a j (by omega)]
  rw [eF3, mz_n (by omega)]
  rw [eF2, mset_k (by omega)]
  rw [eF1, mz_n (by omega)]
set_option maxHeartbeats 4000000 in
set_option maxRecDepth 100000 in
theorem tX1_init (l : Launch) (G : mwG) (fu : Nat) (F : mwF) (M : mwM) (L : mwL) {FZ : mwF} {MZ : mwM} {LZ : mwL} (hD : DX1_init fu F M L = some (FZ, MZ, LZ)) : Met l yX1_init (Cond.code yX1_init cX1_init 2 none :: GT) ({ frames := 5, cells := 721, slots := 219940, locals := 143 }) (mw_PreC G 4 F M L [.ref (mw_ad G 3)]) (mw_QC G 725 FZ MZ LZ) 721 219940 (mw_fr G) := by
  refine mw_enterC (by decide) (Nat.le_of_ble_eq_true rfl) ?_
  intro p e s m below meth c ls C A hr hlocks hnm hw hs0 hl
  have hl : lv_has ls 2 [(0, .ref (mw_ad G 3))] := hl
  unfold DX1_init at hD
  refine lv_aload_n C.1.1 C.1.2.1 dX1_init_0 rfl (lv_at hl 0 rfl) ?_
  refine W.objInit C.1.1 C.1.2.1 C.1.2.2.2.1 (C.1.2.2.2.2 _ wd_52) (C.1.2.2.2.2 _ wd_39) (C.1.2.2.2.2 _ wd_40) rfl (by rw [C.1.2.2.1]; exact hl.1) rfl dX1_init_1 (Nat.le_of_ble_eq_true rfl) (Nat.le_of_ble_eq_true rfl) ?_
  refine W.eq (g2 := F0 m 4 ls []) rfl ?_
  refine lv_aload_n C.1.1 C.1.2.1 dX1_init_4 rfl (lv_at hl 0 rfl) ?_
  refine lv_bipush (v := 12) C.1.1 C.1.2.1 dX1_init_5 (by decide) ?_
  refine mw_size hw (by omega) (fun hs => ?_)
  obtain ⟨F1, eF1, hD⟩ := g_let hD
  refine mr_anew (t := 7) (n := 12) C hw hs tf_4 (by decide) (by decide) rfl wd_53 (A (.object "CarHouse$Chart") (by decide)) (by decide) (by decide) (by decide) (Nat.le_of_ble_eq_true rfl) (Nat.le_of_ble_eq_true rfl) dX1_init_7 (fun H hw _ => ?_)
  replace hw : mw_W G (mw_ad G) 5 TF F1 M L H [] := by rw [eF1]; exact hw
  refine W.widen (k := 1) (n := 12) (Nat.le_of_ble_eq_true rfl) (Nat.le_of_ble_eq_true rfl) ?_
  obtain ⟨F2, eF2, hD⟩ := g_let hD
  refine mr_putFR C hw kc_1 0 (by omega) tf_3 wd_510 dX1_init_10 (by decide) rfl rfl hnm rfl rfl rfl (fun H locs hw => ?_)
  replace hw : mw_W G (mw_ad G) 5 TF F2 M L H locs := by rw [eF2]; exact hw
  refine lv_aload_n C.1.1 C.1.2.1 dX1_init_13 rfl (lv_at hl 0 rfl) ?_
  refine mw_size hw (by omega) (fun hs => ?_)
  obtain ⟨F3, eF3, hD⟩ := g_let hD
  obtain ⟨M4, eM4, hD⟩ := g_let hD
  obtain ⟨L5, eL5, hD⟩ := g_let hD
  refine mr_new C hw hs kc_4 tf_5 wd_55 wd_56 wd_4 (by decide +kernel) (Nat.le_of_ble_eq_true rfl) (Nat.le_of_ble_eq_true rfl) dX1_init_14 (fun H hw _ => ?_)
  replace hw : mw_W G (mw_ad G) 6 TF F3 M4 L5 H locs := by rw [eF3, eM4, eL5]; exact hw
  refine W.widen (k := 2) (n := 19) (Nat.le_of_ble_eq_true rfl) (Nat.le_of_ble_eq_true rfl) ?_
  refine lv_dup C.1.1 C.1.2.1 dX1_init_17 rfl ?_
  obtain ⟨F6, M7, L8, hc6, hD⟩ := g_b3 hD
  have eF6 : ∀ a j, (a < 5 ∨ 20 ≤ a) → F6 a j = F3 a j := fun a j ha => kX4_init hc6 a j (by omega)
  refine mw_size hw (by omega) (fun hs => ?_)
  refine mc_initN (k := 5) (rest := [.ref (mw_ad G 5), .ref (mw_ad G 3)]) C A hw hs (tX4_init l G fu F3 M4 L5 hc6) nd_57 wd_58 cwX4_init rfl rfl rfl ⟨Nat.le_of_ble_eq_true rfl, Nat.le_of_ble_eq_true rfl⟩ hl.1 (Nat.le_of_ble_eq_true rfl) dX1_init_18 ⟨Nat.le_of_ble_eq_true rfl, Nat.le_of_ble_eq_true rfl⟩ (fun H locs hw _ => ?_)
  replace hw : mw_W G (mw_ad G) 20 TF F6 M7 L8 H locs := hw
  refine W.widen (k := 16) (n := 20168) (Nat.le_of_ble_eq_true rfl) (Nat.le_of_ble_eq_true rfl) ?_
  obtain ⟨F9, eF9, hD⟩ := g_let hD
  refine mr_putFR C hw kc_1 1 (by omega) tf_3 wd_514 dX1_init_21 (by decide) rfl rfl hnm rfl rfl rfl (fun H locs hw => ?_)
  replace hw : mw_W G (mw_ad G) 20 TF F9 M7 L8 H locs := by rw [eF9]; exact hw
  refine lv_aload_n C.1.1 C.1.2.1 dX1_init_24 rfl (lv_at hl 0 rfl) ?_
  refine mw_size hw (by omega) (fun hs => ?_)
  obtain ⟨F10, eF10, hD⟩ := g_let hD
  obtain ⟨M11, eM11, hD⟩ := g_let hD
  obtain ⟨L12, eL12, hD⟩ := g_let hD
  refine mr_new C hw hs kc_0 tf_20 wd_92 wd_93 wd_5 (by decide +kernel) (Nat.le_of_ble_eq_true rfl) (Nat.le_of_ble_eq_true rfl) dX1_init_25 (fun H hw _ => ?_)
  replace hw : mw_W G (mw_ad G) 21 TF F10 M11 L12 H locs := by rw [eF10, eM11, eL12]; exact hw
  refine W.widen (k := 17) (n := 20182) (Nat.le_of_ble_eq_true rfl) (Nat.le_of_ble_eq_true rfl) ?_
  refine lv_dup C.1.1 C.1.2.1 dX1_init_28 rfl ?_
  obtain ⟨F13, M14, L15, hc13, hD⟩ := g_b3 hD
  have eF13 : ∀ a j, (a < 20 ∨ 61 ≤ a) → F13 a j = F10 a j := fun a j ha => kX0_init hc13 a j (by omega)
  refine mw_size hw (by omega) (fun hs => ?_)
  refine mc_init (k := 20) (rest := [.ref (mw_ad G 20), .ref (mw_ad G 3)]) C A hw hs (tX0_init l G fu F10 M11 L12 hc13) wd_94 wd_95 cwX0_init rfl rfl rfl ⟨Nat.le_of_ble_eq_true rfl, Nat.le_of_ble_eq_true rfl⟩ hl.1 (Nat.le_of_ble_eq_true rfl) dX1_init_29 ⟨Nat.le_of_ble_eq_true rfl, Nat.le_of_ble_eq_true rfl⟩ (fun H locs hw _ => ?_)
  replace hw : mw_W G (mw_ad G) 61 TF F13 M14 L15 H locs := hw
  refine W.widen (k := 57) (n := 81538) (Nat.le_of_ble_eq_true rfl) (Nat.le_of_ble_eq_true rfl) ?_
  obtain ⟨F16, eF16, hD⟩ := g_let hD
  refine mr_putFR C hw kc_1 2 (by omega) tf_3 wd_517 dX1_init_32 (by decide) rfl rfl hnm rfl rfl rfl (fun H locs hw => ?_)
  replace hw : mw_W G (mw_ad G) 61 TF F16 M14 L15 H locs := by rw [eF16]; exact hw
  refine lv_aload_n C.1.1 C.1.2.1 dX1_init_35 rfl (lv_at hl 0 rfl) ?_
  refine mw_size hw (by omega) (fun hs => ?_)
  obtain ⟨F17, eF17, hD⟩ := g_let hD
  obtain ⟨M18, eM18, hD⟩ := g_let hD
  obtain ⟨L19, eL19, hD⟩ := g_let hD
  refine mr_new C hw hs kc_6 tf_61 wd_221 wd_222 wd_7 (by decide +kernel) (Nat.le_of_ble_eq_true rfl) (Nat.le_of_ble_eq_true rfl) dX1_init_36 (fun H hw _ => ?_)
  replace hw : mw_W G (mw_ad G) 62 TF F17 M18 L19 H locs := by rw [eF17, eM18, eL19]; exact hw
  refine W.widen (k := 58) (n := 81553) (Nat.le_of_ble_eq_true rfl) (Nat.le_of_ble_eq_true rfl) ?_
  refine lv_dup C.1.1 C.1.2.1 dX1_init_39 rfl ?_
  obtain ⟨F20, M21, L22, hc20, hD⟩ := g_b3 hD
  have eF20 : ∀ a j, (a < 61 ∨ 97 ≤ a) → F20 a j = F17 a j := fun a j ha => kX6_init hc20 a j (by omega)
  refine mw_size hw (by omega) (fun hs => ?_)
  refine mc_initN (k := 61) (rest := [.ref (mw_ad G 61), .ref (mw_ad G 3)]) C A hw hs (tX6_init l G fu F17 M18 L19 hc20) nd_223 wd_224 cwX6_init rfl rfl rfl ⟨Nat.le_of_ble_eq_true rfl, Nat.le_of_ble_eq_true rfl⟩ hl.1 (Nat.le_of_ble_eq_true rfl) dX1_init_40 ⟨Nat.le_of_ble_eq_true rfl, Nat.le_of_ble_eq_true rfl⟩ (fun H locs hw _ => ?_)
  replace hw : mw_W G (mw_ad G) 97 TF F20 M21 L22 H locs := hw
  refine W.widen (k := 93) (n := 83838) (Nat.le_of_ble_eq_true rfl) (Nat.le_of_ble_eq_true rfl) ?_
  obtain ⟨F23, eF23, hD⟩ := g_let hD
  refine mr_putFR C hw kc_1 3 (by omega) tf_3 wd_519 dX1_init_43 (by decide) rfl rfl hnm rfl rfl rfl (fun H locs hw => ?_)
  replace hw : mw_W G (mw_ad G) 97 TF F23 M21 L22 H locs := by rw [eF23]; exact hw
  refine lv_aload_n C.1.1 C.1.2.1 dX1_init_46 rfl (lv_at hl 0 rfl) ?_
  refine mw_size hw (by omega) (fun hs => ?_)
  obtain ⟨F24, eF24, hD⟩ := g_let hD
  obtain ⟨M25, eM25, hD⟩ := g_let hD
  obtain ⟨L26, eL26, hD⟩ := g_let hD
  refine mr_new C hw hs kc_3 tf_97 wd_284 wd_285 wd_8 (by decide +kernel) (Nat.le_of_ble_eq_true rfl) (Nat.le_of_ble_eq_true rfl) dX1_init_47 (fun H hw _ => ?_)
  replace hw : mw_W G (mw_ad G) 98 TF F24 M25 L26 H locs := by rw [eF24, eM25, eL26]; exact hw
  refine W.widen (k := 94) (n := 83845) (Nat.le_of_ble_eq_true rfl) (Nat.le_of_ble_eq_true rfl) ?_
  refine lv_dup C.1.1 C.1.2.1 dX1_init_50 rfl ?_
  obtain ⟨F27, M28, L29, hc27, hD⟩ := g_b3 hD
  have eF27 : ∀ a j, (a < 97 ∨ 139 ≤ a) → F27 a j = F24 a j := fun a j ha => kX3_init hc27 a j (by omega)
  refine mw_size hw (by omega) (fun hs => ?_)
  refine mc_init (k := 97) (rest := [.ref (mw_ad G 97), .ref (mw_ad G 3)]) C A hw hs (tX3_init l G fu F24 M25 L26 hc27) wd_286 wd_287 cwX3_init rfl rfl rfl ⟨Nat.le_of_ble_eq_true rfl, Nat.le_of_ble_eq_true rfl⟩ hl.1 (Nat.le_of_ble_eq_true rfl) dX1_init_51 ⟨Nat.le_of_ble_eq_true rfl, Nat.le_of_ble_eq_true rfl⟩ (fun H locs hw _ => ?_)
  replace hw : mw_W G (mw_ad G) 139 TF F27 M28 L29 H locs := hw
  refine W.widen (k := 135) (n := 87704) (Nat.le_of_ble_eq_true rfl) (Nat.le_of_ble_eq_true rfl) ?_
  obtain ⟨F30, eF30, hD⟩ := g_let hD
  refine mr_putFR C hw kc_1 4 (by omega) tf_3 wd_522 dX1_init_54 (by decide) rfl rfl hnm rfl rfl rfl (fun H locs hw => ?_)
  replace hw : mw_W G (mw_ad G) 139 TF F30 M28 L29 H locs := by rw [eF30]; exact hw
  refine lv_aload_n C.1.1 C.1.2.1 dX1_init_57 rfl (lv_at hl 0 rfl) ?_
  refine mw_size hw (by omega) (fun hs => ?_)
  obtain ⟨F31, eF31, hD⟩ := g_let hD
  obtain ⟨M32, eM32, hD⟩ := g_let hD
  obtain ⟨L33, eL33, hD⟩ := g_let hD
  refine mr_new C hw hs kc_10 tf_139 wd_321 wd_322 wd_9 (by decide +kernel) (Nat.le_of_ble_eq_true rfl) (Nat.le_of_ble_eq_true rfl) dX1_init_58 (fun H hw _ => ?_)
  replace hw : mw_W G (mw_ad G) 140 TF F31 M32 L33 H locs := by rw [eF31, eM32, eL33]; exact hw
  refine W.widen (k := 136) (n := 87710) (Nat.le_of_ble_eq_true rfl) (Nat.le_of_ble_eq_true rfl) ?_
  refine lv_dup C.1.1 C.1.2.1 dX1_init_61 rfl ?_
  obtain ⟨F34, M35, L36, hc34, hD⟩ := g_b3 hD
  have eF34 : ∀ a j, (a < 139 ∨ 154 ≤ a) → F34 a j = F31 a j := fun a j ha => kX10_init hc34 a j (by omega)
  refine mw_size hw (by omega) (fun hs => ?_)
  refine mc_initN (k := 139) (rest := [.ref (mw_ad G 139), .ref (mw_ad G 3)]) C A hw hs (tX10_init l G fu F31 M32 L33 hc34) nd_323 wd_324 cwX10_init rfl rfl rfl ⟨Nat.le_of_ble_eq_true rfl, Nat.le_of_ble_eq_true rfl⟩ hl.1 (Nat.le_of_ble_eq_true rfl) dX1_init_62 ⟨Nat.le_of_ble_eq_true rfl, Nat.le_of_ble_eq_true rfl⟩ (fun H locs hw _ => ?_)
  replace hw : mw_W G (mw_ad G) 154 TF F34 M35 L36 H locs := hw
  refine W.widen (k := 150) (n := 88090) (Nat.le_of_ble_eq_true rfl) (Nat.le_of_ble_eq_true rfl) ?_
  obtain ⟨F37, eF37, hD⟩ := g_let hD
  refine mr_putFR C hw kc_1 5 (by omega) tf_3 wd_524 dX1_init_65 (by decide) rfl rfl hnm rfl rfl rfl (fun H locs hw => ?_)
  replace hw : mw_W G (mw_ad G) 154 TF F37 M35 L36 H locs := by rw [eF37]; exact hw
  refine lv_aload_n C.1.1 C.1.2.1 dX1_init_68 rfl (lv_at hl 0 rfl) ?_
  refine mw_size hw (by omega) (fun hs => ?_)
  obtain ⟨F38, eF38, hD⟩ := g_let hD
  obtain ⟨M39, eM39, hD⟩ := g_let hD
  obtain ⟨L40, eL40, hD⟩ := g_let hD
  refine mr_new C hw hs kc_9 tf_154 wd_351 wd_352 wd_10 (by decide +kernel) (Nat.le_of_ble_eq_true rfl) (Nat.le_of_ble_eq_true rfl) dX1_init_69 (fun H hw _ => ?_)
  replace hw : mw_W G (mw_ad G) 155 TF F38 M39 L40 H locs := by rw [eF38, eM39, eL40]; exact hw
  refine W.widen (k := 151) (n := 88101) (Nat.le_of_ble_eq_true rfl) (Nat.le_of_ble_eq_true rfl) ?_
  refine lv_dup C.1.1 C.1.2.1 dX1_init_72 rfl ?_
  obtain ⟨F41, M42, L43, hc41, hD⟩ := g_b3 hD
  have eF41 : ∀ a j, (a < 154 ∨ 275 ≤ a) → F41 a j = F38 a j := fun a j ha => kX9_init hc41 a j (by omega)
  refine mw_size hw (by omega) (fun hs => ?_)
  refine mc_initN (k := 154) (rest := [.ref (mw_ad G 154), .ref (mw_ad G 3)]) C A hw hs (tX9_init l G fu F38 M39 L40 hc41) nd_353 wd_354 cwX9_init rfl rfl rfl ⟨Nat.le_of_ble_eq_true rfl, Nat.le_of_ble_eq_true rfl⟩ hl.1 (Nat.le_of_ble_eq_true rfl) dX1_init_73 ⟨Nat.le_of_ble_eq_true rfl, Nat.le_of_ble_eq_true rfl⟩ (fun H locs hw _ => ?_)
  replace hw : mw_W G (mw_ad G) 275 TF F41 M42 L43 H locs := hw
  refine W.widen (k := 271) (n := 105249) (Nat.le_of_ble_eq_true rfl) (Nat.le_of_ble_eq_true rfl) ?_
  obtain ⟨F44, eF44, hD⟩ := g_let hD
  refine mr_putFR C hw kc_1 6 (by omega) tf_3 wd_528 dX1_init_76 (by decide) rfl rfl hnm rfl rfl rfl (fun H locs hw => ?_)
  replace hw : mw_W G (mw_ad G) 275 TF F44 M42 L43 H locs := by rw [eF44]; exact hw
  refine lv_aload_n C.1.1 C.1.2.1 dX1_init_79 rfl (lv_at hl 0 rfl) ?_
  refine mw_size hw (by omega) (fun hs => ?_)
  obtain ⟨F45, eF45, hD⟩ := g_let hD
  obtain ⟨M46, eM46, hD⟩ := g_let hD
  obtain ⟨L47, eL47, hD⟩ := g_let hD
  refine mr_new C hw hs kc_7 tf_275 wd_401 wd_402 wd_11 (by decide +kernel) (Nat.le_of_ble_eq_true rfl) (Nat.le_of_ble_eq_true rfl) dX1_init_80 (fun H hw _ => ?_)
  replace hw : mw_W G (mw_ad G) 276 TF F45 M46 L47 H locs := by rw [eF45, eM46, eL47]; exact hw
  refine W.widen (k := 272) (n := 105258) (Nat.le_of_ble_eq_true rfl) (Nat.le_of_ble_eq_true rfl) ?_
  refine lv_dup C.1.1 C.1.2.1 dX1_init_83 rfl ?_
  obtain ⟨F48, M49, L50, hc48, hD⟩ := g_b3 hD
  have eF48 : ∀ a j, (a < 275 ∨ 283 ≤ a) → F48 a j = F45 a j := fun a j ha => kX7_init hc48 a j (by omega)
  refine mw_size hw (by omega) (fun hs => ?_)
  refine mc_initN (k := 275) (rest := [.ref (mw_ad G 275), .ref (mw_ad G 3)]) C A hw hs (tX7_init l G fu F45 M46 L47 hc48) nd_403 wd_404 cwX7_init rfl rfl rfl ⟨Nat.le_of_ble_eq_true rfl, Nat.le_of_ble_eq_true rfl⟩ hl.1 (Nat.le_of_ble_eq_true rfl) dX1_init_84 ⟨Nat.le_of_ble_eq_true rfl, Nat.le_of_ble_eq_true rfl⟩ (fun H locs hw _ => ?_)
  replace hw : mw_W G (mw_ad G) 283 TF F48 M49 L50 H locs := hw
  refine W.widen (k := 279) (n := 105312) (Nat.le_of_ble_eq_true rfl) (Nat.le_of_ble_eq_true rfl) ?_
  obtain ⟨F51, eF51, hD⟩ := g_let hD
  refine mr_putFR C hw kc_1 7 (by omega) tf_3 wd_530 dX1_init_87 (by decide) rfl rfl hnm rfl rfl rfl (fun H locs hw => ?_)
  replace hw : mw_W G (mw_ad G) 283 TF F51 M49 L50 H locs := by rw [eF51]; exact hw
  refine lv_aload_n C.1.1 C.1.2.1 dX1_init_90 rfl (lv_at hl 0 rfl) ?_
  refine lv_bipush (v := 12) C.1.1 C.1.2.1 dX1_init_91 (by decide) ?_
  refine mw_size hw (by omega) (fun hs => ?_)
  obtain ⟨M52, eM52, hD⟩ := g_let hD
  refine mr_newI (atype := .int) (t := 0) (n := 12) C hw hs tf_283 (by decide) rfl wd_91 rfl (fun _ => rfl) (by decide) (by decide) (by decide) (Nat.le_of_ble_eq_true rfl) (Nat.le_of_ble_eq_true rfl) dX1_init_93 (fun H hw _ => ?_)
  replace hw : mw_W G (mw_ad G) 284 TF F51 M52 L50 H locs := by rw [eM52]; exact hw
  refine W.widen (k := 280) (n := 105324) (Nat.le_of_ble_eq_true rfl) (Nat.le_of_ble_eq_true rfl) ?_
  obtain ⟨F53, eF53, hD⟩ := g_let hD
  refine mr_putFR C hw kc_1 8 (by omega) tf_3 wd_531 dX1_init_95 (by decide) rfl rfl hnm rfl rfl rfl (fun H locs hw => ?_)
  replace hw : mw_W G (mw_ad G) 284 TF F53 M52 L50 H locs := by rw [eF53]; exact hw
  refine lv_aload_n C.1.1 C.1.2.1 dX1_init_98 rfl (lv_at hl 0 rfl) ?_
  refine lv_bipush (v := 6) C.1.1 C.1.2.1 dX1_init_99 (by decide) ?_
  refine mw_size hw (by omega) (fun hs => ?_)
  obtain ⟨M54, eM54, hD⟩ := g_let hD
  refine mr_newI (atype := .boolean) (t := 2) (n := 6) C hw hs tf_284 (by decide) rfl wd_320 rfl (fun _ => rfl) (by decide) (by decide) (by decide) (Nat.le_of_ble_eq_true rfl) (Nat.le_of_ble_eq_true rfl) dX1_init_101 (fun H hw _ => ?_)
  replace hw : mw_W G (mw_ad G) 285 TF F53 M54 L50 H locs := by rw [eM54]; exact hw
  refine W.widen (k := 281) (n := 105330) (Nat.le_of_ble_eq_true rfl) (Nat.le_of_ble_eq_true rfl) ?_
  obtain ⟨F55, eF55, hD⟩ := g_let hD
  refine mr_putFR C hw kc_1 9 (by omega) tf_3 wd_533 dX1_init_103 (by decide) rfl rfl hnm rfl rfl rfl (fun H locs hw => ?_)
  replace hw : mw_W G (mw_ad G) 285 TF F55 M54 L50 H locs := by rw [eF55]; exact hw
  refine lv_aload_n C.1.1 C.1.2.1 dX1_init_106 rfl (lv_at hl 0 rfl) ?_
  refine lv_iconst (v := 5) C.1.1 C.1.2.1 dX1_init_107 (by decide) ?_
  refine lv_bipush (v := 60) C.1.1 C.1.2.1 dX1_init_108 (by decide) ?_
  refine mw_size hw (by omega) (fun hs => ?_)
  obtain ⟨F56, eF56, hD⟩ := g_let hD
  obtain ⟨M57, eM57, hD⟩ := g_let hD
  refine mr_mna (n := 5) (k := 60) C hw hs tf_285 (fun i hi => (fr_285 i hi).2.1) wd_437 (A (.array .int) (by decide)) wd_91 (by decide) (by decide) (by decide) (by decide) (by decide) (by decide) (Nat.le_of_ble_eq_true rfl) (Nat.le_of_ble_eq_true rfl) dX1_init_110 (fun H hw _ => ?_)
  replace hw : mw_W G (mw_ad G) 291 TF F56 M57 L50 H locs := by rw [eF56, eM57]; exact hw
  refine W.widen (k := 287) (n := 105635) (Nat.le_of_ble_eq_true rfl) (Nat.le_of_ble_eq_true rfl) ?_
  obtain ⟨F58, eF58, hD⟩ := g_let hD
  refine mr_putFR C hw kc_1 10 (by omega) tf_3 wd_535 dX1_init_114 (by decide) rfl rfl hnm rfl rfl rfl (fun H locs hw => ?_)
  replace hw : mw_W G (mw_ad G) 291 TF F58 M57 L50 H locs := by rw [eF58]; exact hw
  refine lv_aload_n C.1.1 C.1.2.1 dX1_init_117 rfl (lv_at hl 0 rfl) ?_
  refine lv_bipush (v := 60) C.1.1 C.1.2.1 dX1_init_118 (by decide) ?_
  refine mw_size hw (by omega) (fun hs => ?_)
  obtain ⟨L59, eL59, hD⟩ := g_let hD
  refine mr_newL (n := 60) C hw hs tf_291 wd_509 (by decide) (by decide) (by decide) (Nat.le_of_ble_eq_true rfl) (Nat.le_of_ble_eq_true rfl) dX1_init_120 (fun H hw _ => ?_)
  replace hw : mw_W G (mw_ad G) 292 TF F58 M57 L59 H locs := by rw [eL59]; exact hw
  refine W.widen (k := 288) (n := 105695) (Nat.le_of_ble_eq_true rfl) (Nat.le_of_ble_eq_true rfl) ?_
  obtain ⟨F60, eF60, hD⟩ := g_let hD
  refine mr_putFR C hw kc_1 11 (by omega) tf_3 wd_536 dX1_init_122 (by decide) rfl rfl hnm rfl rfl rfl (fun H locs hw => ?_)
  replace hw : mw_W G (mw_ad G) 292 TF F60 M57 L59 H locs := by rw [eF60]; exact hw
  refine lv_aload_n C.1.1 C.1.2.1 dX1_init_125 rfl (lv_at hl 0 rfl) ?_
  refine lv_iconst (v := 5) C.1.1 C.1.2.1 dX1_init_126 (by decide) ?_
  refine mw_size hw (by omega) (fun hs => ?_)
  obtain ⟨M61, eM61, hD⟩ := g_let hD
  refine mr_newI (atype := .int) (t := 0) (n := 5) C hw hs tf_292 (by decide) rfl wd_91 rfl (fun _ => rfl) (by decide) (by decide) (by decide) (Nat.le_of_ble_eq_true rfl) (Nat.le_of_ble_eq_true rfl) dX1_init_127 (fun H hw _ => ?_)
  replace hw : mw_W G (mw_ad G) 293 TF F60 M61 L59 H locs := by rw [eM61]; exact hw
  refine W.widen (k := 289) (n := 105700) (Nat.le_of_ble_eq_true rfl) (Nat.le_of_ble_eq_true rfl) ?_
  obtain ⟨F62, eF62, hD⟩ := g_let hD
  refine mr_putFR C hw kc_1 12 (by omega) tf_3 wd_537 dX1_init_129 (by decide) rfl rfl hnm rfl rfl rfl (fun H locs hw => ?_)
  replace hw : mw_W G (mw_ad G) 293 TF F62 M61 L59 H locs := by rw [eF62]; exact hw
  refine lv_iconst (v := 0) C.1.1 C.1.2.1 dX1_init_132 (by decide) ?_
  refine lv_istore_n (lv' := [(1, .int 0), (0, .ref (mw_ad G 3))]) C.1.1 C.1.2.1 dX1_init_133 rfl hl (by decide) rfl (fun ls hl => ?_)
  refine lv_iload_n C.1.1 C.1.2.1 dX1_init_134 rfl (lv_at hl 0 rfl) ?_
  refine lv_bipush (v := 12) C.1.1 C.1.2.1 dX1_init_135 (by decide) ?_
  refine lv_icmp_ge (tgt := 159) C.1.1 C.1.2.1 dX1_init_137 (by decide) (fun q => absurd q (by decide)) (fun _ => ?_)
  refine lv_aload_n C.1.1 C.1.2.1 dX1_init_140 rfl (lv_at hl 1 rfl) ?_
  refine mr_getR C hw kc_1 0 (by omega) tf_3 (show F62 3 0 = some 4 by (rw [eF62, mset_j (by decide)]; rw [eF60, mset_j (by decide)]; rw [eF58, mset_j (by decide)]; rw [eF56, mrow_n (by omega)]; rw [eF55, mset_j (by decide)]; rw [eF53, mset_j (by decide)]; rw [eF51, mset_j (by decide)]; rw [eF48 3 0 (by omega)]; rw [eF45, mz_n (by omega)]; rw [eF44, mset_j (by decide)]; rw [eF41 3 0 (by omega)]; rw [eF38, mz_n (by omega)]; rw [eF37, mset_j (by decide)]; rw [eF34 3 0 (by omega)]; rw [eF31, mz_n (by omega)]; rw [eF30, mset_j (by decide)]; rw [eF27 3 0 (by omega)]; rw [eF24, mz_n (by omega)]; rw [eF23, mset_j (by decide)]; rw [eF20 3 0 (by omega)]; rw [eF17, mz_n (by omega)]; rw [eF16, mset_j (by decide)]; rw [eF13 3 0 (by omega)]; rw [eF10, mz_n (by omega)]; rw [eF9, mset_j (by decide)]; rw [eF6 3 0 (by omega)]; rw [eF3, mz_n (by omega)]; rw [eF2]; exact mset_s)) wd_510 dX1_init_141 (by decide) rfl ?_
  refine lv_iload_n C.1.1 C.1.2.1 dX1_init_144 rfl (lv_at hl 0 rfl) ?_
  refine mw_size hw (by omega) (fun hs => ?_)
  obtain ⟨F63, eF63, hD⟩ := g_let hD
  obtain ⟨M64, eM64, hD⟩ := g_let hD
  obtain ⟨L65, eL65, hD⟩ := g_let hD
  refine mr_new C hw hs kc_2 (Ch_T0 (isCh_of (x := 0) (by decide))) wd_53 wd_438 wd_12 (by decide +kernel) (Nat.le_of_ble_eq_true rfl) (Nat.le_of_ble_eq_true rfl) dX1_init_145 (fun H hw _ => ?_)
  replace hw : mw_W G (mw_ad G) 294 TF F63 M64 L65 H locs := by rw [eF63, eM64, eL65]; exact hw
  refine W.widen (k := 290) (n := 105717) (Nat.le_of_ble_eq_true rfl) (Nat.le_of_ble_eq_true rfl) ?_
  refine lv_dup C.1.1 C.1.2.1 dX1_init_148 rfl ?_
  obtain ⟨F66, M67, L68, hc66, hD⟩ := g_b3 hD
  have eF66 : ∀ a j, (a < 293 ∨ 329 ≤ a) → F66 a j = F63 a j := fun a j ha => kX2_init hc66 a j (by omega)
  refine mw_size hw (by omega) (fun hs => ?_)
  refine mc_initN (k := 293) (rest := [.ref (mw_ad G 293), .int 0, .ref (mw_ad G 4)]) C A hw hs (tX2_init l G fu 293 F63 M64 L65 hc66 (isCh_of (x := 0) (by decide))) nd_439 wd_440 cwX2_init rfl rfl rfl ⟨Nat.le_of_ble_eq_true rfl, Nat.le_of_ble_eq_true rfl⟩ hl.1 (Nat.le_of_ble_eq_true rfl) dX1_init_149 ⟨Nat.le_of_ble_eq_true rfl, Nat.le_of_ble_eq_true rfl⟩ (fun H locs hw _ => ?_)
  replace hw : mw_W G (mw_ad G) 329 TF F66 M67 L68 H locs := hw
  refine W.widen (k := 325) (n := 115220) (Nat.le_of_ble_eq_true rfl) (Nat.le_of_ble_eq_true rfl) ?_
  obtain ⟨F69, eF69, hD⟩ := g_let hD
  refine mr_aast (t := 7) (n := 12) C hw (by omega) tf_4 (by decide) (by decide) rfl kc_2 (by omega) (Ch_T0 (isCh_of (x := 0) (by decide))) (show vp_in 0 12 from by unfold vp_in; decide) dX1_init_152 (fun H locs hw => ?_)
  replace hw : mw_W G (mw_ad G) 329 TF F69 M67 L68 H locs := by rw [eF69]; exact hw
  refine lv_iinc (v := 1) (lv' := [(1, .int 1), (0, .ref (mw_ad G 3))]) C.1.1 C.1.2.1 dX1_init_153 hl (k := 0) rfl (by decide) (by decide) rfl (fun ls hl => ?_)
  refine lv_goto (tgt := 134) C.1.1 C.1.2.1 dX1_init_156 (by decide) ?_
  refine lv_iload_n C.1.1 C.1.2.1 dX1_init_134 rfl (lv_at hl 0 rfl) ?_
  refine lv_bipush (v := 12) C.1.1 C.1.2.1 dX1_init_135 (by decide) ?_
  refine lv_icmp_ge (tgt := 159) C.1.1 C.1.2.1 dX1_init_137 (by decide) (fun q => absurd q (by decide)) (fun _ => ?_)
  refine lv_aload_n C.1.1 C.1.2.1 dX1_init_140 rfl (lv_at hl 1 rfl) ?_
  refine mr_getR C hw kc_1 0 (by omega) tf_3 (show F69 3 0 = some 4 by (rw [eF69, mset_k (by omega)]; rw [eF66 3 0 (by omega)]; rw [eF63, mz_n (by omega)]; rw [eF62, mset_j (by decide)]; rw [eF60, mset_j (by decide)]; rw [eF58, mset_j (by decide)]; rw [eF56, mrow_n (by omega)]; rw [eF55, mset_j (by decide)]; rw [eF53, mset_j (by decide)]; rw [eF51, mset_j (by decide)]; rw [eF48 3 0 (by omega)]; rw [eF45, mz_n (by omega)]; rw [eF44, mset_j (by decide)]; rw [eF41 3 0 (by omega)]; rw [eF38, mz_n (by omega)]; rw [eF37, mset_j (by decide)]; rw [eF34 3 0 (by omega)]; rw [eF31, mz_n (by omega)]; rw [eF30, mset_j (by decide)]; rw [eF27 3 0 (by omega)]; rw [eF24, mz_n (by omega)]; rw [eF23, mset_j (by decide)]; rw [eF20 3 0 (by omega)]; rw [eF17, mz_n (by omega)]; rw [eF16, mset_j (by decide)]; rw [eF13 3 0 (by omega)]; rw [eF10, mz_n (by omega)]; rw [eF9, mset_j (by decide)]; rw [eF6 3 0 (by omega)]; rw [eF3, mz_n (by omega)]; rw [eF2]; exact mset_s)) wd_510 dX1_init_141 (by decide) rfl ?_
  refine lv_iload_n C.1.1 C.1.2.1 dX1_init_144 rfl (lv_at hl 0 rfl) ?_
  refine mw_size hw (by omega) (fun hs => ?_)
  obtain ⟨F70, eF70, hD⟩ := g_let hD
  obtain ⟨M71, eM71, hD⟩ := g_let hD
  obtain ⟨L72, eL72, hD⟩ := g_let hD
  refine mr_new C hw hs kc_2 (Ch_T0 (isCh_of (x := 1) (by decide))) wd_53 wd_438 wd_12 (by decide +kernel) (Nat.le_of_ble_eq_true rfl) (Nat.le_of_ble_eq_true rfl) dX1_init_145 (fun H hw _ => ?_)
  replace hw : mw_W G (mw_ad G) 330 TF F70 M71 L72 H locs := by rw [eF70, eM71, eL72]; exact hw
  refine W.widen (k := 326) (n := 115237) (Nat.le_of_ble_eq_true rfl) (Nat.le_of_ble_eq_true rfl) ?_
  refine lv_dup C.1.1 C.1.2.1 dX1_init_148 rfl ?_
  obtain ⟨F73, M74, L75, hc73, hD⟩ := g_b3 hD
  have eF73 : ∀ a j, (a < 329 ∨ 365 ≤ a) → F73 a j = F70 a j := fun a j ha => kX2_init hc73 a j (by omega)
  refine mw_size hw (by omega) (fun hs => ?_)
  refine mc_initN (k := 329) (rest := [.ref (mw_ad G 329), .int 1, .ref (mw_ad G 4)]) C A hw hs (tX2_init l G fu 329 F70 M71 L72 hc73 (isCh_of (x := 1) (by decide))) nd_439 wd_440 cwX2_init rfl rfl rfl ⟨Nat.le_of_ble_eq_true rfl, Nat.le_of_ble_eq_true rfl⟩ hl.1 (Nat.le_of_ble_eq_true rfl) dX1_init_149 ⟨Nat.le_of_ble_eq_true rfl, Nat.le_of_ble_eq_true rfl⟩ (fun H locs hw _ => ?_)
  replace hw : mw_W G (mw_ad G) 365 TF F73 M74 L75 H locs := hw
  refine W.widen (k := 361) (n := 124740) (Nat.le_of_ble_eq_true rfl) (Nat.le_of_ble_eq_true rfl) ?_
  obtain ⟨F76, eF76, hD⟩ := g_let hD
  refine mr_aast (t := 7) (n := 12) C hw (by omega) tf_4 (by decide) (by decide) rfl kc_2 (by omega) (Ch_T0 (isCh_of (x := 1) (by decide))) (show vp_in 1 12 from by unfold vp_in; decide) dX1_init_152 (fun H locs hw => ?_)
  replace hw : mw_W G (mw_ad G) 365 TF F76 M74 L75 H locs := by rw [eF76]; exact hw
  refine lv_iinc (v := 2) (lv' := [(1, .int 2), (0, .ref (mw_ad G 3))]) C.1.1 C.1.2.1 dX1_init_153 hl (k := 0) rfl (by decide) (by decide) rfl (fun ls hl => ?_)
  refine lv_goto (tgt := 134) C.1.1 C.1.2.1 dX1_init_156 (by decide) ?_
  refine lv_iload_n C.1.1 C.1.2.1 dX1_init_134 rfl (lv_at hl 0 rfl) ?_
  refine lv_bipush (v := 12) C.1.1 C.1.2.1 dX1_init_135 (by decide) ?_
  refine lv_icmp_ge (tgt := 159) C.1.1 C.1.2.1 dX1_init_137 (by decide) (fun q => absurd q (by decide)) (fun _ => ?_)
  refine lv_aload_n C.1.1 C.1.2.1 dX1_init_140 rfl (lv_at hl 1 rfl) ?_
  refine mr_getR C hw kc_1 0 (by omega) tf_3 (show F76 3 0 = some 4 by (rw [eF76, mset_k (by omega)]; rw [eF73 3 0 (by omega)]; rw [eF70, mz_n (by omega)]; rw [eF69, mset_k (by omega)]; rw [eF66 3 0 (by omega)]; rw [eF63, mz_n (by omega)]; rw [eF62, mset_j (by decide)]; rw [eF60, mset_j (by decide)]; rw [eF58, mset_j (by decide)]; rw [eF56, mrow_n (by omega)]; rw [eF55, mset_j (by decide)]; rw [eF53, mset_j (by decide)]; rw [eF51, mset_j (by decide)]; rw [eF48 3 0 (by omega)]; rw [eF45, mz_n (by omega)]; rw [eF44, mset_j (by decide)]; rw [eF41 3 0 (by omega)]; rw [eF38, mz_n (by omega)]; rw [eF37, mset_j (by decide)]; rw [eF34 3 0 (by omega)]; rw [eF31, mz_n (by omega)]; rw [eF30, mset_j (by decide)]; rw [eF27 3 0 (by omega)]; rw [eF24, mz_n (by omega)]; rw [eF23, mset_j (by decide)]; rw [eF20 3 0 (by omega)]; rw [eF17, mz_n (by omega)]; rw [eF16, mset_j (by decide)]; rw [eF13 3 0 (by omega)]; rw [eF10, mz_n (by omega)]; rw [eF9, mset_j (by decide)]; rw [eF6 3 0 (by omega)]; rw [eF3, mz_n (by omega)]; rw [eF2]; exact mset_s)) wd_510 dX1_init_141 (by decide) rfl ?_
  refine lv_iload_n C.1.1 C.1.2.1 dX1_init_144 rfl (lv_at hl 0 rfl) ?_
  refine mw_size hw (by omega) (fun hs => ?_)
  obtain ⟨F77, eF77, hD⟩ := g_let hD
  obtain ⟨M78, eM78, hD⟩ := g_let hD
  obtain ⟨L79, eL79, hD⟩ := g_let hD
  refine mr_new C hw hs kc_2 (Ch_T0 (isCh_of (x := 2) (by decide))) wd_53 wd_438 wd_12 (by decide +kernel) (Nat.le_of_ble_eq_true rfl) (Nat.le_of_ble_eq_true rfl) dX1_init_145 (fun H hw _ => ?_)
  replace hw : mw_W G (mw_ad G) 366 TF F77 M78 L79 H locs := by rw [eF77, eM78, eL79]; exact hw
  refine W.widen (k := 362) (n := 124757) (Nat.le_of_ble_eq_true rfl) (Nat.le_of_ble_eq_true rfl) ?_
  refine lv_dup C.1.1 C.1.2.1 dX1_init_148 rfl ?_
  obtain ⟨F80, M81, L82, hc80, hD⟩ := g_b3 hD
  have eF80 : ∀ a j, (a < 365 ∨ 401 ≤ a) → F80 a j = F77 a j := fun a j ha => kX2_init hc80 a j (by omega)
  refine mw_size hw (by omega) (fun hs => ?_)
  refine mc_initN (k := 365) (rest := [.ref (mw_ad G 365), .int 2, .ref (mw_ad G 4)]) C A hw hs (tX2_init l G fu 365 F77 M78 L79 hc80 (isCh_of (x := 2) (by decide))) nd_439 wd_440 cwX2_init rfl rfl rfl ⟨Nat.le_of_ble_eq_true rfl, Nat.le_of_ble_eq_true rfl⟩ hl.1 (Nat.le_of_ble_eq_true rfl) dX1_init_149 ⟨Nat.le_of_ble_eq_true rfl, Nat.le_of_ble_eq_true rfl⟩ (fun H locs hw _ => ?_)
  replace hw : mw_W G (mw_ad G) 401 TF F80 M81 L82 H locs := hw
  refine W.widen (k := 397) (n := 134260) (Nat.le_of_ble_eq_true rfl) (Nat.le_of_ble_eq_true rfl) ?_
  obtain ⟨F83, eF83, hD⟩ := g_let hD
  refine mr_aast (t := 7) (n := 12) C hw (by omega) tf_4 (by decide) (by decide) rfl kc_2 (by omega) (Ch_T0 (isCh_of (x := 2) (by decide))) (show vp_in 2 12 from by unfold vp_in; decide) dX1_init_152 (fun H locs hw => ?_)
  replace hw : mw_W G (mw_ad G) 401 TF F83 M81 L82 H locs := by rw [eF83]; exact hw
  refine lv_iinc (v := 3) (lv' := [(1, .int 3), (0, .ref (mw_ad G 3))]) C.1.1 C.1.2.1 dX1_init_153 hl (k := 0) rfl (by decide) (by decide) rfl (fun ls hl => ?_)
  refine lv_goto (tgt := 134) C.1.1 C.1.2.1 dX1_init_156 (by decide) ?_
  refine lv_iload_n C.1.1 C.1.2.1 dX1_init_134 rfl (lv_at hl 0 rfl) ?_
  refine lv_bipush (v := 12) C.1.1 C.1.2.1 dX1_init_135 (by decide) ?_
  refine lv_icmp_ge (tgt := 159) C.1.1 C.1.2.1 dX1_init_137 (by decide) (fun q => absurd q (by decide)) (fun _ => ?_)
  refine lv_aload_n C.1.1 C.1.2.1 dX1_init_140 rfl (lv_at hl 1 rfl) ?_
  refine mr_getR C hw kc_1 0 (by omega) tf_3 (show F83 3 0 = some 4 by (rw [eF83, mset_k (by omega)]; rw [eF80 3 0 (by omega)]; rw [eF77, mz_n (by omega)]; rw [eF76, mset_k (by omega)]; rw [eF73 3 0 (by omega)]; rw [eF70, mz_n (by omega)]; rw [eF69, mset_k (by omega)]; rw [eF66 3 0 (by omega)]; rw [eF63, mz_n (by omega)]; rw [eF62, mset_j (by decide)]; rw [eF60, mset_j (by decide)]; rw [eF58, mset_j (by decide)]; rw [eF56, mrow_n (by omega)]; rw [eF55, mset_j (by decide)]; rw [eF53, mset_j (by decide)]; rw [eF51, mset_j (by decide)]; rw [eF48 3 0 (by omega)]; rw [eF45, mz_n (by omega)]; rw [eF44, mset_j (by decide)]; rw [eF41 3 0 (by omega)]; rw [eF38, mz_n (by omega)]; rw [eF37, mset_j (by decide)]; rw [eF34 3 0 (by omega)]; rw [eF31, mz_n (by omega)]; rw [eF30, mset_j (by decide)]; rw [eF27 3 0 (by omega)]; rw [eF24, mz_n (by omega)]; rw [eF23, mset_j (by decide)]; rw [eF20 3 0 (by omega)]; rw [eF17, mz_n (by omega)]; rw [eF16, mset_j (by decide)]; rw [eF13 3 0 (by omega)]; rw [eF10, mz_n (by omega)]; rw [eF9, mset_j (by decide)]; rw [eF6 3 0 (by omega)]; rw [eF3, mz_n (by omega)]; rw [eF2]; exact mset_s)) wd_510 dX1_init_141 (by decide) rfl ?_
  refine lv_iload_n C.1.1 C.1.2.1 dX1_init_144 rfl (lv_at hl 0 rfl) ?_
  refine mw_size hw (by omega) (fun hs => ?_)
  obtain ⟨F84, eF84, hD⟩ := g_let hD
  obtain ⟨M85, eM85, hD⟩ := g_let hD
  obtain ⟨L86, eL86, hD⟩ := g_let hD
  refine mr_new C hw hs kc_2 (Ch_T0 (isCh_of (x := 3) (by decide))) wd_53 wd_438 wd_12 (by decide +kernel) (Nat.le_of_ble_eq_true rfl) (Nat.le_of_ble_eq_true rfl) dX1_init_145 (fun H hw _ => ?_)
  replace hw : mw_W G (mw_ad G) 402 TF F84 M85 L86 H locs := by rw [eF84, eM85, eL86]; exact hw
  refine W.widen (k := 398) (n := 134277) (Nat.le_of_ble_eq_true rfl) (Nat.le_of_ble_eq_true rfl) ?_
  refine lv_dup C.1.1 C.1.2.1 dX1_init_148 rfl ?_
  obtain ⟨F87, M88, L89, hc87, hD⟩ := g_b3 hD
  have eF87 : ∀ a j, (a < 401 ∨ 437 ≤ a) → F87 a j = F84 a j := fun a j ha => kX2_init hc87 a j (by omega)
  refine mw_size hw (by omega) (fun hs => ?_)
  refine mc_initN (k := 401) (rest := [.ref (mw_ad G 401), .int 3, .ref (mw_ad G 4)]) C A hw hs (tX2_init l G fu 401 F84 M85 L86 hc87 (isCh_of (x := 3) (by decide))) nd_439 wd_440 cwX2_init rfl rfl rfl ⟨Nat.le_of_ble_eq_true rfl, Nat.le_of_ble_eq_true rfl⟩ hl.1 (Nat.le_of_ble_eq_true rfl) dX1_init_149 ⟨Nat.le_of_ble_eq_true rfl, Nat.le_of_ble_eq_true rfl⟩ (fun H locs hw _ => ?_)
  replace hw : mw_W G (mw_ad G) 437 TF F87 M88 L89 H locs := hw
  refine W.widen (k := 433) (n := 143780) (Nat.le_of_ble_eq_true rfl) (Nat.le_of_ble_eq_true rfl) ?_
  obtain ⟨F90, eF90, hD⟩ := g_let hD
  refine mr_aast (t := 7) (n := 12) C hw (by omega) tf_4 (by decide) (by decide) rfl kc_2 (by omega) (Ch_T0 (isCh_of (x := 3) (by decide))) (show vp_in 3 12 from by unfold vp_in; decide) dX1_init_152 (fun H locs hw => ?_)
  replace hw : mw_W G (mw_ad G) 437 TF F90 M88 L89 H locs := by rw [eF90]; exact hw
  refine lv_iinc (v := 4) (lv' := [(1, .int 4), (0, .ref (mw_ad G 3))]) C.1.1 C.1.2.1 dX1_init_153 hl (k := 0) rfl (by decide) (by decide) rfl (fun ls hl => ?_)
  refine lv_goto (tgt := 134) C.1.1 C.1.2.1 dX1_init_156 (by decide) ?_
  refine lv_iload_n C.1.1 C.1.2.1 dX1_init_134 rfl (lv_at hl 0 rfl) ?_
  refine lv_bipush (v := 12) C.1.1 C.1.2.1 dX1_init_135 (by decide) ?_
  refine lv_icmp_ge (tgt := 159) C.1.1 C.1.2.1 dX1_init_137 (by decide) (fun q => absurd q (by decide)) (fun _ => ?_)
  refine lv_aload_n C.1.1 C.1.2.1 dX1_init_140 rfl (lv_at hl 1 rfl) ?_
  refine mr_getR C hw kc_1 0 (by omega) tf_3 (show F90 3 0 = some 4 by (rw [eF90, mset_k (by omega)]; rw [eF87 3 0 (by omega)]; rw [eF84, mz_n (by omega)]; rw [eF83, mset_k (by omega)]; rw [eF80 3 0 (by omega)]; rw [eF77, mz_n (by omega)]; rw [eF76, mset_k (by omega)]; rw [eF73 3 0 (by omega)]; rw [eF70, mz_n (by omega)]; rw [eF69, mset_k (by omega)]; rw [eF66 3 0 (by omega)]; rw [eF63, mz_n (by omega)]; rw [eF62, mset_j (by decide)]; rw [eF60, mset_j (by decide)]; rw [eF58, mset_j (by decide)]; rw [eF56, mrow_n (by omega)]; rw [eF55, mset_j (by decide)]; rw [eF53, mset_j (by decide)]; rw [eF51, mset_j (by decide)]; rw [eF48 3 0 (by omega)]; rw [eF45, mz_n (by omega)]; rw [eF44, mset_j (by decide)]; rw [eF41 3 0 (by omega)]; rw [eF38, mz_n (by omega)]; rw [eF37, mset_j (by decide)]; rw [eF34 3 0 (by omega)]; rw [eF31, mz_n (by omega)]; rw [eF30, mset_j (by decide)]; rw [eF27 3 0 (by omega)]; rw [eF24, mz_n (by omega)]; rw [eF23, mset_j (by decide)]; rw [eF20 3 0 (by omega)]; rw [eF17, mz_n (by omega)]; rw [eF16, mset_j (by decide)]; rw [eF13 3 0 (by omega)]; rw [eF10, mz_n (by omega)]; rw [eF9, mset_j (by decide)]; rw [eF6 3 0 (by omega)]; rw [eF3, mz_n (by omega)]; rw [eF2]; exact mset_s)) wd_510 dX1_init_141 (by decide) rfl ?_
  refine lv_iload_n C.1.1 C.1.2.1 dX1_init_144 rfl (lv_at hl 0 rfl) ?_
  refine mw_size hw (by omega) (fun hs => ?_)
  obtain ⟨F91, eF91, hD⟩ := g_let hD
  obtain ⟨M92, eM92, hD⟩ := g_let hD
  obtain ⟨L93, eL93, hD⟩ := g_let hD
  refine mr_new C hw hs kc_2 (Ch_T0 (isCh_of (x := 4) (by decide))) wd_53 wd_438 wd_12 (by decide +kernel) (Nat.le_of_ble_eq_true rfl) (Nat.le_of_ble_eq_true rfl) dX1_init_145 (fun H hw _ => ?_)
  replace hw : mw_W G (mw_ad G) 438 TF F91 M92 L93 H locs := by rw [eF91, eM92, eL93]; exact hw
  refine W.widen (k := 434) (n := 143797) (Nat.le_of_ble_eq_true rfl) (Nat.le_of_ble_eq_true rfl) ?_
  refine lv_dup C.1.1 C.1.2.1 dX1_init_148 rfl ?_
  obtain ⟨F94, M95, L96, hc94, hD⟩ := g_b3 hD
  have eF94 : ∀ a j, (a < 437 ∨ 473 ≤ a) → F94 a j = F91 a j := fun a j ha => kX2_init hc94 a j (by omega)
  refine mw_size hw (by omega) (fun hs => ?_)
  refine mc_initN (k := 437) (rest := [.ref (mw_ad G 437), .int 4, .ref (mw_ad G 4)]) C A hw hs (tX2_init l G fu 437 F91 M92 L93 hc94 (isCh_of (x := 4) (by decide))) nd_439 wd_440 cwX2_init rfl rfl rfl ⟨Nat.le_of_ble_eq_true rfl, Nat.le_of_ble_eq_true rfl⟩ hl.1 (Nat.le_of_ble_eq_true rfl) dX1_init_149 ⟨Nat.le_of_ble_eq_true rfl, Nat.le_of_ble_eq_true rfl⟩ (fun H locs hw _ => ?_)
  replace hw : mw_W G (mw_ad G) 473 TF F94 M95 L96 H locs := hw
  refine W.widen (k := 469) (n := 153300) (Nat.le_of_ble_eq_true rfl) (Nat.le_of_ble_eq_true rfl) ?_
  obtain ⟨F97, eF97, hD⟩ := g_let hD
  refine mr_aast (t := 7) (n := 12) C hw (by omega) tf_4 (by decide) (by decide) rfl kc_2 (by omega) (Ch_T0 (isCh_of (x := 4) (by decide))) (show vp_in 4 12 from by unfold vp_in; decide) dX1_init_152 (fun H locs hw => ?_)
  replace hw : mw_W G (mw_ad G) 473 TF F97 M95 L96 H locs := by rw [eF97]; exact hw
  refine lv_iinc (v := 5) (lv' := [(1, .int 5), (0, .ref (mw_ad G 3))]) C.1.1 C.1.2.1 dX1_init_153 hl (k := 0) rfl (by decide) (by decide) rfl (fun ls hl => ?_)
  refine lv_goto (tgt := 134) C.1.1 C.1.2.1 dX1_init_156 (by decide) ?_
  refine lv_iload_n C.1.1 C.1.2.1 dX1_init_134 rfl (lv_at hl 0 rfl) ?_
  refine lv_bipush (v := 12) C.1.1 C.1.2.1 dX1_init_135 (by decide) ?_
  refine lv_icmp_ge (tgt := 159) C.1.1 C.1.2.1 dX1_init_137 (by decide) (fun q => absurd q (by decide)) (fun _ => ?_)
  refine lv_aload_n C.1.1 C.1.2.1 dX1_init_140 rfl (lv_at hl 1 rfl) ?_
  refine mr_getR C hw kc_1 0 (by omega) tf_3 (show F97 3 0 = some 4 by (rw [eF97, mset_k (by omega)]; rw [eF94 3 0 (by omega)]; rw [eF91, mz_n (by omega)]; rw [eF90, mset_k (by omega)]; rw [eF87 3 0 (by omega)]; rw [eF84, mz_n (by omega)]; rw [eF83, mset_k (by omega)]; rw [eF80 3 0 (by omega)]; rw [eF77, mz_n (by omega)]; rw [eF76, mset_k (by omega)]; rw [eF73 3 0 (by omega)]; rw [eF70, mz_n (by omega)]; rw [eF69, mset_k (by omega)]; rw [eF66 3 0 (by omega)]; rw [eF63, mz_n (by omega)]; rw [eF62, mset_j (by decide)]; rw [eF60, mset_j (by decide)]; rw [eF58, mset_j (by decide)]; rw [eF56, mrow_n (by omega)]; rw [eF55, mset_j (by decide)]; rw [eF53, mset_j (by decide)]; rw [eF51, mset_j (by decide)]; rw [eF48 3 0 (by omega)]; rw [eF45, mz_n (by omega)]; rw [eF44, mset_j (by decide)]; rw [eF41 3 0 (by omega)]; rw [eF38, mz_n (by omega)]; rw [eF37, mset_j (by decide)]; rw [eF34 3 0 (by omega)]; rw [eF31, mz_n (by omega)]; rw [eF30, mset_j (by decide)]; rw [eF27 3 0 (by omega)]; rw [eF24, mz_n (by omega)]; rw [eF23, mset_j (by decide)]; rw [eF20 3 0 (by omega)]; rw [eF17, mz_n (by omega)]; rw [eF16, mset_j (by decide)]; rw [eF13 3 0 (by omega)]; rw [eF10, mz_n (by omega)]; rw [eF9, mset_j (by decide)]; rw [eF6 3 0 (by omega)]; rw [eF3, mz_n (by omega)]; rw [eF2]; exact mset_s)) wd_510 dX1_init_141 (by decide) rfl ?_
  refine lv_iload_n C.1.1 C.1.2.1 dX1_init_144 rfl (lv_at hl 0 rfl) ?_
  refine mw_size hw (by omega) (fun hs => ?_)
  obtain ⟨F98, eF98, hD⟩ := g_let hD
  obtain ⟨M99, eM99, hD⟩ := g_let hD
  obtain ⟨L100, eL100, hD⟩ := g_let hD
  refine mr_new C hw hs kc_2 (Ch_T0 (isCh_of (x := 5) (by decide))) wd_53 wd_438 wd_12 (by decide +kernel) (Nat.le_of_ble_eq_true rfl) (Nat.le_of_ble_eq_true rfl) dX1_init_145 (fun H hw _ => ?_)
  replace hw : mw_W G (mw_ad G) 474 TF F98 M99 L100 H locs := by rw [eF98, eM99, eL100]; exact hw
  refine W.widen (k := 470) (n := 153317) (Nat.le_of_ble_eq_true rfl) (Nat.le_of_ble_eq_true rfl) ?_
  refine lv_dup C.1.1 C.1.2.1 dX1_init_148 rfl ?_
  obtain ⟨F101, M102, L103, hc101, hD⟩ := g_b3 hD
  have eF101 : ∀ a j, (a < 473 ∨ 509 ≤ a) → F101 a j = F98 a j := fun a j ha => kX2_init hc101 a j (by omega)
  refine mw_size hw (by omega) (fun hs => ?_)
  refine mc_initN (k := 473) (rest := [.ref (mw_ad G 473), .int 5, .ref (mw_ad G 4)]) C A hw hs (tX2_init l G fu 473 F98 M99 L100 hc101 (isCh_of (x := 5) (by decide))) nd_439 wd_440 cwX2_init rfl rfl rfl ⟨Nat.le_of_ble_eq_true rfl, Nat.le_of_ble_eq_true rfl⟩ hl.1 (Nat.le_of_ble_eq_true rfl) dX1_init_149 ⟨Nat.le_of_ble_eq_true rfl, Nat.le_of_ble_eq_true rfl⟩ (fun H locs hw _ => ?_)
  replace hw : mw_W G (mw_ad G) 509 TF F101 M102 L103 H locs := hw
  refine W.widen (k := 505) (n := 162820) (Nat.le_of_ble_eq_true rfl) (Nat.le_of_ble_eq_true rfl) ?_
  obtain ⟨F104, eF104, hD⟩ := g_let hD
  refine mr_aast (t := 7) (n := 12) C hw (by omega) tf_4 (by decide) (by decide) rfl kc_2 (by omega) (Ch_T0 (isCh_of (x := 5) (by decide))) (show vp_in 5 12 from by unfold vp_in; decide) dX1_init_152 (fun H locs hw => ?_)
  replace hw : mw_W G (mw_ad G) 509 TF F104 M102 L103 H locs := by rw [eF104]; exact hw
  refine lv_iinc (v := 6) (lv' := [(1, .int 6), (0, .ref (mw_ad G 3))]) C.1.1 C.1.2.1 dX1_init_153 hl (k := 0) rfl (by decide) (by decide) rfl (fun ls hl => ?_)
  refine lv_goto (tgt := 134) C.1.1 C.1.2.1 dX1_init_156 (by decide) ?_
  refine lv_iload_n C.1.1 C.1.2.1 dX1_init_134 rfl (lv_at hl 0 rfl) ?_
  refine lv_bipush (v := 12) C.1.1 C.1.2.1 dX1_init_135 (by decide) ?_
  refine lv_icmp_ge (tgt := 159) C.1.1 C.1.2.1 dX1_init_137 (by decide) (fun q => absurd q (by decide)) (fun _ => ?_)
  refine lv_aload_n C.1.1 C.1.2.1 dX1_init_140 rfl (lv_at hl 1 rfl) ?_
  refine mr_getR C hw kc_1 0 (by omega) tf_3 (show F104 3 0 = some 4 by (rw [eF104, mset_k (by omega)]; rw [eF101 3 0 (by omega)]; rw [eF98, mz_n (by omega)]; rw [eF97, mset_k (by omega)]; rw [eF94 3 0 (by omega)]; rw [eF91, mz_n (by omega)]; rw [eF90, mset_k (by omega)]; rw [eF87 3 0 (by omega)]; rw [eF84, mz_n (by omega)]; rw [eF83, mset_k (by omega)]; rw [eF80 3 0 (by omega)]; rw [eF77, mz_n (by omega)]; rw [eF76, mset_k (by omega)]; rw [eF73 3 0 (by omega)]; rw [eF70, mz_n (by omega)]; rw [eF69, mset_k (by omega)]; rw [eF66 3 0 (by omega)]; rw [eF63, mz_n (by omega)]; rw [eF62, mset_j (by decide)]; rw [eF60, mset_j (by decide)]; rw [eF58, mset_j (by decide)]; rw [eF56, mrow_n (by omega)]; rw [eF55, mset_j (by decide)]; rw [eF53, mset_j (by decide)]; rw [eF51, mset_j (by decide)]; rw [eF48 3 0 (by omega)]; rw [eF45, mz_n (by omega)]; rw [eF44, mset_j (by decide)]; rw [eF41 3 0 (by omega)]; rw [eF38, mz_n (by omega)]; rw [eF37, mset_j (by decide)]; rw [eF34 3 0 (by omega)]; rw [eF31, mz_n (by omega)]; rw [eF30, mset_j (by decide)]; rw [eF27 3 0 (by omega)]; rw [eF24, mz_n (by omega)]; rw [eF23, mset_j (by decide)]; rw [eF20 3 0 (by omega)]; rw [eF17, mz_n (by omega)]; rw [eF16, mset_j (by decide)]; rw [eF13 3 0 (by omega)]; rw [eF10, mz_n (by omega)]; rw [eF9, mset_j (by decide)]; rw [eF6 3 0 (by omega)]; rw [eF3, mz_n (by omega)]; rw [eF2]; exact mset_s)) wd_510 dX1_init_141 (by decide) rfl ?_
  refine lv_iload_n C.1.1 C.1.2.1 dX1_init_144 rfl (lv_at hl 0 rfl) ?_
  refine mw_size hw (by omega) (fun hs => ?_)
  obtain ⟨F105, eF105, hD⟩ := g_let hD
  obtain ⟨M106, eM106, hD⟩ := g_let hD
  obtain ⟨L107, eL107, hD⟩ := g_let hD
  refine mr_new C hw hs kc_2 (Ch_T0 (isCh_of (x := 6) (by decide))) wd_53 wd_438 wd_12 (by decide +kernel) (Nat.le_of_ble_eq_true rfl) (Nat.le_of_ble_eq_true rfl) dX1_init_145 (fun H hw _ => ?_)
  replace hw : mw_W G (mw_ad G) 510 TF F105 M106 L107 H locs := by rw [eF105, eM106, eL107]; exact hw
  refine W.widen (k := 506) (n := 162837) (Nat.le_of_ble_eq_true rfl) (Nat.le_of_ble_eq_true rfl) ?_
  refine lv_dup C.1.1 C.1.2.1 dX1_init_148 rfl ?_
  obtain ⟨F108, M109, L110, hc108, hD⟩ := g_b3 hD
  have eF108 : ∀ a j, (a < 509 ∨ 545 ≤ a) → F108 a j = F105 a j := fun a j ha => kX2_init hc108 a j (by omega)
  refine mw_size hw (by omega) (fun hs => ?_)
  refine mc_initN (k := 509) (rest := [.ref (mw_ad G 509), .int 6, .ref (mw_ad G 4)]) C A hw hs (tX2_init l G fu 509 F105 M106 L107 hc108 (isCh_of (x := 6) (by decide))) nd_439 wd_440 cwX2_init rfl rfl rfl ⟨Nat.le_of_ble_eq_true rfl, Nat.le_of_ble_eq_true rfl⟩ hl.1 (Nat.le_of_ble_eq_true rfl) dX1_init_149 ⟨Nat.le_of_ble_eq_true rfl, Nat.le_of_ble_eq_true rfl⟩ (fun H locs hw _ => ?_)
  replace hw : mw_W G (mw_ad G) 545 TF F108 M109 L110 H locs := hw
  refine W.widen (k := 541) (n := 172340) (Nat.le_of_ble_eq_true rfl) (Nat.le_of_ble_eq_true rfl) ?_
  obtain ⟨F111, eF111, hD⟩ := g_let hD
  refine mr_aast (t := 7) (n := 12) C hw (by omega) tf_4 (by decide) (by decide) rfl kc_2 (by omega) (Ch_T0 (isCh_of (x := 6) (by decide))) (show vp_in 6 12 from by unfold vp_in; decide) dX1_init_152 (fun H locs hw => ?_)
  replace hw : mw_W G (mw_ad G) 545 TF F111 M109 L110 H locs := by rw [eF111]; exact hw
  refine lv_iinc (v := 7) (lv' := [(1, .int 7), (0, .ref (mw_ad G 3))]) C.1.1 C.1.2.1 dX1_init_153 hl (k := 0) rfl (by decide) (by decide) rfl (fun ls hl => ?_)
  refine lv_goto (tgt := 134) C.1.1 C.1.2.1 dX1_init_156 (by decide) ?_
  refine lv_iload_n C.1.1 C.1.2.1 dX1_init_134 rfl (lv_at hl 0 rfl) ?_
  refine lv_bipush (v := 12) C.1.1 C.1.2.1 dX1_init_135 (by decide) ?_
  refine lv_icmp_ge (tgt := 159) C.1.1 C.1.2.1 dX1_init_137 (by decide) (fun q => absurd q (by decide)) (fun _ => ?_)
  refine lv_aload_n C.1.1 C.1.2.1 dX1_init_140 rfl (lv_at hl 1 rfl) ?_
  refine mr_getR C hw kc_1 0 (by omega) tf_3 (show F111 3 0 = some 4 by (rw [eF111, mset_k (by omega)]; rw [eF108 3 0 (by omega)]; rw [eF105, mz_n (by omega)]; rw [eF104, mset_k (by omega)]; rw [eF101 3 0 (by omega)]; rw [eF98, mz_n (by omega)]; rw [eF97, mset_k (by omega)]; rw [eF94 3 0 (by omega)]; rw [eF91, mz_n (by omega)]; rw [eF90, mset_k (by omega)]; rw [eF87 3 0 (by omega)]; rw [eF84, mz_n (by omega)]; rw [eF83, mset_k (by omega)]; rw [eF80 3 0 (by omega)]; rw [eF77, mz_n (by omega)]; rw [eF76, mset_k (by omega)]; rw [eF73 3 0 (by omega)]; rw [eF70, mz_n (by omega)]; rw [eF69, mset_k (by omega)]; rw [eF66 3 0 (by omega)]; rw [eF63, mz_n (by omega)]; rw [eF62, mset_j (by decide)]; rw [eF60, mset_j (by decide)]; rw [eF58, mset_j (by decide)]; rw [eF56, mrow_n (by omega)]; rw [eF55, mset_j (by decide)]; rw [eF53, mset_j (by decide)]; rw [eF51, mset_j (by decide)]; rw [eF48 3 0 (by omega)]; rw [eF45, mz_n (by omega)]; rw [eF44, mset_j (by decide)]; rw [eF41 3 0 (by omega)]; rw [eF38, mz_n (by omega)]; rw [eF37, mset_j (by decide)]; rw [eF34 3 0 (by omega)]; rw [eF31, mz_n (by omega)]; rw [eF30, mset_j (by decide)]; rw [eF27 3 0 (by omega)]; rw [eF24, mz_n (by omega)]; rw [eF23, mset_j (by decide)]; rw [eF20 3 0 (by omega)]; rw [eF17, mz_n (by omega)]; rw [eF16, mset_j (by decide)]; rw [eF13 3 0 (by omega)]; rw [eF10, mz_n (by omega)]; rw [eF9, mset_j (by decide)]; rw [eF6 3 0 (by omega)]; rw [eF3, mz_n (by omega)]; rw [eF2]; exact mset_s)) wd_510 dX1_init_141 (by decide) rfl ?_
  refine lv_iload_n C.1.1 C.1.2.1 dX1_init_144 rfl (lv_at hl 0 rfl) ?_
  refine mw_size hw (by omega) (fun hs => ?_)
  obtain ⟨F112, eF112, hD⟩ := g_let hD
  obtain ⟨M113, eM113, hD⟩ := g_let hD
  obtain ⟨L114, eL114, hD⟩ := g_let hD
  refine mr_new C hw hs kc_2 (Ch_T0 (isCh_of (x := 7) (by decide))) wd_53 wd_438 wd_12 (by decide +kernel) (Nat.le_of_ble_eq_true rfl) (Nat.le_of_ble_eq_true rfl) dX1_init_145 (fun H hw _ => ?_)
  replace hw : mw_W G (mw_ad G) 546 TF F112 M113 L114 H locs := by rw [eF112, eM113, eL114]; exact hw
  refine W.widen (k := 542) (n := 172357) (Nat.le_of_ble_eq_true rfl) (Nat.le_of_ble_eq_true rfl) ?_
  refine lv_dup C.1.1 C.1.2.1 dX1_init_148 rfl ?_
  obtain ⟨F115, M116, L117, hc115, hD⟩ := g_b3 hD
  have eF115 : ∀ a j, (a < 545 ∨ 581 ≤ a) → F115 a j = F112 a j := fun a j ha => kX2_init hc115 a j (by omega)
  refine mw_size hw (by omega) (fun hs => ?_)
  refine mc_initN (k := 545) (rest := [.ref (mw_ad G 545), .int 7, .ref (mw_ad G 4)]) C A hw hs (tX2_init l G fu 545 F112 M113 L114 hc115 (isCh_of (x := 7) (by decide))) nd_439 wd_440 cwX2_init rfl rfl rfl ⟨Nat.le_of_ble_eq_true rfl, Nat.le_of_ble_eq_true rfl⟩ hl.1 (Nat.le_of_ble_eq_true rfl) dX1_init_149 ⟨Nat.le_of_ble_eq_true rfl, Nat.le_of_ble_eq_true rfl⟩ (fun H locs hw _ => ?_)
  replace hw : mw_W G (mw_ad G) 581 TF F115 M116 L117 H locs := hw
  refine W.widen (k := 577) (n := 181860) (Nat.le_of_ble_eq_true rfl) (Nat.le_of_ble_eq_true rfl) ?_
  obtain ⟨F118, eF118, hD⟩ := g_let hD
  refine mr_aast (t := 7) (n := 12) C hw (by omega) tf_4 (by decide) (by decide) rfl kc_2 (by omega) (Ch_T0 (isCh_of (x := 7) (by decide))) (show vp_in 7 12 from by unfold vp_in; decide) dX1_init_152 (fun H locs hw => ?_)
  replace hw : mw_W G (mw_ad G) 581 TF F118 M116 L117 H locs := by rw [eF118]; exact hw
  refine lv_iinc (v := 8) (lv' := [(1, .int 8), (0, .ref (mw_ad G 3))]) C.1.1 C.1.2.1 dX1_init_153 hl (k := 0) rfl (by decide) (by decide) rfl (fun ls hl => ?_)
  refine lv_goto (tgt := 134) C.1.1 C.1.2.1 dX1_init_156 (by decide) ?_
  refine lv_iload_n C.1.1 C.1.2.1 dX1_init_134 rfl (lv_at hl 0 rfl) ?_
  refine lv_bipush (v := 12) C.1.1 C.1.2.1 dX1_init_135 (by decide) ?_
  refine lv_icmp_ge (tgt := 159) C.1.1 C.1.2.1 dX1_init_137 (by decide) (fun q => absurd q (by decide)) (fun _ => ?_)
  refine lv_aload_n C.1.1 C.1.2.1 dX1_init_140 rfl (lv_at hl 1 rfl) ?_
  refine mr_getR C hw kc_1 0 (by omega) tf_3 (show F118 3 0 = some 4 by (rw [eF118, mset_k (by omega)]; rw [eF115 3 0 (by omega)]; rw [eF112, mz_n (by omega)]; rw [eF111, mset_k (by omega)]; rw [eF108 3 0 (by omega)]; rw [eF105, mz_n (by omega)]; rw [eF104, mset_k (by omega)]; rw [eF101 3 0 (by omega)]; rw [eF98, mz_n (by omega)]; rw [eF97, mset_k (by omega)]; rw [eF94 3 0 (by omega)]; rw [eF91, mz_n (by omega)]; rw [eF90, mset_k (by omega)]; rw [eF87 3 0 (by omega)]; rw [eF84, mz_n (by omega)]; rw [eF83, mset_k (by omega)]; rw [eF80 3 0 (by omega)]; rw [eF77, mz_n (by omega)]; rw [eF76, mset_k (by omega)]; rw [eF73 3 0 (by omega)]; rw [eF70, mz_n (by omega)]; rw [eF69, mset_k (by omega)]; rw [eF66 3 0 (by omega)]; rw [eF63, mz_n (by omega)]; rw [eF62, mset_j (by decide)]; rw [eF60, mset_j (by decide)]; rw [eF58, mset_j (by decide)]; rw [eF56, mrow_n (by omega)]; rw [eF55, mset_j (by decide)]; rw [eF53, mset_j (by decide)]; rw [eF51, mset_j (by decide)]; rw [eF48 3 0 (by omega)]; rw [eF45, mz_n (by omega)]; rw [eF44, mset_j (by decide)]; rw [eF41 3 0 (by omega)]; rw [eF38, mz_n (by omega)]; rw [eF37, mset_j (by decide)]; rw [eF34 3 0 (by omega)]; rw [eF31, mz_n (by omega)]; rw [eF30, mset_j (by decide)]; rw [eF27 3 0 (by omega)]; rw [eF24, mz_n (by omega)]; rw [eF23, mset_j (by decide)]; rw [eF20 3 0 (by omega)]; rw [eF17, mz_n (by omega)]; rw [eF16, mset_j (by decide)]; rw [eF13 3 0 (by omega)]; rw [eF10, mz_n (by omega)]; rw [eF9, mset_j (by decide)]; rw [eF6 3 0 (by omega)]; rw [eF3, mz_n (by omega)]; rw [eF2]; exact mset_s)) wd_510 dX1_init_141 (by decide) rfl ?_
  refine lv_iload_n C.1.1 C.1.2.1 dX1_init_144 rfl (lv_at hl 0 rfl) ?_
  refine mw_size hw (by omega) (fun hs => ?_)
  obtain ⟨F119, eF119, hD⟩ := g_let hD
  obtain ⟨M120, eM120, hD⟩ := g_let hD
  obtain ⟨L121, eL121, hD⟩ := g_let hD
  refine mr_new C hw hs kc_2 (Ch_T0 (isCh_of (x := 8) (by decide))) wd_53 wd_438 wd_12 (by decide +kernel) (Nat.le_of_ble_eq_true rfl) (Nat.le_of_ble_eq_true rfl) dX1_init_145 (fun H hw _ => ?_)
  replace hw : mw_W G (mw_ad G) 582 TF F119 M120 L121 H locs := by rw [eF119, eM120, eL121]; exact hw
  refine W.widen (k := 578) (n := 181877) (Nat.le_of_ble_eq_true rfl) (Nat.le_of_ble_eq_true rfl) ?_
  refine lv_dup C.1.1 C.1.2.1 dX1_init_148 rfl ?_
  obtain ⟨F122, M123, L124, hc122, hD⟩ := g_b3 hD
  have eF122 : ∀ a j, (a < 581 ∨ 617 ≤ a) → F122 a j = F119 a j := fun a j ha => kX2_init hc122 a j (by omega)
  refine mw_size hw (by omega) (fun hs => ?_)
  refine mc_initN (k := 581) (rest := [.ref (mw_ad G 581), .int 8, .ref (mw_ad G 4)]) C A hw hs (tX2_init l G fu 581 F119 M120 L121 hc122 (isCh_of (x := 8) (by decide))) nd_439 wd_440 cwX2_init rfl rfl rfl ⟨Nat.le_of_ble_eq_true rfl, Nat.le_of_ble_eq_true rfl⟩ hl.1 (Nat.le_of_ble_eq_true rfl) dX1_init_149 ⟨Nat.le_of_ble_eq_true rfl, Nat.le_of_ble_eq_true rfl⟩ (fun H locs hw _ => ?_)
  replace hw : mw_W G (mw_ad G) 617 TF F122 M123 L124 H locs := hw
  refine W.widen (k := 613) (n := 191380) (Nat.le_of_ble_eq_true rfl) (Nat.le_of_ble_eq_true rfl) ?_
  obtain ⟨F125, eF125, hD⟩ := g_let hD
  refine mr_aast (t := 7) (n := 12) C hw (by omega) tf_4 (by decide) (by decide) rfl kc_2 (by omega) (Ch_T0 (isCh_of (x := 8) (by decide))) (show vp_in 8 12 from by unfold vp_in; decide) dX1_init_152 (fun H locs hw => ?_)
  replace hw : mw_W G (mw_ad G) 617 TF F125 M123 L124 H locs := by rw [eF125]; exact hw
  refine lv_iinc (v := 9) (lv' := [(1, .int 9), (0, .ref (mw_ad G 3))]) C.1.1 C.1.2.1 dX1_init_153 hl (k := 0) rfl (by decide) (by decide) rfl (fun ls hl => ?_)
  refine lv_goto (tgt := 134) C.1.1 C.1.2.1 dX1_init_156 (by decide) ?_
  refine lv_iload_n C.1.1 C.1.2.1 dX1_init_134 rfl (lv_at hl 0 rfl) ?_
  refine lv_bipush (v := 12) C.1.1 C.1.2.1 dX1_init_135 (by decide) ?_
  refine lv_icmp_ge (tgt := 159) C.1.1 C.1.2.1 dX1_init_137 (by decide) (fun q => absurd q (by decide)) (fun _ => ?_)
  refine lv_aload_n C.1.1 C.1.2.1 dX1_init_140 rfl (lv_at hl 1 rfl) ?_
  refine mr_getR C hw kc_1 0 (by omega) tf_3 (show F125 3 0 = some 4 by (rw [eF125, mset_k (by omega)]; rw [eF122 3 0 (by omega)]; rw [eF119, mz_n (by omega)]; rw [eF118, mset_k (by omega)]; rw [eF115 3 0 (by omega)]; rw [eF112, mz_n (by omega)]; rw [eF111, mset_k (by omega)]; rw [eF108 3 0 (by omega)]; rw [eF105, mz_n (by omega)]; rw [eF104, mset_k (by omega)]; rw [eF101 3 0 (by omega)]; rw [eF98, mz_n (by omega)]; rw [eF97, mset_k (by omega)]; rw [eF94 3 0 (by omega)]; rw [eF91, mz_n (by omega)]; rw [eF90, mset_k (by omega)]; rw [eF87 3 0 (by omega)]; rw [eF84, mz_n (by omega)]; rw [eF83, mset_k (by omega)]; rw [eF80 3 0 (by omega)]; rw [eF77, mz_n (by omega)]; rw [eF76, mset_k (by omega)]; rw [eF73 3 0 (by omega)]; rw [eF70, mz_n (by omega)]; rw [eF69, mset_k (by omega)]; rw [eF66 3 0 (by omega)]; rw [eF63, mz_n (by omega)]; rw [eF62, mset_j (by decide)]; rw [eF60, mset_j (by decide)]; rw [eF58, mset_j (by decide)]; rw [eF56, mrow_n (by omega)]; rw [eF55, mset_j (by decide)]; rw [eF53, mset_j (by decide)]; rw [eF51, mset_j (by decide)]; rw [eF48 3 0 (by omega)]; rw [eF45, mz_n (by omega)]; rw [eF44, mset_j (by decide)]; rw [eF41 3 0 (by omega)]; rw [eF38, mz_n (by omega)]; rw [eF37, mset_j (by decide)]; rw [eF34 3 0 (by omega)]; rw [eF31, mz_n (by omega)]; rw [eF30, mset_j (by decide)]; rw [eF27 3 0 (by omega)]; rw [eF24, mz_n (by omega)]; rw [eF23, mset_j (by decide)]; rw [eF20 3 0 (by omega)]; rw [eF17, mz_n (by omega)]; rw [eF16, mset_j (by decide)]; rw [eF13 3 0 (by omega)]; rw [eF10, mz_n (by omega)]; rw [eF9, mset_j (by decide)]; rw [eF6 3 0 (by omega)]; rw [eF3, mz_n (by omega)]; rw [eF2]; exact mset_s)) wd_510 dX1_init_141 (by decide) rfl ?_
  refine lv_iload_n C.1.1 C.1.2.1 dX1_init_144 rfl (lv_at hl 0 rfl) ?_
  refine mw_size hw (by omega) (fun hs => ?_)
  obtain ⟨F126, eF126, hD⟩ := g_let hD
  obtain ⟨M127, eM127, hD⟩ := g_let hD
  obtain ⟨L128, eL128, hD⟩ := g_let hD
  refine mr_new C hw hs kc_2 (Ch_T0 (isCh_of (x := 9) (by decide))) wd_53 wd_438 wd_12 (by decide +kernel) (Nat.le_of_ble_eq_true rfl) (Nat.le_of_ble_eq_true rfl) dX1_init_145 (fun H hw _ => ?_)
  replace hw : mw_W G (mw_ad G) 618 TF F126 M127 L128 H locs := by rw [eF126, eM127, eL128]; exact hw
  refine W.widen (k := 614) (n := 191397) (Nat.le_of_ble_eq_true rfl) (Nat.le_of_ble_eq_true rfl) ?_
  refine lv_dup C.1.1 C.1.2.1 dX1_init_148 rfl ?_
  obtain ⟨F129, M130, L131, hc129, hD⟩ := g_b3 hD
  have eF129 : ∀ a j, (a < 617 ∨ 653 ≤ a) → F129 a j = F126 a j := fun a j ha => kX2_init hc129 a j (by omega)
  refine mw_size hw (by omega) (fun hs => ?_)
  refine mc_initN (k := 617) (rest := [.ref (mw_ad G 617), .int 9, .ref (mw_ad G 4)]) C A hw hs (tX2_init l G fu 617 F126 M127 L128 hc129 (isCh_of (x := 9) (by decide))) nd_439 wd_440 cwX2_init rfl rfl rfl ⟨Nat.le_of_ble_eq_true rfl, Nat.le_of_ble_eq_true rfl⟩ hl.1 (Nat.le_of_ble_eq_true rfl) dX1_init_149 ⟨Nat.le_of_ble_eq_true rfl, Nat.le_of_ble_eq_true rfl⟩ (fun H locs hw _ => ?_)
  replace hw : mw_W G (mw_ad G) 653 TF F129 M130 L131 H locs := hw
  refine W.widen (k := 649) (n := 200900) (Nat.le_of_ble_eq_true rfl) (Nat.le_of_ble_eq_true rfl) ?_
  obtain ⟨F132, eF132, hD⟩ := g_let hD
  refine mr_aast (t := 7) (n := 12) C hw (by omega) tf_4 (by decide) (by decide) rfl kc_2 (by omega) (Ch_T0 (isCh_of (x := 9) (by decide))) (show vp_in 9 12 from by unfold vp_in; decide) dX1_init_152 (fun H locs hw => ?_)
  replace hw : mw_W G (mw_ad G) 653 TF F132 M130 L131 H locs := by rw [eF132]; exact hw
  refine lv_iinc (v := 10) (lv' := [(1, .int 10), (0, .ref (mw_ad G 3))]) C.1.1 C.1.2.1 dX1_init_153 hl (k := 0) rfl (by decide) (by decide) rfl (fun ls hl => ?_)
  refine lv_goto (tgt := 134) C.1.1 C.1.2.1 dX1_init_156 (by decide) ?_
  refine lv_iload_n C.1.1 C.1.2.1 dX1_init_134 rfl (lv_at hl 0 rfl) ?_
  refine lv_bipush (v := 12) C.1.1 C.1.2.1 dX1_init_135 (by decide) ?_
  refine lv_icmp_ge (tgt := 159) C.1.1 C.1.2.1 dX1_init_137 (by decide) (fun q => absurd q (by decide)) (fun _ => ?_)
  refine lv_aload_n C.1.1 C.1.2.1 dX1_init_140 rfl (lv_at hl 1 rfl) ?_
  refine mr_getR C hw kc_1 0 (by omega) tf_3 (show F132 3 0 = some 4 by (rw [eF132, mset_k (by omega)]; rw [eF129 3 0 (by omega)]; rw [eF126, mz_n (by omega)]; rw [eF125, mset_k (by omega)]; rw [eF122 3 0 (by omega)]; rw [eF119, mz_n (by omega)]; rw [eF118, mset_k (by omega)]; rw [eF115 3 0 (by omega)]; rw [eF112, mz_n (by omega)]; rw [eF111, mset_k (by omega)]; rw [eF108 3 0 (by omega)]; rw [eF105, mz_n (by omega)]; rw [eF104, mset_k (by omega)]; rw [eF101 3 0 (by omega)]; rw [eF98, mz_n (by omega)]; rw [eF97, mset_k (by omega)]; rw [eF94 3 0 (by omega)]; rw [eF91, mz_n (by omega)]; rw [eF90, mset_k (by omega)]; rw [eF87 3 0 (by omega)]; rw [eF84, mz_n (by omega)]; rw [eF83, mset_k (by omega)]; rw [eF80 3 0 (by omega)]; rw [eF77, mz_n (by omega)]; rw [eF76, mset_k (by omega)]; rw [eF73 3 0 (by omega)]; rw [eF70, mz_n (by omega)]; rw [eF69, mset_k (by omega)]; rw [eF66 3 0 (by omega)]; rw [eF63, mz_n (by omega)]; rw [eF62, mset_j (by decide)]; rw [eF60, mset_j (by decide)]; rw [eF58, mset_j (by decide)]; rw [eF56, mrow_n (by omega)]; rw [eF55, mset_j (by decide)]; rw [eF53, mset_j (by decide)]; rw [eF51, mset_j (by decide)]; rw [eF48 3 0 (by omega)]; rw [eF45, mz_n (by omega)]; rw [eF44, mset_j (by decide)]; rw [eF41 3 0 (by omega)]; rw [eF38, mz_n (by omega)]; rw [eF37, mset_j (by decide)]; rw [eF34 3 0 (by omega)]; rw [eF31, mz_n (by omega)]; rw [eF30, mset_j (by decide)]; rw [eF27 3 0 (by omega)]; rw [eF24, mz_n (by omega)]; rw [eF23, mset_j (by decide)]; rw [eF20 3 0 (by omega)]; rw [eF17, mz_n (by omega)]; rw [eF16, mset_j (by decide)]; rw [eF13 3 0 (by omega)]; rw [eF10, mz_n (by omega)]; rw [eF9, mset_j (by decide)]; rw [eF6 3 0 (by omega)]; rw [eF3, mz_n (by omega)]; rw [eF2]; exact mset_s)) wd_510 dX1_init_141 (by decide) rfl ?_
  refine lv_iload_n C.1.1 C.1.2.1 dX1_init_144 rfl (lv_at hl 0 rfl) ?_
  refine mw_size hw (by omega) (fun hs => ?_)
  obtain ⟨F133, eF133, hD⟩ := g_let hD
  obtain ⟨M134, eM134, hD⟩ := g_let hD
  obtain ⟨L135, eL135, hD⟩ := g_let hD
  refine mr_new C hw hs kc_2 (Ch_T0 (isCh_of (x := 10) (by decide))) wd_53 wd_438 wd_12 (by decide +kernel) (Nat.le_of_ble_eq_true rfl) (Nat.le_of_ble_eq_true rfl) dX1_init_145 (fun H hw _ => ?_)
  replace hw : mw_W G (mw_ad G) 654 TF F133 M134 L135 H locs := by rw [eF133, eM134, eL135]; exact hw
  refine W.widen (k := 650) (n := 200917) (Nat.le_of_ble_eq_true rfl) (Nat.le_of_ble_eq_true rfl) ?_
  refine lv_dup C.1.1 C.1.2.1 dX1_init_148 rfl ?_
  obtain ⟨F136, M137, L138, hc136, hD⟩ := g_b3 hD
  have eF136 : ∀ a j, (a < 653 ∨ 689 ≤ a) → F136 a j = F133 a j := fun a j ha => kX2_init hc136 a j (by omega)
  refine mw_size hw (by omega) (fun hs => ?_)
  refine mc_initN (k := 653) (rest := [.ref (mw_ad G 653), .int 10, .ref (mw_ad G 4)]) C A hw hs (tX2_init l G fu 653 F133 M134 L135 hc136 (isCh_of (x := 10) (by decide))) nd_439 wd_440 cwX2_init rfl rfl rfl ⟨Nat.le_of_ble_eq_true rfl, Nat.le_of_ble_eq_true rfl⟩ hl.1 (Nat.le_of_ble_eq_true rfl) dX1_init_149 ⟨Nat.le_of_ble_eq_true rfl, Nat.le_of_ble_eq_true rfl⟩ (fun H locs hw _ => ?_)
  replace hw : mw_W G (mw_ad G) 689 TF F136 M137 L138 H locs := hw
  refine W.widen (k := 685) (n := 210420) (Nat.le_of_ble_eq_true rfl) (Nat.le_of_ble_eq_true rfl) ?_
  obtain ⟨F139, eF139, hD⟩ := g_let hD
  refine mr_aast (t := 7) (n := 12) C hw (by omega) tf_4 (by decide) (by decide) rfl kc_2 (by omega) (Ch_T0 (isCh_of (x := 10) (by decide))) (show vp_in 10 12 from by unfold vp_in; decide) dX1_init_152 (fun H locs hw => ?_)
  replace hw : mw_W G (mw_ad G) 689 TF F139 M137 L138 H locs := by rw [eF139]; exact hw
  refine lv_iinc (v := 11) (lv' := [(1, .int 11), (0, .ref (mw_ad G 3))]) C.1.1 C.1.2.1 dX1_init_153 hl (k := 0) rfl (by decide) (by decide) rfl (fun ls hl => ?_)
  refine lv_goto (tgt := 134) C.1.1 C.1.2.1 dX1_init_156 (by decide) ?_
  refine lv_iload_n C.1.1 C.1.2.1 dX1_init_134 rfl (lv_at hl 0 rfl) ?_
  refine lv_bipush (v := 12) C.1.1 C.1.2.1 dX1_init_135 (by decide) ?_
  refine lv_icmp_ge (tgt := 159) C.1.1 C.1.2.1 dX1_init_137 (by decide) (fun q => absurd q (by decide)) (fun _ => ?_)
  refine lv_aload_n C.1.1 C.1.2.1 dX1_init_140 rfl (lv_at hl 1 rfl) ?_
  refine mr_getR C hw kc_1 0 (by omega) tf_3 (show F139 3 0 = some 4 by (rw [eF139, mset_k (by omega)]; rw [eF136 3 0 (by omega)]; rw [eF133, mz_n (by omega)]; rw [eF132, mset_k (by omega)]; rw [eF129 3 0 (by omega)]; rw [eF126, mz_n (by omega)]; rw [eF125, mset_k (by omega)]; rw [eF122 3 0 (by omega)]; rw [eF119, mz_n (by omega)]; rw [eF118, mset_k (by omega)]; rw [eF115 3 0 (by omega)]; rw [eF112, mz_n (by omega)]; rw [eF111, mset_k (by omega)]; rw [eF108 3 0 (by omega)]; rw [eF105, mz_n (by omega)]; rw [eF104, mset_k (by omega)]; rw [eF101 3 0 (by omega)]; rw [eF98, mz_n (by omega)]; rw [eF97, mset_k (by omega)]; rw [eF94 3 0 (by omega)]; rw [eF91, mz_n (by omega)]; rw [eF90, mset_k (by omega)]; rw [eF87 3 0 (by omega)]; rw [eF84, mz_n (by omega)]; rw [eF83, mset_k (by omega)]; rw [eF80 3 0 (by omega)]; rw [eF77, mz_n (by omega)]; rw [eF76, mset_k (by omega)]; rw [eF73 3 0 (by omega)]; rw [eF70, mz_n (by omega)]; rw [eF69, mset_k (by omega)]; rw [eF66 3 0 (by omega)]; rw [eF63, mz_n (by omega)]; rw [eF62, mset_j (by decide)]; rw [eF60, mset_j (by decide)]; rw [eF58, mset_j (by decide)]; rw [eF56, mrow_n (by omega)]; rw [eF55, mset_j (by decide)]; rw [eF53, mset_j (by decide)]; rw [eF51, mset_j (by decide)]; rw [eF48 3 0 (by omega)]; rw [eF45, mz_n (by omega)]; rw [eF44, mset_j (by decide)]; rw [eF41 3 0 (by omega)]; rw [eF38, mz_n (by omega)]; rw [eF37, mset_j (by decide)]; rw [eF34 3 0 (by omega)]; rw [eF31, mz_n (by omega)]; rw [eF30, mset_j (by decide)]; rw [eF27 3 0 (by omega)]; rw [eF24, mz_n (by omega)]; rw [eF23, mset_j (by decide)]; rw [eF20 3 0 (by omega)]; rw [eF17, mz_n (by omega)]; rw [eF16, mset_j (by decide)]; rw [eF13 3 0 (by omega)]; rw [eF10, mz_n (by omega)]; rw [eF9, mset_j (by decide)]; rw [eF6 3 0 (by omega)]; rw [eF3, mz_n (by omega)]; rw [eF2]; exact mset_s)) wd_510 dX1_init_141 (by decide) rfl ?_
  refine lv_iload_n C.1.1 C.1.2.1 dX1_init_144 rfl (lv_at hl 0 rfl) ?_
  refine mw_size hw (by omega) (fun hs => ?_)
  obtain ⟨F140, eF140, hD⟩ := g_let hD
  obtain ⟨M141, eM141, hD⟩ := g_let hD
  obtain ⟨L142, eL142, hD⟩ := g_let hD
  refine mr_new C hw hs kc_2 (Ch_T0 (isCh_of (x := 11) (by decide))) wd_53 wd_438 wd_12 (by decide +kernel) (Nat.le_of_ble_eq_true rfl) (Nat.le_of_ble_eq_true rfl) dX1_init_145 (fun H hw _ => ?_)
  replace hw : mw_W G (mw_ad G) 690 TF F140 M141 L142 H locs := by rw [eF140, eM141, eL142]; exact hw
  refine W.widen (k := 686) (n := 210437) (Nat.le_of_ble_eq_true rfl) (Nat.le_of_ble_eq_true rfl) ?_
  refine lv_dup C.1.1 C.1.2.1 dX1_init_148 rfl ?_
  obtain ⟨F143, M144, L145, hc143, hD⟩ := g_b3 hD
  have eF143 : ∀ a j, (a < 689 ∨ 725 ≤ a) → F143 a j = F140 a j := fun a j ha => kX2_init hc143 a j (by omega)
  refine mw_size hw (by omega) (fun hs => ?_)
  refine mc_initN (k := 689) (rest := [.ref (mw_ad G 689), .int 11, .ref (mw_ad G 4)]) C A hw hs (tX2_init l G fu 689 F140 M141 L142 hc143 (isCh_of (x := 11) (by decide))) nd_439 wd_440 cwX2_init rfl rfl rfl ⟨Nat.le_of_ble_eq_true rfl, Nat.le_of_ble_eq_true rfl⟩ hl.1 (Nat.le_of_ble_eq_true rfl) dX1_init_149 ⟨Nat.le_of_ble_eq_true rfl, Nat.le_of_ble_eq_true rfl⟩ (fun H locs hw _ => ?_)
  replace hw : mw_W G (mw_ad G) 725 TF F143 M144 L145 H locs := hw
  refine W.widen (k := 721) (n := 219940) (Nat.le_of_ble_eq_true rfl) (Nat.le_of_ble_eq_true rfl) ?_
  obtain ⟨F146, eF146, hD⟩ := g_let hD
  refine mr_aast (t := 7) (n := 12) C hw (by omega) tf_4 (by decide) (by decide) rfl kc_2 (by omega) (Ch_T0 (isCh_of (x := 11) (by decide))) (show vp_in 11 12 from by unfold vp_in; decide) dX1_init_152 (fun H locs hw => ?_)
  replace hw : mw_W G (mw_ad G) 725 TF F146 M144 L145 H locs := by rw [eF146]; exact hw
  refine lv_iinc (v := 12) (lv' := [(1, .int 12), (0, .ref (mw_ad G 3))]) C.1.1 C.1.2.1 dX1_init_153 hl (k := 0) rfl (by decide) (by decide) rfl (fun ls hl => ?_)
  refine lv_goto (tgt := 134) C.1.1 C.1.2.1 dX1_init_156 (by decide) ?_
  refine lv_iload_n C.1.1 C.1.2.1 dX1_init_134 rfl (lv_at hl 0 rfl) ?_
  refine lv_bipush (v := 12) C.1.1 C.1.2.1 dX1_init_135 (by decide) ?_
  refine lv_icmp_ge (tgt := 159) C.1.1 C.1.2.1 dX1_init_137 (by decide) (fun _ => ?_) (fun q => absurd q (by decide))
  refine mw_size hw (by omega) (fun hs => ?_)
  exact mr_cret C hr hlocks hw hs (Option.some.inj hD) dX1_init_159

theorem dX8_init_0 : decode cX8_init 0 = .ok (.aload_n 0, 1) := by decide +kernel
theorem dX8_init_1 : decode cX8_init 1 = .ok (.invokespecial 3, 3) := by decide +kernel
theorem dX8_init_4 : decode cX8_init 4 = .ok (.aload_n 0, 1) := by decide +kernel
theorem dX8_init_5 : decode cX8_init 5 = .ok (.sipush 6000, 3) := by decide +kernel
theorem dX8_init_8 : decode cX8_init 8 = .ok (.newarray .char, 2) := by decide +kernel
theorem dX8_init_10 : decode cX8_init 10 = .ok (.putfield 9, 3) := by decide +kernel
theorem dX8_init_13 : decode cX8_init 13 = .ok (.aload_n 0, 1) := by decide +kernel
theorem dX8_init_14 : decode cX8_init 14 = .ok (.new 15, 3) := by decide +kernel
theorem dX8_init_17 : decode cX8_init 17 = .ok (.dup, 1) := by decide +kernel
theorem dX8_init_18 : decode cX8_init 18 = .ok (.invokespecial 17, 3) := by decide +kernel
theorem dX8_init_21 : decode cX8_init 21 = .ok (.putfield 18, 3) := by decide +kernel
theorem dX8_init_24 : decode cX8_init 24 = .ok (.aload_n 0, 1) := by decide +kernel
theorem dX8_init_25 : decode cX8_init 25 = .ok (.iconst 5, 1) := by decide +kernel
theorem dX8_init_26 : decode cX8_init 26 = .ok (.sipush 600, 3) := by decide +kernel
theorem dX8_init_29 : decode cX8_init 29 = .ok (.multianewarray 22 2, 4) := by decide +kernel
theorem dX8_init_33 : decode cX8_init 33 = .ok (.putfield 24, 3) := by decide +kernel
theorem dX8_init_36 : decode cX8_init 36 = .ok (.return_, 1) := by decide +kernel
theorem cwX8_init : mw_cw yX8_init cX8_init 1 none 0 := ⟨wd_2, wd_45, by decide +kernel⟩
noncomputable def DX8_init (fu : Nat) (F : mwF) (M : mwM) (L : mwL) : Option (mwF × mwM × mwL) :=
  mlet (mz 0 M 2) (fun M1 => mlet (mset F 1 0 (some 2)) (fun F2 => mlet (mz none F2 3) (fun F3 => mlet (mz 0 M1 3) (fun M4 => mlet (mz 0 L 3) (fun L5 => mb3 (DX1_init fu F3 M4 L5) (fun F6 M7 L8 => mlet (mset F6 1 1 (some 3)) (fun F9 => mlet (mrow F9 725 5) (fun F10 => mlet (mzr M7 725 5) (fun M11 => mlet (mset F10 1 2 (some 725)) (fun F12 => some (F12, M11, L8)))))))))))
set_option maxHeartbeats 4000000 in
theorem kX8_init {fu : Nat} {F : mwF} {M : mwM} {L : mwL} {FZ : mwF} {MZ : mwM} {LZ : mwL} (hD : DX8_init fu F M L = some (FZ, MZ, LZ)) : ∀ a j, (a < 1 ∨ 731 ≤ a) → FZ a j = F a j := by
  intro a j ha
  unfold DX8_init at hD
  obtain ⟨M1, eM1, hD⟩ := g_let hD
  obtain ⟨F2, eF2, hD⟩ := g_let hD
  obtain ⟨F3, eF3, hD⟩ := g_let hD
  obtain ⟨M4, eM4, hD⟩ := g_let hD
  obtain ⟨L5, eL5, hD⟩ := g_let hD
  obtain ⟨F6, M7, L8, hc6, hD⟩ := g_b3 hD
  have eF6 : ∀ a j, (a < 3 ∨ 725 ≤ a) → F6 a j = F3 a j := fun a j ha => kX1_init hc6 a j (by omega)
  obtain ⟨F9, eF9, hD⟩ := g_let hD
  obtain ⟨F10, eF10, hD⟩ := g_let hD
  obtain ⟨M11, eM11, hD⟩ := g_let hD
  obtain ⟨F12, eF12, hD⟩ := g_let hD
  have hf := congrArg (fun q => q.1) (Option.some.inj hD)
  dsimp only at hf
  rw [← hf]
  rw [eF12, mset_k (by omega)]
  rw [eF10, mrow_n (by omega)]
  rw [eF9, mset_k (by omega)]
  rw [eF6 a j (by omega)]
  rw [eF3, mz_n (by omega)]
  rw [eF2, mset_k (by omega)]
theorem vX8_init_0 {fu : Nat} {F : mwF} {M : mwM} {L : mwL} {FZ : mwF} {MZ : mwM} {LZ : mwL} (hD : DX8_init fu F M L = some (FZ, MZ, LZ)) : FZ 1 0 = some 2 := by
  unfold DX8_init at hD
  obtain ⟨M1, eM1, hD⟩ := g_let hD
  obtain ⟨F2, eF2, hD⟩ := g_let hD
  obtain ⟨F3, eF3, hD⟩ := g_let hD
  obtain ⟨M4, eM4, hD⟩ := g_let hD
  obtain ⟨L5, eL5, hD⟩ := g_let hD
  obtain ⟨F6, M7, L8, hc6, hD⟩ := g_b3 hD
  have eF6 : ∀ a j, (a < 3 ∨ 725 ≤ a) → F6 a j = F3 a j := fun a j ha => kX1_init hc6 a j (by omega)
  obtain ⟨F9, eF9, hD⟩ := g_let hD
  obtain ⟨F10, eF10, hD⟩ := g_let hD
  obtain ⟨M11, eM11, hD⟩ := g_let hD
  obtain ⟨F12, eF12, hD⟩ := g_let hD
  have hf := congrArg (fun q => q.1) (Option.some.inj hD)
  dsimp only at hf
  rw [← hf]
  (rw [eF12, mset_j (by decide)]; rw [eF10, mrow_n (by omega)]; rw [eF9, mset_j (by decide)]; rw [eF6 1 0 (by omega)]; rw [eF3, mz_n (by omega)]; rw [eF2]; exact mset_s)
theorem vX8_init_1 {fu : Nat} {F : mwF} {M : mwM} {L : mwL} {FZ : mwF} {MZ : mwM} {LZ : mwL} (hD : DX8_init fu F M L = some (FZ, MZ, LZ)) : FZ 1 1 = some 3 := by
  unfold DX8_init at hD
  obtain ⟨M1, eM1, hD⟩ := g_let hD
  obtain ⟨F2, eF2, hD⟩ := g_let hD
  obtain ⟨F3, eF3, hD⟩ := g_let hD
  obtain ⟨M4, eM4, hD⟩ := g_let hD
  obtain ⟨L5, eL5, hD⟩ := g_let hD
  obtain ⟨F6, M7, L8, hc6, hD⟩ := g_b3 hD
  have eF6 : ∀ a j, (a < 3 ∨ 725 ≤ a) → F6 a j = F3 a j := fun a j ha => kX1_init hc6 a j (by omega)
  obtain ⟨F9, eF9, hD⟩ := g_let hD
  obtain ⟨F10, eF10, hD⟩ := g_let hD
  obtain ⟨M11, eM11, hD⟩ := g_let hD
  obtain ⟨F12, eF12, hD⟩ := g_let hD
  have hf := congrArg (fun q => q.1) (Option.some.inj hD)
  dsimp only at hf
  rw [← hf]
  (rw [eF12, mset_j (by decide)]; rw [eF10, mrow_n (by omega)]; rw [eF9]; exact mset_s)
theorem vX8_init_2 {fu : Nat} {F : mwF} {M : mwM} {L : mwL} {FZ : mwF} {MZ : mwM} {LZ : mwL} (hD : DX8_init fu F M L = some (FZ, MZ, LZ)) : FZ 1 2 = some 725 := by
  unfold DX8_init at hD
  obtain ⟨M1, eM1, hD⟩ := g_let hD
  obtain ⟨F2, eF2, hD⟩ := g_let hD
  obtain ⟨F3, eF3, hD⟩ := g_let hD
  obtain ⟨M4, eM4, hD⟩ := g_let hD
  obtain ⟨L5, eL5, hD⟩ := g_let hD
  obtain ⟨F6, M7, L8, hc6, hD⟩ := g_b3 hD
  have eF6 : ∀ a j, (a < 3 ∨ 725 ≤ a) → F6 a j = F3 a j := fun a j ha => kX1_init hc6 a j (by omega)
  obtain ⟨F9, eF9, hD⟩ := g_let hD
  obtain ⟨F10, eF10, hD⟩ := g_let hD
  obtain ⟨M11, eM11, hD⟩ := g_let hD
  obtain ⟨F12, eF12, hD⟩ := g_let hD
  have hf := congrArg (fun q => q.1) (Option.some.inj hD)
  dsimp only at hf
  rw [← hf]
  (rw [eF12]; exact mset_s)
set_option maxHeartbeats 4000000 in
set_option maxRecDepth 100000 in
theorem tX8_init (l : Launch) (G : mwG) (fu : Nat) (F : mwF) (M : mwM) (L : mwL) {FZ : mwF} {MZ : mwM} {LZ : mwL} (hD : DX8_init fu F M L = some (FZ, MZ, LZ)) : Met l yX8_init (Cond.code yX8_init cX8_init 1 none :: GT) ({ frames := 6, cells := 729, slots := 228964, locals := 164 }) (mw_PreC G 2 F M L [.ref (mw_ad G 1)]) (mw_QC G 731 FZ MZ LZ) 729 228964 (mw_fr G) := by
  refine mw_enterC (by decide) (Nat.le_of_ble_eq_true rfl) ?_
  intro p e s m below meth c ls C A hr hlocks hnm hw hs0 hl
  have hl : lv_has ls 1 [(0, .ref (mw_ad G 1))] := hl
  unfold DX8_init at hD
  refine lv_aload_n C.1.1 C.1.2.1 dX8_init_0 rfl (lv_at hl 0 rfl) ?_
  refine W.objInit C.1.1 C.1.2.1 C.1.2.2.2.1 (C.1.2.2.2.2 _ wd_46) (C.1.2.2.2.2 _ wd_39) (C.1.2.2.2.2 _ wd_40) rfl (by rw [C.1.2.2.1]; exact hl.1) rfl dX8_init_1 (Nat.le_of_ble_eq_true rfl) (Nat.le_of_ble_eq_true rfl) ?_
  refine W.eq (g2 := F0 m 4 ls []) rfl ?_
  refine lv_aload_n C.1.1 C.1.2.1 dX8_init_4 rfl (lv_at hl 0 rfl) ?_
  refine lv_sipush (v := 6000) C.1.1 C.1.2.1 dX8_init_5 (by decide) ?_
  refine mw_size hw (by omega) (fun hs => ?_)
  obtain ⟨M1, eM1, hD⟩ := g_let hD
  refine mr_newI (atype := .char) (t := 3) (n := 6000) C hw hs tf_2 (by decide) rfl wd_90 rfl (fun _ => rfl) (by decide) (by decide) (by decide) (Nat.le_of_ble_eq_true rfl) (Nat.le_of_ble_eq_true rfl) dX8_init_8 (fun H hw _ => ?_)
  replace hw : mw_W G (mw_ad G) 3 TF F M1 L H [] := by rw [eM1]; exact hw
  refine W.widen (k := 1) (n := 6000) (Nat.le_of_ble_eq_true rfl) (Nat.le_of_ble_eq_true rfl) ?_
  obtain ⟨F2, eF2, hD⟩ := g_let hD
  refine mr_putFR C hw kc_8 0 (by omega) tf_1 wd_593 dX8_init_10 (by decide) rfl rfl hnm rfl rfl rfl (fun H locs hw => ?_)
  replace hw : mw_W G (mw_ad G) 3 TF F2 M1 L H locs := by rw [eF2]; exact hw
  refine lv_aload_n C.1.1 C.1.2.1 dX8_init_13 rfl (lv_at hl 0 rfl) ?_
  refine mw_size hw (by omega) (fun hs => ?_)
  obtain ⟨F3, eF3, hD⟩ := g_let hD
  obtain ⟨M4, eM4, hD⟩ := g_let hD
  obtain ⟨L5, eL5, hD⟩ := g_let hD
  refine mr_new C hw hs kc_1 tf_3 wd_47 wd_48 wd_3 (by decide +kernel) (Nat.le_of_ble_eq_true rfl) (Nat.le_of_ble_eq_true rfl) dX8_init_14 (fun H hw _ => ?_)
  replace hw : mw_W G (mw_ad G) 4 TF F3 M4 L5 H locs := by rw [eF3, eM4, eL5]; exact hw
  refine W.widen (k := 2) (n := 6019) (Nat.le_of_ble_eq_true rfl) (Nat.le_of_ble_eq_true rfl) ?_
  refine lv_dup C.1.1 C.1.2.1 dX8_init_17 rfl ?_
  obtain ⟨F6, M7, L8, hc6, hD⟩ := g_b3 hD
  have eF6 : ∀ a j, (a < 3 ∨ 725 ≤ a) → F6 a j = F3 a j := fun a j ha => kX1_init hc6 a j (by omega)
  refine mw_size hw (by omega) (fun hs => ?_)
  refine mc_init (k := 3) (rest := [.ref (mw_ad G 3), .ref (mw_ad G 1)]) C A hw hs (tX1_init l G fu F3 M4 L5 hc6) wd_49 wd_50 cwX1_init rfl rfl rfl ⟨Nat.le_of_ble_eq_true rfl, Nat.le_of_ble_eq_true rfl⟩ hl.1 (Nat.le_of_ble_eq_true rfl) dX8_init_18 ⟨Nat.le_of_ble_eq_true rfl, Nat.le_of_ble_eq_true rfl⟩ (fun H locs hw _ => ?_)
  replace hw : mw_W G (mw_ad G) 725 TF F6 M7 L8 H locs := hw
  refine W.widen (k := 723) (n := 225959) (Nat.le_of_ble_eq_true rfl) (Nat.le_of_ble_eq_true rfl) ?_
  obtain ⟨F9, eF9, hD⟩ := g_let hD
  refine mr_putFR C hw kc_8 1 (by omega) tf_1 wd_595 dX8_init_21 (by decide) rfl rfl hnm rfl rfl rfl (fun H locs hw => ?_)
  replace hw : mw_W G (mw_ad G) 725 TF F9 M7 L8 H locs := by rw [eF9]; exact hw
  refine lv_aload_n C.1.1 C.1.2.1 dX8_init_24 rfl (lv_at hl 0 rfl) ?_
  refine lv_iconst (v := 5) C.1.1 C.1.2.1 dX8_init_25 (by decide) ?_
  refine lv_sipush (v := 600) C.1.1 C.1.2.1 dX8_init_26 (by decide) ?_
  refine mw_size hw (by omega) (fun hs => ?_)
  obtain ⟨F10, eF10, hD⟩ := g_let hD
  obtain ⟨M11, eM11, hD⟩ := g_let hD
  refine mr_mna (n := 5) (k := 600) C hw hs tf_725 (fun i hi => (fr_725 i hi).2.1) wd_592 (A (.array .int) (by decide)) wd_91 (by decide) (by decide) (by decide) (by decide) (by decide) (by decide) (Nat.le_of_ble_eq_true rfl) (Nat.le_of_ble_eq_true rfl) dX8_init_29 (fun H hw _ => ?_)
  replace hw : mw_W G (mw_ad G) 731 TF F10 M11 L8 H locs := by rw [eF10, eM11]; exact hw
  refine W.widen (k := 729) (n := 228964) (Nat.le_of_ble_eq_true rfl) (Nat.le_of_ble_eq_true rfl) ?_
  obtain ⟨F12, eF12, hD⟩ := g_let hD
  refine mr_putFR C hw kc_8 2 (by omega) tf_1 wd_596 dX8_init_33 (by decide) rfl rfl hnm rfl rfl rfl (fun H locs hw => ?_)
  replace hw : mw_W G (mw_ad G) 731 TF F12 M11 L8 H locs := by rw [eF12]; exact hw
  refine mw_size hw (by omega) (fun hs => ?_)
  exact mr_cret C hr hlocks hw hs (Option.some.inj hD) dX8_init_36

theorem dX11_init_0 : decode cX11_init 0 = .ok (.aload_n 0, 1) := by decide +kernel
theorem dX11_init_1 : decode cX11_init 1 = .ok (.invokespecial 1, 3) := by decide +kernel
theorem dX11_init_4 : decode cX11_init 4 = .ok (.aload_n 0, 1) := by decide +kernel
theorem dX11_init_5 : decode cX11_init 5 = .ok (.new 7, 3) := by decide +kernel
theorem dX11_init_8 : decode cX11_init 8 = .ok (.dup, 1) := by decide +kernel
theorem dX11_init_9 : decode cX11_init 9 = .ok (.invokespecial 9, 3) := by decide +kernel
theorem dX11_init_12 : decode cX11_init 12 = .ok (.putfield 10, 3) := by decide +kernel
theorem dX11_init_15 : decode cX11_init 15 = .ok (.aload_n 0, 1) := by decide +kernel
theorem dX11_init_16 : decode cX11_init 16 = .ok (.aload_n 0, 1) := by decide +kernel
theorem dX11_init_17 : decode cX11_init 17 = .ok (.getfield 10, 3) := by decide +kernel
theorem dX11_init_20 : decode cX11_init 20 = .ok (.getfield 16, 3) := by decide +kernel
theorem dX11_init_23 : decode cX11_init 23 = .ok (.putfield 20, 3) := by decide +kernel
theorem dX11_init_26 : decode cX11_init 26 = .ok (.aload_n 0, 1) := by decide +kernel
theorem dX11_init_27 : decode cX11_init 27 = .ok (.bipush 100, 2) := by decide +kernel
theorem dX11_init_29 : decode cX11_init 29 = .ok (.newarray .int, 2) := by decide +kernel
theorem dX11_init_31 : decode cX11_init 31 = .ok (.putfield 21, 3) := by decide +kernel
theorem dX11_init_34 : decode cX11_init 34 = .ok (.return_, 1) := by decide +kernel
theorem cwX11_init : mw_cw yX11_init cX11_init 1 none 0 := ⟨wd_1, wd_37, by decide +kernel⟩
noncomputable def DX11_init (fu : Nat) (F : mwF) (M : mwM) (L : mwL) : Option (mwF × mwM × mwL) :=
  mlet (mz none F 1) (fun F1 => mlet (mz 0 M 1) (fun M2 => mlet (mz 0 L 1) (fun L3 => mb3 (DX8_init fu F1 M2 L3) (fun F4 M5 L6 => mlet (mset F4 0 0 (some 1)) (fun F7 => mlet (mset F7 0 1 (some 3)) (fun F8 => mlet (mz 0 M5 731) (fun M9 => mlet (mset F8 0 2 (some 731)) (fun F10 => some (F10, M9, L6)))))))))
set_option maxHeartbeats 4000000 in
theorem kX11_init {fu : Nat} {F : mwF} {M : mwM} {L : mwL} {FZ : mwF} {MZ : mwM} {LZ : mwL} (hD : DX11_init fu F M L = some (FZ, MZ, LZ)) : ∀ a j, (a < 0 ∨ 732 ≤ a) → FZ a j = F a j := by
  intro a j ha
  unfold DX11_init at hD
  obtain ⟨F1, eF1, hD⟩ := g_let hD
  obtain ⟨M2, eM2, hD⟩ := g_let hD
  obtain ⟨L3, eL3, hD⟩ := g_let hD
  obtain ⟨F4, M5, L6, hc4, hD⟩ := g_b3 hD
  have eF4 : ∀ a j, (a < 1 ∨ 731 ≤ a) → F4 a j = F1 a j := fun a j ha => kX8_init hc4 a j (by omega)
  obtain ⟨F7, eF7, hD⟩ := g_let hD
  obtain ⟨F8, eF8, hD⟩ := g_let hD
  obtain ⟨M9, eM9, hD⟩ := g_let hD
  obtain ⟨F10, eF10, hD⟩ := g_let hD
  have hf := congrArg (fun q => q.1) (Option.some.inj hD)
  dsimp only at hf
  rw [← hf]
  rw [eF10, mset_k (by omega)]
  rw [eF8, mset_k (by omega)]
  rw [eF7, mset_k (by omega)]
  rw [eF4 a j (by omega)]
  rw [eF1, mz_n (by omega)]
theorem vX11_init_0 {fu : Nat} {F : mwF} {M : mwM} {L : mwL} {FZ : mwF} {MZ : mwM} {LZ : mwL} (hD : DX11_init fu F M L = some (FZ, MZ, LZ)) : FZ 0 0 = some 1 := by
  unfold DX11_init at hD
  obtain ⟨F1, eF1, hD⟩ := g_let hD
  obtain ⟨M2, eM2, hD⟩ := g_let hD
  obtain ⟨L3, eL3, hD⟩ := g_let hD
  obtain ⟨F4, M5, L6, hc4, hD⟩ := g_b3 hD
  have eF4 : ∀ a j, (a < 1 ∨ 731 ≤ a) → F4 a j = F1 a j := fun a j ha => kX8_init hc4 a j (by omega)
  obtain ⟨F7, eF7, hD⟩ := g_let hD
  obtain ⟨F8, eF8, hD⟩ := g_let hD
  obtain ⟨M9, eM9, hD⟩ := g_let hD
  obtain ⟨F10, eF10, hD⟩ := g_let hD
  have hf := congrArg (fun q => q.1) (Option.some.inj hD)
  dsimp only at hf
  rw [← hf]
  (rw [eF10, mset_j (by decide)]; rw [eF8, mset_j (by decide)]; rw [eF7]; exact mset_s)
theorem vX11_init_1 {fu : Nat} {F : mwF} {M : mwM} {L : mwL} {FZ : mwF} {MZ : mwM} {LZ : mwL} (hD : DX11_init fu F M L = some (FZ, MZ, LZ)) : FZ 0 1 = some 3 := by
  unfold DX11_init at hD
  obtain ⟨F1, eF1, hD⟩ := g_let hD
  obtain ⟨M2, eM2, hD⟩ := g_let hD
  obtain ⟨L3, eL3, hD⟩ := g_let hD
  obtain ⟨F4, M5, L6, hc4, hD⟩ := g_b3 hD
  have eF4 : ∀ a j, (a < 1 ∨ 731 ≤ a) → F4 a j = F1 a j := fun a j ha => kX8_init hc4 a j (by omega)
  obtain ⟨F7, eF7, hD⟩ := g_let hD
  obtain ⟨F8, eF8, hD⟩ := g_let hD
  obtain ⟨M9, eM9, hD⟩ := g_let hD
  obtain ⟨F10, eF10, hD⟩ := g_let hD
  have hf := congrArg (fun q => q.1) (Option.some.inj hD)
  dsimp only at hf
  rw [← hf]
  (rw [eF10, mset_j (by decide)]; rw [eF8]; exact mset_s)
theorem vX11_init_2 {fu : Nat} {F : mwF} {M : mwM} {L : mwL} {FZ : mwF} {MZ : mwM} {LZ : mwL} (hD : DX11_init fu F M L = some (FZ, MZ, LZ)) : FZ 0 2 = some 731 := by
  unfold DX11_init at hD
  obtain ⟨F1, eF1, hD⟩ := g_let hD
  obtain ⟨M2, eM2, hD⟩ := g_let hD
  obtain ⟨L3, eL3, hD⟩ := g_let hD
  obtain ⟨F4, M5, L6, hc4, hD⟩ := g_b3 hD
  have eF4 : ∀ a j, (a < 1 ∨ 731 ≤ a) → F4 a j = F1 a j := fun a j ha => kX8_init hc4 a j (by omega)
  obtain ⟨F7, eF7, hD⟩ := g_let hD
  obtain ⟨F8, eF8, hD⟩ := g_let hD
  obtain ⟨M9, eM9, hD⟩ := g_let hD
  obtain ⟨F10, eF10, hD⟩ := g_let hD
  have hf := congrArg (fun q => q.1) (Option.some.inj hD)
  dsimp only at hf
  rw [← hf]
  (rw [eF10]; exact mset_s)
set_option maxHeartbeats 4000000 in
set_option maxRecDepth 100000 in
theorem tX11_init (l : Launch) (G : mwG) (fu : Nat) (F : mwF) (M : mwM) (L : mwL) {FZ : mwF} {MZ : mwM} {LZ : mwL} (hD : DX11_init fu F M L = some (FZ, MZ, LZ)) : Met l yX11_init (Cond.code yX11_init cX11_init 1 none :: GT) ({ frames := 7, cells := 731, slots := 229078, locals := 184 }) (mw_PreC G 1 F M L [.ref (mw_ad G 0)]) (mw_QC G 732 FZ MZ LZ) 731 229078 (mw_fr G) := by
  refine mw_enterC (by decide) (Nat.le_of_ble_eq_true rfl) ?_
  intro p e s m below meth c ls C A hr hlocks hnm hw hs0 hl
  have hl : lv_has ls 1 [(0, .ref (mw_ad G 0))] := hl
  unfold DX11_init at hD
  refine lv_aload_n C.1.1 C.1.2.1 dX11_init_0 rfl (lv_at hl 0 rfl) ?_
  refine W.objInit C.1.1 C.1.2.1 C.1.2.2.2.1 (C.1.2.2.2.2 _ wd_38) (C.1.2.2.2.2 _ wd_39) (C.1.2.2.2.2 _ wd_40) rfl (by rw [C.1.2.2.1]; exact hl.1) rfl dX11_init_1 (Nat.le_of_ble_eq_true rfl) (Nat.le_of_ble_eq_true rfl) ?_
  refine W.eq (g2 := F0 m 4 ls []) rfl ?_
  refine lv_aload_n C.1.1 C.1.2.1 dX11_init_4 rfl (lv_at hl 0 rfl) ?_
  refine mw_size hw (by omega) (fun hs => ?_)
  obtain ⟨F1, eF1, hD⟩ := g_let hD
  obtain ⟨M2, eM2, hD⟩ := g_let hD
  obtain ⟨L3, eL3, hD⟩ := g_let hD
  refine mr_new C hw hs kc_8 tf_1 wd_41 wd_42 wd_2 (by decide +kernel) (Nat.le_of_ble_eq_true rfl) (Nat.le_of_ble_eq_true rfl) dX11_init_5 (fun H hw _ => ?_)
  replace hw : mw_W G (mw_ad G) 2 TF F1 M2 L3 H [] := by rw [eF1, eM2, eL3]; exact hw
  refine W.widen (k := 1) (n := 14) (Nat.le_of_ble_eq_true rfl) (Nat.le_of_ble_eq_true rfl) ?_
  refine lv_dup C.1.1 C.1.2.1 dX11_init_8 rfl ?_
  obtain ⟨F4, M5, L6, hc4, hD⟩ := g_b3 hD
  have eF4 : ∀ a j, (a < 1 ∨ 731 ≤ a) → F4 a j = F1 a j := fun a j ha => kX8_init hc4 a j (by omega)
  refine mw_size hw (by omega) (fun hs => ?_)
  refine mc_initN (k := 1) (rest := [.ref (mw_ad G 1), .ref (mw_ad G 0)]) C A hw hs (tX8_init l G fu F1 M2 L3 hc4) nd_43 wd_44 cwX8_init rfl rfl rfl ⟨Nat.le_of_ble_eq_true rfl, Nat.le_of_ble_eq_true rfl⟩ hl.1 (Nat.le_of_ble_eq_true rfl) dX11_init_9 ⟨Nat.le_of_ble_eq_true rfl, Nat.le_of_ble_eq_true rfl⟩ (fun H locs hw _ => ?_)
  replace hw : mw_W G (mw_ad G) 731 TF F4 M5 L6 H locs := hw
  refine W.widen (k := 730) (n := 228978) (Nat.le_of_ble_eq_true rfl) (Nat.le_of_ble_eq_true rfl) ?_
  obtain ⟨F7, eF7, hD⟩ := g_let hD
  refine mr_putFR C hw kc_11 0 (by omega) tf_0 wd_640 dX11_init_12 (by decide) rfl rfl hnm rfl rfl rfl (fun H locs hw => ?_)
  replace hw : mw_W G (mw_ad G) 731 TF F7 M5 L6 H locs := by rw [eF7]; exact hw
  refine lv_aload_n C.1.1 C.1.2.1 dX11_init_15 rfl (lv_at hl 0 rfl) ?_
  refine lv_aload_n C.1.1 C.1.2.1 dX11_init_16 rfl (lv_at hl 0 rfl) ?_
  refine mr_getR C hw kc_11 0 (by omega) tf_0 (show F7 0 0 = some 1 by (rw [eF7]; exact mset_s)) wd_640 dX11_init_17 (by decide) rfl ?_
  refine mr_getNR C hw kc_8 1 (by omega) tf_1 (show F7 1 1 = some 3 by (rw [eF7, mset_k (by omega)]; exact vX8_init_1 hc4)) nd_594 dX11_init_20 (by decide) rfl ?_
  obtain ⟨F8, eF8, hD⟩ := g_let hD
  refine mr_putFR C hw kc_11 1 (by omega) tf_0 wd_641 dX11_init_23 (by decide) rfl rfl hnm rfl rfl rfl (fun H locs hw => ?_)
  replace hw : mw_W G (mw_ad G) 731 TF F8 M5 L6 H locs := by rw [eF8]; exact hw
  refine lv_aload_n C.1.1 C.1.2.1 dX11_init_26 rfl (lv_at hl 0 rfl) ?_
  refine lv_bipush (v := 100) C.1.1 C.1.2.1 dX11_init_27 (by decide) ?_
  refine mw_size hw (by omega) (fun hs => ?_)
  obtain ⟨M9, eM9, hD⟩ := g_let hD
  refine mr_newI (atype := .int) (t := 0) (n := 100) C hw hs tf_731 (by decide) rfl wd_91 rfl (fun _ => rfl) (by decide) (by decide) (by decide) (Nat.le_of_ble_eq_true rfl) (Nat.le_of_ble_eq_true rfl) dX11_init_29 (fun H hw _ => ?_)
  replace hw : mw_W G (mw_ad G) 732 TF F8 M9 L6 H locs := by rw [eM9]; exact hw
  refine W.widen (k := 731) (n := 229078) (Nat.le_of_ble_eq_true rfl) (Nat.le_of_ble_eq_true rfl) ?_
  obtain ⟨F10, eF10, hD⟩ := g_let hD
  refine mr_putFR C hw kc_11 2 (by omega) tf_0 wd_642 dX11_init_31 (by decide) rfl rfl hnm rfl rfl rfl (fun H locs hw => ?_)
  replace hw : mw_W G (mw_ad G) 732 TF F10 M9 L6 H locs := by rw [eF10]; exact hw
  refine mw_size hw (by omega) (fun hs => ?_)
  exact mr_cret C hr hlocks hw hs (Option.some.inj hD) dX11_init_34
