noncomputable def fX19_lookAt_b214 (fu : Nat) (a1 : Int32) (r11 : (Int32 × mwM × mwL) → Option (mwM × mwL)) (v2 : Int32) (M : mwM) (L : mwL) : Option (mwM × mwL) :=
  r11 (v2, M, L)
noncomputable def fX19_lookAt_b208 (fu : Nat) (a1 : Int32) (r11 : (Int32 × mwM × mwL) → Option (mwM × mwL)) (v2 : Int32) (v4 : Int32) (M : mwM) (L : mwL) : Option (mwM × mwL) :=
  mb2 (DX19_arrive fu v4 M L) (fun M38 L39 => fX19_lookAt_b214 fu a1 r11 v2 M38 L39)
noncomputable def fX19_lookAt_b174 (fu : Nat) (a1 : Int32) (r11 : (Int32 × mwM × mwL) → Option (mwM × mwL)) (v2 : Int32) (M : mwM) (L : mwL) : Option (mwM × mwL) :=
  fX19_lookAt_b214 fu a1 r11 v2 M L
noncomputable def fX19_lookAt_b168 (fu : Nat) (a1 : Int32) (r11 : (Int32 × mwM × mwL) → Option (mwM × mwL)) (r126 : (Int32 × Int32 × Int32 × mwM × mwL) → Option (mwM × mwL)) (v2 : Int32) (v4 : Int32) (v5 : Int32) (M : mwM) (L : mwL) : Option (mwM × mwL) :=
  mlet (v5 + 1) (fun x37 => r126 (v2, v4, x37, M, L))
noncomputable def fX19_lookAt_i126 (fu : Nat) (a1 : Int32) (r11 : (Int32 × mwM × mwL) → Option (mwM × mwL)) (r126 : (Int32 × Int32 × Int32 × mwM × mwL) → Option (mwM × mwL)) (v2 : Int32) (v4 : Int32) (v5 : Int32) (M : mwM) (L : mwL) : Option (mwM × mwL) :=
  (if (M 732 67) ≤ v5 then fX19_lookAt_b174 fu a1 r11 v2 M L else (if (M 732 19) ≤ a1 then fX19_lookAt_b174 fu a1 r11 v2 M L else mck v5 40 ((if v4 = (64 + (8 * (M 784 v5.toNatClampNeg))) then mb2 (DX19_come fu a1 v5 M L) (fun M35 L36 => fX19_lookAt_b168 fu a1 r11 r126 v2 v4 v5 M35 L36) else fX19_lookAt_b168 fu a1 r11 r126 v2 v4 v5 M L))))
noncomputable def fX19_lookAt_h126 (fu : Nat) (a1 : Int32) (r11 : (Int32 × mwM × mwL) → Option (mwM × mwL)) : Nat → (Int32 × Int32 × Int32 × mwM × mwL) → Option (mwM × mwL) := mloop (fun r126 s => fX19_lookAt_i126 fu a1 r11 r126 s.1 s.2.1 s.2.2.1 s.2.2.2.1 s.2.2.2.2)
noncomputable def fX19_lookAt_i84 (fu : Nat) (a1 : Int32) (r11 : (Int32 × mwM × mwL) → Option (mwM × mwL)) (r84 : (Int32 × Int32 × Int32 × Int32 × mwM × mwL) → Option (mwM × mwL)) (v2 : Int32) (v3 : Int32) (v4 : Int32) (v5 : Int32) (M : mwM) (L : mwL) : Option (mwM × mwL) :=
  (if 8 ≤ v5 then (if 1536 ≤ v4 then (if a1 = (M 732 19) then (if (v4 - v4 / 2 * 2) = 1 then fX19_lookAt_b208 fu a1 r11 v2 v4 M L else fX19_lookAt_b214 fu a1 r11 v2 M L) else (if v4 = (1536 + (2 * a1)) then fX19_lookAt_b208 fu a1 r11 v2 v4 M L else fX19_lookAt_b214 fu a1 r11 v2 M L)) else fX19_lookAt_h126 fu a1 r11 fu (v2, v4, 0, M, L)) else mb3 (DX12_takenOctet fu a1 v3 v5 M L) (fun r27 M25 L26 => mck v5 8 (mlet (mset M25 926 (v5.toNatClampNeg) r27) (fun M29 => mlet (v5 + 1) (fun x30 => r84 (v2, v3, v4, x30, M29, L26))))))
noncomputable def fX19_lookAt_h84 (fu : Nat) (a1 : Int32) (r11 : (Int32 × mwM × mwL) → Option (mwM × mwL)) : Nat → (Int32 × Int32 × Int32 × Int32 × mwM × mwL) → Option (mwM × mwL) := mloop (fun r84 s => fX19_lookAt_i84 fu a1 r11 r84 s.1 s.2.1 s.2.2.1 s.2.2.2.1 s.2.2.2.2.1 s.2.2.2.2.2)
noncomputable def fX19_lookAt_i11 (fu : Nat) (a1 : Int32) (r11 : (Int32 × mwM × mwL) → Option (mwM × mwL)) (v2 : Int32) (M : mwM) (L : mwL) : Option (mwM × mwL) :=
  mck a1 7 ((if v2 ≤ (M 924 a1.toNatClampNeg) then some (M, L) else mck a1 7 (mlet (M 924 a1.toNatClampNeg) (fun x4 => mck a1 7 (mck a1 7 (mlet (mset M 924 (a1.toNatClampNeg) ((M 924 a1.toNatClampNeg) + 1)) (fun M7 => mb3 (DX12_taken fu a1 x4 0 M7 L) (fun r10 M8 L9 => mb3 (DX12_taken fu a1 x4 1 M8 L9) (fun r13 M11 L12 => (if r13 = 0 then mb3 (DX12_taken fu a1 x4 3 M11 L12) (fun r17 M15 L16 => (if r17 = 8 then fX19_lookAt_h84 fu a1 r11 fu (v2, x4, r10, 0, M15, L16) else r11 (v2, M15, L16))) else r11 (v2, M11, L12)))))))))))
noncomputable def fX19_lookAt_h11 (fu : Nat) (a1 : Int32) : Nat → (Int32 × mwM × mwL) → Option (mwM × mwL) := mloop (fun r11 s => fX19_lookAt_i11 fu a1 r11 s.1 s.2.1 s.2.2)
noncomputable def DX19_lookAt (fu : Nat) (a1 : Int32) (M : mwM) (L : mwL) : Option (mwM × mwL) :=
  mb3 (DX12_taken fu a1 ((-1)) 0 M L) (fun r42 M40 L41 => fX19_lookAt_h11 fu a1 fu (r42, M40, L41))
noncomputable def fX19_transferred_b350 (fu : Nat) (v3 : Int32) (M : mwM) (L : mwL) : Option (mwM × mwL) :=
  mlet (mset M 732 96 v3) (fun M59 => some (M59, L))
noncomputable def fX19_transferred_i295 (fu : Nat) (r295 : (Int32 × Int32 × mwM × mwL) → Option (mwM × mwL)) (v3 : Int32) (v4 : Int32) (M : mwM) (L : mwL) : Option (mwM × mwL) :=
  (if 8 ≤ v4 then (if v3 ≤ (M 732 96) then fX19_transferred_b350 fu v3 M L else (if (M 732 97) < 0 then fX19_transferred_b350 fu v3 M L else mlet (mset M 939 ((4 : Int32).toNatClampNeg) ((M 939 (4 : Int32).toNatClampNeg) + 1)) (fun M52 => mlet (mset M52 732 97 ((-1))) (fun M53 => fX19_transferred_b350 fu v3 M53 L)))) else mb3 (DX17_ended fu v4 M L) (fun r56 M54 L55 => mlet (v3 + r56) (fun x57 => mlet (v4 + 1) (fun x58 => r295 (x57, x58, M54, L55)))))
noncomputable def fX19_transferred_h295 (fu : Nat) : Nat → (Int32 × Int32 × mwM × mwL) → Option (mwM × mwL) := mloop (fun r295 s => fX19_transferred_i295 fu r295 s.1 s.2.1 s.2.2.1 s.2.2.2)
noncomputable def fX19_transferred_b287 (fu : Nat) (r23 : (Int32 × mwM × mwL) → Option (mwM × mwL)) (v2 : Int32) (M : mwM) (L : mwL) : Option (mwM × mwL) :=
  r23 (v2, M, L)
noncomputable def fX19_transferred_b263 (fu : Nat) (r23 : (Int32 × mwM × mwL) → Option (mwM × mwL)) (v2 : Int32) (s1 : Int32) (s2 : Int32) (s3 : Int32) (M : mwM) (L : mwL) : Option (mwM × mwL) :=
  mb3 (DX19_put fu s1 (s2 + s3) (M 732 94) M L) (fun r42 M40 L41 => (if r42 = 0 then mb3 (DX17_lose fu (M40 732 94) M40 L41) (fun r46 M44 L45 => fX19_transferred_b287 fu r23 v2 M44 L45) else fX19_transferred_b287 fu r23 v2 M40 L41))
noncomputable def fX19_transferred_b235 (fu : Nat) (r23 : (Int32 × mwM × mwL) → Option (mwM × mwL)) (v2 : Int32) (v4 : Int32) (v5 : Int32) (s0 : Int32) (M : mwM) (L : mwL) : Option (mwM × mwL) :=
  mck v4 101 ((if v5 = 0 then fX19_transferred_b263 fu r23 v2 s0 (1536 + (2 * (M 927 v4.toNatClampNeg))) 1 M L else fX19_transferred_b263 fu r23 v2 s0 (1536 + (2 * (M 927 v4.toNatClampNeg))) 0 M L))
noncomputable def fX19_transferred_b214 (fu : Nat) (r23 : (Int32 × mwM × mwL) → Option (mwM × mwL)) (v2 : Int32) (v4 : Int32) (s0 : Int32) (M : mwM) (L : mwL) : Option (mwM × mwL) :=
  (if s0 = 0 then mck v4 101 (fX19_transferred_b235 fu r23 v2 v4 s0 (M 927 v4.toNatClampNeg) M L) else fX19_transferred_b235 fu r23 v2 v4 s0 (M 732 19) M L)
noncomputable def fX19_transferred_b177 (fu : Nat) (r23 : (Int32 × mwM × mwL) → Option (mwM × mwL)) (r97 : (Int32 × Int32 × Int32 × Int32 × mwM × mwL) → Option (mwM × mwL)) (v2 : Int32) (v3 : Int32) (v4 : Int32) (v5 : Int32) (s1 : Int32) (s2 : Int32) (M : mwM) (L : mwL) : Option (mwM × mwL) :=
  mck s1 8 (mlet (mset M 926 (s1.toNatClampNeg) s2) (fun M34 => mlet (v5 + 1) (fun x35 => r97 (v2, v3, v4, x35, M34, L))))
noncomputable def fX19_transferred_i97 (fu : Nat) (r23 : (Int32 × mwM × mwL) → Option (mwM × mwL)) (r97 : (Int32 × Int32 × Int32 × Int32 × mwM × mwL) → Option (mwM × mwL)) (v2 : Int32) (v3 : Int32) (v4 : Int32) (v5 : Int32) (M : mwM) (L : mwL) : Option (mwM × mwL) :=
  (if 8 ≤ v5 then (if v3 = 3 then mck v4 101 ((if (M 928 v4.toNatClampNeg) = 0 then fX19_transferred_b214 fu r23 v2 v4 1 M L else fX19_transferred_b214 fu r23 v2 v4 0 M L)) else mck v4 101 (fX19_transferred_b214 fu r23 v2 v4 (M 928 v4.toNatClampNeg) M L)) else (if v3 = 3 then (if v5 = 1 then mb3 (DX17_frame fu (M 732 94) 3 M L) (fun r32 M30 L31 => fX19_transferred_b177 fu r23 r97 v2 v3 v4 v5 v5 r32 M30 L31) else (if v5 = 2 then mb3 (DX17_frame fu (M 732 94) 5 M L) (fun r29 M27 L28 => fX19_transferred_b177 fu r23 r97 v2 v3 v4 v5 v5 r29 M27 L28) else fX19_transferred_b177 fu r23 r97 v2 v3 v4 v5 v5 0 M L)) else mb3 (DX17_frame fu (M 732 94) (7 + v5) M L) (fun r24 M21 L22 => fX19_transferred_b177 fu r23 r97 v2 v3 v4 v5 v5 r24 M21 L22)))
noncomputable def fX19_transferred_h97 (fu : Nat) (r23 : (Int32 × mwM × mwL) → Option (mwM × mwL)) : Nat → (Int32 × Int32 × Int32 × Int32 × mwM × mwL) → Option (mwM × mwL) := mloop (fun r97 s => fX19_transferred_i97 fu r23 r97 s.1 s.2.1 s.2.2.1 s.2.2.2.1 s.2.2.2.2.1 s.2.2.2.2.2)
noncomputable def fX19_transferred_i23 (fu : Nat) (r23 : (Int32 × mwM × mwL) → Option (mwM × mwL)) (v2 : Int32) (M : mwM) (L : mwL) : Option (mwM × mwL) :=
  (if v2 ≤ (M 732 94) then fX19_transferred_h295 fu fu (0, 1, M, L) else mlet (mset M 732 94 ((M 732 94) + 1)) (fun M2 => mb3 (DX17_frame fu (M2 732 94) 0 M2 L) (fun r5 M3 L4 => mb3 (DX17_frame fu (M3 732 94) 1 M3 L4) (fun r8 M6 L7 => mb3 (DX17_frame fu (M6 732 94) 2 M6 L7) (fun r11 M9 L10 => mlet (mset M9 926 ((0 : Int32).toNatClampNeg) ((r5 * 16) + (r11 - r11 / 16 * 16))) (fun M14 => fX19_transferred_h97 fu r23 fu (v2, r5, r8, 1, M14, L10)))))))
noncomputable def fX19_transferred_h23 (fu : Nat) : Nat → (Int32 × mwM × mwL) → Option (mwM × mwL) := mloop (fun r23 s => fX19_transferred_i23 fu r23 s.1 s.2.1 s.2.2)
noncomputable def DX19_transferred (fu : Nat) (M : mwM) (L : mwL) : Option (mwM × mwL) :=
  mb3 (DX17_tick fu ((M 732 83).toInt64) M L) (fun r62 M60 L61 => mb3 (DX17_frame fu 0 0 M60 L61) (fun r65 M63 L64 => fX19_transferred_h23 fu fu (r65, M63, L64)))
noncomputable def fX19_taskDone_b118 (fu : Nat) (a1 : Int32) (r72 : (Int32 × Int32 × Int32 × mwM × mwL) → Option (mwM × mwL)) (v2 : Int32) (v3 : Int32) (v4 : Int32) (M : mwM) (L : mwL) : Option (mwM × mwL) :=
  mlet (v4 + 1) (fun x11 => r72 (v2, v3, x11, M, L))
noncomputable def fX19_taskDone_i72 (fu : Nat) (a1 : Int32) (r72 : (Int32 × Int32 × Int32 × mwM × mwL) → Option (mwM × mwL)) (v2 : Int32) (v3 : Int32) (v4 : Int32) (M : mwM) (L : mwL) : Option (mwM × mwL) :=
  (if v3 ≤ v4 then some (M, L) else mck v2 12 (mck ((16 * v2) + v4) 192 (mb3 (DX13_event fu ((964 + 53 * v2.toNatClampNeg)) (M 753 ((16 * v2) + v4).toNatClampNeg) ((M 732 83).toInt64) M L) (fun r6 M4 L5 => (if r6 = ((-1)) then mck v2 12 (mck v2 12 (mlet (mset M4 751 (v2.toNatClampNeg) ((M4 751 v2.toNatClampNeg) + 1)) (fun M10 => fX19_taskDone_b118 fu a1 r72 v2 v3 v4 M10 L5))) else fX19_taskDone_b118 fu a1 r72 v2 v3 v4 M4 L5)))))
noncomputable def fX19_taskDone_h72 (fu : Nat) (a1 : Int32) : Nat → (Int32 × Int32 × Int32 × mwM × mwL) → Option (mwM × mwL) := mloop (fun r72 s => fX19_taskDone_i72 fu a1 r72 s.1 s.2.1 s.2.2.1 s.2.2.2.1 s.2.2.2.2)
noncomputable def fX19_taskDone_b69 (fu : Nat) (a1 : Int32) (v2 : Int32) (v3 : Int32) (M : mwM) (L : mwL) : Option (mwM × mwL) :=
  fX19_taskDone_h72 fu a1 fu (v2, v3, 0, M, L)
noncomputable def DX19_taskDone (fu : Nat) (a1 : Int32) (M : mwM) (L : mwL) : Option (mwM × mwL) :=
  mck a1 12 (mck a1 12 (mlet (mset M 748 (a1.toNatClampNeg) ((M 748 a1.toNatClampNeg) + 1)) (fun M14 => mck a1 12 (mlet (M14 747 a1.toNatClampNeg) (fun x16 => (if 0 ≤ x16 then mck x16 12 (mlet (M14 752 x16.toNatClampNeg) (fun x19 => mck x16 12 (mlet (mset M14 752 (x16.toNatClampNeg) 0) (fun M21 => (if x19 = 0 then mck x16 12 (mb3 (DX13_event fu ((964 + 53 * x16.toNatClampNeg)) 0 ((M21 732 83).toInt64) M21 L) (fun r26 M24 L25 => (if r26 = ((-1)) then mck x16 12 (mck x16 12 (mlet (mset M24 751 (x16.toNatClampNeg) ((M24 751 x16.toNatClampNeg) + 1)) (fun M30 => fX19_taskDone_b69 fu a1 x16 x19 M30 L25))) else fX19_taskDone_b69 fu a1 x16 x19 M24 L25))) else fX19_taskDone_b69 fu a1 x16 x19 M21 L))))) else some (M14, L)))))))
noncomputable def fX19_microsecond_b268 (fu : Nat) (r201 : (Int32 × mwM × mwL) → Option (mwM × mwL)) (v3 : Int32) (M : mwM) (L : mwL) : Option (mwM × mwL) :=
  mlet (v3 + 1) (fun x55 => r201 (x55, M, L))
noncomputable def fX19_microsecond_i201 (fu : Nat) (r201 : (Int32 × mwM × mwL) → Option (mwM × mwL)) (v3 : Int32) (M : mwM) (L : mwL) : Option (mwM × mwL) :=
  (if (M 732 62) ≤ v3 then mb2 (DX19_transferred fu M L) (fun M43 L44 => some (M43, L44)) else mck v3 30 (mck v3 30 (mck (M 775 v3.toNatClampNeg) 40 ((if (lg_cmp (((M 732 83).toInt64) - (L 778 v3.toNatClampNeg)) (3 * ((M 764 (M 775 v3.toNatClampNeg).toNatClampNeg).toInt64))) < 0 then fX19_microsecond_b268 fu r201 v3 M L else mck v3 30 (mlet (mset L 778 (v3.toNatClampNeg) ((M 732 83).toInt64)) (fun L50 => mck v3 30 (mb3 (DX18_event fu (M 777 v3.toNatClampNeg) 1 M L50) (fun r54 M52 L53 => fX19_microsecond_b268 fu r201 v3 M52 L53)))))))))
noncomputable def fX19_microsecond_h201 (fu : Nat) : Nat → (Int32 × mwM × mwL) → Option (mwM × mwL) := mloop (fun r201 s => fX19_microsecond_i201 fu r201 s.1 s.2.1 s.2.2)
noncomputable def fX19_microsecond_b193 (fu : Nat) (r139 : (Int32 × mwM × mwL) → Option (mwM × mwL)) (v3 : Int32) (M : mwM) (L : mwL) : Option (mwM × mwL) :=
  mlet (v3 + 1) (fun x41 => r139 (x41, M, L))
noncomputable def fX19_microsecond_i139 (fu : Nat) (r139 : (Int32 × mwM × mwL) → Option (mwM × mwL)) (v3 : Int32) (M : mwM) (L : mwL) : Option (mwM × mwL) :=
  (if (M 732 24) ≤ v3 then fX19_microsecond_h201 fu fu (0, M, L) else mb3 (DX15_used fu (v3 + 1) M L) (fun r33 M31 L32 => mck v3 12 ((if (lg_cmp r33 (L32 925 v3.toNatClampNeg)) ≤ 0 then fX19_microsecond_b193 fu r139 v3 M31 L32 else mck v3 12 (mnzL (((M31 746 v3.toNatClampNeg) + 1).toInt64) ((if (lg_cmp (r33 - r33 / (((M31 746 v3.toNatClampNeg) + 1).toInt64) * (((M31 746 v3.toNatClampNeg) + 1).toInt64)) 0) = 0 then mb2 (DX19_taskDone fu v3 M31 L32) (fun M39 L40 => fX19_microsecond_b193 fu r139 v3 M39 L40) else fX19_microsecond_b193 fu r139 v3 M31 L32)))))))
noncomputable def fX19_microsecond_h139 (fu : Nat) : Nat → (Int32 × mwM × mwL) → Option (mwM × mwL) := mloop (fun r139 s => fX19_microsecond_i139 fu r139 s.1 s.2.1 s.2.2)
noncomputable def fX19_microsecond_i118 (fu : Nat) (r118 : (Int32 × mwM × mwL) → Option (mwM × mwL)) (v3 : Int32) (M : mwM) (L : mwL) : Option (mwM × mwL) :=
  (if (M 732 19) < v3 then fX19_microsecond_h139 fu fu (0, M, L) else mb2 (DX19_lookAt fu v3 M L) (fun M27 L28 => mlet (v3 + 1) (fun x29 => r118 (x29, M27, L28))))
noncomputable def fX19_microsecond_h118 (fu : Nat) : Nat → (Int32 × mwM × mwL) → Option (mwM × mwL) := mloop (fun r118 s => fX19_microsecond_i118 fu r118 s.1 s.2.1 s.2.2)
noncomputable def fX19_microsecond_i67 (fu : Nat) (r67 : (Int32 × mwM × mwL) → Option (mwM × mwL)) (v2 : Int32) (M : mwM) (L : mwL) : Option (mwM × mwL) :=
  (if (M 732 24) ≤ v2 then mb3 (DX15_run fu 1 M L) (fun r18 M16 L17 => mlet (mset M16 732 83 ((M16 732 83) + 1)) (fun M19 => fX19_microsecond_h118 fu fu (0, M19, L17))) else mb3 (DX15_used fu (v2 + 1) M L) (fun r22 M20 L21 => mck v2 12 (mlet (mset L21 925 (v2.toNatClampNeg) r22) (fun L24 => mlet (v2 + 1) (fun x25 => r67 (x25, M20, L24))))))
noncomputable def fX19_microsecond_h67 (fu : Nat) : Nat → (Int32 × mwM × mwL) → Option (mwM × mwL) := mloop (fun r67 s => fX19_microsecond_i67 fu r67 s.1 s.2.1 s.2.2)
noncomputable def fX19_microsecond_b56 (fu : Nat) (M : mwM) (L : mwL) : Option (mwM × mwL) :=
  mb3 (DX12_run fu 1 M L) (fun r14 M12 L13 => fX19_microsecond_h67 fu fu (0, M12, L13))
noncomputable def fX19_microsecond_b50 (fu : Nat) (r2 : (Int32 × mwM × mwL) → Option (mwM × mwL)) (v1 : Int32) (M : mwM) (L : mwL) : Option (mwM × mwL) :=
  mlet (v1 + 1) (fun x11 => r2 (x11, M, L))
noncomputable def fX19_microsecond_i2 (fu : Nat) (r2 : (Int32 × mwM × mwL) → Option (mwM × mwL)) (v1 : Int32) (M : mwM) (L : mwL) : Option (mwM × mwL) :=
  (if (M 732 67) ≤ v1 then fX19_microsecond_b56 fu M L else (if (M 732 83) ≤ 0 then fX19_microsecond_b56 fu M L else mck v1 40 (mnz (M 782 v1.toNatClampNeg) ((if ((M 732 83) - (M 732 83) / (M 782 v1.toNatClampNeg) * (M 782 v1.toNatClampNeg)) = 0 then mck v1 40 (mck (M 779 v1.toNatClampNeg) 6 ((if (M 923 (M 779 v1.toNatClampNeg).toNatClampNeg) = 0 then mb2 (DX19_send fu v1 M L) (fun M9 L10 => fX19_microsecond_b50 fu r2 v1 M9 L10) else fX19_microsecond_b50 fu r2 v1 M L))) else fX19_microsecond_b50 fu r2 v1 M L)))))
noncomputable def fX19_microsecond_h2 (fu : Nat) : Nat → (Int32 × mwM × mwL) → Option (mwM × mwL) := mloop (fun r2 s => fX19_microsecond_i2 fu r2 s.1 s.2.1 s.2.2)
noncomputable def DX19_microsecond (fu : Nat) (M : mwM) (L : mwL) : Option (mwM × mwL) :=
  fX19_microsecond_h2 fu fu (0, M, L)
noncomputable def fX19_run_i57 (fu : Nat) (a1 : Int32) (r57 : (Int32 × Int32 × mwM × mwL) → Option (Int32 × mwM × mwL)) (v2 : Int32) (v3 : Int32) (M : mwM) (L : mwL) : Option (Int32 × mwM × mwL) :=
  (if a1 ≤ v3 then mb3 (DX12_done fu ((-1)) 0 M L) (fun r9 M7 L8 => some (r9 - v2, M7, L8)) else mb2 (DX19_microsecond fu M L) (fun M10 L11 => mlet (v3 + 1) (fun x12 => r57 (v2, x12, M10, L11))))
noncomputable def fX19_run_h57 (fu : Nat) (a1 : Int32) : Nat → (Int32 × Int32 × mwM × mwL) → Option (Int32 × mwM × mwL) := mloop (fun r57 s => fX19_run_i57 fu a1 r57 s.1 s.2.1 s.2.2.1 s.2.2.2)
noncomputable def fX19_run_b33 (fu : Nat) (a1 : Int32) (s1 : Int32) (M : mwM) (L : mwL) : Option (Int32 × mwM × mwL) :=
  mlet (mset M 732 0 s1) (fun M1 => (if (M1 732 0) ≤ 0 then mb3 (DX12_done fu ((-1)) 0 M1 L) (fun r5 M3 L4 => fX19_run_h57 fu a1 fu (r5, 0, M3, L4)) else some (0, M1, L)))
noncomputable def fX19_run_b28 (fu : Nat) (a1 : Int32) (M : mwM) (L : mwL) : Option (Int32 × mwM × mwL) :=
  fX19_run_b33 fu a1 2 M L
noncomputable def DX19_run (fu : Nat) (a1 : Int32) (M : mwM) (L : mwL) : Option (Int32 × mwM × mwL) :=
  (if 0 ≤ a1 then (if (M 732 4) = 0 then fX19_run_b28 fu a1 M L else (if a1 ≤ (20000 - (M 732 83)) then fX19_run_b33 fu a1 0 M L else fX19_run_b28 fu a1 M L)) else fX19_run_b33 fu a1 1 M L)
noncomputable def DX19_place (fu : Nat) (M : mwM) (L : mwL) : Option (Int32 × mwM × mwL) :=
  mlet (mset M 732 0 0) (fun M1 => some (M1 732 5, M1, L))
noncomputable def fX19_count_b110 (fu : Nat) (a1 : Int32) (s0 : Int32) (M : mwM) (L : mwL) : Option (Int32 × mwM × mwL) :=
  some (s0, M, L)
noncomputable def fX19_count_b81 (fu : Nat) (a1 : Int32) (s0 : Int32) (M : mwM) (L : mwL) : Option (Int32 × mwM × mwL) :=
  some (s0, M, L)
noncomputable def fX19_count_b59 (fu : Nat) (a1 : Int32) (s0 : Int32) (M : mwM) (L : mwL) : Option (Int32 × mwM × mwL) :=
  some (s0, M, L)
noncomputable def fX19_count_b27 (fu : Nat) (a1 : Int32) (s1 : Int32) (M : mwM) (L : mwL) : Option (Int32 × mwM × mwL) :=
  mlet (mset M 732 0 s1) (fun M1 => (if (M1 732 0) ≤ 0 then (if 2 ≤ a1 then (if 4 ≤ a1 then (if a1 = 4 then fX19_count_b110 fu a1 (M1 732 67) M1 L else (if a1 = 5 then fX19_count_b110 fu a1 (M1 732 55) M1 L else fX19_count_b110 fu a1 (M1 732 62) M1 L)) else (if a1 = 2 then fX19_count_b81 fu a1 (M1 732 33) M1 L else fX19_count_b81 fu a1 (M1 732 45) M1 L)) else (if a1 = 0 then fX19_count_b59 fu a1 (M1 732 19) M1 L else fX19_count_b59 fu a1 (M1 732 24) M1 L)) else some (0, M1, L)))
noncomputable def fX19_count_b11 (fu : Nat) (a1 : Int32) (M : mwM) (L : mwL) : Option (Int32 × mwM × mwL) :=
  fX19_count_b27 fu a1 1 M L
noncomputable def DX19_count (fu : Nat) (a1 : Int32) (M : mwM) (L : mwL) : Option (Int32 × mwM × mwL) :=
  (if a1 < 0 then fX19_count_b11 fu a1 M L else (if a1 ≤ 6 then (if (M 732 4) = 0 then fX19_count_b27 fu a1 2 M L else fX19_count_b27 fu a1 0 M L) else fX19_count_b11 fu a1 M L))
noncomputable def fX19_frame_b111 (fu : Nat) (a1 : Int32) (a2 : Int32) (s0 : Int32) (M : mwM) (L : mwL) : Option (Int32 × mwM × mwL) :=
  some (s0, M, L)
noncomputable def fX19_frame_b38 (fu : Nat) (a1 : Int32) (a2 : Int32) (s1 : Int32) (M : mwM) (L : mwL) : Option (Int32 × mwM × mwL) :=
  mlet (mset M 732 0 s1) (fun M1 => (if (M1 732 0) ≤ 0 then (if a2 = 0 then mck a1 40 (some (64 + (8 * (M1 784 a1.toNatClampNeg)), M1, L)) else (if a2 = 1 then mck a1 40 (some (M1 779 a1.toNatClampNeg, M1, L)) else (if a2 = 2 then mck a1 40 (some (M1 782 a1.toNatClampNeg, M1, L)) else (if a2 = 3 then mck a1 40 (fX19_frame_b111 fu a1 a2 (M1 783 a1.toNatClampNeg) M1 L) else mck a1 40 (fX19_frame_b111 fu a1 a2 (M1 785 a1.toNatClampNeg) M1 L))))) else some (0, M1, L)))
noncomputable def fX19_frame_b20 (fu : Nat) (a1 : Int32) (a2 : Int32) (M : mwM) (L : mwL) : Option (Int32 × mwM × mwL) :=
  fX19_frame_b38 fu a1 a2 1 M L
noncomputable def fX19_frame_b33 (fu : Nat) (a1 : Int32) (a2 : Int32) (M : mwM) (L : mwL) : Option (Int32 × mwM × mwL) :=
  fX19_frame_b38 fu a1 a2 2 M L
noncomputable def DX19_frame (fu : Nat) (a1 : Int32) (a2 : Int32) (M : mwM) (L : mwL) : Option (Int32 × mwM × mwL) :=
  (if (M 732 4) = 0 then fX19_frame_b20 fu a1 a2 M L else (if a1 < 0 then fX19_frame_b20 fu a1 a2 M L else (if a1 < (M 732 67) then (if a2 < 0 then fX19_frame_b33 fu a1 a2 M L else (if a2 ≤ 4 then fX19_frame_b38 fu a1 a2 0 M L else fX19_frame_b33 fu a1 a2 M L)) else fX19_frame_b20 fu a1 a2 M L)))
noncomputable def fX19_signal_b56 (fu : Nat) (a1 : Int32) (a2 : Int32) (s0 : Int32) (M : mwM) (L : mwL) : Option (Int32 × mwM × mwL) :=
  some (s0, M, L)
noncomputable def fX19_signal_b25 (fu : Nat) (a1 : Int32) (a2 : Int32) (s1 : Int32) (M : mwM) (L : mwL) : Option (Int32 × mwM × mwL) :=
  mlet (mset M 732 0 s1) (fun M1 => (if (M1 732 0) ≤ 0 then (if a2 = 0 then mck a1 40 (fX19_signal_b56 fu a1 a2 (M1 767 a1.toNatClampNeg) M1 L) else mck a1 40 (fX19_signal_b56 fu a1 a2 (M1 768 a1.toNatClampNeg) M1 L)) else some (0, M1, L)))
noncomputable def fX19_signal_b20 (fu : Nat) (a1 : Int32) (a2 : Int32) (M : mwM) (L : mwL) : Option (Int32 × mwM × mwL) :=
  fX19_signal_b25 fu a1 a2 1 M L
noncomputable def DX19_signal (fu : Nat) (a1 : Int32) (a2 : Int32) (M : mwM) (L : mwL) : Option (Int32 × mwM × mwL) :=
  (if (M 732 4) = 0 then fX19_signal_b20 fu a1 a2 M L else (if a1 < 0 then fX19_signal_b20 fu a1 a2 M L else (if a1 < (M 732 45) then fX19_signal_b25 fu a1 a2 0 M L else fX19_signal_b20 fu a1 a2 M L)))
noncomputable def fX19_time_b20 (fu : Nat) (s0 : Int32) (M : mwM) (L : mwL) : Option (Int32 × mwM × mwL) :=
  some (s0, M, L)
noncomputable def DX19_time (fu : Nat) (M : mwM) (L : mwL) : Option (Int32 × mwM × mwL) :=
  mlet (mset M 732 0 0) (fun M1 => (if (M1 732 4) = 0 then fX19_time_b20 fu 0 M1 L else fX19_time_b20 fu (M1 732 83) M1 L))
noncomputable def fX19_bit_b47 (fu : Nat) (a1 : Int32) (s0 : Int32) (M : mwM) (L : mwL) : Option (Int32 × mwM × mwL) :=
  some (s0, M, L)
noncomputable def fX19_bit_b25 (fu : Nat) (a1 : Int32) (s1 : Int32) (M : mwM) (L : mwL) : Option (Int32 × mwM × mwL) :=
  mlet (mset M 732 0 s1) (fun M1 => (if (M1 732 0) ≤ 0 then mb3 (DX12_bit fu a1 M1 L) (fun r5 M3 L4 => fX19_bit_b47 fu a1 r5 M3 L4) else fX19_bit_b47 fu a1 0 M1 L))
noncomputable def fX19_bit_b20 (fu : Nat) (a1 : Int32) (M : mwM) (L : mwL) : Option (Int32 × mwM × mwL) :=
  fX19_bit_b25 fu a1 1 M L
noncomputable def DX19_bit (fu : Nat) (a1 : Int32) (M : mwM) (L : mwL) : Option (Int32 × mwM × mwL) :=
  (if (M 732 4) = 0 then fX19_bit_b20 fu a1 M L else (if a1 < 0 then fX19_bit_b20 fu a1 M L else (if a1 < (M 732 83) then fX19_bit_b25 fu a1 0 M L else fX19_bit_b20 fu a1 M L)))
noncomputable def fX19_node_b91 (fu : Nat) (a1 : Int32) (a2 : Int32) (s0 : Int32) (M : mwM) (L : mwL) : Option (Int32 × mwM × mwL) :=
  some (s0, M, L)
noncomputable def fX19_node_b38 (fu : Nat) (a1 : Int32) (a2 : Int32) (s1 : Int32) (M : mwM) (L : mwL) : Option (Int32 × mwM × mwL) :=
  mlet (mset M 732 0 s1) (fun M1 => (if (M1 732 0) ≤ 0 then (if a2 = 0 then mb3 (DX12_state fu a1 M1 L) (fun r13 M11 L12 => fX19_node_b91 fu a1 a2 r13 M11 L12) else (if a2 = 1 then mb3 (DX12_waiting fu a1 M1 L) (fun r10 M8 L9 => fX19_node_b91 fu a1 a2 r10 M8 L9) else mb3 (DX12_taken fu a1 ((-1)) 0 M1 L) (fun r7 M5 L6 => fX19_node_b91 fu a1 a2 r7 M5 L6))) else some (0, M1, L)))
noncomputable def fX19_node_b20 (fu : Nat) (a1 : Int32) (a2 : Int32) (M : mwM) (L : mwL) : Option (Int32 × mwM × mwL) :=
  fX19_node_b38 fu a1 a2 1 M L
noncomputable def fX19_node_b33 (fu : Nat) (a1 : Int32) (a2 : Int32) (M : mwM) (L : mwL) : Option (Int32 × mwM × mwL) :=
  fX19_node_b38 fu a1 a2 2 M L
noncomputable def DX19_node (fu : Nat) (a1 : Int32) (a2 : Int32) (M : mwM) (L : mwL) : Option (Int32 × mwM × mwL) :=
  (if (M 732 4) = 0 then fX19_node_b20 fu a1 a2 M L else (if a1 < 0 then fX19_node_b20 fu a1 a2 M L else (if a1 ≤ (M 732 19) then (if a2 < 0 then fX19_node_b33 fu a1 a2 M L else (if a2 ≤ 2 then fX19_node_b38 fu a1 a2 0 M L else fX19_node_b33 fu a1 a2 M L)) else fX19_node_b20 fu a1 a2 M L)))
noncomputable def fX19_error_b58 (fu : Nat) (a1 : Int32) (a2 : Int32) (s0 : Int32) (M : mwM) (L : mwL) : Option (Int32 × mwM × mwL) :=
  some (s0, M, L)
noncomputable def fX19_error_b13 (fu : Nat) (a1 : Int32) (a2 : Int32) (s1 : Int32) (M : mwM) (L : mwL) : Option (Int32 × mwM × mwL) :=
  mlet (mset M 732 0 s1) (fun M1 => (if (M1 732 0) ≤ 0 then mb3 (DX12_error fu a1 a2 M1 L) (fun r5 M3 L4 => mb3 (DX12_thrown fu M3 L4) (fun r8 M6 L7 => mlet (mset M6 732 0 r8) (fun M9 => (if (M9 732 0) ≤ 0 then fX19_error_b58 fu a1 a2 r5 M9 L7 else fX19_error_b58 fu a1 a2 0 M9 L7)))) else some (0, M1, L)))
noncomputable def DX19_error (fu : Nat) (a1 : Int32) (a2 : Int32) (M : mwM) (L : mwL) : Option (Int32 × mwM × mwL) :=
  (if (M 732 4) = 0 then fX19_error_b13 fu a1 a2 1 M L else fX19_error_b13 fu a1 a2 0 M L)
noncomputable def fX19_flip_b63 (fu : Nat) (a1 : Int32) (a2 : Int32) (M : mwM) (L : mwL) : Option (mwM × mwL) :=
  some (M, L)
noncomputable def fX19_flip_b44 (fu : Nat) (a1 : Int32) (a2 : Int32) (s1 : Int32) (M : mwM) (L : mwL) : Option (mwM × mwL) :=
  mlet (mset M 732 0 s1) (fun M1 => (if (M1 732 0) = 0 then mb2 (DX12_flip fu a1 a2 M1 L) (fun M3 L4 => fX19_flip_b63 fu a1 a2 M3 L4) else fX19_flip_b63 fu a1 a2 M1 L))
noncomputable def fX19_flip_b20 (fu : Nat) (a1 : Int32) (a2 : Int32) (M : mwM) (L : mwL) : Option (mwM × mwL) :=
  fX19_flip_b44 fu a1 a2 1 M L
noncomputable def fX19_flip_b39 (fu : Nat) (a1 : Int32) (a2 : Int32) (M : mwM) (L : mwL) : Option (mwM × mwL) :=
  fX19_flip_b44 fu a1 a2 2 M L
noncomputable def DX19_flip (fu : Nat) (a1 : Int32) (a2 : Int32) (M : mwM) (L : mwL) : Option (mwM × mwL) :=
  (if (M 732 4) = 0 then fX19_flip_b20 fu a1 a2 M L else (if a1 < 0 then fX19_flip_b20 fu a1 a2 M L else (if a1 ≤ (M 732 19) then (if a2 < (M 732 83) then fX19_flip_b39 fu a1 a2 M L else (if a2 ≤ 19999 then fX19_flip_b44 fu a1 a2 0 M L else fX19_flip_b39 fu a1 a2 M L)) else fX19_flip_b20 fu a1 a2 M L)))
noncomputable def fX19_noController_b24 (fu : Nat) (a1 : Int32) (s0 : Int32) (M : mwM) (L : mwL) : Option (Int32 × mwM × mwL) :=
  mzz s0 (some (s0, M, L))
noncomputable def fX19_noController_b19 (fu : Nat) (a1 : Int32) (M : mwM) (L : mwL) : Option (Int32 × mwM × mwL) :=
  fX19_noController_b24 fu a1 1 M L
noncomputable def DX19_noController (fu : Nat) (a1 : Int32) (M : mwM) (L : mwL) : Option (Int32 × mwM × mwL) :=
  (if (M 732 4) = 0 then fX19_noController_b19 fu a1 M L else (if a1 < 0 then fX19_noController_b19 fu a1 M L else (if a1 < (M 732 19) then fX19_noController_b24 fu a1 0 M L else fX19_noController_b19 fu a1 M L)))
noncomputable def fX19_silence_b62 (fu : Nat) (a1 : Int32) (a2 : Int32) (r38 : (Int32 × Int32 × mwM × mwL) → Option (Int32 × mwM × mwL)) (v4 : Int32) (s0 : Int32) (M : mwM) (L : mwL) : Option (Int32 × mwM × mwL) :=
  mlet (v4 + 1) (fun x8 => r38 (s0, x8, M, L))
noncomputable def fX19_silence_i38 (fu : Nat) (a1 : Int32) (a2 : Int32) (r38 : (Int32 × Int32 × mwM × mwL) → Option (Int32 × mwM × mwL)) (v3 : Int32) (v4 : Int32) (M : mwM) (L : mwL) : Option (Int32 × mwM × mwL) :=
  (if 6 ≤ v4 then some (v3, M, L) else mck v4 6 ((if (M 923 v4.toNatClampNeg) = 0 then fX19_silence_b62 fu a1 a2 r38 v4 v3 M L else fX19_silence_b62 fu a1 a2 r38 v4 (v3 + 1) M L)))
noncomputable def fX19_silence_h38 (fu : Nat) (a1 : Int32) (a2 : Int32) : Nat → (Int32 × Int32 × mwM × mwL) → Option (Int32 × mwM × mwL) := mloop (fun r38 s => fX19_silence_i38 fu a1 a2 r38 s.1 s.2.1 s.2.2.1 s.2.2.2)
noncomputable def fX19_silence_b14 (fu : Nat) (a1 : Int32) (a2 : Int32) (s1 : Int32) (M : mwM) (L : mwL) : Option (Int32 × mwM × mwL) :=
  mlet (mset M 732 0 s1) (fun M1 => (if (M1 732 0) ≤ 0 then mck a1 6 (mlet (mset M1 923 (a1.toNatClampNeg) (vp_nar .boolean a2)) (fun M4 => fX19_silence_h38 fu a1 a2 fu (0, 0, M4, L))) else some (0, M1, L)))
noncomputable def DX19_silence (fu : Nat) (a1 : Int32) (a2 : Int32) (M : mwM) (L : mwL) : Option (Int32 × mwM × mwL) :=
  mb3 (DX19_noController fu a1 M L) (fun r11 M9 L10 => (if r11 = 0 then fX19_silence_b14 fu a1 a2 0 M9 L10 else fX19_silence_b14 fu a1 a2 1 M9 L10))
noncomputable def fX19_running_b50 (fu : Nat) (a1 : Int32) (a2 : Int32) (s0 : Int32) (M : mwM) (L : mwL) : Option (Int32 × mwM × mwL) :=
  some (s0, M, L)
noncomputable def fX19_running_b26 (fu : Nat) (a1 : Int32) (a2 : Int32) (s1 : Int32) (M : mwM) (L : mwL) : Option (Int32 × mwM × mwL) :=
  mlet (mset M 732 0 s1) (fun M1 => (if (M1 732 0) ≤ 0 then mb3 (DX15_running fu a1 a2.toInt64 M1 L) (fun r5 M3 L4 => fX19_running_b50 fu a1 a2 r5 M3 L4) else fX19_running_b50 fu a1 a2 0 M1 L))
noncomputable def fX19_running_b21 (fu : Nat) (a1 : Int32) (a2 : Int32) (M : mwM) (L : mwL) : Option (Int32 × mwM × mwL) :=
  fX19_running_b26 fu a1 a2 1 M L
noncomputable def DX19_running (fu : Nat) (a1 : Int32) (a2 : Int32) (M : mwM) (L : mwL) : Option (Int32 × mwM × mwL) :=
  mb3 (DX19_noController fu a1 M L) (fun r8 M6 L7 => (if r8 = 0 then (if a2 < 0 then fX19_running_b21 fu a1 a2 M6 L7 else (if a2 < (M6 732 83) then fX19_running_b26 fu a1 a2 0 M6 L7 else fX19_running_b21 fu a1 a2 M6 L7)) else fX19_running_b21 fu a1 a2 M6 L7))
noncomputable def fX19_task_b92 (fu : Nat) (a1 : Int32) (a2 : Int32) (s0 : Int32) (M : mwM) (L : mwL) : Option (Int32 × mwM × mwL) :=
  some (s0, M, L)
noncomputable def fX19_task_b38 (fu : Nat) (a1 : Int32) (a2 : Int32) (s1 : Int32) (M : mwM) (L : mwL) : Option (Int32 × mwM × mwL) :=
  mlet (mset M 732 0 s1) (fun M1 => (if (M1 732 0) ≤ 0 then (if a2 = 0 then mb3 (DX15_state fu (a1 + 1) M1 L) (fun r11 M9 L10 => fX19_task_b92 fu a1 a2 r11 M9 L10) else (if a2 = 1 then mb3 (DX15_used fu (a1 + 1) M1 L) (fun r8 M6 L7 => fX19_task_b92 fu a1 a2 r8.toInt32 M6 L7) else mck a1 12 (fX19_task_b92 fu a1 a2 (M1 748 a1.toNatClampNeg) M1 L))) else some (0, M1, L)))
noncomputable def fX19_task_b20 (fu : Nat) (a1 : Int32) (a2 : Int32) (M : mwM) (L : mwL) : Option (Int32 × mwM × mwL) :=
  fX19_task_b38 fu a1 a2 1 M L
noncomputable def fX19_task_b33 (fu : Nat) (a1 : Int32) (a2 : Int32) (M : mwM) (L : mwL) : Option (Int32 × mwM × mwL) :=
  fX19_task_b38 fu a1 a2 2 M L
noncomputable def DX19_task (fu : Nat) (a1 : Int32) (a2 : Int32) (M : mwM) (L : mwL) : Option (Int32 × mwM × mwL) :=
  (if (M 732 4) = 0 then fX19_task_b20 fu a1 a2 M L else (if a1 < 0 then fX19_task_b20 fu a1 a2 M L else (if a1 < (M 732 24) then (if a2 < 0 then fX19_task_b33 fu a1 a2 M L else (if a2 ≤ 2 then fX19_task_b38 fu a1 a2 0 M L else fX19_task_b33 fu a1 a2 M L)) else fX19_task_b20 fu a1 a2 M L)))
noncomputable def fX19_noChart_b24 (fu : Nat) (a1 : Int32) (s0 : Int32) (M : mwM) (L : mwL) : Option (Int32 × mwM × mwL) :=
  mzz s0 (some (s0, M, L))
noncomputable def fX19_noChart_b19 (fu : Nat) (a1 : Int32) (M : mwM) (L : mwL) : Option (Int32 × mwM × mwL) :=
  fX19_noChart_b24 fu a1 1 M L
noncomputable def DX19_noChart (fu : Nat) (a1 : Int32) (M : mwM) (L : mwL) : Option (Int32 × mwM × mwL) :=
  (if (M 732 4) = 0 then fX19_noChart_b19 fu a1 M L else (if a1 < 0 then fX19_noChart_b19 fu a1 M L else (if a1 < (M 732 33) then fX19_noChart_b24 fu a1 0 M L else fX19_noChart_b19 fu a1 M L)))
noncomputable def fX19_active_b52 (fu : Nat) (a1 : Int32) (a2 : Int32) (s0 : Int32) (M : mwM) (L : mwL) : Option (Int32 × mwM × mwL) :=
  some (s0, M, L)
noncomputable def fX19_active_b28 (fu : Nat) (a1 : Int32) (a2 : Int32) (s1 : Int32) (M : mwM) (L : mwL) : Option (Int32 × mwM × mwL) :=
  mlet (mset M 732 0 s1) (fun M1 => (if (M1 732 0) ≤ 0 then mck a1 12 (mb3 (DX13_active fu ((964 + 53 * a1.toNatClampNeg)) a2 M1 L) (fun r6 M4 L5 => fX19_active_b52 fu a1 a2 r6 M4 L5)) else fX19_active_b52 fu a1 a2 0 M1 L))
noncomputable def fX19_active_b23 (fu : Nat) (a1 : Int32) (a2 : Int32) (M : mwM) (L : mwL) : Option (Int32 × mwM × mwL) :=
  fX19_active_b28 fu a1 a2 1 M L
noncomputable def DX19_active (fu : Nat) (a1 : Int32) (a2 : Int32) (M : mwM) (L : mwL) : Option (Int32 × mwM × mwL) :=
  mb3 (DX19_noChart fu a1 M L) (fun r9 M7 L8 => (if r9 = 0 then (if a2 < 0 then fX19_active_b23 fu a1 a2 M7 L8 else mck a1 12 ((if a2 ≤ (M7 754 a1.toNatClampNeg) then fX19_active_b28 fu a1 a2 0 M7 L8 else fX19_active_b23 fu a1 a2 M7 L8))) else fX19_active_b23 fu a1 a2 M7 L8))
noncomputable def fX19_value_b48 (fu : Nat) (a1 : Int32) (a2 : Int32) (s0 : Int64) (M : mwM) (L : mwL) : Option (Int64 × mwM × mwL) :=
  some (s0, M, L)
noncomputable def fX19_value_b24 (fu : Nat) (a1 : Int32) (a2 : Int32) (s1 : Int32) (M : mwM) (L : mwL) : Option (Int64 × mwM × mwL) :=
  mlet (mset M 732 0 s1) (fun M1 => (if (M1 732 0) ≤ 0 then mck a1 12 (mb3 (DX13_value fu ((964 + 53 * a1.toNatClampNeg)) a2 M1 L) (fun r6 M4 L5 => fX19_value_b48 fu a1 a2 r6 M4 L5)) else fX19_value_b48 fu a1 a2 0 M1 L))
noncomputable def fX19_value_b19 (fu : Nat) (a1 : Int32) (a2 : Int32) (M : mwM) (L : mwL) : Option (Int64 × mwM × mwL) :=
  fX19_value_b24 fu a1 a2 1 M L
noncomputable def DX19_value (fu : Nat) (a1 : Int32) (a2 : Int32) (M : mwM) (L : mwL) : Option (Int64 × mwM × mwL) :=
  mb3 (DX19_noChart fu a1 M L) (fun r9 M7 L8 => (if r9 = 0 then (if a2 < 0 then fX19_value_b19 fu a1 a2 M7 L8 else (if a2 ≤ 31 then fX19_value_b24 fu a1 a2 0 M7 L8 else fX19_value_b19 fu a1 a2 M7 L8)) else fX19_value_b19 fu a1 a2 M7 L8))
noncomputable def fX19_chart_b81 (fu : Nat) (a1 : Int32) (a2 : Int32) (s0 : Int32) (M : mwM) (L : mwL) : Option (Int32 × mwM × mwL) :=
  some (s0, M, L)
noncomputable def fX19_chart_b28 (fu : Nat) (a1 : Int32) (a2 : Int32) (s1 : Int32) (M : mwM) (L : mwL) : Option (Int32 × mwM × mwL) :=
  mlet (mset M 732 0 s1) (fun M1 => (if (M1 732 0) ≤ 0 then (if 3 ≤ a2 then mck a1 12 (mb3 (DX13_covered fu ((964 + 53 * a1.toNatClampNeg)) (a2 - 3) M1 L) (fun r7 M5 L6 => some (r7, M5, L6))) else (if a2 = 0 then mck a1 12 (mb3 (DX13_dropped fu ((964 + 53 * a1.toNatClampNeg)) M1 L) (fun r15 M13 L14 => fX19_chart_b81 fu a1 a2 r15 M13 L14)) else (if a2 = 1 then mck a1 12 (fX19_chart_b81 fu a1 a2 (M1 752 a1.toNatClampNeg) M1 L) else mck a1 12 (fX19_chart_b81 fu a1 a2 (M1 751 a1.toNatClampNeg) M1 L)))) else some (0, M1, L)))
noncomputable def fX19_chart_b23 (fu : Nat) (a1 : Int32) (a2 : Int32) (M : mwM) (L : mwL) : Option (Int32 × mwM × mwL) :=
  fX19_chart_b28 fu a1 a2 2 M L
noncomputable def DX19_chart (fu : Nat) (a1 : Int32) (a2 : Int32) (M : mwM) (L : mwL) : Option (Int32 × mwM × mwL) :=
  mb3 (DX19_noChart fu a1 M L) (fun r18 M16 L17 => (if r18 = 0 then (if a2 < 0 then fX19_chart_b23 fu a1 a2 M16 L17 else (if a2 ≤ 7 then fX19_chart_b28 fu a1 a2 0 M16 L17 else fX19_chart_b23 fu a1 a2 M16 L17)) else fX19_chart_b28 fu a1 a2 1 M16 L17))
noncomputable def fX19_trouble_b115 (fu : Nat) (a1 : Int32) (a2 : Int32) (s0 : Int32) (M : mwM) (L : mwL) : Option (Int32 × mwM × mwL) :=
  some (s0, M, L)
noncomputable def fX19_trouble_b85 (fu : Nat) (a1 : Int32) (a2 : Int32) (s0 : Int32) (M : mwM) (L : mwL) : Option (Int32 × mwM × mwL) :=
  some (s0, M, L)
noncomputable def fX19_trouble_b38 (fu : Nat) (a1 : Int32) (a2 : Int32) (s1 : Int32) (M : mwM) (L : mwL) : Option (Int32 × mwM × mwL) :=
  mlet (mset M 732 0 s1) (fun M1 => (if (M1 732 0) ≤ 0 then mck a1 30 (mlet (M1 777 a1.toNatClampNeg) (fun x4 => (if 2 ≤ a2 then (if a2 = 4 then mb3 (DX18_stored fu a1 0 M1 L) (fun r12 M10 L11 => fX19_trouble_b115 fu a1 a2 r12 M10 L11) else mb3 (DX18_snapshot fu x4 (a2 - 2) 1 M1 L) (fun r9 M7 L8 => fX19_trouble_b115 fu a1 a2 r9 M7 L8)) else (if a2 = 0 then mb3 (DX18_status fu x4 M1 L) (fun r19 M17 L18 => fX19_trouble_b85 fu a1 a2 r19 M17 L18) else mb3 (DX18_age fu x4 M1 L) (fun r16 M14 L15 => fX19_trouble_b85 fu a1 a2 r16 M14 L15))))) else some (0, M1, L)))
noncomputable def fX19_trouble_b20 (fu : Nat) (a1 : Int32) (a2 : Int32) (M : mwM) (L : mwL) : Option (Int32 × mwM × mwL) :=
  fX19_trouble_b38 fu a1 a2 1 M L
noncomputable def fX19_trouble_b33 (fu : Nat) (a1 : Int32) (a2 : Int32) (M : mwM) (L : mwL) : Option (Int32 × mwM × mwL) :=
  fX19_trouble_b38 fu a1 a2 2 M L
noncomputable def DX19_trouble (fu : Nat) (a1 : Int32) (a2 : Int32) (M : mwM) (L : mwL) : Option (Int32 × mwM × mwL) :=
  (if (M 732 4) = 0 then fX19_trouble_b20 fu a1 a2 M L else (if a1 < 0 then fX19_trouble_b20 fu a1 a2 M L else (if a1 < (M 732 62) then (if a2 < 0 then fX19_trouble_b33 fu a1 a2 M L else (if a2 ≤ 4 then fX19_trouble_b38 fu a1 a2 0 M L else fX19_trouble_b33 fu a1 a2 M L)) else fX19_trouble_b20 fu a1 a2 M L)))
noncomputable def fX19_cycle_b35 (fu : Nat) (a1 : Int32) (s0 : Int32) (M : mwM) (L : mwL) : Option (Int32 × mwM × mwL) :=
  some (s0, M, L)
noncomputable def fX19_cycle_b13 (fu : Nat) (a1 : Int32) (s1 : Int32) (M : mwM) (L : mwL) : Option (Int32 × mwM × mwL) :=
  mlet (mset M 732 0 s1) (fun M1 => (if (M1 732 0) ≤ 0 then mb3 (DX18_cycle fu a1 M1 L) (fun r5 M3 L4 => fX19_cycle_b35 fu a1 r5 M3 L4) else fX19_cycle_b35 fu a1 0 M1 L))
noncomputable def DX19_cycle (fu : Nat) (a1 : Int32) (M : mwM) (L : mwL) : Option (Int32 × mwM × mwL) :=
  (if (M 732 4) = 0 then fX19_cycle_b13 fu a1 1 M L else fX19_cycle_b13 fu a1 0 M L)
noncomputable def fX19_counted_b42 (fu : Nat) (a1 : Int32) (s0 : Int32) (M : mwM) (L : mwL) : Option (Int32 × mwM × mwL) :=
  some (s0, M, L)
noncomputable def fX19_counted_b32 (fu : Nat) (a1 : Int32) (M : mwM) (L : mwL) : Option (Int32 × mwM × mwL) :=
  fX19_counted_b42 fu a1 0 M L
noncomputable def fX19_counted_b15 (fu : Nat) (a1 : Int32) (s1 : Int32) (M : mwM) (L : mwL) : Option (Int32 × mwM × mwL) :=
  mlet (mset M 732 0 s1) (fun M1 => (if 0 < (M1 732 0) then fX19_counted_b32 fu a1 M1 L else (if (M1 732 4) = 0 then fX19_counted_b32 fu a1 M1 L else mck a1 5 (fX19_counted_b42 fu a1 (M1 939 a1.toNatClampNeg) M1 L))))
noncomputable def fX19_counted_b10 (fu : Nat) (a1 : Int32) (M : mwM) (L : mwL) : Option (Int32 × mwM × mwL) :=
  fX19_counted_b15 fu a1 1 M L
noncomputable def DX19_counted (fu : Nat) (a1 : Int32) (M : mwM) (L : mwL) : Option (Int32 × mwM × mwL) :=
  (if a1 < 0 then fX19_counted_b10 fu a1 M L else (if a1 ≤ 4 then fX19_counted_b15 fu a1 0 M L else fX19_counted_b10 fu a1 M L))
noncomputable def fX19_say__b38 (fu : Nat) (a1 : Int32) (M : mwM) (L : mwL) : Option (Int32 × mwM × mwL) :=
  some (M 732 110, M, L)
noncomputable def DX19_say_ (fu : Nat) (a1 : Int32) (M : mwM) (L : mwL) : Option (Int32 × mwM × mwL) :=
  mlet (mset M 732 0 0) (fun M1 => (if 100 ≤ (M1 732 110) then fX19_say__b38 fu a1 M1 L else mck (M1 732 110) 100 (mlet (mset M1 940 ((M1 732 110).toNatClampNeg) (a1 &&& 255)) (fun M4 => mlet (mset M4 732 110 ((M4 732 110) + 1)) (fun M5 => fX19_say__b38 fu a1 M5 L)))))
noncomputable def fX19_ask_i60 (fu : Nat) (a1 : Int32) (r60 : (Int32 × Int32 × mwM × mwL) → Option (Int32 × mwM × mwL)) (v2 : Int32) (v3 : Int32) (M : mwM) (L : mwL) : Option (Int32 × mwM × mwL) :=
  (if v2 ≤ v3 then mlet (mset M 732 102 v2) (fun M5 => mlet (mset M5 732 110 0) (fun M6 => mlet (mset M6 732 97 a1) (fun M7 => mlet (mset M7 732 98 0) (fun M8 => mb2 (DX19_say fu a1 1 M8 L) (fun M9 L10 => some (v2, M9, L10)))))) else mck v3 100 (mck v3 128 (mlet (mset M 933 (v3.toNatClampNeg) (M 940 v3.toNatClampNeg)) (fun M13 => mlet (v3 + 1) (fun x14 => r60 (v2, x14, M13, L))))))
noncomputable def fX19_ask_h60 (fu : Nat) (a1 : Int32) : Nat → (Int32 × Int32 × mwM × mwL) → Option (Int32 × mwM × mwL) := mloop (fun r60 s => fX19_ask_i60 fu a1 r60 s.1 s.2.1 s.2.2.1 s.2.2.2)
noncomputable def fX19_ask_b41 (fu : Nat) (a1 : Int32) (s1 : Int32) (M : mwM) (L : mwL) : Option (Int32 × mwM × mwL) :=
  mlet (mset M 732 0 s1) (fun M1 => (if (M1 732 0) ≤ 0 then mlet (M1 732 110) (fun x3 => fX19_ask_h60 fu a1 fu (x3, 0, M1, L)) else some (0, M1, L)))
noncomputable def fX19_ask_b36 (fu : Nat) (a1 : Int32) (M : mwM) (L : mwL) : Option (Int32 × mwM × mwL) :=
  fX19_ask_b41 fu a1 2 M L
noncomputable def DX19_ask (fu : Nat) (a1 : Int32) (M : mwM) (L : mwL) : Option (Int32 × mwM × mwL) :=
  mb3 (DX19_noController fu a1 M L) (fun r17 M15 L16 => (if r17 = 0 then (if (M15 732 110) = 0 then fX19_ask_b36 fu a1 M15 L16 else (if 0 ≤ (M15 732 97) then fX19_ask_b36 fu a1 M15 L16 else (if (M15 732 88) ≤ 98 then fX19_ask_b41 fu a1 0 M15 L16 else fX19_ask_b36 fu a1 M15 L16))) else fX19_ask_b41 fu a1 1 M15 L16))
noncomputable def fX19_asking_b20 (fu : Nat) (s0 : Int32) (M : mwM) (L : mwL) : Option (Int32 × mwM × mwL) :=
  some (s0, M, L)
noncomputable def DX19_asking (fu : Nat) (M : mwM) (L : mwL) : Option (Int32 × mwM × mwL) :=
  mlet (mset M 732 0 0) (fun M1 => (if (M1 732 4) = 0 then fX19_asking_b20 fu ((-1)) M1 L else fX19_asking_b20 fu (M1 732 97) M1 L))
noncomputable def fX19_answer_b45 (fu : Nat) (a1 : Int32) (s0 : Int32) (M : mwM) (L : mwL) : Option (Int32 × mwM × mwL) :=
  some (s0, M, L)
noncomputable def fX19_answer_b25 (fu : Nat) (a1 : Int32) (s1 : Int32) (M : mwM) (L : mwL) : Option (Int32 × mwM × mwL) :=
  mlet (mset M 732 0 s1) (fun M1 => (if (M1 732 0) ≤ 0 then mck a1 128 (fX19_answer_b45 fu a1 (M1 931 a1.toNatClampNeg) M1 L) else fX19_answer_b45 fu a1 0 M1 L))
noncomputable def fX19_answer_b20 (fu : Nat) (a1 : Int32) (M : mwM) (L : mwL) : Option (Int32 × mwM × mwL) :=
  fX19_answer_b25 fu a1 1 M L
noncomputable def DX19_answer (fu : Nat) (a1 : Int32) (M : mwM) (L : mwL) : Option (Int32 × mwM × mwL) :=
  (if (M 732 4) = 0 then fX19_answer_b20 fu a1 M L else (if a1 < 0 then fX19_answer_b20 fu a1 M L else (if a1 < (M 732 98) then fX19_answer_b25 fu a1 0 M L else fX19_answer_b20 fu a1 M L)))
noncomputable def fX19_answers_b20 (fu : Nat) (s0 : Int32) (M : mwM) (L : mwL) : Option (Int32 × mwM × mwL) :=
  some (s0, M, L)
noncomputable def DX19_answers (fu : Nat) (M : mwM) (L : mwL) : Option (Int32 × mwM × mwL) :=
  mlet (mset M 732 0 0) (fun M1 => (if (M1 732 4) = 0 then fX19_answers_b20 fu 0 M1 L else fX19_answers_b20 fu (M1 732 98) M1 L))
noncomputable def DL_text (fu : Nat) (a2 : Int32) (a3 : Int32) (a4 : Int32) (a5 : Int32) (M : mwM) (L : mwL) : Option (Int32 × mwM × mwL) :=
  mb3 (DX11_text fu a2 a3 a4 a5 M L) (fun z3 M1 L2 => (if z3 = 0 then some (0, M1, L2) else (if z3 = 1 then some (1, M1, L2) else none)))
noncomputable def DL_cut (fu : Nat) (a2 : Int32) (M : mwM) (L : mwL) : Option (Int32 × mwM × mwL) :=
  mb3 (DX11_cut fu a2 M L) (fun z3 M1 L2 => (if z3.1 = 0 then mlet (mset L2 1577 ((0 : Int32).toNatClampNeg) z3.2.toInt64) (fun L5 => some (0, M1, L5)) else (if z3.1 = 2 then some (1, M1, L2) else none)))
noncomputable def DL_system (fu : Nat) (M : mwM) (L : mwL) : Option (Int32 × mwM × mwL) :=
  mb3 (DX11_system fu M L) (fun z3 M1 L2 => (if z3.1 = 0 then mlet (mset L2 1577 ((0 : Int32).toNatClampNeg) z3.2.toInt64) (fun L5 => some (0, M1, L5)) else (if z3.1 = 1 then some (1, M1, L2) else none)))
noncomputable def DL_count (fu : Nat) (a2 : Int32) (M : mwM) (L : mwL) : Option (Int32 × mwM × mwL) :=
  mb3 (DX11_count fu a2 M L) (fun z3 M1 L2 => (if z3.1 = 0 then mlet (mset L2 1577 ((0 : Int32).toNatClampNeg) z3.2.toInt64) (fun L5 => some (0, M1, L5)) else (if z3.1 = 2 then some (1, M1, L2) else (if z3.1 = 1 then some (2, M1, L2) else none))))
noncomputable def DL_frame (fu : Nat) (a2 : Int32) (a3 : Int32) (M : mwM) (L : mwL) : Option (Int32 × mwM × mwL) :=
  mb3 (DX11_frame fu a2 a3 M L) (fun z3 M1 L2 => (if z3.1 = 0 then mlet (mset L2 1577 ((0 : Int32).toNatClampNeg) z3.2.toInt64) (fun L5 => some (0, M1, L5)) else (if z3.1 = 3 then some (1, M1, L2) else (if z3.1 = 2 then some (2, M1, L2) else none))))
noncomputable def DL_signal (fu : Nat) (a2 : Int32) (a3 : Int32) (M : mwM) (L : mwL) : Option (Int32 × mwM × mwL) :=
  mb3 (DX11_signal fu a2 a3 M L) (fun z3 M1 L2 => (if z3.1 = 0 then mlet (mset L2 1577 ((0 : Int32).toNatClampNeg) z3.2.toInt64) (fun L5 => some (0, M1, L5)) else (if z3.1 = 3 then some (1, M1, L2) else none)))
noncomputable def DL_run (fu : Nat) (a2 : Int32) (M : mwM) (L : mwL) : Option (Int32 × mwM × mwL) :=
  mb3 (DX11_run fu a2 M L) (fun z3 M1 L2 => (if z3.1 = 0 then mlet (mset L2 1577 ((0 : Int32).toNatClampNeg) z3.2.toInt64) (fun L5 => some (0, M1, L5)) else (if z3.1 = 2 then some (1, M1, L2) else (if z3.1 = 1 then some (2, M1, L2) else none))))
noncomputable def DL_bit (fu : Nat) (a2 : Int32) (M : mwM) (L : mwL) : Option (Int32 × mwM × mwL) :=
  mb3 (DX11_bit fu a2 M L) (fun z3 M1 L2 => (if z3.1 = 0 then mlet (mset L2 1577 ((0 : Int32).toNatClampNeg) z3.2.toInt64) (fun L5 => some (0, M1, L5)) else (if z3.1 = 3 then some (1, M1, L2) else none)))
noncomputable def DL_node (fu : Nat) (a2 : Int32) (a3 : Int32) (M : mwM) (L : mwL) : Option (Int32 × mwM × mwL) :=
  mb3 (DX11_node fu a2 a3 M L) (fun z3 M1 L2 => (if z3.1 = 0 then mlet (mset L2 1577 ((0 : Int32).toNatClampNeg) z3.2.toInt64) (fun L5 => some (0, M1, L5)) else (if z3.1 = 3 then some (1, M1, L2) else (if z3.1 = 2 then some (2, M1, L2) else none))))
noncomputable def DL_error (fu : Nat) (a2 : Int32) (a3 : Int32) (M : mwM) (L : mwL) : Option (Int32 × mwM × mwL) :=
  mb3 (DX11_error fu a2 a3 M L) (fun z3 M1 L2 => (if z3.1 = 0 then mlet (mset L2 1577 ((0 : Int32).toNatClampNeg) z3.2.toInt64) (fun L5 => some (0, M1, L5)) else (if z3.1 = 3 then some (1, M1, L2) else (if z3.1 = 2 then some (2, M1, L2) else none))))
noncomputable def DL_flip (fu : Nat) (a2 : Int32) (a3 : Int32) (M : mwM) (L : mwL) : Option (Int32 × mwM × mwL) :=
  mb3 (DX11_flip fu a2 a3 M L) (fun z3 M1 L2 => (if z3 = 0 then some (0, M1, L2) else (if z3 = 3 then some (1, M1, L2) else (if z3 = 2 then some (2, M1, L2) else none))))
noncomputable def DL_silence (fu : Nat) (a2 : Int32) (a3 : Int32) (M : mwM) (L : mwL) : Option (Int32 × mwM × mwL) :=
  mb3 (DX11_silence fu a2 a3 M L) (fun z3 M1 L2 => (if z3.1 = 0 then mlet (mset L2 1577 ((0 : Int32).toNatClampNeg) z3.2.toInt64) (fun L5 => some (0, M1, L5)) else (if z3.1 = 3 then some (1, M1, L2) else none)))
noncomputable def DL_running (fu : Nat) (a2 : Int32) (a3 : Int32) (M : mwM) (L : mwL) : Option (Int32 × mwM × mwL) :=
  mb3 (DX11_running fu a2 a3 M L) (fun z3 M1 L2 => (if z3.1 = 0 then mlet (mset L2 1577 ((0 : Int32).toNatClampNeg) z3.2.toInt64) (fun L5 => some (0, M1, L5)) else (if z3.1 = 3 then some (1, M1, L2) else none)))
noncomputable def DL_task (fu : Nat) (a2 : Int32) (a3 : Int32) (M : mwM) (L : mwL) : Option (Int32 × mwM × mwL) :=
  mb3 (DX11_task fu a2 a3 M L) (fun z3 M1 L2 => (if z3.1 = 0 then mlet (mset L2 1577 ((0 : Int32).toNatClampNeg) z3.2.toInt64) (fun L5 => some (0, M1, L5)) else (if z3.1 = 3 then some (1, M1, L2) else (if z3.1 = 2 then some (2, M1, L2) else none))))
noncomputable def DL_active (fu : Nat) (a2 : Int32) (a3 : Int32) (M : mwM) (L : mwL) : Option (Int32 × mwM × mwL) :=
  mb3 (DX11_active fu a2 a3 M L) (fun z3 M1 L2 => (if z3.1 = 0 then mlet (mset L2 1577 ((0 : Int32).toNatClampNeg) z3.2.toInt64) (fun L5 => some (0, M1, L5)) else (if z3.1 = 3 then some (1, M1, L2) else none)))
noncomputable def DL_value (fu : Nat) (a2 : Int32) (a3 : Int32) (M : mwM) (L : mwL) : Option (Int32 × mwM × mwL) :=
  mb3 (DX11_value fu a2 a3 M L) (fun z3 M1 L2 => (if z3.1 = 0 then mlet (mset L2 1577 ((0 : Int32).toNatClampNeg) z3.2) (fun L5 => some (0, M1, L5)) else (if z3.1 = 3 then some (1, M1, L2) else none)))
noncomputable def DL_chart (fu : Nat) (a2 : Int32) (a3 : Int32) (M : mwM) (L : mwL) : Option (Int32 × mwM × mwL) :=
  mb3 (DX11_chart fu a2 a3 M L) (fun z3 M1 L2 => (if z3.1 = 0 then mlet (mset L2 1577 ((0 : Int32).toNatClampNeg) z3.2.toInt64) (fun L5 => some (0, M1, L5)) else (if z3.1 = 3 then some (1, M1, L2) else (if z3.1 = 2 then some (2, M1, L2) else none))))
noncomputable def DL_trouble (fu : Nat) (a2 : Int32) (a3 : Int32) (M : mwM) (L : mwL) : Option (Int32 × mwM × mwL) :=
  mb3 (DX11_trouble fu a2 a3 M L) (fun z3 M1 L2 => (if z3.1 = 0 then mlet (mset L2 1577 ((0 : Int32).toNatClampNeg) z3.2.toInt64) (fun L5 => some (0, M1, L5)) else (if z3.1 = 3 then some (1, M1, L2) else (if z3.1 = 2 then some (2, M1, L2) else none))))
noncomputable def DL_cycle (fu : Nat) (a2 : Int32) (M : mwM) (L : mwL) : Option (Int32 × mwM × mwL) :=
  mb3 (DX11_cycle fu a2 M L) (fun z3 M1 L2 => (if z3.1 = 0 then mlet (mset L2 1577 ((0 : Int32).toNatClampNeg) z3.2.toInt64) (fun L5 => some (0, M1, L5)) else (if z3.1 = 1 then some (1, M1, L2) else none)))
noncomputable def DL_counted (fu : Nat) (a2 : Int32) (M : mwM) (L : mwL) : Option (Int32 × mwM × mwL) :=
  mb3 (DX11_counted fu a2 M L) (fun z3 M1 L2 => (if z3.1 = 0 then mlet (mset L2 1577 ((0 : Int32).toNatClampNeg) z3.2.toInt64) (fun L5 => some (0, M1, L5)) else (if z3.1 = 2 then some (1, M1, L2) else none)))
noncomputable def DL_ask (fu : Nat) (a2 : Int32) (M : mwM) (L : mwL) : Option (Int32 × mwM × mwL) :=
  mb3 (DX11_ask fu a2 M L) (fun z3 M1 L2 => (if z3.1 = 0 then mlet (mset L2 1577 ((0 : Int32).toNatClampNeg) z3.2.toInt64) (fun L5 => some (0, M1, L5)) else (if z3.1 = 3 then some (1, M1, L2) else (if z3.1 = 1 then some (2, M1, L2) else none))))
noncomputable def DL_answer (fu : Nat) (a2 : Int32) (M : mwM) (L : mwL) : Option (Int32 × mwM × mwL) :=
  mb3 (DX11_answer fu a2 M L) (fun z3 M1 L2 => (if z3.1 = 0 then mlet (mset L2 1577 ((0 : Int32).toNatClampNeg) z3.2.toInt64) (fun L5 => some (0, M1, L5)) else (if z3.1 = 3 then some (1, M1, L2) else none)))
