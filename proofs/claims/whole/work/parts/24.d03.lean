noncomputable def fX12_checkOf_b89 (fu : Nat) (a1 : Int32) (r48 : (Int32 × Int32 × Int32 × Int32 × mwM × mwL) → Option (Int32 × mwM × mwL)) (v2 : Int32) (v3 : Int32) (v4 : Int32) (v5 : Int32) (M : mwM) (L : mwL) : Option (Int32 × mwM × mwL) :=
  mlet (v5 + 1) (fun x11 => r48 (v2, v3, v4, x11, M, L))
noncomputable def fX12_checkOf_i48 (fu : Nat) (a1 : Int32) (r48 : (Int32 × Int32 × Int32 × Int32 × mwM × mwL) → Option (Int32 × mwM × mwL)) (v2 : Int32) (v3 : Int32) (v4 : Int32) (v5 : Int32) (M : mwM) (L : mwL) : Option (Int32 × mwM × mwL) :=
  (if (M 821 41) ≤ v5 then some (v4, M, L) else mnz v3 (mlet (v4 / v3) (fun x5 => mnz v3 (mlet (2 * (v4 - v4 / v3 * v3)) (fun x7 => mck v5 1200 ((if x5 = (M 852 v5.toNatClampNeg) then fX12_checkOf_b89 fu a1 r48 v2 v3 x7 v5 M L else mlet (x7 ^^^ v2) (fun x10 => fX12_checkOf_b89 fu a1 r48 v2 v3 x10 v5 M L))))))))
noncomputable def fX12_checkOf_h48 (fu : Nat) (a1 : Int32) : Nat → (Int32 × Int32 × Int32 × Int32 × mwM × mwL) → Option (Int32 × mwM × mwL) := mloop (fun r48 s => fX12_checkOf_i48 fu a1 r48 s.1 s.2.1 s.2.2.1 s.2.2.2.1 s.2.2.2.2.1 s.2.2.2.2.2)
noncomputable def fX12_checkOf_b43 (fu : Nat) (a1 : Int32) (v2 : Int32) (v3 : Int32) (s0 : Int32) (M : mwM) (L : mwL) : Option (Int32 × mwM × mwL) :=
  fX12_checkOf_h48 fu a1 fu (v2, v3, s0, 0, M, L)
noncomputable def fX12_checkOf_b25 (fu : Nat) (a1 : Int32) (s0 : Int32) (M : mwM) (L : mwL) : Option (Int32 × mwM × mwL) :=
  mlet (1 <<< ((a1 - 1) &&& 31)) (fun x1 => (if a1 = 15 then fX12_checkOf_b43 fu a1 s0 x1 0 M L else fX12_checkOf_b43 fu a1 s0 x1 x1 M L))
noncomputable def DX12_checkOf (fu : Nat) (a1 : Int32) (M : mwM) (L : mwL) : Option (Int32 × mwM × mwL) :=
  (if a1 = 15 then fX12_checkOf_b25 fu a1 17817 M L else (if a1 = 17 then fX12_checkOf_b25 fu a1 92251 M L else fX12_checkOf_b25 fu a1 1058969 M L))
noncomputable def DX12_check (fu : Nat) (a1 : Int32) (M : mwM) (L : mwL) : Option (mwM × mwL) :=
  mck (M 821 41) 1200 (mlet (mset M 852 ((M 821 41).toNatClampNeg) (vp_nar .byte a1.toInt8.toInt32)) (fun M2 => mlet (mset M2 821 41 ((M2 821 41) + 1)) (fun M3 => some (M3, L))))
noncomputable def DX12_put (fu : Nat) (a1 : Int32) (a2 : Int32) (M : mwM) (L : mwL) : Option (mwM × mwL) :=
  mck (M 821 37) 1200 (mlet (mset M 849 ((M 821 37).toNatClampNeg) (vp_nar .byte a1.toInt8.toInt32)) (fun M2 => mck (M2 821 37) 1200 (mlet (mset M2 850 ((M2 821 37).toNatClampNeg) (vp_nar .boolean a2)) (fun M4 => mlet (mset M4 821 37 ((M4 821 37) + 1)) (fun M5 => some (M5, L))))))
noncomputable def fX12_five_b63 (fu : Nat) (s0 : Int32) (M : mwM) (L : mwL) : Option (Int32 × mwM × mwL) :=
  mzz s0 (some (s0, M, L))
noncomputable def fX12_five_b53 (fu : Nat) (v1 : Int32) (M : mwM) (L : mwL) : Option (Int32 × mwM × mwL) :=
  (if v1 = 5 then fX12_five_b63 fu 1 M L else fX12_five_b63 fu 0 M L)
noncomputable def fX12_five_i9 (fu : Nat) (r9 : (Int32 × Int32 × mwM × mwL) → Option (Int32 × mwM × mwL)) (v1 : Int32) (v2 : Int32) (M : mwM) (L : mwL) : Option (Int32 × mwM × mwL) :=
  (if v2 ≤ 0 then fX12_five_b53 fu v1 M L else mck v2 1200 (mck (v2 - 1) 1200 ((if (M 849 v2.toNatClampNeg) = (M 849 (v2 - 1).toNatClampNeg) then mck v2 1200 ((if (M 850 v2.toNatClampNeg) = 0 then (if 5 ≤ v1 then fX12_five_b53 fu v1 M L else mlet (v1 + 1) (fun x8 => mlet (v2 + (-1)) (fun x9 => r9 (x8, x9, M, L)))) else fX12_five_b53 fu v1 M L)) else fX12_five_b53 fu v1 M L))))
noncomputable def fX12_five_h9 (fu : Nat) : Nat → (Int32 × Int32 × mwM × mwL) → Option (Int32 × mwM × mwL) := mloop (fun r9 s => fX12_five_i9 fu r9 s.1 s.2.1 s.2.2.1 s.2.2.2)
noncomputable def DX12_five (fu : Nat) (M : mwM) (L : mwL) : Option (Int32 × mwM × mwL) :=
  mlet ((M 821 37) - 1) (fun x12 => fX12_five_h9 fu fu (1, x12, M, L))
noncomputable def DX12_parity (fu : Nat) (a1 : Int32) (M : mwM) (L : mwL) : Option (Int32 × mwM × mwL) :=
  some ((((a1 >>> (2 &&& 31)) ^^^ (a1 >>> (1 &&& 31))) ^^^ a1) &&& 1, M, L)
noncomputable def DX12_countOf (fu : Nat) (a1 : Int32) (M : mwM) (L : mwL) : Option (Int32 × mwM × mwL) :=
  mlet (a1 - a1 / 8 * 8) (fun x2 => mlet (x2 ^^^ (x2 / 2)) (fun x4 => mb3 (DX12_parity fu x4 M L) (fun r7 M5 L6 => some ((2 * x4) + r7, M5, L6))))
noncomputable def fX12_writeTail_b91 (fu : Nat) (a1 : Int32) (a2 : Int32) (r30 : (Int32 × Int32 × mwM × mwL) → Option (mwM × mwL)) (v3 : Int32) (v4 : Int32) (s1 : Int32) (M : mwM) (L : mwL) : Option (mwM × mwL) :=
  mb2 (DX12_put fu s1 0 M L) (fun M15 L16 => mlet (v4 + 1) (fun x17 => r30 (v3, x17, M15, L16)))
noncomputable def fX12_writeTail_b63 (fu : Nat) (a1 : Int32) (a2 : Int32) (r30 : (Int32 × Int32 × mwM × mwL) → Option (mwM × mwL)) (v3 : Int32) (v4 : Int32) (M : mwM) (L : mwL) : Option (mwM × mwL) :=
  (if 4 ≤ v4 then fX12_writeTail_b91 fu a1 a2 r30 v3 v4 ((v3 >>> (((a2 + 3) - v4) &&& 31)) &&& 1) M L else fX12_writeTail_b91 fu a1 a2 r30 v3 v4 ((a1 >>> ((3 - v4) &&& 31)) &&& 1) M L)
noncomputable def fX12_writeTail_i30 (fu : Nat) (a1 : Int32) (a2 : Int32) (r30 : (Int32 × Int32 × mwM × mwL) → Option (mwM × mwL)) (v3 : Int32) (v4 : Int32) (M : mwM) (L : mwL) : Option (mwM × mwL) :=
  (if (4 + a2) ≤ v4 then some (M, L) else (if (v4 - v4 / 4 * 4) = 0 then mck ((M 821 37) - 1) 1200 (mb2 (DX12_put fu (1 - (M 849 ((M 821 37) - 1).toNatClampNeg)) 0 M L) (fun M12 L13 => fX12_writeTail_b63 fu a1 a2 r30 v3 v4 M12 L13)) else fX12_writeTail_b63 fu a1 a2 r30 v3 v4 M L))
noncomputable def fX12_writeTail_h30 (fu : Nat) (a1 : Int32) (a2 : Int32) : Nat → (Int32 × Int32 × mwM × mwL) → Option (mwM × mwL) := mloop (fun r30 s => fX12_writeTail_i30 fu a1 a2 r30 s.1 s.2.1 s.2.2.1 s.2.2.2)
noncomputable def fX12_writeTail_i2 (fu : Nat) (a1 : Int32) (a2 : Int32) (r2 : (Int32 × mwM × mwL) → Option (mwM × mwL)) (v3 : Int32) (M : mwM) (L : mwL) : Option (mwM × mwL) :=
  (if v3 < 0 then mb3 (DX12_checkOf fu a2 M L) (fun r4 M2 L3 => fX12_writeTail_h30 fu a1 a2 fu (r4, 0, M2, L3)) else mb2 (DX12_check fu ((a1 >>> (v3 &&& 31)) &&& 1) M L) (fun M5 L6 => mlet (v3 + (-1)) (fun x7 => r2 (x7, M5, L6))))
noncomputable def fX12_writeTail_h2 (fu : Nat) (a1 : Int32) (a2 : Int32) : Nat → (Int32 × mwM × mwL) → Option (mwM × mwL) := mloop (fun r2 s => fX12_writeTail_i2 fu a1 a2 r2 s.1 s.2.1 s.2.2)
noncomputable def DX12_writeTail (fu : Nat) (a1 : Int32) (a2 : Int32) (M : mwM) (L : mwL) : Option (mwM × mwL) :=
  fX12_writeTail_h2 fu a1 a2 fu (3, M, L)
noncomputable def fX12_writeAnew_i292 (fu : Nat) (a1 : Int32) (r292 : (Int32 × mwM × mwL) → Option (mwM × mwL)) (v8 : Int32) (M : mwM) (L : mwL) : Option (mwM × mwL) :=
  (if 10 ≤ v8 then some (M, L) else mb2 (DX12_put fu 1 0 M L) (fun M56 L57 => mlet (v8 + 1) (fun x58 => r292 (x58, M56, L57))))
noncomputable def fX12_writeAnew_h292 (fu : Nat) (a1 : Int32) : Nat → (Int32 × mwM × mwL) → Option (mwM × mwL) := mloop (fun r292 s => fX12_writeAnew_i292 fu a1 r292 s.1 s.2.1 s.2.2)
noncomputable def fX12_writeAnew_b289 (fu : Nat) (a1 : Int32) (M : mwM) (L : mwL) : Option (mwM × mwL) :=
  fX12_writeAnew_h292 fu a1 fu (0, M, L)
noncomputable def fX12_writeAnew_b268 (fu : Nat) (a1 : Int32) (r165 : (Int32 × Int32 × Int32 × Int32 × Int32 × Int32 × mwM × mwL) → Option (mwM × mwL)) (v2 : Int32) (v3 : Int32) (v4 : Int32) (v5 : Int32) (v7 : Int32) (v8 : Int32) (M : mwM) (L : mwL) : Option (mwM × mwL) :=
  mlet (v8 + 1) (fun x54 => r165 (v2, v3, v4, v5, v7, x54, M, L))
noncomputable def fX12_writeAnew_b238 (fu : Nat) (a1 : Int32) (r165 : (Int32 × Int32 × Int32 × Int32 × Int32 × Int32 × mwM × mwL) → Option (mwM × mwL)) (v2 : Int32) (v3 : Int32) (v4 : Int32) (v5 : Int32) (v7 : Int32) (v8 : Int32) (M : mwM) (L : mwL) : Option (mwM × mwL) :=
  mck v8 700 (mb2 (DX12_put fu (1 - (M 848 v8.toNatClampNeg)) 1 M L) (fun M48 L49 => mck v8 700 (mb2 (DX12_check fu (1 - (M48 848 v8.toNatClampNeg)) M48 L49) (fun M51 L52 => mlet (v5 + 1) (fun x53 => fX12_writeAnew_b268 fu a1 r165 v2 v3 v4 x53 v7 v8 M51 L52)))))
noncomputable def fX12_writeAnew_b215 (fu : Nat) (a1 : Int32) (r165 : (Int32 × Int32 × Int32 × Int32 × Int32 × Int32 × mwM × mwL) → Option (mwM × mwL)) (v2 : Int32) (v3 : Int32) (v4 : Int32) (v5 : Int32) (v7 : Int32) (v8 : Int32) (s1 : Int32) (M : mwM) (L : mwL) : Option (mwM × mwL) :=
  mlet (mset M 821 38 s1) (fun M40 => mb3 (DX12_five fu M40 L) (fun r43 M41 L42 => (if r43 = 0 then fX12_writeAnew_b268 fu a1 r165 v2 v3 v4 v5 v7 v8 M41 L42 else (if v2 = 0 then fX12_writeAnew_b238 fu a1 r165 v2 v3 v4 v5 v7 v8 M41 L42 else (if (v7 - 1) ≤ v8 then fX12_writeAnew_b268 fu a1 r165 v2 v3 v4 v5 v7 v8 M41 L42 else fX12_writeAnew_b238 fu a1 r165 v2 v3 v4 v5 v7 v8 M41 L42)))))
noncomputable def fX12_writeAnew_i165 (fu : Nat) (a1 : Int32) (r165 : (Int32 × Int32 × Int32 × Int32 × Int32 × Int32 × mwM × mwL) → Option (mwM × mwL)) (v2 : Int32) (v3 : Int32) (v4 : Int32) (v5 : Int32) (v7 : Int32) (v8 : Int32) (M : mwM) (L : mwL) : Option (mwM × mwL) :=
  (if (M 821 34) ≤ v8 then (if v2 = 0 then fX12_writeAnew_b289 fu a1 M L else mb3 (DX12_countOf fu v5 M L) (fun r30 M28 L29 => mb2 (DX12_writeTail fu r30 v4 M28 L29) (fun M31 L32 => fX12_writeAnew_b289 fu a1 M31 L32))) else mck v8 700 (mb2 (DX12_put fu (M 848 v8.toNatClampNeg) 0 M L) (fun M34 L35 => mck v8 700 (mb2 (DX12_check fu (M34 848 v8.toNatClampNeg) M34 L35) (fun M37 L38 => (if v8 = v3 then fX12_writeAnew_b215 fu a1 r165 v2 v3 v4 v5 v7 v8 (M37 821 37) M37 L38 else fX12_writeAnew_b215 fu a1 r165 v2 v3 v4 v5 v7 v8 (M37 821 38) M37 L38))))))
noncomputable def fX12_writeAnew_h165 (fu : Nat) (a1 : Int32) : Nat → (Int32 × Int32 × Int32 × Int32 × Int32 × Int32 × mwM × mwL) → Option (mwM × mwL) := mloop (fun r165 s => fX12_writeAnew_i165 fu a1 r165 s.1 s.2.1 s.2.2.1 s.2.2.2.1 s.2.2.2.2.1 s.2.2.2.2.2.1 s.2.2.2.2.2.2.1 s.2.2.2.2.2.2.2)
noncomputable def fX12_writeAnew_b162 (fu : Nat) (a1 : Int32) (v2 : Int32) (v3 : Int32) (v4 : Int32) (v5 : Int32) (v7 : Int32) (M : mwM) (L : mwL) : Option (mwM × mwL) :=
  fX12_writeAnew_h165 fu a1 fu (v2, v3, v4, v5, v7, 0, M, L)
noncomputable def fX12_writeAnew_i105 (fu : Nat) (a1 : Int32) (r105 : (Int32 × Int32 × Int32 × Int32 × Int32 × mwM × mwL) → Option (mwM × mwL)) (v2 : Int32) (v3 : Int32) (v4 : Int32) (v5 : Int32) (v6 : Int32) (M : mwM) (L : mwL) : Option (mwM × mwL) :=
  (if (M 821 34) ≤ v6 then mb3 (DX12_checkOf fu 15 M L) (fun r16 M14 L15 => mlet (mset M14 821 41 0) (fun M17 => mlet (M17 821 34) (fun x18 => (if v2 = 0 then mb2 (DX12_bits fu r16 15 M17 L15) (fun M20 L21 => fX12_writeAnew_b162 fu a1 v2 v3 v4 v5 x18 M20 L21) else fX12_writeAnew_b162 fu a1 v2 v3 v4 v5 x18 M17 L15)))) else mck v6 700 (mb2 (DX12_check fu (M 848 v6.toNatClampNeg) M L) (fun M23 L24 => mlet (v6 + 1) (fun x25 => r105 (v2, v3, v4, v5, x25, M23, L24)))))
noncomputable def fX12_writeAnew_h105 (fu : Nat) (a1 : Int32) : Nat → (Int32 × Int32 × Int32 × Int32 × Int32 × mwM × mwL) → Option (mwM × mwL) := mloop (fun r105 s => fX12_writeAnew_i105 fu a1 r105 s.1 s.2.1 s.2.2.1 s.2.2.2.1 s.2.2.2.2.1 s.2.2.2.2.2.1 s.2.2.2.2.2.2)
noncomputable def fX12_writeAnew_b87 (fu : Nat) (a1 : Int32) (v2 : Int32) (v3 : Int32) (s0 : Int32) (M : mwM) (L : mwL) : Option (mwM × mwL) :=
  mlet (mset M 821 37 0) (fun M11 => mlet (mset M11 821 41 0) (fun M12 => fX12_writeAnew_h105 fu a1 fu (v2, v3, s0, 0, 0, M12, L)))
noncomputable def fX12_writeAnew_b50 (fu : Nat) (a1 : Int32) (v2 : Int32) (s0 : Int32) (M : mwM) (L : mwL) : Option (mwM × mwL) :=
  (if v2 = 0 then fX12_writeAnew_b87 fu a1 v2 s0 15 M L else mck a1 200 (mck a1 200 (mb3 (DX12_octetsOf fu (M 825 a1.toNatClampNeg) (M 826 a1.toNatClampNeg) M L) (fun r9 M7 L8 => (if r9 ≤ 16 then fX12_writeAnew_b87 fu a1 v2 s0 17 M7 L8 else fX12_writeAnew_b87 fu a1 v2 s0 21 M7 L8)))))
noncomputable def fX12_writeAnew_b30 (fu : Nat) (a1 : Int32) (s0 : Int32) (M : mwM) (L : mwL) : Option (mwM × mwL) :=
  mck a1 200 ((if ((M 825 a1.toNatClampNeg) - (M 825 a1.toNatClampNeg) / 2 * 2) = 1 then fX12_writeAnew_b50 fu a1 s0 32 M L else fX12_writeAnew_b50 fu a1 s0 13 M L))
noncomputable def fX12_writeAnew_b25 (fu : Nat) (a1 : Int32) (M : mwM) (L : mwL) : Option (mwM × mwL) :=
  fX12_writeAnew_b30 fu a1 1 M L
noncomputable def DX12_writeAnew (fu : Nat) (a1 : Int32) (M : mwM) (L : mwL) : Option (mwM × mwL) :=
  mb2 (DX12_writePlain fu a1 M L) (fun M59 L60 => mck a1 200 ((if (M59 825 a1.toNatClampNeg) = 2 then fX12_writeAnew_b25 fu a1 M59 L60 else mck a1 200 ((if (M59 825 a1.toNatClampNeg) = 3 then fX12_writeAnew_b25 fu a1 M59 L60 else fX12_writeAnew_b30 fu a1 0 M59 L60)))))
noncomputable def fX12_write_b13 (fu : Nat) (a1 : Int32) (M : mwM) (L : mwL) : Option (mwM × mwL) :=
  mlet (mset M 821 50 a1) (fun M1 => some (M1, L))
noncomputable def DX12_write (fu : Nat) (a1 : Int32) (M : mwM) (L : mwL) : Option (mwM × mwL) :=
  (if (M 821 50) = a1 then fX12_write_b13 fu a1 M L else mb2 (DX12_writeAnew fu a1 M L) (fun M3 L4 => fX12_write_b13 fu a1 M3 L4))
noncomputable def fX12_first_b184 (fu : Nat) (a1 : Int32) (r7 : (Int32 × Int32 × Int32 × mwM × mwL) → Option (Int32 × mwM × mwL)) (v2 : Int32) (v3 : Int32) (v4 : Int32) (M : mwM) (L : mwL) : Option (Int32 × mwM × mwL) :=
  mlet (v4 + 1) (fun x28 => r7 (v2, v3, x28, M, L))
noncomputable def fX12_first_i155 (fu : Nat) (a1 : Int32) (r7 : (Int32 × Int32 × Int32 × mwM × mwL) → Option (Int32 × mwM × mwL)) (r155 : (Int32 × Int32 × Int32 × Int32 × mwM × mwL) → Option (Int32 × mwM × mwL)) (v2 : Int32) (v3 : Int32) (v4 : Int32) (v7 : Int32) (M : mwM) (L : mwL) : Option (Int32 × mwM × mwL) :=
  (if (M 821 34) ≤ v7 then fX12_first_b184 fu a1 r7 v2 v3 v4 M L else mck v7 700 (mck v7 700 (mlet (mset M 851 (v7.toNatClampNeg) (vp_nar .byte (M 848 v7.toNatClampNeg))) (fun M26 => mlet (v7 + 1) (fun x27 => r155 (v2, v3, v4, x27, M26, L))))))
noncomputable def fX12_first_h155 (fu : Nat) (a1 : Int32) (r7 : (Int32 × Int32 × Int32 × mwM × mwL) → Option (Int32 × mwM × mwL)) : Nat → (Int32 × Int32 × Int32 × Int32 × mwM × mwL) → Option (Int32 × mwM × mwL) := mloop (fun r155 s => fX12_first_i155 fu a1 r7 r155 s.1 s.2.1 s.2.2.1 s.2.2.2.1 s.2.2.2.2.1 s.2.2.2.2.2)
noncomputable def fX12_first_b134 (fu : Nat) (a1 : Int32) (r7 : (Int32 × Int32 × Int32 × mwM × mwL) → Option (Int32 × mwM × mwL)) (v2 : Int32) (v3 : Int32) (v4 : Int32) (s0 : Int32) (M : mwM) (L : mwL) : Option (Int32 × mwM × mwL) :=
  (if s0 = 0 then fX12_first_b184 fu a1 r7 v2 v3 v4 M L else mlet (M 821 34) (fun x22 => fX12_first_h155 fu a1 r7 fu (v4, x22, v4, 0, M, L)))
noncomputable def fX12_first_b129 (fu : Nat) (a1 : Int32) (r7 : (Int32 × Int32 × Int32 × mwM × mwL) → Option (Int32 × mwM × mwL)) (v2 : Int32) (v3 : Int32) (v4 : Int32) (M : mwM) (L : mwL) : Option (Int32 × mwM × mwL) :=
  fX12_first_b134 fu a1 r7 v2 v3 v4 1 M L
noncomputable def fX12_first_b133 (fu : Nat) (a1 : Int32) (r7 : (Int32 × Int32 × Int32 × mwM × mwL) → Option (Int32 × mwM × mwL)) (v2 : Int32) (v3 : Int32) (v4 : Int32) (M : mwM) (L : mwL) : Option (Int32 × mwM × mwL) :=
  fX12_first_b134 fu a1 r7 v2 v3 v4 0 M L
noncomputable def fX12_first_b92 (fu : Nat) (a1 : Int32) (r7 : (Int32 × Int32 × Int32 × mwM × mwL) → Option (Int32 × mwM × mwL)) (v2 : Int32) (v3 : Int32) (v4 : Int32) (v5 : Int32) (M : mwM) (L : mwL) : Option (Int32 × mwM × mwL) :=
  (if v2 = ((-1)) then fX12_first_b129 fu a1 r7 v2 v3 v4 M L else (if (M 821 34) ≤ v5 then fX12_first_b133 fu a1 r7 v2 v3 v4 M L else (if v3 ≤ v5 then fX12_first_b133 fu a1 r7 v2 v3 v4 M L else mck v5 700 (mck v5 700 ((if (M 851 v5.toNatClampNeg) ≤ (M 848 v5.toNatClampNeg) then fX12_first_b133 fu a1 r7 v2 v3 v4 M L else fX12_first_b129 fu a1 r7 v2 v3 v4 M L))))))
noncomputable def fX12_first_i49 (fu : Nat) (a1 : Int32) (r7 : (Int32 × Int32 × Int32 × mwM × mwL) → Option (Int32 × mwM × mwL)) (r49 : (Int32 × Int32 × Int32 × Int32 × mwM × mwL) → Option (Int32 × mwM × mwL)) (v2 : Int32) (v3 : Int32) (v4 : Int32) (v5 : Int32) (M : mwM) (L : mwL) : Option (Int32 × mwM × mwL) :=
  (if v2 = ((-1)) then fX12_first_b92 fu a1 r7 v2 v3 v4 v5 M L else (if (M 821 34) ≤ v5 then fX12_first_b92 fu a1 r7 v2 v3 v4 v5 M L else (if v3 ≤ v5 then fX12_first_b92 fu a1 r7 v2 v3 v4 v5 M L else mck v5 700 (mck v5 700 ((if (M 848 v5.toNatClampNeg) = (M 851 v5.toNatClampNeg) then mlet (v5 + 1) (fun x14 => r49 (v2, v3, v4, x14, M, L)) else fX12_first_b92 fu a1 r7 v2 v3 v4 v5 M L))))))
noncomputable def fX12_first_h49 (fu : Nat) (a1 : Int32) (r7 : (Int32 × Int32 × Int32 × mwM × mwL) → Option (Int32 × mwM × mwL)) : Nat → (Int32 × Int32 × Int32 × Int32 × mwM × mwL) → Option (Int32 × mwM × mwL) := mloop (fun r49 s => fX12_first_i49 fu a1 r7 r49 s.1 s.2.1 s.2.2.1 s.2.2.2.1 s.2.2.2.2.1 s.2.2.2.2.2)
noncomputable def fX12_first_i7 (fu : Nat) (a1 : Int32) (r7 : (Int32 × Int32 × Int32 × mwM × mwL) → Option (Int32 × mwM × mwL)) (v2 : Int32) (v3 : Int32) (v4 : Int32) (M : mwM) (L : mwL) : Option (Int32 × mwM × mwL) :=
  (if (M 821 4) ≤ v4 then some (v2, M, L) else mck v4 200 ((if (M 823 v4.toNatClampNeg) = a1 then mck v4 200 ((if (M 828 v4.toNatClampNeg) = 0 then mb2 (DX12_writePlain fu v4 M L) (fun M6 L7 => fX12_first_h49 fu a1 r7 fu (v2, v3, v4, 0, M6, L7)) else fX12_first_b184 fu a1 r7 v2 v3 v4 M L)) else fX12_first_b184 fu a1 r7 v2 v3 v4 M L)))
noncomputable def fX12_first_h7 (fu : Nat) (a1 : Int32) : Nat → (Int32 × Int32 × Int32 × mwM × mwL) → Option (Int32 × mwM × mwL) := mloop (fun r7 s => fX12_first_i7 fu a1 r7 s.1 s.2.1 s.2.2.1 s.2.2.2.1 s.2.2.2.2)
noncomputable def DX12_first (fu : Nat) (a1 : Int32) (M : mwM) (L : mwL) : Option (Int32 × mwM × mwL) :=
  fX12_first_h7 fu a1 fu (((-1)), 0, 0, M, L)
noncomputable def fX12_waiting_b69 (fu : Nat) (a1 : Int32) (v2 : Int32) (M : mwM) (L : mwL) : Option (Int32 × mwM × mwL) :=
  some (v2, M, L)
noncomputable def fX12_waiting_b62 (fu : Nat) (a1 : Int32) (r21 : (Int32 × Int32 × mwM × mwL) → Option (Int32 × mwM × mwL)) (v3 : Int32) (s0 : Int32) (M : mwM) (L : mwL) : Option (Int32 × mwM × mwL) :=
  mlet (v3 + 1) (fun x8 => r21 (s0, x8, M, L))
noncomputable def fX12_waiting_b61 (fu : Nat) (a1 : Int32) (r21 : (Int32 × Int32 × mwM × mwL) → Option (Int32 × mwM × mwL)) (v2 : Int32) (v3 : Int32) (M : mwM) (L : mwL) : Option (Int32 × mwM × mwL) :=
  fX12_waiting_b62 fu a1 r21 v3 v2 M L
noncomputable def fX12_waiting_i21 (fu : Nat) (a1 : Int32) (r21 : (Int32 × Int32 × mwM × mwL) → Option (Int32 × mwM × mwL)) (v2 : Int32) (v3 : Int32) (M : mwM) (L : mwL) : Option (Int32 × mwM × mwL) :=
  (if (M 821 4) ≤ v3 then fX12_waiting_b69 fu a1 v2 M L else (if (M 821 0) = 0 then mck v3 200 ((if (M 823 v3.toNatClampNeg) = a1 then mck v3 200 ((if (M 828 v3.toNatClampNeg) = 0 then fX12_waiting_b62 fu a1 r21 v3 (v2 + 1) M L else fX12_waiting_b61 fu a1 r21 v2 v3 M L)) else fX12_waiting_b61 fu a1 r21 v2 v3 M L)) else fX12_waiting_b69 fu a1 v2 M L))
noncomputable def fX12_waiting_h21 (fu : Nat) (a1 : Int32) : Nat → (Int32 × Int32 × mwM × mwL) → Option (Int32 × mwM × mwL) := mloop (fun r21 s => fX12_waiting_i21 fu a1 r21 s.1 s.2.1 s.2.2.1 s.2.2.2)
noncomputable def fX12_waiting_b14 (fu : Nat) (a1 : Int32) (s1 : Int32) (M : mwM) (L : mwL) : Option (Int32 × mwM × mwL) :=
  mlet (mset M 821 0 s1) (fun M1 => fX12_waiting_h21 fu a1 fu (0, 0, M1, L))
noncomputable def DX12_waiting (fu : Nat) (a1 : Int32) (M : mwM) (L : mwL) : Option (Int32 × mwM × mwL) :=
  mb3 (DX12_noNode fu a1 M L) (fun r11 M9 L10 => (if r11 = 0 then fX12_waiting_b14 fu a1 0 M9 L10 else fX12_waiting_b14 fu a1 1 M9 L10))
noncomputable def fX12_flip_b56 (fu : Nat) (a1 : Int32) (a2 : Int32) (M : mwM) (L : mwL) : Option (mwM × mwL) :=
  some (M, L)
noncomputable def fX12_flip_b33 (fu : Nat) (a1 : Int32) (a2 : Int32) (s1 : Int32) (M : mwM) (L : mwL) : Option (mwM × mwL) :=
  mlet (mset M 821 0 s1) (fun M1 => (if (M1 821 0) = 0 then mck ((20000 * a1) + a2) 140000 (mlet (mset M1 838 (((20000 * a1) + a2).toNatClampNeg) (vp_nar .boolean 1)) (fun M4 => fX12_flip_b56 fu a1 a2 M4 L)) else fX12_flip_b56 fu a1 a2 M1 L))
noncomputable def fX12_flip_b28 (fu : Nat) (a1 : Int32) (a2 : Int32) (M : mwM) (L : mwL) : Option (mwM × mwL) :=
  fX12_flip_b33 fu a1 a2 2 M L
noncomputable def DX12_flip (fu : Nat) (a1 : Int32) (a2 : Int32) (M : mwM) (L : mwL) : Option (mwM × mwL) :=
  mb3 (DX12_noNode fu a1 M L) (fun r7 M5 L6 => (if r7 = 0 then (if a2 < (M5 821 2) then fX12_flip_b28 fu a1 a2 M5 L6 else (if a2 ≤ 19999 then fX12_flip_b33 fu a1 a2 0 M5 L6 else fX12_flip_b28 fu a1 a2 M5 L6)) else fX12_flip_b33 fu a1 a2 1 M5 L6))
noncomputable def DX12_bitAt (fu : Nat) (a1 : Int32) (a2 : Int32) (M : mwM) (L : mwL) : Option (Int32 × mwM × mwL) :=
  mck ((1200 * a1) + a2) 8400 (some (M 837 ((1200 * a1) + a2).toNatClampNeg, M, L))
noncomputable def fX12_number_i5 (fu : Nat) (a1 : Int32) (a2 : Int32) (r5 : (Int32 × Int32 × mwM × mwL) → Option (Int32 × mwM × mwL)) (v3 : Int32) (v4 : Int32) (M : mwM) (L : mwL) : Option (Int32 × mwM × mwL) :=
  (if (a1 + a2) ≤ v4 then some (v3, M, L) else mck v4 700 (mlet ((2 * v3) + (M 848 v4.toNatClampNeg)) (fun x3 => mlet (v4 + 1) (fun x4 => r5 (x3, x4, M, L)))))
noncomputable def fX12_number_h5 (fu : Nat) (a1 : Int32) (a2 : Int32) : Nat → (Int32 × Int32 × mwM × mwL) → Option (Int32 × mwM × mwL) := mloop (fun r5 s => fX12_number_i5 fu a1 a2 r5 s.1 s.2.1 s.2.2.1 s.2.2.2)
noncomputable def DX12_number (fu : Nat) (a1 : Int32) (a2 : Int32) (M : mwM) (L : mwL) : Option (Int32 × mwM × mwL) :=
  fX12_number_h5 fu a1 a2 fu (0, a1, M, L)
noncomputable def fX12_find_b106 (fu : Nat) (a1 : Int32) (a2 : Int32) (a3 : Int32) (M : mwM) (L : mwL) : Option (mwM × mwL) :=
  some (M, L)
noncomputable def fX12_find_b55 (fu : Nat) (a1 : Int32) (a2 : Int32) (a3 : Int32) (s1 : Int32) (s2 : Int32) (M : mwM) (L : mwL) : Option (mwM × mwL) :=
  mlet (mset M 821 42 (s1 + s2)) (fun M6 => mb3 (DX12_number fu (a3 - 4) 4 M6 L) (fun r9 M7 L8 => mlet (mset M7 821 43 r9) (fun M10 => mb3 (DX12_number fu 1 11 M10 L8) (fun r13 M11 L12 => mlet (mset M11 821 44 r13) (fun M14 => (if a1 = 0 then fX12_find_b106 fu a1 a2 a3 M14 L12 else mb3 (DX12_number fu 14 18 M14 L12) (fun r18 M16 L17 => mlet (mset M16 821 44 (((M14 821 44) * 262144) + r18)) (fun M19 => fX12_find_b106 fu a1 a2 a3 M19 L17))))))))
noncomputable def fX12_find_b37 (fu : Nat) (a1 : Int32) (a2 : Int32) (a3 : Int32) (v4 : Int32) (s1 : Int32) (M : mwM) (L : mwL) : Option (mwM × mwL) :=
  (if a2 = 0 then (if v4 = 0 then fX12_find_b55 fu a1 a2 a3 s1 0 M L else fX12_find_b55 fu a1 a2 a3 s1 4 M L) else fX12_find_b55 fu a1 a2 a3 s1 2 M L)
noncomputable def fX12_find_b25 (fu : Nat) (a1 : Int32) (a2 : Int32) (a3 : Int32) (s0 : Int32) (M : mwM) (L : mwL) : Option (mwM × mwL) :=
  (if a1 = 0 then fX12_find_b37 fu a1 a2 a3 s0 0 M L else fX12_find_b37 fu a1 a2 a3 s0 1 M L)
noncomputable def fX12_find_b15 (fu : Nat) (a1 : Int32) (a2 : Int32) (a3 : Int32) (s1 : Int32) (M : mwM) (L : mwL) : Option (mwM × mwL) :=
  mck s1 700 ((if (M 848 s1.toNatClampNeg) = 1 then fX12_find_b25 fu a1 a2 a3 1 M L else fX12_find_b25 fu a1 a2 a3 0 M L))
noncomputable def DX12_find (fu : Nat) (a1 : Int32) (a2 : Int32) (a3 : Int32) (M : mwM) (L : mwL) : Option (mwM × mwL) :=
  (if a1 = 0 then fX12_find_b15 fu a1 a2 a3 12 M L else fX12_find_b15 fu a1 a2 a3 32 M L)
noncomputable def fX12_bodyAnew_b390 (fu : Nat) (a1 : Int32) (r48 : (Int32 × Int32 × Int32 × Int32 × Int32 × Int32 × Int32 × mwM × mwL) → Option (Int32 × mwM × mwL)) (v2 : Int32) (v3 : Int32) (v4 : Int32) (v5 : Int32) (v6 : Int32) (v7 : Int32) (v8 : Int32) (M : mwM) (L : mwL) : Option (Int32 × mwM × mwL) :=
  mlet (v8 + 1) (fun x42 => r48 (v2, v3, v4, v5, v6, v7, x42, M, L))
noncomputable def fX12_bodyAnew_b373 (fu : Nat) (a1 : Int32) (r48 : (Int32 × Int32 × Int32 × Int32 × Int32 × Int32 × Int32 × mwM × mwL) → Option (Int32 × mwM × mwL)) (v2 : Int32) (v3 : Int32) (v4 : Int32) (v5 : Int32) (v6 : Int32) (v7 : Int32) (v8 : Int32) (s0 : Int32) (M : mwM) (L : mwL) : Option (Int32 × mwM × mwL) :=
  (if s0 = 0 then fX12_bodyAnew_b390 fu a1 r48 v2 v3 v4 v5 v6 v7 v8 M L else mlet (mset M 821 45 (v8 + 1)) (fun M41 => some ((-1), M41, L)))
noncomputable def fX12_bodyAnew_b372 (fu : Nat) (a1 : Int32) (r48 : (Int32 × Int32 × Int32 × Int32 × Int32 × Int32 × Int32 × mwM × mwL) → Option (Int32 × mwM × mwL)) (v2 : Int32) (v3 : Int32) (v4 : Int32) (v5 : Int32) (v6 : Int32) (v7 : Int32) (v8 : Int32) (M : mwM) (L : mwL) : Option (Int32 × mwM × mwL) :=
  fX12_bodyAnew_b373 fu a1 r48 v2 v3 v4 v5 v6 v7 v8 0 M L
noncomputable def fX12_bodyAnew_b328 (fu : Nat) (a1 : Int32) (r48 : (Int32 × Int32 × Int32 × Int32 × Int32 × Int32 × Int32 × mwM × mwL) → Option (Int32 × mwM × mwL)) (v2 : Int32) (v3 : Int32) (v4 : Int32) (v5 : Int32) (v6 : Int32) (v7 : Int32) (v8 : Int32) (M : mwM) (L : mwL) : Option (Int32 × mwM × mwL) :=
  (if v7 = 0 then (if (M 821 34) = (v5 + 15) then (if 5 ≤ v4 then fX12_bodyAnew_b372 fu a1 r48 v2 v3 v4 v5 v6 v7 v8 M L else fX12_bodyAnew_b373 fu a1 r48 v2 v3 v4 v5 v6 v7 v8 1 M L) else fX12_bodyAnew_b372 fu a1 r48 v2 v3 v4 v5 v6 v7 v8 M L) else (if (M 821 34) = v5 then fX12_bodyAnew_b373 fu a1 r48 v2 v3 v4 v5 v6 v7 v8 1 M L else fX12_bodyAnew_b373 fu a1 r48 v2 v3 v4 v5 v6 v7 v8 0 M L))
noncomputable def fX12_bodyAnew_b278 (fu : Nat) (a1 : Int32) (r48 : (Int32 × Int32 × Int32 × Int32 × Int32 × Int32 × Int32 × mwM × mwL) → Option (Int32 × mwM × mwL)) (v2 : Int32) (v3 : Int32) (v4 : Int32) (v5 : Int32) (v6 : Int32) (v7 : Int32) (v8 : Int32) (v10 : Int32) (s0 : Int32) (s1 : Int32) (M : mwM) (L : mwL) : Option (Int32 × mwM × mwL) :=
  mlet (s0 + s1) (fun x27 => (if (M 821 34) ≤ v10 then fX12_bodyAnew_b328 fu a1 r48 v2 v3 v4 v5 v6 v7 v8 M L else (if (M 821 34) = x27 then mb2 (DX12_find fu v6 v7 x27 M L) (fun M30 L31 => mb3 (DX12_octetsOf fu (M30 821 42) (M30 821 43) M30 L31) (fun r34 M32 L33 => mlet (x27 + (8 * r34)) (fun x35 => fX12_bodyAnew_b328 fu a1 r48 v2 v3 v4 x35 v6 v7 v8 M32 L33))) else fX12_bodyAnew_b328 fu a1 r48 v2 v3 v4 v5 v6 v7 v8 M L)))
noncomputable def fX12_bodyAnew_b255 (fu : Nat) (a1 : Int32) (r48 : (Int32 × Int32 × Int32 × Int32 × Int32 × Int32 × Int32 × mwM × mwL) → Option (Int32 × mwM × mwL)) (v2 : Int32) (v3 : Int32) (v4 : Int32) (v5 : Int32) (v6 : Int32) (v7 : Int32) (v8 : Int32) (v10 : Int32) (M : mwM) (L : mwL) : Option (Int32 × mwM × mwL) :=
  (if v7 = 0 then (if v6 = 0 then fX12_bodyAnew_b278 fu a1 r48 v2 v3 v4 v5 v6 v7 v8 v10 v10 5 M L else fX12_bodyAnew_b278 fu a1 r48 v2 v3 v4 v5 v6 v7 v8 v10 v10 6 M L) else fX12_bodyAnew_b278 fu a1 r48 v2 v3 v4 v5 v6 v7 v8 v10 v10 8 M L)
noncomputable def fX12_bodyAnew_b231 (fu : Nat) (a1 : Int32) (r48 : (Int32 × Int32 × Int32 × Int32 × Int32 × Int32 × Int32 × mwM × mwL) → Option (Int32 × mwM × mwL)) (v2 : Int32) (v3 : Int32) (v4 : Int32) (v5 : Int32) (v6 : Int32) (v7 : Int32) (v8 : Int32) (v9 : Int32) (v10 : Int32) (M : mwM) (L : mwL) : Option (Int32 × mwM × mwL) :=
  (if (M 821 34) = (v10 + 2) then (if v7 = 0 then fX12_bodyAnew_b255 fu a1 r48 v2 v3 v4 v5 v6 v7 v8 v10 M L else (if v9 = 1 then some (2, M, L) else fX12_bodyAnew_b255 fu a1 r48 v2 v3 v4 v5 v6 v7 v8 v10 M L)) else fX12_bodyAnew_b255 fu a1 r48 v2 v3 v4 v5 v6 v7 v8 v10 M L)
noncomputable def fX12_bodyAnew_b229 (fu : Nat) (a1 : Int32) (r48 : (Int32 × Int32 × Int32 × Int32 × Int32 × Int32 × Int32 × mwM × mwL) → Option (Int32 × mwM × mwL)) (v2 : Int32) (v3 : Int32) (v4 : Int32) (v5 : Int32) (v6 : Int32) (v8 : Int32) (v9 : Int32) (v10 : Int32) (s0 : Int32) (M : mwM) (L : mwL) : Option (Int32 × mwM × mwL) :=
  fX12_bodyAnew_b231 fu a1 r48 v2 v3 v4 v5 v6 s0 v8 v9 v10 M L
noncomputable def fX12_bodyAnew_b196 (fu : Nat) (a1 : Int32) (r48 : (Int32 × Int32 × Int32 × Int32 × Int32 × Int32 × Int32 × mwM × mwL) → Option (Int32 × mwM × mwL)) (v2 : Int32) (v3 : Int32) (v4 : Int32) (v5 : Int32) (v6 : Int32) (v7 : Int32) (v8 : Int32) (v9 : Int32) (s0 : Int32) (M : mwM) (L : mwL) : Option (Int32 × mwM × mwL) :=
  (if (M 821 34) ≤ 13 then fX12_bodyAnew_b231 fu a1 r48 v2 v3 v4 v5 v6 v7 v8 v9 s0 M L else (if (M 821 34) = (s0 + 1) then (if v9 = 1 then fX12_bodyAnew_b229 fu a1 r48 v2 v3 v4 v5 v6 v8 v9 s0 1 M L else fX12_bodyAnew_b229 fu a1 r48 v2 v3 v4 v5 v6 v8 v9 s0 0 M L) else fX12_bodyAnew_b231 fu a1 r48 v2 v3 v4 v5 v6 v7 v8 v9 s0 M L))
noncomputable def fX12_bodyAnew_b184 (fu : Nat) (a1 : Int32) (r48 : (Int32 × Int32 × Int32 × Int32 × Int32 × Int32 × Int32 × mwM × mwL) → Option (Int32 × mwM × mwL)) (v2 : Int32) (v3 : Int32) (v4 : Int32) (v5 : Int32) (v6 : Int32) (v7 : Int32) (v8 : Int32) (v9 : Int32) (M : mwM) (L : mwL) : Option (Int32 × mwM × mwL) :=
  (if v6 = 0 then fX12_bodyAnew_b196 fu a1 r48 v2 v3 v4 v5 v6 v7 v8 v9 14 M L else fX12_bodyAnew_b196 fu a1 r48 v2 v3 v4 v5 v6 v7 v8 v9 33 M L)
noncomputable def fX12_bodyAnew_b182 (fu : Nat) (a1 : Int32) (r48 : (Int32 × Int32 × Int32 × Int32 × Int32 × Int32 × Int32 × mwM × mwL) → Option (Int32 × mwM × mwL)) (v2 : Int32) (v3 : Int32) (v4 : Int32) (v5 : Int32) (v7 : Int32) (v8 : Int32) (v9 : Int32) (s0 : Int32) (M : mwM) (L : mwL) : Option (Int32 × mwM × mwL) :=
  fX12_bodyAnew_b184 fu a1 r48 v2 v3 v4 v5 s0 v7 v8 v9 M L
noncomputable def fX12_bodyAnew_b135 (fu : Nat) (a1 : Int32) (r48 : (Int32 × Int32 × Int32 × Int32 × Int32 × Int32 × Int32 × mwM × mwL) → Option (Int32 × mwM × mwL)) (v2 : Int32) (v5 : Int32) (v6 : Int32) (v7 : Int32) (v8 : Int32) (v9 : Int32) (s0 : Int32) (M : mwM) (L : mwL) : Option (Int32 × mwM × mwL) :=
  mck (M 821 34) 700 (mlet (mset M 848 ((M 821 34).toNatClampNeg) (vp_nar .byte v9.toInt8.toInt32)) (fun M14 => mlet (mset M14 821 34 ((M14 821 34) + 1)) (fun M15 => (if (M15 821 34) = 14 then (if v9 = 1 then fX12_bodyAnew_b182 fu a1 r48 v2 v9 s0 v5 v7 v8 v9 1 M15 L else fX12_bodyAnew_b182 fu a1 r48 v2 v9 s0 v5 v7 v8 v9 0 M15 L) else fX12_bodyAnew_b184 fu a1 r48 v2 v9 s0 v5 v6 v7 v8 v9 M15 L))))
noncomputable def fX12_bodyAnew_i48 (fu : Nat) (a1 : Int32) (r48 : (Int32 × Int32 × Int32 × Int32 × Int32 × Int32 × Int32 × mwM × mwL) → Option (Int32 × mwM × mwL)) (v2 : Int32) (v3 : Int32) (v4 : Int32) (v5 : Int32) (v6 : Int32) (v7 : Int32) (v8 : Int32) (M : mwM) (L : mwL) : Option (Int32 × mwM × mwL) :=
  (if v2 < v8 then some ((-1), M, L) else mb3 (DX12_bitAt fu a1 v8 M L) (fun r4 M2 L3 => mb2 (DX12_check fu r4 M2 L3) (fun M5 L6 => (if v4 = 5 then (if r4 = v3 then some (1, M5, L6) else mlet (mset M5 821 46 ((M5 821 46) + 1)) (fun M10 => (if (M10 821 34) = (v5 + 15) then mlet (mset M10 821 45 (v8 + 1)) (fun M12 => some ((-1), M12, L6)) else fX12_bodyAnew_b390 fu a1 r48 v2 r4 1 v5 v6 v7 v8 M10 L6))) else (if r4 = v3 then fX12_bodyAnew_b135 fu a1 r48 v2 v5 v6 v7 v8 r4 (v4 + 1) M5 L6 else fX12_bodyAnew_b135 fu a1 r48 v2 v5 v6 v7 v8 r4 1 M5 L6)))))
noncomputable def fX12_bodyAnew_h48 (fu : Nat) (a1 : Int32) : Nat → (Int32 × Int32 × Int32 × Int32 × Int32 × Int32 × Int32 × mwM × mwL) → Option (Int32 × mwM × mwL) := mloop (fun r48 s => fX12_bodyAnew_i48 fu a1 r48 s.1 s.2.1 s.2.2.1 s.2.2.2.1 s.2.2.2.2.1 s.2.2.2.2.2.1 s.2.2.2.2.2.2.1 s.2.2.2.2.2.2.2.1 s.2.2.2.2.2.2.2.2)
noncomputable def DX12_bodyAnew (fu : Nat) (a1 : Int32) (M : mwM) (L : mwL) : Option (Int32 × mwM × mwL) :=
  mck a1 32 (mlet ((M 836 a1.toNatClampNeg) - 1) (fun x44 => mlet (mset M 821 45 ((-1))) (fun M45 => mlet (mset M45 821 46 0) (fun M46 => mlet (mset M46 821 34 0) (fun M47 => mlet (mset M47 821 41 0) (fun M48 => fX12_bodyAnew_h48 fu a1 fu (x44, 1, 0, 20000, 0, 0, 0, M48, L)))))))
noncomputable def fX12_body_i96 (fu : Nat) (a1 : Int32) (r96 : (Int32 × mwM × mwL) → Option (Int32 × mwM × mwL)) (v3 : Int32) (M : mwM) (L : mwL) : Option (Int32 × mwM × mwL) :=
  (if (M 821 48) ≤ v3 then some (M 821 49, M, L) else mck ((1200 * a1) + v3) 8400 (mck v3 1200 (mlet (mset M 853 (v3.toNatClampNeg) (vp_nar .byte (M 837 ((1200 * a1) + v3).toNatClampNeg))) (fun M17 => mlet (v3 + 1) (fun x18 => r96 (x18, M17, L))))))
noncomputable def fX12_body_h96 (fu : Nat) (a1 : Int32) : Nat → (Int32 × mwM × mwL) → Option (Int32 × mwM × mwL) := mloop (fun r96 s => fX12_body_i96 fu a1 r96 s.1 s.2.1 s.2.2)
noncomputable def fX12_body_b66 (fu : Nat) (a1 : Int32) (v2 : Int32) (M : mwM) (L : mwL) : Option (Int32 × mwM × mwL) :=
  (if v2 = 0 then mb3 (DX12_bodyAnew fu a1 M L) (fun r10 M8 L9 => mlet (mset M8 821 49 r10) (fun M11 => mck a1 32 (mlet (mset M11 821 48 (M11 836 a1.toNatClampNeg)) (fun M13 => fX12_body_h96 fu a1 fu (0, M13, L9))))) else some (M 821 49, M, L))
noncomputable def fX12_body_b59 (fu : Nat) (a1 : Int32) (r21 : (Int32 × Int32 × mwM × mwL) → Option (Int32 × mwM × mwL)) (v3 : Int32) (s0 : Int32) (M : mwM) (L : mwL) : Option (Int32 × mwM × mwL) :=
  mlet (v3 + 1) (fun x6 => r21 (s0, x6, M, L))
noncomputable def fX12_body_i21 (fu : Nat) (a1 : Int32) (r21 : (Int32 × Int32 × mwM × mwL) → Option (Int32 × mwM × mwL)) (v2 : Int32) (v3 : Int32) (M : mwM) (L : mwL) : Option (Int32 × mwM × mwL) :=
  (if (M 821 48) ≤ v3 then fX12_body_b66 fu a1 v2 M L else (if v2 = 0 then fX12_body_b66 fu a1 v2 M L else mck v3 1200 (mck ((1200 * a1) + v3) 8400 ((if (M 853 v3.toNatClampNeg) = (M 837 ((1200 * a1) + v3).toNatClampNeg) then fX12_body_b59 fu a1 r21 v3 1 M L else fX12_body_b59 fu a1 r21 v3 0 M L)))))
noncomputable def fX12_body_h21 (fu : Nat) (a1 : Int32) : Nat → (Int32 × Int32 × mwM × mwL) → Option (Int32 × mwM × mwL) := mloop (fun r21 s => fX12_body_i21 fu a1 r21 s.1 s.2.1 s.2.2.1 s.2.2.2)
noncomputable def fX12_body_b18 (fu : Nat) (a1 : Int32) (s0 : Int32) (M : mwM) (L : mwL) : Option (Int32 × mwM × mwL) :=
  fX12_body_h21 fu a1 fu (s0, 0, M, L)
noncomputable def DX12_body (fu : Nat) (a1 : Int32) (M : mwM) (L : mwL) : Option (Int32 × mwM × mwL) :=
  mck a1 32 ((if (M 821 48) = (M 836 a1.toNatClampNeg) then fX12_body_b18 fu a1 1 M L else fX12_body_b18 fu a1 0 M L))
noncomputable def fX12_width_b44 (fu : Nat) (s0 : Int32) (M : mwM) (L : mwL) : Option (Int32 × mwM × mwL) :=
  some (s0, M, L)
noncomputable def fX12_width_b21 (fu : Nat) (M : mwM) (L : mwL) : Option (Int32 × mwM × mwL) :=
  mb3 (DX12_octetsOf fu (M 821 42) (M 821 43) M L) (fun r3 M1 L2 => (if r3 ≤ 16 then fX12_width_b44 fu 17 M1 L2 else fX12_width_b44 fu 21 M1 L2))
noncomputable def DX12_width (fu : Nat) (M : mwM) (L : mwL) : Option (Int32 × mwM × mwL) :=
  (if (M 821 42) = 2 then fX12_width_b21 fu M L else (if (M 821 42) = 3 then fX12_width_b21 fu M L else fX12_width_b44 fu 15 M L))
noncomputable def fX12_tail_b18 (fu : Nat) (M : mwM) (L : mwL) : Option (Int32 × mwM × mwL) :=
  mb3 (DX12_width fu M L) (fun r3 M1 L2 => mlet (4 + r3) (fun x4 => some (x4 + ((x4 + 3) / 4), M1, L2)))
noncomputable def DX12_tail (fu : Nat) (M : mwM) (L : mwL) : Option (Int32 × mwM × mwL) :=
  (if (M 821 42) = 2 then fX12_tail_b18 fu M L else (if (M 821 42) = 3 then fX12_tail_b18 fu M L else some (0, M, L)))
noncomputable def fX12_right_b92 (fu : Nat) (a1 : Int32) (s0 : Int32) (M : mwM) (L : mwL) : Option (Int32 × mwM × mwL) :=
  mzz s0 (some (s0, M, L))
noncomputable def fX12_right_i48 (fu : Nat) (a1 : Int32) (r48 : (Int32 × Int32 × mwM × mwL) → Option (Int32 × mwM × mwL)) (v3 : Int32) (v4 : Int32) (M : mwM) (L : mwL) : Option (Int32 × mwM × mwL) :=
  (if ((M 821 34) - 15) ≤ v4 then mb3 (DX12_checkOf fu 15 M L) (fun r12 M10 L11 => (if v3 = r12 then fX12_right_b92 fu a1 1 M10 L11 else fX12_right_b92 fu a1 0 M10 L11)) else mck v4 700 (mb2 (DX12_check fu (M 848 v4.toNatClampNeg) M L) (fun M15 L16 => mlet (v4 + 1) (fun x17 => r48 (v3, x17, M15, L16)))))
noncomputable def fX12_right_h48 (fu : Nat) (a1 : Int32) : Nat → (Int32 × Int32 × mwM × mwL) → Option (Int32 × mwM × mwL) := mloop (fun r48 s => fX12_right_i48 fu a1 r48 s.1 s.2.1 s.2.2.1 s.2.2.2)
noncomputable def fX12_right_b177 (fu : Nat) (a1 : Int32) (s0 : Int32) (M : mwM) (L : mwL) : Option (Int32 × mwM × mwL) :=
  mzz s0 (some (s0, M, L))
noncomputable def fX12_right_b157 (fu : Nat) (a1 : Int32) (r99 : (Int32 × Int32 × Int32 × Int32 × mwM × mwL) → Option (Int32 × mwM × mwL)) (v2 : Int32) (v3 : Int32) (v4 : Int32) (v5 : Int32) (M : mwM) (L : mwL) : Option (Int32 × mwM × mwL) :=
  mlet (v5 + 1) (fun x37 => r99 (v2, v3, v4, x37, M, L))
noncomputable def fX12_right_b154 (fu : Nat) (a1 : Int32) (r99 : (Int32 × Int32 × Int32 × Int32 × mwM × mwL) → Option (Int32 × mwM × mwL)) (v2 : Int32) (v3 : Int32) (v4 : Int32) (v5 : Int32) (M : mwM) (L : mwL) : Option (Int32 × mwM × mwL) :=
  mlet (v4 + 1) (fun x36 => fX12_right_b157 fu a1 r99 v2 v3 x36 v5 M L)
noncomputable def fX12_right_i99 (fu : Nat) (a1 : Int32) (r99 : (Int32 × Int32 × Int32 × Int32 × mwM × mwL) → Option (Int32 × mwM × mwL)) (v2 : Int32) (v3 : Int32) (v4 : Int32) (v5 : Int32) (M : mwM) (L : mwL) : Option (Int32 × mwM × mwL) :=
  mb3 (DX12_tail fu M L) (fun r21 M19 L20 => (if r21 ≤ v5 then mb3 (DX12_checkOf fu v2 M19 L20) (fun r25 M23 L24 => (if v3 = r25 then fX12_right_b177 fu a1 1 M23 L24 else fX12_right_b177 fu a1 0 M23 L24)) else (if (v5 - v5 / 5 * 5) = 0 then fX12_right_b157 fu a1 r99 v2 v3 v4 v5 M19 L20 else mb3 (DX12_bitAt fu a1 ((M19 821 45) + v5) M19 L20) (fun r31 M29 L30 => (if 4 ≤ v4 then mlet ((2 * v3) + r31) (fun x33 => fX12_right_b154 fu a1 r99 v2 x33 v4 v5 M29 L30) else mb2 (DX12_check fu r31 M29 L30) (fun M34 L35 => fX12_right_b154 fu a1 r99 v2 v3 v4 v5 M34 L35))))))
noncomputable def fX12_right_h99 (fu : Nat) (a1 : Int32) : Nat → (Int32 × Int32 × Int32 × Int32 × mwM × mwL) → Option (Int32 × mwM × mwL) := mloop (fun r99 s => fX12_right_i99 fu a1 r99 s.1 s.2.1 s.2.2.1 s.2.2.2.1 s.2.2.2.2.1 s.2.2.2.2.2)
noncomputable def fX12_right_b19 (fu : Nat) (a1 : Int32) (v2 : Int32) (v3 : Int32) (M : mwM) (L : mwL) : Option (Int32 × mwM × mwL) :=
  mb3 (DX12_tail fu M L) (fun r3 M1 L2 => (if r3 = 0 then mb3 (DX12_number fu ((M1 821 34) - 15) 15 M1 L2) (fun r7 M5 L6 => mlet (mset M5 821 41 0) (fun M8 => fX12_right_h48 fu a1 fu (r7, 0, M8, L6))) else fX12_right_h99 fu a1 fu (v2, v3, 0, 0, M1, L2)))
noncomputable def DX12_right (fu : Nat) (a1 : Int32) (M : mwM) (L : mwL) : Option (Int32 × mwM × mwL) :=
  mb3 (DX12_width fu M L) (fun r41 M39 L40 => mb3 (DX12_tail fu M39 L40) (fun r44 M42 L43 => (if r44 ≤ 0 then fX12_right_b19 fu a1 r41 0 M42 L43 else mlet (mset M42 821 48 ((-1))) (fun M46 => fX12_right_b19 fu a1 r41 0 M46 L43))))
noncomputable def fX12_read_b19 (fu : Nat) (a1 : Int32) (v2 : Int32) (M : mwM) (L : mwL) : Option (Int32 × mwM × mwL) :=
  some (v2, M, L)
noncomputable def fX12_read_b87 (fu : Nat) (a1 : Int32) (s0 : Int32) (M : mwM) (L : mwL) : Option (Int32 × mwM × mwL) :=
  some (s0, M, L)
noncomputable def fX12_read_b154 (fu : Nat) (a1 : Int32) (s0 : Int32) (M : mwM) (L : mwL) : Option (Int32 × mwM × mwL) :=
  some (s0, M, L)
noncomputable def fX12_read_b153 (fu : Nat) (a1 : Int32) (M : mwM) (L : mwL) : Option (Int32 × mwM × mwL) :=
  fX12_read_b154 fu a1 ((-1)) M L
noncomputable def fX12_read_b131 (fu : Nat) (a1 : Int32) (v5 : Int32) (v6 : Int32) (M : mwM) (L : mwL) : Option (Int32 × mwM × mwL) :=
  (if v5 = 4 then mb3 (DX12_countOf fu (M 821 46) M L) (fun r11 M9 L10 => (if v6 = r11 then fX12_read_b153 fu a1 M9 L10 else fX12_read_b154 fu a1 1 M9 L10)) else fX12_read_b153 fu a1 M L)
noncomputable def fX12_read_i94 (fu : Nat) (a1 : Int32) (r94 : (Int32 × Int32 × Int32 × mwM × mwL) → Option (Int32 × mwM × mwL)) (v5 : Int32) (v6 : Int32) (v7 : Int32) (M : mwM) (L : mwL) : Option (Int32 × mwM × mwL) :=
  (if 5 ≤ v7 then fX12_read_b131 fu a1 v5 v6 M L else (if v5 = 4 then mb3 (DX12_bitAt fu a1 ((M 821 45) + v7) M L) (fun r5 M3 L4 => mlet ((2 * v6) + r5) (fun x6 => mlet (v7 + 1) (fun x7 => r94 (v5, x6, x7, M3, L4)))) else fX12_read_b131 fu a1 v5 v6 M L))
noncomputable def fX12_read_h94 (fu : Nat) (a1 : Int32) : Nat → (Int32 × Int32 × Int32 × mwM × mwL) → Option (Int32 × mwM × mwL) := mloop (fun r94 s => fX12_read_i94 fu a1 r94 s.1 s.2.1 s.2.2.1 s.2.2.2.1 s.2.2.2.2)
noncomputable def fX12_read_b191 (fu : Nat) (a1 : Int32) (s0 : Int32) (M : mwM) (L : mwL) : Option (Int32 × mwM × mwL) :=
  some (s0, M, L)
noncomputable def fX12_read_b218 (fu : Nat) (a1 : Int32) (s0 : Int32) (M : mwM) (L : mwL) : Option (Int32 × mwM × mwL) :=
  some (s0, M, L)
noncomputable def fX12_read_b232 (fu : Nat) (a1 : Int32) (s0 : Int32) (M : mwM) (L : mwL) : Option (Int32 × mwM × mwL) :=
  some (s0, M, L)
noncomputable def DX12_read (fu : Nat) (a1 : Int32) (M : mwM) (L : mwL) : Option (Int32 × mwM × mwL) :=
  mb3 (DX12_body fu a1 M L) (fun r15 M13 L14 => (if r15 = ((-1)) then (if (M13 821 45) = ((-1)) then fX12_read_b19 fu a1 r15 M13 L14 else mck a1 32 (mlet ((M13 836 a1.toNatClampNeg) - 1) (fun x19 => mb3 (DX12_bitAt fu a1 x19 M13 L14) (fun r22 M20 L21 => mlet (x19 - (M20 821 45)) (fun x23 => (if 0 ≤ x23 then mb3 (DX12_tail fu M20 L21) (fun r27 M25 L26 => (if r27 ≤ x23 then mb3 (DX12_tail fu M25 L26) (fun r31 M29 L30 => mlet (x23 - r31) (fun x32 => (if x32 = 1 then some ((-1), M29, L30) else (if x32 = 9 then (if r22 = 1 then fX12_read_b191 fu a1 11 M29 L30 else fX12_read_b191 fu a1 5 M29 L30) else (if r22 = 0 then some (2, M29, L30) else (if x32 = 2 then mb3 (DX12_right fu a1 M29 L30) (fun r40 M38 L39 => (if r40 = 0 then fX12_read_b218 fu a1 3 M38 L39 else fX12_read_b218 fu a1 ((-1)) M38 L39)) else (if x32 = 8 then fX12_read_b232 fu a1 10 M29 L30 else fX12_read_b232 fu a1 ((-1)) M29 L30))))))) else (if (x23 - x23 / 5 * 5) = 0 then mb3 (DX12_bitAt fu a1 (x19 - 1) M25 L26) (fun r47 M45 L46 => (if r22 = r47 then fX12_read_b87 fu a1 1 M45 L46 else fX12_read_b87 fu a1 ((-1)) M45 L46)) else fX12_read_h94 fu a1 fu (x23, 0, 1, M25, L26)))) else some ((-1), M20, L21))))))) else fX12_read_b19 fu a1 r15 M13 L14))
noncomputable def fX12_answers_b52 (fu : Nat) (a1 : Int32) (s0 : Int32) (M : mwM) (L : mwL) : Option (Int32 × mwM × mwL) :=
  mzz s0 (some (s0, M, L))
noncomputable def fX12_answers_b51 (fu : Nat) (a1 : Int32) (M : mwM) (L : mwL) : Option (Int32 × mwM × mwL) :=
  fX12_answers_b52 fu a1 0 M L
noncomputable def DX12_answers (fu : Nat) (a1 : Int32) (M : mwM) (L : mwL) : Option (Int32 × mwM × mwL) :=
  mb3 (DX12_body fu a1 M L) (fun r4 M2 L3 => (if r4 = ((-1)) then (if (M2 821 45) = ((-1)) then fX12_answers_b51 fu a1 M2 L3 else mck a1 32 (mb3 (DX12_tail fu M2 L3) (fun r10 M8 L9 => (if (M2 836 a1.toNatClampNeg) = (((M2 821 45) + r10) + 1) then mb3 (DX12_right fu a1 M8 L9) (fun r14 M12 L13 => (if r14 = 0 then fX12_answers_b51 fu a1 M12 L13 else fX12_answers_b52 fu a1 1 M12 L13)) else fX12_answers_b51 fu a1 M8 L9)))) else fX12_answers_b51 fu a1 M2 L3))
noncomputable def fX12_take_i151 (fu : Nat) (a1 : Int32) (r151 : (Int32 × Int32 × Int32 × mwM × mwL) → Option (mwM × mwL)) (v3 : Int32) (v4 : Int32) (v5 : Int32) (M : mwM) (L : mwL) : Option (mwM × mwL) :=
  (if v3 ≤ v5 then mlet (mset M 821 22 ((M 821 22) + 1)) (fun M2 => some (M2, L)) else mb3 (DX12_number fu (v4 + (8 * v5)) 8 M L) (fun r5 M3 L4 => mck ((64 * (M 821 22)) + v5) 256000 (mlet (mset M3 844 (((64 * (M 821 22)) + v5).toNatClampNeg) (vp_nar .byte r5.toInt8.toInt32)) (fun M7 => mlet (v5 + 1) (fun x8 => r151 (v3, v4, x8, M7, L4))))))
noncomputable def fX12_take_h151 (fu : Nat) (a1 : Int32) : Nat → (Int32 × Int32 × Int32 × mwM × mwL) → Option (mwM × mwL) := mloop (fun r151 s => fX12_take_i151 fu a1 r151 s.1 s.2.1 s.2.2.1 s.2.2.2.1 s.2.2.2.2)
noncomputable def fX12_take_b146 (fu : Nat) (a1 : Int32) (v3 : Int32) (s0 : Int32) (M : mwM) (L : mwL) : Option (mwM × mwL) :=
  fX12_take_h151 fu a1 fu (v3, s0, 0, M, L)
noncomputable def DX12_take (fu : Nat) (a1 : Int32) (M : mwM) (L : mwL) : Option (mwM × mwL) :=
  mb3 (DX12_body fu a1 M L) (fun r11 M9 L10 => mck a1 32 (mck a1 32 ((if ((M9 821 44) &&& (M9 834 a1.toNatClampNeg)) = (M9 835 a1.toNatClampNeg) then mck (M9 821 22) 4000 (mlet (mset M9 839 ((M9 821 22).toNatClampNeg) a1) (fun M16 => mck (M16 821 22) 4000 (mlet (mset M16 840 ((M16 821 22).toNatClampNeg) (M16 821 44)) (fun M18 => mck (M18 821 22) 4000 (mlet (mset M18 841 ((M18 821 22).toNatClampNeg) (vp_nar .byte ((M18 821 42).toInt8.toInt32))) (fun M20 => mck (M20 821 22) 4000 (mlet (mset M20 842 ((M20 821 22).toNatClampNeg) (vp_nar .byte ((M20 821 43).toInt8.toInt32))) (fun M22 => mck (M22 821 22) 4000 (mlet (mset M22 843 ((M22 821 22).toNatClampNeg) (M22 821 2)) (fun M24 => mb3 (DX12_octetsOf fu (M24 821 42) (M24 821 43) M24 L10) (fun r27 M25 L26 => (if (M25 821 42) = 2 then fX12_take_b146 fu a1 r27 22 M25 L26 else (if (M25 821 42) = 3 then fX12_take_b146 fu a1 r27 41 M25 L26 else (if ((M25 821 42) - (M25 821 42) / 2 * 2) = 1 then fX12_take_b146 fu a1 r27 39 M25 L26 else fX12_take_b146 fu a1 r27 19 M25 L26)))))))))))))) else some (M9, L10)))))
noncomputable def fX12_puts_b23 (fu : Nat) (a1 : Int32) (s0 : Int32) (M : mwM) (L : mwL) : Option (Int32 × mwM × mwL) :=
  some (s0, M, L)
noncomputable def fX12_puts_b79 (fu : Nat) (a1 : Int32) (s0 : Int32) (M : mwM) (L : mwL) : Option (Int32 × mwM × mwL) :=
  some (s0, M, L)
noncomputable def fX12_puts_b95 (fu : Nat) (a1 : Int32) (s0 : Int32) (M : mwM) (L : mwL) : Option (Int32 × mwM × mwL) :=
  some (s0, M, L)
noncomputable def DX12_puts (fu : Nat) (a1 : Int32) (M : mwM) (L : mwL) : Option (Int32 × mwM × mwL) :=
  mck a1 32 ((if (M 831 a1.toNatClampNeg) = 0 then mb3 (DX12_first fu a1 M L) (fun r20 M18 L19 => (if r20 = ((-1)) then fX12_puts_b23 fu a1 1 M18 L19 else fX12_puts_b23 fu a1 0 M18 L19)) else mck a1 32 ((if (M 831 a1.toNatClampNeg) = 1 then mck a1 32 (mb2 (DX12_write fu (M 833 a1.toNatClampNeg) M L) (fun M14 L15 => mck a1 32 (mck (M14 836 a1.toNatClampNeg) 1200 (some (M14 849 (M14 836 a1.toNatClampNeg).toNatClampNeg, M14, L15))))) else mck a1 32 ((if (M 831 a1.toNatClampNeg) = 2 then mb3 (DX12_answers fu a1 M L) (fun r11 M9 L10 => (if r11 = 0 then fX12_puts_b79 fu a1 1 M9 L10 else fX12_puts_b79 fu a1 0 M9 L10)) else mck a1 32 ((if (M 831 a1.toNatClampNeg) = 3 then fX12_puts_b95 fu a1 0 M L else fX12_puts_b95 fu a1 1 M L))))))))
noncomputable def DX12_see (fu : Nat) (a1 : Int32) (a2 : Int32) (M : mwM) (L : mwL) : Option (mwM × mwL) :=
  mck a1 32 (mck ((1200 * a1) + (M 836 a1.toNatClampNeg)) 8400 (mlet (mset M 837 (((1200 * a1) + (M 836 a1.toNatClampNeg)).toNatClampNeg) (vp_nar .byte a2.toInt8.toInt32)) (fun M3 => mck a1 32 (mck a1 32 (mlet (mset M3 836 (a1.toNatClampNeg) ((M3 836 a1.toNatClampNeg) + 1)) (fun M6 => some (M6, L)))))))
noncomputable def DX12_wrong (fu : Nat) (a1 : Int32) (a2 : Int32) (M : mwM) (L : mwL) : Option (mwM × mwL) :=
  mck (M 821 29) 17600 (mlet (mset M 845 ((M 821 29).toNatClampNeg) (vp_nar .byte a2.toInt8.toInt32)) (fun M2 => mck (M2 821 29) 17600 (mlet (mset M2 846 ((M2 821 29).toNatClampNeg) (vp_nar .byte a1.toInt8.toInt32)) (fun M4 => mck (M4 821 29) 17600 (mlet (mset M4 847 ((M4 821 29).toNatClampNeg) (M4 821 2)) (fun M6 => mlet (mset M6 821 29 ((M6 821 29) + 1)) (fun M7 => mck a1 32 (mlet (mset M7 831 (a1.toNatClampNeg) 3) (fun M9 => mck a1 32 (mlet (mset M9 832 (a1.toNatClampNeg) 6) (fun M11 => some (M11, L))))))))))))
noncomputable def DX12_go (fu : Nat) (a1 : Int32) (a2 : Int32) (a3 : Int32) (M : mwM) (L : mwL) : Option (mwM × mwL) :=
  mck a1 32 (mlet (mset M 831 (a1.toNatClampNeg) a2) (fun M2 => mck a1 32 (mlet (mset M2 832 (a1.toNatClampNeg) a3) (fun M4 => some (M4, L)))))
noncomputable def fX12_sent_b202 (fu : Nat) (a1 : Int32) (a2 : Int32) (M : mwM) (L : mwL) : Option (mwM × mwL) :=
  some (M, L)
noncomputable def fX12_sent_b143 (fu : Nat) (a1 : Int32) (a2 : Int32) (v3 : Int32) (v4 : Int32) (M : mwM) (L : mwL) : Option (mwM × mwL) :=
  (if v4 = ((M 821 37) - 1) then mck v3 200 (mlet (mset M 828 (v3.toNatClampNeg) (vp_nar .boolean 1)) (fun M14 => mck (M14 821 11) 200 (mlet (mset M14 829 ((M14 821 11).toNatClampNeg) v3) (fun M16 => mck (M16 821 11) 200 (mlet (mset M16 830 ((M16 821 11).toNatClampNeg) (M16 821 2)) (fun M18 => mlet (mset M18 821 11 ((M18 821 11) + 1)) (fun M19 => mb2 (DX12_go fu a1 6 3 M19 L) (fun M20 L21 => fX12_sent_b202 fu a1 a2 M20 L21)))))))) else fX12_sent_b202 fu a1 a2 M L)
noncomputable def fX12_sent_b137 (fu : Nat) (a1 : Int32) (a2 : Int32) (s2 : Int32) (M : mwM) (L : mwL) : Option (mwM × mwL) :=
  mb2 (DX12_wrong fu a1 s2 M L) (fun M10 L11 => fX12_sent_b202 fu a1 a2 M10 L11)
noncomputable def fX12_sent_b125 (fu : Nat) (a1 : Int32) (a2 : Int32) (v6 : Int32) (M : mwM) (L : mwL) : Option (mwM × mwL) :=
  (if v6 = 0 then fX12_sent_b137 fu a1 a2 0 M L else fX12_sent_b137 fu a1 a2 4 M L)
noncomputable def fX12_sent_b84 (fu : Nat) (a1 : Int32) (a2 : Int32) (v3 : Int32) (v4 : Int32) (v5 : Int32) (s0 : Int32) (M : mwM) (L : mwL) : Option (mwM × mwL) :=
  (if v5 = 0 then (if s0 = 0 then mck v4 1200 ((if a2 = (M 849 v4.toNatClampNeg) then fX12_sent_b143 fu a1 a2 v3 v4 M L else fX12_sent_b125 fu a1 a2 s0 M L)) else (if a2 = 1 then fX12_sent_b125 fu a1 a2 s0 M L else fX12_sent_b143 fu a1 a2 v3 v4 M L)) else mck a1 32 (mlet (mset M 831 (a1.toNatClampNeg) 2) (fun M8 => fX12_sent_b202 fu a1 a2 M8 L)))
noncomputable def fX12_sent_b65 (fu : Nat) (a1 : Int32) (a2 : Int32) (v3 : Int32) (v4 : Int32) (s0 : Int32) (M : mwM) (L : mwL) : Option (mwM × mwL) :=
  (if v4 = ((M 821 37) - 9) then fX12_sent_b84 fu a1 a2 v3 v4 s0 1 M L else fX12_sent_b84 fu a1 a2 v3 v4 s0 0 M L)
noncomputable def fX12_sent_b64 (fu : Nat) (a1 : Int32) (a2 : Int32) (v3 : Int32) (v4 : Int32) (M : mwM) (L : mwL) : Option (mwM × mwL) :=
  fX12_sent_b65 fu a1 a2 v3 v4 0 M L
noncomputable def DX12_sent (fu : Nat) (a1 : Int32) (a2 : Int32) (M : mwM) (L : mwL) : Option (mwM × mwL) :=
  mck a1 32 (mlet (M 833 a1.toNatClampNeg) (fun x23 => mb2 (DX12_write fu x23 M L) (fun M24 L25 => mck a1 32 (mlet (M24 836 a1.toNatClampNeg) (fun x27 => mb2 (DX12_see fu a1 a2 M24 L25) (fun M28 L29 => (if (M28 821 38) ≤ x27 then fX12_sent_b64 fu a1 a2 x23 x27 M28 L29 else mck x27 1200 ((if (M28 850 x27.toNatClampNeg) = 0 then mck x27 1200 ((if (M28 849 x27.toNatClampNeg) = 1 then (if a2 = 0 then fX12_sent_b65 fu a1 a2 x23 x27 1 M28 L29 else fX12_sent_b64 fu a1 a2 x23 x27 M28 L29) else fX12_sent_b64 fu a1 a2 x23 x27 M28 L29)) else fX12_sent_b64 fu a1 a2 x23 x27 M28 L29)))))))))
noncomputable def fX12_pauses_b90 (fu : Nat) (a1 : Int32) (a2 : Int32) (M : mwM) (L : mwL) : Option (mwM × mwL) :=
  some (M, L)
noncomputable def fX12_pauses_b70 (fu : Nat) (a1 : Int32) (a2 : Int32) (s2 : Int32) (M : mwM) (L : mwL) : Option (mwM × mwL) :=
  mck a1 32 (mlet (mset M 831 (a1.toNatClampNeg) s2) (fun M18 => fX12_pauses_b90 fu a1 a2 M18 L))
noncomputable def fX12_pauses_b22 (fu : Nat) (a1 : Int32) (a2 : Int32) (M : mwM) (L : mwL) : Option (mwM × mwL) :=
  (if a2 = 0 then mck a1 32 (mlet (mset M 836 (a1.toNatClampNeg) 0) (fun M7 => mb2 (DX12_see fu a1 0 M7 L) (fun M8 L9 => mb3 (DX12_first fu a1 M8 L9) (fun r12 M10 L11 => mck a1 32 (mlet (mset M10 833 (a1.toNatClampNeg) r12) (fun M14 => mck a1 32 ((if (M14 833 a1.toNatClampNeg) = ((-1)) then fX12_pauses_b70 fu a1 a2 2 M14 L11 else fX12_pauses_b70 fu a1 a2 1 M14 L11)))))))) else mck a1 32 ((if (M 832 a1.toNatClampNeg) = 0 then mck a1 32 (mlet (mset M 831 (a1.toNatClampNeg) 0) (fun M5 => fX12_pauses_b90 fu a1 a2 M5 L)) else fX12_pauses_b90 fu a1 a2 M L)))
noncomputable def DX12_pauses (fu : Nat) (a1 : Int32) (a2 : Int32) (M : mwM) (L : mwL) : Option (mwM × mwL) :=
  (if a2 = 0 then mck a1 32 ((if (M 832 a1.toNatClampNeg) ≤ 0 then fX12_pauses_b22 fu a1 a2 M L else mb2 (DX12_wrong fu a1 5 M L) (fun M22 L23 => fX12_pauses_b90 fu a1 a2 M22 L23))) else fX12_pauses_b22 fu a1 a2 M L)
noncomputable def fX12_sees_b294 (fu : Nat) (a1 : Int32) (a2 : Int32) (M : mwM) (L : mwL) : Option (mwM × mwL) :=
  some (M, L)
noncomputable def fX12_sees_b139 (fu : Nat) (a1 : Int32) (a2 : Int32) (M : mwM) (L : mwL) : Option (mwM × mwL) :=
  fX12_sees_b294 fu a1 a2 M L
noncomputable def fX12_sees_b181 (fu : Nat) (a1 : Int32) (a2 : Int32) (s2 : Int32) (M : mwM) (L : mwL) : Option (mwM × mwL) :=
  mck a1 32 (mlet (mset M 831 (a1.toNatClampNeg) s2) (fun M39 => fX12_sees_b294 fu a1 a2 M39 L))
noncomputable def fX12_sees_b241 (fu : Nat) (a1 : Int32) (a2 : Int32) (s2 : Int32) (M : mwM) (L : mwL) : Option (mwM × mwL) :=
  mb2 (DX12_wrong fu a1 s2 M L) (fun M45 L46 => fX12_sees_b294 fu a1 a2 M45 L46)
noncomputable def fX12_sees_b277 (fu : Nat) (a1 : Int32) (a2 : Int32) (M : mwM) (L : mwL) : Option (mwM × mwL) :=
  mck a1 32 ((if (M 831 a1.toNatClampNeg) = 6 then mb2 (DX12_pauses fu a1 a2 M L) (fun M55 L56 => fX12_sees_b294 fu a1 a2 M55 L56) else fX12_sees_b294 fu a1 a2 M L))
noncomputable def fX12_sees_b247 (fu : Nat) (a1 : Int32) (a2 : Int32) (M : mwM) (L : mwL) : Option (mwM × mwL) :=
  mck a1 32 ((if (M 831 a1.toNatClampNeg) = 5 then mck a1 32 ((if (M 832 a1.toNatClampNeg) = 0 then mb2 (DX12_go fu a1 6 3 M L) (fun M51 L52 => fX12_sees_b294 fu a1 a2 M51 L52) else fX12_sees_b277 fu a1 a2 M L)) else fX12_sees_b277 fu a1 a2 M L))
noncomputable def fX12_sees_b211 (fu : Nat) (a1 : Int32) (a2 : Int32) (M : mwM) (L : mwL) : Option (mwM × mwL) :=
  mck a1 32 ((if (M 831 a1.toNatClampNeg) = 5 then (if a2 = 0 then mck a1 32 ((if (M 832 a1.toNatClampNeg) = 0 then fX12_sees_b241 fu a1 a2 5 M L else fX12_sees_b241 fu a1 a2 2 M L)) else fX12_sees_b247 fu a1 a2 M L) else fX12_sees_b247 fu a1 a2 M L))
noncomputable def fX12_sees_b56 (fu : Nat) (a1 : Int32) (a2 : Int32) (M : mwM) (L : mwL) : Option (mwM × mwL) :=
  mck a1 32 ((if (M 831 a1.toNatClampNeg) = 1 then mb2 (DX12_sent fu a1 a2 M L) (fun M36 L37 => fX12_sees_b294 fu a1 a2 M36 L37) else mck a1 32 ((if (M 831 a1.toNatClampNeg) = 2 then mb2 (DX12_see fu a1 a2 M L) (fun M22 L23 => mb3 (DX12_read fu a1 M22 L23) (fun r26 M24 L25 => (if r26 = 10 then mb2 (DX12_take fu a1 M24 L25) (fun M34 L35 => fX12_sees_b139 fu a1 a2 M34 L35) else (if r26 = 11 then mb2 (DX12_go fu a1 6 3 M24 L25) (fun M32 L33 => fX12_sees_b139 fu a1 a2 M32 L33) else (if r26 = ((-1)) then fX12_sees_b139 fu a1 a2 M24 L25 else mb2 (DX12_wrong fu a1 r26 M24 L25) (fun M30 L31 => fX12_sees_b139 fu a1 a2 M30 L31)))))) else mck a1 32 (mck a1 32 (mlet (mset M 832 (a1.toNatClampNeg) ((M 832 a1.toNatClampNeg) - 1)) (fun M12 => mck a1 32 ((if (M12 831 a1.toNatClampNeg) = 3 then mck a1 32 ((if (M12 832 a1.toNatClampNeg) = 0 then fX12_sees_b181 fu a1 a2 4 M12 L else fX12_sees_b181 fu a1 a2 3 M12 L)) else mck a1 32 ((if (M12 831 a1.toNatClampNeg) = 4 then (if a2 = 1 then mb2 (DX12_go fu a1 5 7 M12 L) (fun M18 L19 => fX12_sees_b294 fu a1 a2 M18 L19) else fX12_sees_b211 fu a1 a2 M12 L) else fX12_sees_b211 fu a1 a2 M12 L)))))))))))
noncomputable def fX12_sees_b48 (fu : Nat) (a1 : Int32) (a2 : Int32) (v3 : Int32) (s2 : Int32) (M : mwM) (L : mwL) : Option (mwM × mwL) :=
  mck a1 32 (mlet (mset M 831 (a1.toNatClampNeg) s2) (fun M3 => mck a1 32 (mlet (mset M3 833 (a1.toNatClampNeg) v3) (fun M5 => fX12_sees_b56 fu a1 a2 M5 L))))
noncomputable def fX12_sees_b33 (fu : Nat) (a1 : Int32) (a2 : Int32) (v3 : Int32) (M : mwM) (L : mwL) : Option (mwM × mwL) :=
  (if v3 = ((-1)) then fX12_sees_b48 fu a1 a2 v3 2 M L else fX12_sees_b48 fu a1 a2 v3 1 M L)
noncomputable def DX12_sees (fu : Nat) (a1 : Int32) (a2 : Int32) (M : mwM) (L : mwL) : Option (mwM × mwL) :=
  mck a1 32 ((if (M 831 a1.toNatClampNeg) = 0 then mck a1 32 (mlet (mset M 836 (a1.toNatClampNeg) 0) (fun M60 => mb3 (DX12_first fu a1 M60 L) (fun r63 M61 L62 => (if r63 = ((-1)) then (if a2 = 1 then some (M61, L62) else fX12_sees_b33 fu a1 a2 r63 M61 L62) else fX12_sees_b33 fu a1 a2 r63 M61 L62)))) else fX12_sees_b56 fu a1 a2 M L))
noncomputable def fX12_run_b143 (fu : Nat) (a1 : Int32) (r45 : (Int32 × Int32 × mwM × mwL) → Option (Int32 × mwM × mwL)) (r103 : (Int32 × Int32 × Int32 × Int32 × mwM × mwL) → Option (Int32 × mwM × mwL)) (v2 : Int32) (v3 : Int32) (v4 : Int32) (v5 : Int32) (s1 : Int32) (s2 : Int32) (M : mwM) (L : mwL) : Option (Int32 × mwM × mwL) :=
  mb2 (DX12_sees fu s1 s2 M L) (fun M18 L19 => mlet (v5 + 1) (fun x20 => r103 (v2, v3, v4, x20, M18, L19)))
noncomputable def fX12_run_i103 (fu : Nat) (a1 : Int32) (r45 : (Int32 × Int32 × mwM × mwL) → Option (Int32 × mwM × mwL)) (r103 : (Int32 × Int32 × Int32 × Int32 × mwM × mwL) → Option (Int32 × mwM × mwL)) (v2 : Int32) (v3 : Int32) (v4 : Int32) (v5 : Int32) (M : mwM) (L : mwL) : Option (Int32 × mwM × mwL) :=
  (if (M 821 1) ≤ v5 then mlet (mset M 821 2 ((M 821 2) + 1)) (fun M14 => mlet (v3 + 1) (fun x15 => r45 (v2, x15, M14, L))) else mck ((20000 * v5) + (M 821 2)) 140000 ((if (M 838 ((20000 * v5) + (M 821 2)).toNatClampNeg) = 0 then fX12_run_b143 fu a1 r45 r103 v2 v3 v4 v5 v5 v4 M L else fX12_run_b143 fu a1 r45 r103 v2 v3 v4 v5 v5 (1 - v4) M L)))
noncomputable def fX12_run_h103 (fu : Nat) (a1 : Int32) (r45 : (Int32 × Int32 × mwM × mwL) → Option (Int32 × mwM × mwL)) : Nat → (Int32 × Int32 × Int32 × Int32 × mwM × mwL) → Option (Int32 × mwM × mwL) := mloop (fun r103 s => fX12_run_i103 fu a1 r45 r103 s.1 s.2.1 s.2.2.1 s.2.2.2.1 s.2.2.2.2.1 s.2.2.2.2.2)
noncomputable def fX12_run_b80 (fu : Nat) (a1 : Int32) (r45 : (Int32 × Int32 × mwM × mwL) → Option (Int32 × mwM × mwL)) (r56 : (Int32 × Int32 × Int32 × Int32 × mwM × mwL) → Option (Int32 × mwM × mwL)) (v2 : Int32) (v3 : Int32) (v5 : Int32) (s0 : Int32) (M : mwM) (L : mwL) : Option (Int32 × mwM × mwL) :=
  mlet (v5 + 1) (fun x12 => r56 (v2, v3, s0, x12, M, L))
noncomputable def fX12_run_i56 (fu : Nat) (a1 : Int32) (r45 : (Int32 × Int32 × mwM × mwL) → Option (Int32 × mwM × mwL)) (r56 : (Int32 × Int32 × Int32 × Int32 × mwM × mwL) → Option (Int32 × mwM × mwL)) (v2 : Int32) (v3 : Int32) (v4 : Int32) (v5 : Int32) (M : mwM) (L : mwL) : Option (Int32 × mwM × mwL) :=
  (if (M 821 1) ≤ v5 then mck (M 821 2) 20000 (mlet (mset M 822 ((M 821 2).toNatClampNeg) (vp_nar .byte v4.toInt8.toInt32)) (fun M7 => fX12_run_h103 fu a1 r45 fu (v2, v3, v4, 0, M7, L))) else mb3 (DX12_puts fu v5 M L) (fun r10 M8 L9 => (if r10 = 0 then fX12_run_b80 fu a1 r45 r56 v2 v3 v5 0 M8 L9 else fX12_run_b80 fu a1 r45 r56 v2 v3 v5 v4 M8 L9)))
noncomputable def fX12_run_h56 (fu : Nat) (a1 : Int32) (r45 : (Int32 × Int32 × mwM × mwL) → Option (Int32 × mwM × mwL)) : Nat → (Int32 × Int32 × Int32 × Int32 × mwM × mwL) → Option (Int32 × mwM × mwL) := mloop (fun r56 s => fX12_run_i56 fu a1 r45 r56 s.1 s.2.1 s.2.2.1 s.2.2.2.1 s.2.2.2.2.1 s.2.2.2.2.2)
noncomputable def fX12_run_i45 (fu : Nat) (a1 : Int32) (r45 : (Int32 × Int32 × mwM × mwL) → Option (Int32 × mwM × mwL)) (v2 : Int32) (v3 : Int32) (M : mwM) (L : mwL) : Option (Int32 × mwM × mwL) :=
  (if a1 ≤ v3 then some ((M 821 11) - v2, M, L) else fX12_run_h56 fu a1 r45 fu (v2, v3, 1, 0, M, L))
noncomputable def fX12_run_h45 (fu : Nat) (a1 : Int32) : Nat → (Int32 × Int32 × mwM × mwL) → Option (Int32 × mwM × mwL) := mloop (fun r45 s => fX12_run_i45 fu a1 r45 s.1 s.2.1 s.2.2.1 s.2.2.2)
noncomputable def fX12_run_b26 (fu : Nat) (a1 : Int32) (s1 : Int32) (M : mwM) (L : mwL) : Option (Int32 × mwM × mwL) :=
  mlet (mset M 821 0 s1) (fun M1 => (if (M1 821 0) ≤ 0 then mlet (M1 821 11) (fun x3 => fX12_run_h45 fu a1 fu (x3, 0, M1, L)) else some (0, M1, L)))
noncomputable def DX12_run (fu : Nat) (a1 : Int32) (M : mwM) (L : mwL) : Option (Int32 × mwM × mwL) :=
  (if 0 ≤ a1 then (if a1 ≤ (20000 - (M 821 2)) then fX12_run_b26 fu a1 0 M L else fX12_run_b26 fu a1 2 M L) else fX12_run_b26 fu a1 1 M L)
noncomputable def fX12_bit_b38 (fu : Nat) (a1 : Int32) (s0 : Int32) (M : mwM) (L : mwL) : Option (Int32 × mwM × mwL) :=
  some (s0, M, L)
noncomputable def fX12_bit_b18 (fu : Nat) (a1 : Int32) (s1 : Int32) (M : mwM) (L : mwL) : Option (Int32 × mwM × mwL) :=
  mlet (mset M 821 0 s1) (fun M1 => (if (M1 821 0) ≤ 0 then mck a1 20000 (fX12_bit_b38 fu a1 (M1 822 a1.toNatClampNeg) M1 L) else fX12_bit_b38 fu a1 0 M1 L))
noncomputable def fX12_bit_b13 (fu : Nat) (a1 : Int32) (M : mwM) (L : mwL) : Option (Int32 × mwM × mwL) :=
  fX12_bit_b18 fu a1 1 M L
noncomputable def DX12_bit (fu : Nat) (a1 : Int32) (M : mwM) (L : mwL) : Option (Int32 × mwM × mwL) :=
  (if a1 < 0 then fX12_bit_b13 fu a1 M L else (if a1 < (M 821 2) then fX12_bit_b18 fu a1 0 M L else fX12_bit_b13 fu a1 M L))
noncomputable def fX12_state_b34 (fu : Nat) (a1 : Int32) (s0 : Int32) (M : mwM) (L : mwL) : Option (Int32 × mwM × mwL) :=
  some (s0, M, L)
noncomputable def fX12_state_b14 (fu : Nat) (a1 : Int32) (s1 : Int32) (M : mwM) (L : mwL) : Option (Int32 × mwM × mwL) :=
  mlet (mset M 821 0 s1) (fun M1 => (if (M1 821 0) ≤ 0 then mck a1 32 (fX12_state_b34 fu a1 (M1 831 a1.toNatClampNeg) M1 L) else fX12_state_b34 fu a1 0 M1 L))
noncomputable def DX12_state (fu : Nat) (a1 : Int32) (M : mwM) (L : mwL) : Option (Int32 × mwM × mwL) :=
  mb3 (DX12_noNode fu a1 M L) (fun r6 M4 L5 => (if r6 = 0 then fX12_state_b14 fu a1 0 M4 L5 else fX12_state_b14 fu a1 1 M4 L5))
noncomputable def fX12_done_b81 (fu : Nat) (a1 : Int32) (a2 : Int32) (s0 : Int32) (M : mwM) (L : mwL) : Option (Int32 × mwM × mwL) :=
  some (s0, M, L)
noncomputable def fX12_done_b50 (fu : Nat) (a1 : Int32) (a2 : Int32) (s1 : Int32) (M : mwM) (L : mwL) : Option (Int32 × mwM × mwL) :=
  mlet (mset M 821 0 s1) (fun M5 => (if (M5 821 0) ≤ 0 then (if a2 = 0 then mck a1 200 (fX12_done_b81 fu a1 a2 (M5 829 a1.toNatClampNeg) M5 L) else mck a1 200 (fX12_done_b81 fu a1 a2 (M5 830 a1.toNatClampNeg) M5 L)) else some (0, M5, L)))
noncomputable def fX12_done_b32 (fu : Nat) (a1 : Int32) (a2 : Int32) (M : mwM) (L : mwL) : Option (Int32 × mwM × mwL) :=
  fX12_done_b50 fu a1 a2 1 M L
noncomputable def fX12_done_b45 (fu : Nat) (a1 : Int32) (a2 : Int32) (M : mwM) (L : mwL) : Option (Int32 × mwM × mwL) :=
  fX12_done_b50 fu a1 a2 2 M L
noncomputable def fX12_done_b19 (fu : Nat) (a1 : Int32) (a2 : Int32) (M : mwM) (L : mwL) : Option (Int32 × mwM × mwL) :=
  (if a1 < 0 then fX12_done_b32 fu a1 a2 M L else (if a1 < (M 821 11) then (if a2 < 0 then fX12_done_b45 fu a1 a2 M L else (if a2 ≤ 1 then fX12_done_b50 fu a1 a2 0 M L else fX12_done_b45 fu a1 a2 M L)) else fX12_done_b32 fu a1 a2 M L))
noncomputable def DX12_done (fu : Nat) (a1 : Int32) (a2 : Int32) (M : mwM) (L : mwL) : Option (Int32 × mwM × mwL) :=
  mlet (mset M 821 0 0) (fun M10 => (if a1 = ((-1)) then (if a2 = 0 then some (M10 821 11, M10, L) else fX12_done_b19 fu a1 a2 M10 L) else fX12_done_b19 fu a1 a2 M10 L))
noncomputable def fX12_took_b45 (fu : Nat) (a1 : Int32) (a2 : Int32) (M : mwM) (L : mwL) : Option (Int32 × mwM × mwL) :=
  some ((-1), M, L)
noncomputable def fX12_took_b39 (fu : Nat) (a1 : Int32) (a2 : Int32) (r5 : (Int32 × Int32 × mwM × mwL) → Option (Int32 × mwM × mwL)) (v3 : Int32) (v4 : Int32) (M : mwM) (L : mwL) : Option (Int32 × mwM × mwL) :=
  mlet (v4 + 1) (fun x7 => r5 (v3, x7, M, L))
noncomputable def fX12_took_i5 (fu : Nat) (a1 : Int32) (a2 : Int32) (r5 : (Int32 × Int32 × mwM × mwL) → Option (Int32 × mwM × mwL)) (v3 : Int32) (v4 : Int32) (M : mwM) (L : mwL) : Option (Int32 × mwM × mwL) :=
  (if (M 821 22) ≤ v4 then fX12_took_b45 fu a1 a2 M L else (if a2 < 0 then fX12_took_b45 fu a1 a2 M L else mck v4 4000 ((if (M 839 v4.toNatClampNeg) = a1 then (if v3 = 0 then some (v4, M, L) else mlet (v3 + (-1)) (fun x6 => fX12_took_b39 fu a1 a2 r5 x6 v4 M L)) else fX12_took_b39 fu a1 a2 r5 v3 v4 M L))))
noncomputable def fX12_took_h5 (fu : Nat) (a1 : Int32) (a2 : Int32) : Nat → (Int32 × Int32 × mwM × mwL) → Option (Int32 × mwM × mwL) := mloop (fun r5 s => fX12_took_i5 fu a1 a2 r5 s.1 s.2.1 s.2.2.1 s.2.2.2)
noncomputable def DX12_took (fu : Nat) (a1 : Int32) (a2 : Int32) (M : mwM) (L : mwL) : Option (Int32 × mwM × mwL) :=
  fX12_took_h5 fu a1 a2 fu (a2, 0, M, L)
noncomputable def fX12_taken_b70 (fu : Nat) (a1 : Int32) (a2 : Int32) (a3 : Int32) (r41 : (Int32 × Int32 × mwM × mwL) → Option (Int32 × mwM × mwL)) (v5 : Int32) (s0 : Int32) (M : mwM) (L : mwL) : Option (Int32 × mwM × mwL) :=
  mlet (v5 + 1) (fun x8 => r41 (s0, x8, M, L))
noncomputable def fX12_taken_i41 (fu : Nat) (a1 : Int32) (a2 : Int32) (a3 : Int32) (r41 : (Int32 × Int32 × mwM × mwL) → Option (Int32 × mwM × mwL)) (v4 : Int32) (v5 : Int32) (M : mwM) (L : mwL) : Option (Int32 × mwM × mwL) :=
  (if (M 821 22) ≤ v5 then some (v4, M, L) else mck v5 4000 ((if (M 839 v5.toNatClampNeg) = a1 then fX12_taken_b70 fu a1 a2 a3 r41 v5 (v4 + 1) M L else fX12_taken_b70 fu a1 a2 a3 r41 v5 v4 M L)))
noncomputable def fX12_taken_h41 (fu : Nat) (a1 : Int32) (a2 : Int32) (a3 : Int32) : Nat → (Int32 × Int32 × mwM × mwL) → Option (Int32 × mwM × mwL) := mloop (fun r41 s => fX12_taken_i41 fu a1 a2 a3 r41 s.1 s.2.1 s.2.2.1 s.2.2.2)
noncomputable def fX12_taken_b200 (fu : Nat) (a1 : Int32) (a2 : Int32) (a3 : Int32) (s0 : Int32) (M : mwM) (L : mwL) : Option (Int32 × mwM × mwL) :=
  some (s0, M, L)
noncomputable def fX12_taken_b114 (fu : Nat) (a1 : Int32) (a2 : Int32) (a3 : Int32) (v4 : Int32) (s1 : Int32) (M : mwM) (L : mwL) : Option (Int32 × mwM × mwL) :=
  mlet (mset M 821 0 s1) (fun M15 => (if (M15 821 0) ≤ 0 then (if a3 = 0 then mck v4 4000 (some (M15 840 v4.toNatClampNeg, M15, L)) else (if a3 = 1 then mck v4 4000 (fX12_taken_b200 fu a1 a2 a3 (M15 841 v4.toNatClampNeg) M15 L) else (if a3 = 2 then mck v4 4000 (fX12_taken_b200 fu a1 a2 a3 (M15 842 v4.toNatClampNeg) M15 L) else (if a3 = 3 then mck v4 4000 (mck v4 4000 (mb3 (DX12_octetsOf fu (M15 841 v4.toNatClampNeg) (M15 842 v4.toNatClampNeg) M15 L) (fun r26 M24 L25 => fX12_taken_b200 fu a1 a2 a3 r26 M24 L25))) else mck v4 4000 (fX12_taken_b200 fu a1 a2 a3 (M15 843 v4.toNatClampNeg) M15 L))))) else some (0, M15, L)))
noncomputable def fX12_taken_b109 (fu : Nat) (a1 : Int32) (a2 : Int32) (a3 : Int32) (v4 : Int32) (M : mwM) (L : mwL) : Option (Int32 × mwM × mwL) :=
  fX12_taken_b114 fu a1 a2 a3 v4 2 M L
noncomputable def fX12_taken_b81 (fu : Nat) (a1 : Int32) (a2 : Int32) (a3 : Int32) (M : mwM) (L : mwL) : Option (Int32 × mwM × mwL) :=
  mb3 (DX12_took fu a1 a2 M L) (fun r11 M9 L10 => (if r11 = ((-1)) then fX12_taken_b114 fu a1 a2 a3 r11 1 M9 L10 else (if a3 < 0 then fX12_taken_b109 fu a1 a2 a3 r11 M9 L10 else (if a3 ≤ 4 then fX12_taken_b114 fu a1 a2 a3 r11 0 M9 L10 else fX12_taken_b109 fu a1 a2 a3 r11 M9 L10))))
noncomputable def fX12_taken_b14 (fu : Nat) (a1 : Int32) (a2 : Int32) (a3 : Int32) (s1 : Int32) (M : mwM) (L : mwL) : Option (Int32 × mwM × mwL) :=
  mlet (mset M 821 0 s1) (fun M1 => (if (M1 821 0) ≤ 0 then (if a2 = ((-1)) then (if a3 = 0 then fX12_taken_h41 fu a1 a2 a3 fu (0, 0, M1, L) else fX12_taken_b81 fu a1 a2 a3 M1 L) else fX12_taken_b81 fu a1 a2 a3 M1 L) else some (0, M1, L)))
noncomputable def DX12_taken (fu : Nat) (a1 : Int32) (a2 : Int32) (a3 : Int32) (M : mwM) (L : mwL) : Option (Int32 × mwM × mwL) :=
  mb3 (DX12_noNode fu a1 M L) (fun r32 M30 L31 => (if r32 = 0 then fX12_taken_b14 fu a1 a2 a3 0 M30 L31 else fX12_taken_b14 fu a1 a2 a3 1 M30 L31))
noncomputable def fX12_takenOctet_b91 (fu : Nat) (a1 : Int32) (a2 : Int32) (a3 : Int32) (s0 : Int32) (M : mwM) (L : mwL) : Option (Int32 × mwM × mwL) :=
  some (s0, M, L)
noncomputable def fX12_takenOctet_b61 (fu : Nat) (a1 : Int32) (a2 : Int32) (a3 : Int32) (v4 : Int32) (s1 : Int32) (M : mwM) (L : mwL) : Option (Int32 × mwM × mwL) :=
  mlet (mset M 821 0 s1) (fun M9 => (if (M9 821 0) ≤ 0 then mck ((64 * v4) + a3) 256000 (fX12_takenOctet_b91 fu a1 a2 a3 ((M9 844 ((64 * v4) + a3).toNatClampNeg) &&& 255) M9 L) else fX12_takenOctet_b91 fu a1 a2 a3 0 M9 L))
noncomputable def fX12_takenOctet_b31 (fu : Nat) (a1 : Int32) (a2 : Int32) (a3 : Int32) (v4 : Int32) (M : mwM) (L : mwL) : Option (Int32 × mwM × mwL) :=
  fX12_takenOctet_b61 fu a1 a2 a3 v4 1 M L
noncomputable def fX12_takenOctet_b18 (fu : Nat) (a1 : Int32) (a2 : Int32) (a3 : Int32) (s0 : Int32) (M : mwM) (L : mwL) : Option (Int32 × mwM × mwL) :=
  (if s0 = ((-1)) then fX12_takenOctet_b31 fu a1 a2 a3 s0 M L else (if 0 ≤ a3 then mck s0 4000 (mck s0 4000 (mb3 (DX12_octetsOf fu (M 841 s0.toNatClampNeg) (M 842 s0.toNatClampNeg) M L) (fun r7 M5 L6 => (if a3 < r7 then fX12_takenOctet_b61 fu a1 a2 a3 s0 0 M5 L6 else fX12_takenOctet_b61 fu a1 a2 a3 s0 1 M5 L6)))) else fX12_takenOctet_b31 fu a1 a2 a3 s0 M L))
noncomputable def DX12_takenOctet (fu : Nat) (a1 : Int32) (a2 : Int32) (a3 : Int32) (M : mwM) (L : mwL) : Option (Int32 × mwM × mwL) :=
  mb3 (DX12_noNode fu a1 M L) (fun r14 M12 L13 => (if r14 = 0 then mb3 (DX12_took fu a1 a2 M12 L13) (fun r18 M16 L17 => fX12_takenOctet_b18 fu a1 a2 a3 r18 M16 L17) else fX12_takenOctet_b18 fu a1 a2 a3 ((-1)) M12 L13))
noncomputable def fX12_error_b95 (fu : Nat) (a1 : Int32) (a2 : Int32) (s0 : Int32) (M : mwM) (L : mwL) : Option (Int32 × mwM × mwL) :=
  some (s0, M, L)
noncomputable def fX12_error_b50 (fu : Nat) (a1 : Int32) (a2 : Int32) (s1 : Int32) (M : mwM) (L : mwL) : Option (Int32 × mwM × mwL) :=
  mlet (mset M 821 0 s1) (fun M5 => (if (M5 821 0) ≤ 0 then (if a2 = 0 then mck a1 17600 (fX12_error_b95 fu a1 a2 (M5 845 a1.toNatClampNeg) M5 L) else (if a2 = 1 then mck a1 17600 (fX12_error_b95 fu a1 a2 (M5 846 a1.toNatClampNeg) M5 L) else mck a1 17600 (fX12_error_b95 fu a1 a2 (M5 847 a1.toNatClampNeg) M5 L))) else some (0, M5, L)))
noncomputable def fX12_error_b32 (fu : Nat) (a1 : Int32) (a2 : Int32) (M : mwM) (L : mwL) : Option (Int32 × mwM × mwL) :=
  fX12_error_b50 fu a1 a2 1 M L
noncomputable def fX12_error_b45 (fu : Nat) (a1 : Int32) (a2 : Int32) (M : mwM) (L : mwL) : Option (Int32 × mwM × mwL) :=
  fX12_error_b50 fu a1 a2 2 M L
noncomputable def fX12_error_b19 (fu : Nat) (a1 : Int32) (a2 : Int32) (M : mwM) (L : mwL) : Option (Int32 × mwM × mwL) :=
  (if a1 < 0 then fX12_error_b32 fu a1 a2 M L else (if a1 < (M 821 29) then (if a2 < 0 then fX12_error_b45 fu a1 a2 M L else (if a2 ≤ 2 then fX12_error_b50 fu a1 a2 0 M L else fX12_error_b45 fu a1 a2 M L)) else fX12_error_b32 fu a1 a2 M L))
noncomputable def DX12_error (fu : Nat) (a1 : Int32) (a2 : Int32) (M : mwM) (L : mwL) : Option (Int32 × mwM × mwL) :=
  mlet (mset M 821 0 0) (fun M12 => (if a1 = ((-1)) then (if a2 = 0 then some (M12 821 29, M12, L) else fX12_error_b19 fu a1 a2 M12 L) else fX12_error_b19 fu a1 a2 M12 L))
noncomputable def fX13_anew_i145 (fu : Nat) (k : Nat) (a1 : Int32) (r145 : (Int32 × mwM × mwL) → Option (mwM × mwL)) (v2 : Int32) (M : mwM) (L : mwL) : Option (mwM × mwL) :=
  (if 32 ≤ v2 then some (M, L) else mck v2 32 (mlet (mset L (k + 21) (v2.toNatClampNeg) 0) (fun L25 => mlet (v2 + 1) (fun x26 => r145 (x26, M, L25)))))
noncomputable def fX13_anew_h145 (fu : Nat) (k : Nat) (a1 : Int32) : Nat → (Int32 × mwM × mwL) → Option (mwM × mwL) := mloop (fun r145 s => fX13_anew_i145 fu k a1 r145 s.1 s.2.1 s.2.2)
noncomputable def fX13_anew_i109 (fu : Nat) (k : Nat) (a1 : Int32) (r109 : (Int32 × mwM × mwL) → Option (mwM × mwL)) (v2 : Int32) (M : mwM) (L : mwL) : Option (mwM × mwL) :=
  (if 401 ≤ v2 then fX13_anew_h145 fu k a1 fu (0, M, L) else mck v2 401 (mlet (mset M (k + 14) (v2.toNatClampNeg) (vp_nar .boolean 0)) (fun M17 => mck v2 401 (mlet (mset M17 (k + 15) (v2.toNatClampNeg) (vp_nar .boolean 0)) (fun M19 => mck v2 401 (mlet (mset M19 (k + 16) (v2.toNatClampNeg) (vp_nar .boolean 0)) (fun M21 => mlet (v2 + 1) (fun x22 => r109 (x22, M21, L)))))))))
noncomputable def fX13_anew_h109 (fu : Nat) (k : Nat) (a1 : Int32) : Nat → (Int32 × mwM × mwL) → Option (mwM × mwL) := mloop (fun r109 s => fX13_anew_i109 fu k a1 r109 s.1 s.2.1 s.2.2)
noncomputable def fX13_anew_i52 (fu : Nat) (k : Nat) (a1 : Int32) (r52 : (Int32 × mwM × mwL) → Option (mwM × mwL)) (v2 : Int32) (M : mwM) (L : mwL) : Option (mwM × mwL) :=
  (if 201 ≤ v2 then fX13_anew_h109 fu k a1 fu (0, M, L) else mck v2 201 (mlet (mset M (k + 4) (v2.toNatClampNeg) 0) (fun M3 => mck v2 201 (mlet (mset L (k + 5) (v2.toNatClampNeg) 0) (fun L5 => mck v2 201 (mlet (mset L5 (k + 6) (v2.toNatClampNeg) 0) (fun L7 => mck v2 201 (mlet (mset M3 (k + 7) (v2.toNatClampNeg) (vp_nar .boolean 0)) (fun M9 => mck v2 201 (mlet (mset M9 (k + 8) (v2.toNatClampNeg) (vp_nar .boolean 0)) (fun M11 => mck v2 201 (mlet (mset M11 (k + 9) (v2.toNatClampNeg) (vp_nar .boolean 0)) (fun M13 => mlet (v2 + 1) (fun x14 => r52 (x14, M13, L7)))))))))))))))
noncomputable def fX13_anew_h52 (fu : Nat) (k : Nat) (a1 : Int32) : Nat → (Int32 × mwM × mwL) → Option (mwM × mwL) := mloop (fun r52 s => fX13_anew_i52 fu k a1 r52 s.1 s.2.1 s.2.2)
noncomputable def DX13_anew (fu : Nat) (k : Nat) (a1 : Int32) (M : mwM) (L : mwL) : Option (mwM × mwL) :=
  mlet (mset M k 1 a1) (fun M27 => mlet (mset M27 k 2 0) (fun M28 => mlet (mset M28 k 12 0) (fun M29 => mlet (mset M29 k 20 0) (fun M30 => mlet (mset M30 k 26 0) (fun M31 => mlet (mset M31 k 27 0) (fun M32 => mlet (mset L k 28 0) (fun L33 => mlet (mset M32 k 29 0) (fun M34 => mlet (mset M34 k 30 0) (fun M35 => mlet (mset M35 k 31 0) (fun M36 => fX13_anew_h52 fu k a1 fu (0, M36, L33)))))))))))
noncomputable def DX13_put (fu : Nat) (k : Nat) (a1 : Int32) (a2 : Int64) (M : mwM) (L : mwL) : Option (mwM × mwL) :=
  mck a1 32 (mlet (mset L (k + 21) (a1.toNatClampNeg) a2) (fun L2 => some (M, L2)))
noncomputable def fX13_none_b17 (fu : Nat) (k : Nat) (a1 : Int32) (s0 : Int32) (M : mwM) (L : mwL) : Option (Int32 × mwM × mwL) :=
  mzz s0 (some (s0, M, L))
noncomputable def fX13_none_b12 (fu : Nat) (k : Nat) (a1 : Int32) (M : mwM) (L : mwL) : Option (Int32 × mwM × mwL) :=
  fX13_none_b17 fu k a1 1 M L
noncomputable def DX13_none (fu : Nat) (k : Nat) (a1 : Int32) (M : mwM) (L : mwL) : Option (Int32 × mwM × mwL) :=
  (if a1 < 0 then fX13_none_b12 fu k a1 M L else (if a1 ≤ (M k 2) then fX13_none_b17 fu k a1 0 M L else fX13_none_b12 fu k a1 M L))
noncomputable def fX13_mark_b15 (fu : Nat) (k : Nat) (a1 : Int32) (s0 : Int32) (M : mwM) (L : mwL) : Option (Int32 × mwM × mwL) :=
  mzz s0 (some (s0, M, L))
noncomputable def DX13_mark (fu : Nat) (k : Nat) (a1 : Int32) (M : mwM) (L : mwL) : Option (Int32 × mwM × mwL) :=
  mck a1 201 ((if (M (k + 1) a1.toNatClampNeg) ≤ 1 then fX13_mark_b15 fu k a1 0 M L else fX13_mark_b15 fu k a1 1 M L))
noncomputable def fX13_state_b43 (fu : Nat) (k : Nat) (a1 : Int32) (a2 : Int32) (M : mwM) (L : mwL) : Option (Int32 × mwM × mwL) :=
  some ((-2), M, L)
noncomputable def DX13_state (fu : Nat) (k : Nat) (a1 : Int32) (a2 : Int32) (M : mwM) (L : mwL) : Option (Int32 × mwM × mwL) :=
  mlet (mset M k 0 0) (fun M1 => mb3 (DX13_none fu k a1 M1 L) (fun r4 M2 L3 => (if r4 = 0 then (if a2 < 0 then fX13_state_b43 fu k a1 a2 M2 L3 else (if 5 < a2 then fX13_state_b43 fu k a1 a2 M2 L3 else mb3 (DX13_mark fu k a1 M2 L3) (fun r10 M8 L9 => (if r10 = 0 then mck a1 201 ((if (M8 (k + 3) a1.toNatClampNeg) = 40 then fX13_state_b43 fu k a1 a2 M8 L9 else (if (M8 k 27) = 0 then (if (M8 k 2) = 200 then some ((-4), M8, L9) else mlet (mset M8 k 2 ((M8 k 2) + 1)) (fun M16 => mck (M16 k 2) 201 (mlet (mset M16 (k + 1) ((M16 k 2).toNatClampNeg) a2) (fun M18 => mck (M18 k 2) 201 (mlet (mset M18 (k + 2) ((M18 k 2).toNatClampNeg) a1) (fun M20 => mck a1 201 (mck (M20 k 2) 201 (mlet (mset M20 (k + 3) ((M20 k 2).toNatClampNeg) ((M20 (k + 3) a1.toNatClampNeg) + 1)) (fun M23 => some (M23 k 2, M23, L9)))))))))) else some ((-3), M8, L9)))) else fX13_state_b43 fu k a1 a2 M8 L9)))) else some ((-1), M2, L3))))
noncomputable def fX13_edge_b29 (fu : Nat) (k : Nat) (a1 : Int32) (a2 : Int32) (a3 : Int32) (a4 : Int32) (M : mwM) (L : mwL) : Option (Int32 × mwM × mwL) :=
  some ((-1), M, L)
noncomputable def fX13_edge_b136 (fu : Nat) (k : Nat) (a1 : Int32) (a2 : Int32) (a3 : Int32) (a4 : Int32) (M : mwM) (L : mwL) : Option (Int32 × mwM × mwL) :=
  some ((-2), M, L)
noncomputable def fX13_edge_b104 (fu : Nat) (k : Nat) (a1 : Int32) (a2 : Int32) (a3 : Int32) (a4 : Int32) (v5 : Int32) (s0 : Int32) (M : mwM) (L : mwL) : Option (Int32 × mwM × mwL) :=
  mck a1 201 ((if (M (k + 1) a1.toNatClampNeg) = 2 then fX13_edge_b136 fu k a1 a2 a3 a4 M L else mck a1 201 ((if (M (k + 1) a1.toNatClampNeg) = 3 then fX13_edge_b136 fu k a1 a2 a3 a4 M L else (if v5 = 0 then fX13_edge_b136 fu k a1 a2 a3 a4 M L else (if s0 = 0 then fX13_edge_b136 fu k a1 a2 a3 a4 M L else (if (M k 27) = 0 then (if (M k 12) = 400 then some ((-4), M, L) else mlet (mset M k 12 ((M k 12) + 1)) (fun M16 => mck (M16 k 12) 401 (mlet (mset M16 (k + 10) ((M16 k 12).toNatClampNeg) a1) (fun M18 => mck (M18 k 12) 401 (mlet (mset M18 (k + 11) ((M18 k 12).toNatClampNeg) a2) (fun M20 => mck (M20 k 12) 401 (mlet (mset M20 (k + 12) ((M20 k 12).toNatClampNeg) a3) (fun M22 => mck (M22 k 12) 401 (mlet (mset M22 (k + 13) ((M22 k 12).toNatClampNeg) a4) (fun M24 => some (M24 k 12, M24, L))))))))))) else some ((-3), M, L))))))))
noncomputable def fX13_edge_b99 (fu : Nat) (k : Nat) (a1 : Int32) (a2 : Int32) (a3 : Int32) (a4 : Int32) (v5 : Int32) (M : mwM) (L : mwL) : Option (Int32 × mwM × mwL) :=
  fX13_edge_b104 fu k a1 a2 a3 a4 v5 1 M L
noncomputable def fX13_edge_b103 (fu : Nat) (k : Nat) (a1 : Int32) (a2 : Int32) (a3 : Int32) (a4 : Int32) (v5 : Int32) (M : mwM) (L : mwL) : Option (Int32 × mwM × mwL) :=
  fX13_edge_b104 fu k a1 a2 a3 a4 v5 0 M L
noncomputable def fX13_edge_b61 (fu : Nat) (k : Nat) (a1 : Int32) (a2 : Int32) (a3 : Int32) (a4 : Int32) (s0 : Int32) (M : mwM) (L : mwL) : Option (Int32 × mwM × mwL) :=
  (if a4 = 0 then fX13_edge_b99 fu k a1 a2 a3 a4 s0 M L else (if a4 ≤ 0 then fX13_edge_b103 fu k a1 a2 a3 a4 s0 M L else (if 16384 ≤ a4 then fX13_edge_b103 fu k a1 a2 a3 a4 s0 M L else (if (a4 &&& 7) ≤ 0 then fX13_edge_b103 fu k a1 a2 a3 a4 s0 M L else (if 7 ≤ (a4 &&& 7) then fX13_edge_b103 fu k a1 a2 a3 a4 s0 M L else fX13_edge_b99 fu k a1 a2 a3 a4 s0 M L)))))
noncomputable def fX13_edge_b60 (fu : Nat) (k : Nat) (a1 : Int32) (a2 : Int32) (a3 : Int32) (a4 : Int32) (M : mwM) (L : mwL) : Option (Int32 × mwM × mwL) :=
  fX13_edge_b61 fu k a1 a2 a3 a4 0 M L
noncomputable def fX13_edge_b56 (fu : Nat) (k : Nat) (a1 : Int32) (a2 : Int32) (a3 : Int32) (a4 : Int32) (M : mwM) (L : mwL) : Option (Int32 × mwM × mwL) :=
  fX13_edge_b61 fu k a1 a2 a3 a4 1 M L
noncomputable def fX13_edge_b42 (fu : Nat) (k : Nat) (a1 : Int32) (a2 : Int32) (a3 : Int32) (a4 : Int32) (M : mwM) (L : mwL) : Option (Int32 × mwM × mwL) :=
  (if a3 ≤ 1000 then fX13_edge_b60 fu k a1 a2 a3 a4 M L else (if 1201 ≤ a3 then fX13_edge_b60 fu k a1 a2 a3 a4 M L else fX13_edge_b56 fu k a1 a2 a3 a4 M L))
noncomputable def DX13_edge (fu : Nat) (k : Nat) (a1 : Int32) (a2 : Int32) (a3 : Int32) (a4 : Int32) (M : mwM) (L : mwL) : Option (Int32 × mwM × mwL) :=
  mlet (mset M k 0 0) (fun M25 => mb3 (DX13_none fu k a1 M25 L) (fun r28 M26 L27 => (if r28 = 0 then mb3 (DX13_none fu k a2 M26 L27) (fun r32 M30 L31 => (if r32 = 0 then (if a1 = 0 then fX13_edge_b29 fu k a1 a2 a3 a4 M30 L31 else (if a2 = 0 then fX13_edge_b29 fu k a1 a2 a3 a4 M30 L31 else (if a3 < 0 then fX13_edge_b42 fu k a1 a2 a3 a4 M30 L31 else (if a3 < 1000 then fX13_edge_b56 fu k a1 a2 a3 a4 M30 L31 else fX13_edge_b42 fu k a1 a2 a3 a4 M30 L31)))) else fX13_edge_b29 fu k a1 a2 a3 a4 M30 L31)) else fX13_edge_b29 fu k a1 a2 a3 a4 M26 L27)))
noncomputable def fX13_act_b47 (fu : Nat) (k : Nat) (a1 : Int32) (a2 : Int32) (a3 : Int32) (a4 : Int64) (M : mwM) (L : mwL) : Option (Int32 × mwM × mwL) :=
  some ((-1), M, L)
noncomputable def fX13_act_b81 (fu : Nat) (k : Nat) (a1 : Int32) (a2 : Int32) (a3 : Int32) (a4 : Int64) (M : mwM) (L : mwL) : Option (Int32 × mwM × mwL) :=
  some ((-2), M, L)
noncomputable def fX13_act_b84 (fu : Nat) (k : Nat) (a1 : Int32) (a2 : Int32) (a3 : Int32) (a4 : Int64) (M : mwM) (L : mwL) : Option (Int32 × mwM × mwL) :=
  (if (M k 27) = 0 then (if (M k 20) = 600 then some ((-4), M, L) else mck (M k 20) 600 (mlet (mset M (k + 17) ((M k 20).toNatClampNeg) a1) (fun M16 => mck (M16 k 20) 600 (mlet (mset M16 (k + 18) ((M16 k 20).toNatClampNeg) a2) (fun M18 => mck (M18 k 20) 600 (mlet (mset M18 (k + 19) ((M18 k 20).toNatClampNeg) a3) (fun M20 => mck (M20 k 20) 600 (mlet (mset L (k + 20) ((M20 k 20).toNatClampNeg) a4) (fun L22 => mlet (mset M20 k 20 ((M20 k 20) + 1)) (fun M23 => some (M23 k 20, M23, L22))))))))))) else some ((-3), M, L))
noncomputable def fX13_act_b44 (fu : Nat) (k : Nat) (a1 : Int32) (a2 : Int32) (a3 : Int32) (a4 : Int64) (v6 : Int32) (s1 : Int32) (M : mwM) (L : mwL) : Option (Int32 × mwM × mwL) :=
  (if a1 ≤ s1 then (if a2 < 0 then fX13_act_b81 fu k a1 a2 a3 a4 M L else (if 5 < a2 then fX13_act_b81 fu k a1 a2 a3 a4 M L else (if a3 < 0 then fX13_act_b81 fu k a1 a2 a3 a4 M L else (if 31 < a3 then fX13_act_b81 fu k a1 a2 a3 a4 M L else (if v6 = 0 then mb3 (DX13_mark fu k a1 M L) (fun r11 M9 L10 => (if r11 = 0 then fX13_act_b84 fu k a1 a2 a3 a4 M9 L10 else fX13_act_b81 fu k a1 a2 a3 a4 M9 L10)) else fX13_act_b84 fu k a1 a2 a3 a4 M L))))) else fX13_act_b47 fu k a1 a2 a3 a4 M L)
noncomputable def fX13_act_b20 (fu : Nat) (k : Nat) (a1 : Int32) (a2 : Int32) (a3 : Int32) (a4 : Int64) (s0 : Int32) (M : mwM) (L : mwL) : Option (Int32 × mwM × mwL) :=
  (if a1 < 1 then fX13_act_b47 fu k a1 a2 a3 a4 M L else (if s0 = 0 then fX13_act_b44 fu k a1 a2 a3 a4 s0 (M k 2) M L else fX13_act_b44 fu k a1 a2 a3 a4 s0 (M k 12) M L))
noncomputable def fX13_act_b15 (fu : Nat) (k : Nat) (a1 : Int32) (a2 : Int32) (a3 : Int32) (a4 : Int64) (M : mwM) (L : mwL) : Option (Int32 × mwM × mwL) :=
  fX13_act_b20 fu k a1 a2 a3 a4 1 M L
noncomputable def DX13_act (fu : Nat) (k : Nat) (a1 : Int32) (a2 : Int32) (a3 : Int32) (a4 : Int64) (M : mwM) (L : mwL) : Option (Int32 × mwM × mwL) :=
  mlet (mset M k 0 0) (fun M24 => (if a2 = 2 then fX13_act_b15 fu k a1 a2 a3 a4 M24 L else (if a2 = 5 then fX13_act_b15 fu k a1 a2 a3 a4 M24 L else fX13_act_b20 fu k a1 a2 a3 a4 0 M24 L)))
noncomputable def fX13_data_b15 (fu : Nat) (k : Nat) (a1 : Int64) (s1 : Int32) (M : mwM) (L : mwL) : Option (Int32 × mwM × mwL) :=
  mlet (mset M k 0 s1) (fun M1 => (if (M1 k 0) ≤ 0 then mck (M1 k 26) 32 (mlet (mset L (k + 21) ((M1 k 26).toNatClampNeg) a1) (fun L4 => mlet (mset M1 k 26 ((M1 k 26) + 1)) (fun M5 => some ((M5 k 26) - 1, M5, L4)))) else some (0, M1, L)))
noncomputable def DX13_data (fu : Nat) (k : Nat) (a1 : Int64) (M : mwM) (L : mwL) : Option (Int32 × mwM × mwL) :=
  (if (M k 26) = 32 then fX13_data_b15 fu k a1 1 M L else fX13_data_b15 fu k a1 0 M L)
noncomputable def fX13_after_b17 (fu : Nat) (k : Nat) (a1 : Int32) (a2 : Int64) (M : mwM) (L : mwL) : Option (Int32 × mwM × mwL) :=
  some ((-1), M, L)
noncomputable def fX13_after_b41 (fu : Nat) (k : Nat) (a1 : Int32) (a2 : Int64) (M : mwM) (L : mwL) : Option (Int32 × mwM × mwL) :=
  some ((-2), M, L)
noncomputable def DX13_after (fu : Nat) (k : Nat) (a1 : Int32) (a2 : Int64) (M : mwM) (L : mwL) : Option (Int32 × mwM × mwL) :=
  mlet (mset M k 0 0) (fun M1 => (if a1 = 0 then fX13_after_b17 fu k a1 a2 M1 L else mb3 (DX13_none fu k a1 M1 L) (fun r5 M3 L4 => (if r5 = 0 then mb3 (DX13_mark fu k a1 M3 L4) (fun r9 M7 L8 => (if r9 = 0 then (if (lg_cmp a2 1) < 0 then fX13_after_b41 fu k a1 a2 M7 L8 else (if (lg_cmp a2 1099511627776) ≤ 0 then (if (M7 k 27) = 0 then mck a1 201 (mlet (mset L8 (k + 5) (a1.toNatClampNeg) a2) (fun L15 => some (1000 + a1, M7, L15))) else some ((-3), M7, L8)) else fX13_after_b41 fu k a1 a2 M7 L8)) else fX13_after_b41 fu k a1 a2 M7 L8)) else fX13_after_b17 fu k a1 a2 M3 L4))))
noncomputable def DX13_note (fu : Nat) (k : Nat) (a1 : Int32) (a2 : Int32) (a3 : Int64) (M : mwM) (L : mwL) : Option (mwM × mwL) :=
  (if (M k 31) = 500 then some (M, L) else mck (3 * (M k 31)) 1500 (mlet (mset M (k + 22) ((3 * (M k 31)).toNatClampNeg) a1) (fun M3 => mck ((3 * (M3 k 31)) + 1) 1500 (mlet (mset M3 (k + 22) (((3 * (M3 k 31)) + 1).toNatClampNeg) a2) (fun M5 => mck ((3 * (M5 k 31)) + 2) 1500 (mlet (mset M5 (k + 22) (((3 * (M5 k 31)) + 2).toNatClampNeg) a3.toInt32) (fun M7 => mlet (mset M7 k 31 ((M7 k 31) + 1)) (fun M8 => some (M8, L)))))))))
noncomputable def fX13_doActs_b102 (fu : Nat) (k : Nat) (a1 : Int32) (a2 : Int32) (r2 : (Int32 × mwM × mwL) → Option (mwM × mwL)) (v3 : Int32) (M : mwM) (L : mwL) : Option (mwM × mwL) :=
  mlet (v3 + 1) (fun x21 => r2 (x21, M, L))
noncomputable def fX13_doActs_b79 (fu : Nat) (k : Nat) (a1 : Int32) (a2 : Int32) (r2 : (Int32 × mwM × mwL) → Option (mwM × mwL)) (v3 : Int32) (s1 : Int32) (s2 : Int64) (M : mwM) (L : mwL) : Option (mwM × mwL) :=
  mck s1 32 (mlet (mset L (k + 21) (s1.toNatClampNeg) s2) (fun L15 => mck v3 600 (mck v3 600 (mck (M (k + 19) v3.toNatClampNeg) 32 (mb2 (DX13_note fu k 2 (M (k + 19) v3.toNatClampNeg) (L15 (k + 21) (M (k + 19) v3.toNatClampNeg).toNatClampNeg) M L15) (fun M19 L20 => fX13_doActs_b102 fu k a1 a2 r2 v3 M19 L20))))))
noncomputable def fX13_doActs_i2 (fu : Nat) (k : Nat) (a1 : Int32) (a2 : Int32) (r2 : (Int32 × mwM × mwL) → Option (mwM × mwL)) (v3 : Int32) (M : mwM) (L : mwL) : Option (mwM × mwL) :=
  (if (M k 20) ≤ v3 then some (M, L) else mck v3 600 ((if (M (k + 17) v3.toNatClampNeg) = a1 then mck v3 600 ((if ((M (k + 18) v3.toNatClampNeg) - (M (k + 18) v3.toNatClampNeg) / 3 * 3) = a2 then mck v3 600 (mck v3 600 ((if (M (k + 18) v3.toNatClampNeg) ≤ 2 then mck v3 600 (fX13_doActs_b79 fu k a1 a2 r2 v3 (M (k + 19) v3.toNatClampNeg) (L (k + 20) v3.toNatClampNeg) M L) else mck v3 600 (mck (M (k + 19) v3.toNatClampNeg) 32 (mck v3 600 (fX13_doActs_b79 fu k a1 a2 r2 v3 (M (k + 19) v3.toNatClampNeg) ((L (k + 21) (M (k + 19) v3.toNatClampNeg).toNatClampNeg) + (L (k + 20) v3.toNatClampNeg)) M L)))))) else fX13_doActs_b102 fu k a1 a2 r2 v3 M L)) else fX13_doActs_b102 fu k a1 a2 r2 v3 M L)))
noncomputable def fX13_doActs_h2 (fu : Nat) (k : Nat) (a1 : Int32) (a2 : Int32) : Nat → (Int32 × mwM × mwL) → Option (mwM × mwL) := mloop (fun r2 s => fX13_doActs_i2 fu k a1 a2 r2 s.1 s.2.1 s.2.2)
noncomputable def DX13_doActs (fu : Nat) (k : Nat) (a1 : Int32) (a2 : Int32) (M : mwM) (L : mwL) : Option (mwM × mwL) :=
  fX13_doActs_h2 fu k a1 a2 fu (0, M, L)
noncomputable def fX13_inside_i2 (fu : Nat) (k : Nat) (a1 : Int32) (a2 : Int32) (r2 : (Int32 × mwM × mwL) → Option (Int32 × mwM × mwL)) (v3 : Int32) (M : mwM) (L : mwL) : Option (Int32 × mwM × mwL) :=
  (if v3 = 0 then some (0, M, L) else mck v3 201 (mlet (M (k + 2) v3.toNatClampNeg) (fun x3 => (if x3 = a2 then some (1, M, L) else r2 (x3, M, L)))))
noncomputable def fX13_inside_h2 (fu : Nat) (k : Nat) (a1 : Int32) (a2 : Int32) : Nat → (Int32 × mwM × mwL) → Option (Int32 × mwM × mwL) := mloop (fun r2 s => fX13_inside_i2 fu k a1 a2 r2 s.1 s.2.1 s.2.2)
noncomputable def DX13_inside (fu : Nat) (k : Nat) (a1 : Int32) (a2 : Int32) (M : mwM) (L : mwL) : Option (Int32 × mwM × mwL) :=
  fX13_inside_h2 fu k a1 a2 fu (a1, M, L)
noncomputable def fX13_child_b41 (fu : Nat) (k : Nat) (a1 : Int32) (a2 : Int32) (v3 : Int32) (M : mwM) (L : mwL) : Option (Int32 × mwM × mwL) :=
  some (v3, M, L)
noncomputable def fX13_child_b43 (fu : Nat) (k : Nat) (a1 : Int32) (a2 : Int32) (r2 : (Int32 × mwM × mwL) → Option (Int32 × mwM × mwL)) (v3 : Int32) (M : mwM) (L : mwL) : Option (Int32 × mwM × mwL) :=
  mlet (v3 + 1) (fun x11 => r2 (x11, M, L))
noncomputable def fX13_child_i2 (fu : Nat) (k : Nat) (a1 : Int32) (a2 : Int32) (r2 : (Int32 × mwM × mwL) → Option (Int32 × mwM × mwL)) (v3 : Int32) (M : mwM) (L : mwL) : Option (Int32 × mwM × mwL) :=
  (if (M k 2) < v3 then some (0, M, L) else mck v3 201 ((if (M (k + 2) v3.toNatClampNeg) = a1 then mb3 (DX13_mark fu k v3 M L) (fun r6 M4 L5 => (if r6 = 0 then (if a2 = 0 then fX13_child_b41 fu k a1 a2 v3 M4 L5 else mck v3 201 ((if (M4 (k + 9) v3.toNatClampNeg) = 0 then fX13_child_b43 fu k a1 a2 r2 v3 M4 L5 else fX13_child_b41 fu k a1 a2 v3 M4 L5))) else fX13_child_b43 fu k a1 a2 r2 v3 M4 L5)) else fX13_child_b43 fu k a1 a2 r2 v3 M L)))
noncomputable def fX13_child_h2 (fu : Nat) (k : Nat) (a1 : Int32) (a2 : Int32) : Nat → (Int32 × mwM × mwL) → Option (Int32 × mwM × mwL) := mloop (fun r2 s => fX13_child_i2 fu k a1 a2 r2 s.1 s.2.1 s.2.2)
noncomputable def DX13_child (fu : Nat) (k : Nat) (a1 : Int32) (a2 : Int32) (M : mwM) (L : mwL) : Option (Int32 × mwM × mwL) :=
  fX13_child_h2 fu k a1 a2 fu (1, M, L)
noncomputable def fX13_ask_b16 (fu : Nat) (a1 : Int32) (a2 : Int64) (a3 : Int64) (s0 : Int64) (M : mwM) (L : mwL) : Option (Int64 × mwM × mwL) :=
  some (s0, M, L)
noncomputable def fX13_ask_b33 (fu : Nat) (a1 : Int32) (a2 : Int64) (a3 : Int64) (s0 : Int64) (M : mwM) (L : mwL) : Option (Int64 × mwM × mwL) :=
  some (s0, M, L)
noncomputable def fX13_ask_b50 (fu : Nat) (a1 : Int32) (a2 : Int64) (a3 : Int64) (s0 : Int64) (M : mwM) (L : mwL) : Option (Int64 × mwM × mwL) :=
  some (s0, M, L)
noncomputable def fX13_ask_b67 (fu : Nat) (a1 : Int32) (a2 : Int64) (a3 : Int64) (s0 : Int64) (M : mwM) (L : mwL) : Option (Int64 × mwM × mwL) :=
  some (s0, M, L)
noncomputable def fX13_ask_b86 (fu : Nat) (a1 : Int32) (a2 : Int64) (a3 : Int64) (s0 : Int64) (M : mwM) (L : mwL) : Option (Int64 × mwM × mwL) :=
  some (s0, M, L)
noncomputable def fX13_ask_b104 (fu : Nat) (a1 : Int32) (a2 : Int64) (a3 : Int64) (s0 : Int64) (M : mwM) (L : mwL) : Option (Int64 × mwM × mwL) :=
  some (s0, M, L)
noncomputable def DX13_ask (fu : Nat) (a1 : Int32) (a2 : Int64) (a3 : Int64) (M : mwM) (L : mwL) : Option (Int64 × mwM × mwL) :=
  (if a1 = 1 then (if (lg_cmp a2 a3) = 0 then fX13_ask_b16 fu a1 a2 a3 1 M L else fX13_ask_b16 fu a1 a2 a3 0 M L) else (if a1 = 2 then (if (lg_cmp a2 a3) = 0 then fX13_ask_b33 fu a1 a2 a3 0 M L else fX13_ask_b33 fu a1 a2 a3 1 M L) else (if a1 = 3 then (if 0 ≤ (lg_cmp a2 a3) then fX13_ask_b50 fu a1 a2 a3 0 M L else fX13_ask_b50 fu a1 a2 a3 1 M L) else (if a1 = 4 then (if 0 ≤ (lg_cmp a2 a3) then fX13_ask_b67 fu a1 a2 a3 1 M L else fX13_ask_b67 fu a1 a2 a3 0 M L) else (if a1 = 5 then mnzL a3 ((if (lg_cmp (a2 / a3) 0) = 0 then fX13_ask_b86 fu a1 a2 a3 0 M L else fX13_ask_b86 fu a1 a2 a3 1 M L)) else mnzL a3 ((if (lg_cmp (a2 - ((a2 / a3) * a3)) 0) = 0 then fX13_ask_b104 fu a1 a2 a3 1 M L else fX13_ask_b104 fu a1 a2 a3 0 M L)))))))
noncomputable def fX13_holds_b144 (fu : Nat) (k : Nat) (a1 : Int32) (v7 : Int32) (M : mwM) (L : mwL) : Option (Int32 × mwM × mwL) :=
  mzz v7 (some (v7, M, L))
noncomputable def fX13_holds_b120 (fu : Nat) (k : Nat) (a1 : Int32) (s0 : Int32) (M : mwM) (L : mwL) : Option (Int32 × mwM × mwL) :=
  (if s0 = 0 then mck a1 401 (mlet (mset M (k + 16) (a1.toNatClampNeg) (vp_nar .boolean 1)) (fun M15 => fX13_holds_b144 fu k a1 s0 M15 L)) else mck a1 401 (mlet (mset M (k + 15) (a1.toNatClampNeg) (vp_nar .boolean 1)) (fun M17 => fX13_holds_b144 fu k a1 s0 M17 L)))
noncomputable def fX13_holds_b119 (fu : Nat) (k : Nat) (a1 : Int32) (M : mwM) (L : mwL) : Option (Int32 × mwM × mwL) :=
  fX13_holds_b120 fu k a1 0 M L
noncomputable def fX13_holds_b85 (fu : Nat) (k : Nat) (a1 : Int32) (v2 : Int32) (v4 : Int64) (v6 : Int32) (M : mwM) (L : mwL) : Option (Int32 × mwM × mwL) :=
  (if v6 = 0 then mck ((v2 >>> (3 &&& 31)) &&& 31) 32 (mb3 (DX13_ask fu (v2 &&& 7) (L (k + 21) ((v2 >>> (3 &&& 31)) &&& 31).toNatClampNeg) v4 M L) (fun r11 M9 L10 => (if (lg_cmp r11 1) = 0 then fX13_holds_b120 fu k a1 1 M9 L10 else fX13_holds_b119 fu k a1 M9 L10))) else fX13_holds_b119 fu k a1 M L)
noncomputable def fX13_holds_b61 (fu : Nat) (k : Nat) (a1 : Int32) (v2 : Int32) (v4 : Int64) (s0 : Int32) (M : mwM) (L : mwL) : Option (Int32 × mwM × mwL) :=
  (if s0 = 0 then fX13_holds_b85 fu k a1 v2 v4 s0 M L else mlet (mset M k 30 ((M k 30) + 1)) (fun M4 => mb2 (DX13_note fu k 5 a1 0 M4 L) (fun M5 L6 => fX13_holds_b85 fu k a1 v2 v4 s0 M5 L6)))
noncomputable def fX13_holds_b60 (fu : Nat) (k : Nat) (a1 : Int32) (v2 : Int32) (v4 : Int64) (M : mwM) (L : mwL) : Option (Int32 × mwM × mwL) :=
  fX13_holds_b61 fu k a1 v2 v4 0 M L
noncomputable def fX13_holds_b39 (fu : Nat) (k : Nat) (a1 : Int32) (v2 : Int32) (s0 : Int64) (M : mwM) (L : mwL) : Option (Int32 × mwM × mwL) :=
  (if (v2 &&& 7) ≤ 4 then fX13_holds_b60 fu k a1 v2 s0 M L else (if (lg_cmp s0 0) = 0 then fX13_holds_b61 fu k a1 v2 s0 1 M L else fX13_holds_b60 fu k a1 v2 s0 M L))
noncomputable def DX13_holds (fu : Nat) (k : Nat) (a1 : Int32) (M : mwM) (L : mwL) : Option (Int32 × mwM × mwL) :=
  mck a1 401 (mlet (M (k + 13) a1.toNatClampNeg) (fun x20 => (if x20 = 0 then some (1, M, L) else mlet ((x20 >>> (8 &&& 31)) &&& 31) (fun x22 => (if x20 ≤ 8191 then mck x22 32 (fX13_holds_b39 fu k a1 x20 (L (k + 21) x22.toNatClampNeg) M L) else fX13_holds_b39 fu k a1 x20 x22.toInt64 M L)))))
noncomputable def fX13_saysSource_b48 (fu : Nat) (k : Nat) (a1 : Int32) (a2 : Int32) (s0 : Int32) (M : mwM) (L : mwL) : Option (Int32 × mwM × mwL) :=
  mzz s0 (some (s0, M, L))
noncomputable def DX13_saysSource (fu : Nat) (k : Nat) (a1 : Int32) (a2 : Int32) (M : mwM) (L : mwL) : Option (Int32 × mwM × mwL) :=
  mck a1 401 (mck (M (k + 10) a1.toNatClampNeg) 201 ((if (M (k + 1) (M (k + 10) a1.toNatClampNeg).toNatClampNeg) = 5 then mck a2 401 (mck a1 401 ((if (M (k + 11) a2.toNatClampNeg) = (M (k + 10) a1.toNatClampNeg) then fX13_saysSource_b48 fu k a1 a2 1 M L else fX13_saysSource_b48 fu k a1 a2 0 M L))) else (if a2 = a1 then fX13_saysSource_b48 fu k a1 a2 1 M L else fX13_saysSource_b48 fu k a1 a2 0 M L))))
noncomputable def fX13_saysTarget_b25 (fu : Nat) (k : Nat) (a1 : Int32) (a2 : Int32) (s0 : Int32) (M : mwM) (L : mwL) : Option (Int32 × mwM × mwL) :=
  mzz s0 (some (s0, M, L))
noncomputable def fX13_saysTarget_b61 (fu : Nat) (k : Nat) (a1 : Int32) (a2 : Int32) (s0 : Int32) (M : mwM) (L : mwL) : Option (Int32 × mwM × mwL) :=
  mzz s0 (some (s0, M, L))
noncomputable def fX13_saysTarget_b60 (fu : Nat) (k : Nat) (a1 : Int32) (a2 : Int32) (M : mwM) (L : mwL) : Option (Int32 × mwM × mwL) :=
  fX13_saysTarget_b61 fu k a1 a2 0 M L
noncomputable def DX13_saysTarget (fu : Nat) (k : Nat) (a1 : Int32) (a2 : Int32) (M : mwM) (L : mwL) : Option (Int32 × mwM × mwL) :=
  mck a1 401 (mck (M (k + 11) a1.toNatClampNeg) 201 ((if (M (k + 1) (M (k + 11) a1.toNatClampNeg).toNatClampNeg) = 4 then mck a2 401 (mck a1 401 ((if (M (k + 10) a2.toNatClampNeg) = (M (k + 11) a1.toNatClampNeg) then mck a2 401 (mck (M (k + 11) a2.toNatClampNeg) 201 ((if 4 ≤ (M (k + 1) (M (k + 11) a2.toNatClampNeg).toNatClampNeg) then fX13_saysTarget_b60 fu k a1 a2 M L else fX13_saysTarget_b61 fu k a1 a2 1 M L))) else fX13_saysTarget_b60 fu k a1 a2 M L))) else (if a2 = a1 then fX13_saysTarget_b25 fu k a1 a2 1 M L else fX13_saysTarget_b25 fu k a1 a2 0 M L))))
noncomputable def fX13_waitsFor_b90 (fu : Nat) (k : Nat) (a1 : Int32) (s0 : Int32) (M : mwM) (L : mwL) : Option (Int32 × mwM × mwL) :=
  mzz s0 (some (s0, M, L))
noncomputable def fX13_waitsFor_b89 (fu : Nat) (k : Nat) (a1 : Int32) (M : mwM) (L : mwL) : Option (Int32 × mwM × mwL) :=
  fX13_waitsFor_b90 fu k a1 0 M L
noncomputable def fX13_waitsFor_b70 (fu : Nat) (k : Nat) (a1 : Int32) (r7 : (Int32 × Int32 × Int32 × mwM × mwL) → Option (Int32 × mwM × mwL)) (v2 : Int32) (v4 : Int32) (s0 : Int32) (M : mwM) (L : mwL) : Option (Int32 × mwM × mwL) :=
  mlet (v4 + 1) (fun x18 => r7 (v2, s0, x18, M, L))
noncomputable def fX13_waitsFor_b69 (fu : Nat) (k : Nat) (a1 : Int32) (r7 : (Int32 × Int32 × Int32 × mwM × mwL) → Option (Int32 × mwM × mwL)) (v2 : Int32) (v4 : Int32) (M : mwM) (L : mwL) : Option (Int32 × mwM × mwL) :=
  fX13_waitsFor_b70 fu k a1 r7 v2 v4 0 M L
noncomputable def fX13_waitsFor_b65 (fu : Nat) (k : Nat) (a1 : Int32) (r7 : (Int32 × Int32 × Int32 × mwM × mwL) → Option (Int32 × mwM × mwL)) (v2 : Int32) (v4 : Int32) (M : mwM) (L : mwL) : Option (Int32 × mwM × mwL) :=
  fX13_waitsFor_b70 fu k a1 r7 v2 v4 1 M L
noncomputable def fX13_waitsFor_b35 (fu : Nat) (k : Nat) (a1 : Int32) (r7 : (Int32 × Int32 × Int32 × mwM × mwL) → Option (Int32 × mwM × mwL)) (v3 : Int32) (v4 : Int32) (s0 : Int32) (M : mwM) (L : mwL) : Option (Int32 × mwM × mwL) :=
  (if v3 = 0 then fX13_waitsFor_b69 fu k a1 r7 s0 v4 M L else mb3 (DX13_saysSource fu k a1 v4 M L) (fun r13 M11 L12 => (if r13 = 0 then fX13_waitsFor_b65 fu k a1 r7 s0 v4 M11 L12 else mck v4 401 (mck (M11 (k + 10) v4.toNatClampNeg) 201 ((if (M11 (k + 9) (M11 (k + 10) v4.toNatClampNeg).toNatClampNeg) = 0 then fX13_waitsFor_b69 fu k a1 r7 s0 v4 M11 L12 else fX13_waitsFor_b65 fu k a1 r7 s0 v4 M11 L12))))))
noncomputable def fX13_waitsFor_b30 (fu : Nat) (k : Nat) (a1 : Int32) (r7 : (Int32 × Int32 × Int32 × mwM × mwL) → Option (Int32 × mwM × mwL)) (v3 : Int32) (v4 : Int32) (M : mwM) (L : mwL) : Option (Int32 × mwM × mwL) :=
  fX13_waitsFor_b35 fu k a1 r7 v3 v4 1 M L
noncomputable def fX13_waitsFor_i7 (fu : Nat) (k : Nat) (a1 : Int32) (r7 : (Int32 × Int32 × Int32 × mwM × mwL) → Option (Int32 × mwM × mwL)) (v2 : Int32) (v3 : Int32) (v4 : Int32) (M : mwM) (L : mwL) : Option (Int32 × mwM × mwL) :=
  (if (M k 12) < v4 then (if v2 = 0 then fX13_waitsFor_b89 fu k a1 M L else (if v3 = 0 then fX13_waitsFor_b89 fu k a1 M L else fX13_waitsFor_b90 fu k a1 1 M L)) else (if v2 = 0 then mb3 (DX13_saysSource fu k a1 v4 M L) (fun r8 M5 L6 => (if r8 = 0 then fX13_waitsFor_b35 fu k a1 r7 v3 v4 0 M5 L6 else fX13_waitsFor_b30 fu k a1 r7 v3 v4 M5 L6)) else fX13_waitsFor_b30 fu k a1 r7 v3 v4 M L))
noncomputable def fX13_waitsFor_h7 (fu : Nat) (k : Nat) (a1 : Int32) : Nat → (Int32 × Int32 × Int32 × mwM × mwL) → Option (Int32 × mwM × mwL) := mloop (fun r7 s => fX13_waitsFor_i7 fu k a1 r7 s.1 s.2.1 s.2.2.1 s.2.2.2.1 s.2.2.2.2)
noncomputable def DX13_waitsFor (fu : Nat) (k : Nat) (a1 : Int32) (M : mwM) (L : mwL) : Option (Int32 × mwM × mwL) :=
  fX13_waitsFor_h7 fu k a1 fu (0, 1, 1, M, L)
noncomputable def fX13_domain_b129 (fu : Nat) (k : Nat) (a1 : Int32) (r4 : (Int32 × Int32 × mwM × mwL) → Option (Int32 × mwM × mwL)) (v3 : Int32) (s0 : Int32) (M : mwM) (L : mwL) : Option (Int32 × mwM × mwL) :=
  mlet (v3 + 1) (fun x28 => r4 (s0, x28, M, L))
noncomputable def fX13_domain_b119 (fu : Nat) (k : Nat) (a1 : Int32) (r4 : (Int32 × Int32 × mwM × mwL) → Option (Int32 × mwM × mwL)) (v2 : Int32) (v3 : Int32) (v4 : Int32) (M : mwM) (L : mwL) : Option (Int32 × mwM × mwL) :=
  (if v4 = 0 then fX13_domain_b129 fu k a1 r4 v3 v2 M L else fX13_domain_b129 fu k a1 r4 v3 v3 M L)
noncomputable def fX13_domain_b113 (fu : Nat) (k : Nat) (a1 : Int32) (r4 : (Int32 × Int32 × mwM × mwL) → Option (Int32 × mwM × mwL)) (r46 : (Int32 × Int32 × Int32 × Int32 × mwM × mwL) → Option (Int32 × mwM × mwL)) (v2 : Int32) (v3 : Int32) (v4 : Int32) (v5 : Int32) (M : mwM) (L : mwL) : Option (Int32 × mwM × mwL) :=
  mlet (v5 + 1) (fun x26 => r46 (v2, v3, v4, x26, M, L))
noncomputable def fX13_domain_b84 (fu : Nat) (k : Nat) (a1 : Int32) (r4 : (Int32 × Int32 × mwM × mwL) → Option (Int32 × mwM × mwL)) (r46 : (Int32 × Int32 × Int32 × Int32 × mwM × mwL) → Option (Int32 × mwM × mwL)) (v2 : Int32) (v3 : Int32) (v4 : Int32) (v5 : Int32) (M : mwM) (L : mwL) : Option (Int32 × mwM × mwL) :=
  (if v4 = 0 then fX13_domain_b113 fu k a1 r4 r46 v2 v3 v4 v5 M L else mb3 (DX13_saysTarget fu k a1 v5 M L) (fun r20 M18 L19 => (if r20 = 0 then fX13_domain_b113 fu k a1 r4 r46 v2 v3 v4 v5 M18 L19 else mck v5 401 (mb3 (DX13_inside fu k (M18 (k + 11) v5.toNatClampNeg) v3 M18 L19) (fun r25 M23 L24 => fX13_domain_b113 fu k a1 r4 r46 v2 v3 r25 v5 M23 L24)))))
noncomputable def fX13_domain_i46 (fu : Nat) (k : Nat) (a1 : Int32) (r4 : (Int32 × Int32 × mwM × mwL) → Option (Int32 × mwM × mwL)) (r46 : (Int32 × Int32 × Int32 × Int32 × mwM × mwL) → Option (Int32 × mwM × mwL)) (v2 : Int32) (v3 : Int32) (v4 : Int32) (v5 : Int32) (M : mwM) (L : mwL) : Option (Int32 × mwM × mwL) :=
  (if (M k 12) < v5 then fX13_domain_b119 fu k a1 r4 v2 v3 v4 M L else (if v4 = 0 then fX13_domain_b119 fu k a1 r4 v2 v3 v4 M L else mb3 (DX13_saysSource fu k a1 v5 M L) (fun r11 M9 L10 => (if r11 = 0 then fX13_domain_b84 fu k a1 r4 r46 v2 v3 v4 v5 M9 L10 else mck v5 401 (mb3 (DX13_inside fu k (M9 (k + 10) v5.toNatClampNeg) v3 M9 L10) (fun r16 M14 L15 => fX13_domain_b84 fu k a1 r4 r46 v2 v3 r16 v5 M14 L15))))))
noncomputable def fX13_domain_h46 (fu : Nat) (k : Nat) (a1 : Int32) (r4 : (Int32 × Int32 × mwM × mwL) → Option (Int32 × mwM × mwL)) : Nat → (Int32 × Int32 × Int32 × Int32 × mwM × mwL) → Option (Int32 × mwM × mwL) := mloop (fun r46 s => fX13_domain_i46 fu k a1 r4 r46 s.1 s.2.1 s.2.2.1 s.2.2.2.1 s.2.2.2.2.1 s.2.2.2.2.2)
noncomputable def fX13_domain_b41 (fu : Nat) (k : Nat) (a1 : Int32) (r4 : (Int32 × Int32 × mwM × mwL) → Option (Int32 × mwM × mwL)) (v2 : Int32) (v3 : Int32) (s0 : Int32) (M : mwM) (L : mwL) : Option (Int32 × mwM × mwL) :=
  fX13_domain_h46 fu k a1 r4 fu (v2, v3, s0, 1, M, L)
noncomputable def fX13_domain_b40 (fu : Nat) (k : Nat) (a1 : Int32) (r4 : (Int32 × Int32 × mwM × mwL) → Option (Int32 × mwM × mwL)) (v2 : Int32) (v3 : Int32) (M : mwM) (L : mwL) : Option (Int32 × mwM × mwL) :=
  fX13_domain_b41 fu k a1 r4 v2 v3 0 M L
noncomputable def fX13_domain_i4 (fu : Nat) (k : Nat) (a1 : Int32) (r4 : (Int32 × Int32 × mwM × mwL) → Option (Int32 × mwM × mwL)) (v2 : Int32) (v3 : Int32) (M : mwM) (L : mwL) : Option (Int32 × mwM × mwL) :=
  (if (M k 2) < v3 then some (v2, M, L) else mck v3 201 ((if (M (k + 1) v3.toNatClampNeg) = 0 then mck v3 201 (mck v2 201 ((if (M (k + 3) v3.toNatClampNeg) ≤ (M (k + 3) v2.toNatClampNeg) then fX13_domain_b40 fu k a1 r4 v2 v3 M L else fX13_domain_b41 fu k a1 r4 v2 v3 1 M L))) else fX13_domain_b40 fu k a1 r4 v2 v3 M L)))
noncomputable def fX13_domain_h4 (fu : Nat) (k : Nat) (a1 : Int32) : Nat → (Int32 × Int32 × mwM × mwL) → Option (Int32 × mwM × mwL) := mloop (fun r4 s => fX13_domain_i4 fu k a1 r4 s.1 s.2.1 s.2.2.1 s.2.2.2)
noncomputable def DX13_domain (fu : Nat) (k : Nat) (a1 : Int32) (M : mwM) (L : mwL) : Option (Int32 × mwM × mwL) :=
  fX13_domain_h4 fu k a1 fu (0, 1, M, L)
noncomputable def fX13_findExits_b38 (fu : Nat) (k : Nat) (a1 : Int32) (r2 : (Int32 × mwM × mwL) → Option (mwM × mwL)) (v2 : Int32) (s1 : Int32) (s2 : Int32) (M : mwM) (L : mwL) : Option (mwM × mwL) :=
  mck s1 201 (mlet (mset M (k + 26) (s1.toNatClampNeg) (vp_nar .boolean s2)) (fun M9 => mlet (v2 + 1) (fun x10 => r2 (x10, M9, L))))
noncomputable def fX13_findExits_b37 (fu : Nat) (k : Nat) (a1 : Int32) (r2 : (Int32 × mwM × mwL) → Option (mwM × mwL)) (v2 : Int32) (s1 : Int32) (M : mwM) (L : mwL) : Option (mwM × mwL) :=
  fX13_findExits_b38 fu k a1 r2 v2 s1 0 M L
noncomputable def fX13_findExits_i2 (fu : Nat) (k : Nat) (a1 : Int32) (r2 : (Int32 × mwM × mwL) → Option (mwM × mwL)) (v2 : Int32) (M : mwM) (L : mwL) : Option (mwM × mwL) :=
  (if (M k 2) < v2 then some (M, L) else mck v2 201 ((if (M (k + 9) v2.toNatClampNeg) = 0 then fX13_findExits_b37 fu k a1 r2 v2 v2 M L else mb3 (DX13_inside fu k v2 a1 M L) (fun r6 M4 L5 => (if r6 = 0 then fX13_findExits_b37 fu k a1 r2 v2 v2 M4 L5 else fX13_findExits_b38 fu k a1 r2 v2 v2 1 M4 L5)))))
noncomputable def fX13_findExits_h2 (fu : Nat) (k : Nat) (a1 : Int32) : Nat → (Int32 × mwM × mwL) → Option (mwM × mwL) := mloop (fun r2 s => fX13_findExits_i2 fu k a1 r2 s.1 s.2.1 s.2.2)
noncomputable def DX13_findExits (fu : Nat) (k : Nat) (a1 : Int32) (M : mwM) (L : mwL) : Option (mwM × mwL) :=
  fX13_findExits_h2 fu k a1 fu (1, M, L)
noncomputable def fX13_choose_b317 (fu : Nat) (k : Nat) (a1 : Int32) (r128 : (Int32 × mwM × mwL) → Option (Int32 × mwM × mwL)) (r134 : (Int32 × Int32 × mwM × mwL) → Option (Int32 × mwM × mwL)) (v2 : Int32) (v3 : Int32) (M : mwM) (L : mwL) : Option (Int32 × mwM × mwL) :=
  mlet (v3 + 1) (fun x61 => r134 (v2, x61, M, L))
noncomputable def fX13_choose_b287 (fu : Nat) (k : Nat) (a1 : Int32) (r128 : (Int32 × mwM × mwL) → Option (Int32 × mwM × mwL)) (r134 : (Int32 × Int32 × mwM × mwL) → Option (Int32 × mwM × mwL)) (v2 : Int32) (v3 : Int32) (v4 : Int32) (M : mwM) (L : mwL) : Option (Int32 × mwM × mwL) :=
  (if v4 = 0 then fX13_choose_b317 fu k a1 r128 r134 v2 v3 M L else mck v3 400 (mck (M k 35) 400 (mlet (mset M (k + 24) ((M k 35).toNatClampNeg) (M (k + 23) v3.toNatClampNeg)) (fun M59 => mlet (mset M59 k 35 ((M59 k 35) + 1)) (fun M60 => fX13_choose_b317 fu k a1 r128 r134 v2 v3 M60 L)))))
noncomputable def fX13_choose_b280 (fu : Nat) (k : Nat) (a1 : Int32) (r128 : (Int32 × mwM × mwL) → Option (Int32 × mwM × mwL)) (r134 : (Int32 × Int32 × mwM × mwL) → Option (Int32 × mwM × mwL)) (r235 : (Int32 × Int32 × Int32 × Int32 × mwM × mwL) → Option (Int32 × mwM × mwL)) (v2 : Int32) (v3 : Int32) (v4 : Int32) (v5 : Int32) (s1 : Int32) (s2 : Int32) (M : mwM) (L : mwL) : Option (Int32 × mwM × mwL) :=
  mck s1 201 (mlet (mset M (k + 25) (s1.toNatClampNeg) (vp_nar .boolean s2)) (fun M54 => mlet (v5 + 1) (fun x55 => r235 (v2, v3, v4, x55, M54, L))))
noncomputable def fX13_choose_b275 (fu : Nat) (k : Nat) (a1 : Int32) (r128 : (Int32 × mwM × mwL) → Option (Int32 × mwM × mwL)) (r134 : (Int32 × Int32 × mwM × mwL) → Option (Int32 × mwM × mwL)) (r235 : (Int32 × Int32 × Int32 × Int32 × mwM × mwL) → Option (Int32 × mwM × mwL)) (v2 : Int32) (v3 : Int32) (v4 : Int32) (v5 : Int32) (s1 : Int32) (M : mwM) (L : mwL) : Option (Int32 × mwM × mwL) :=
  fX13_choose_b280 fu k a1 r128 r134 r235 v2 v3 v4 v5 s1 1 M L
noncomputable def fX13_choose_i235 (fu : Nat) (k : Nat) (a1 : Int32) (r128 : (Int32 × mwM × mwL) → Option (Int32 × mwM × mwL)) (r134 : (Int32 × Int32 × mwM × mwL) → Option (Int32 × mwM × mwL)) (r235 : (Int32 × Int32 × Int32 × Int32 × mwM × mwL) → Option (Int32 × mwM × mwL)) (v2 : Int32) (v3 : Int32) (v4 : Int32) (v5 : Int32) (M : mwM) (L : mwL) : Option (Int32 × mwM × mwL) :=
  (if (M k 2) < v5 then fX13_choose_b287 fu k a1 r128 r134 v2 v3 v4 M L else (if v4 = 0 then fX13_choose_b287 fu k a1 r128 r134 v2 v3 v4 M L else mck v5 201 ((if (M (k + 25) v5.toNatClampNeg) = 0 then mck v5 201 ((if (M (k + 26) v5.toNatClampNeg) = 0 then fX13_choose_b280 fu k a1 r128 r134 r235 v2 v3 v4 v5 v5 0 M L else fX13_choose_b275 fu k a1 r128 r134 r235 v2 v3 v4 v5 v5 M L)) else fX13_choose_b275 fu k a1 r128 r134 r235 v2 v3 v4 v5 v5 M L))))
noncomputable def fX13_choose_h235 (fu : Nat) (k : Nat) (a1 : Int32) (r128 : (Int32 × mwM × mwL) → Option (Int32 × mwM × mwL)) (r134 : (Int32 × Int32 × mwM × mwL) → Option (Int32 × mwM × mwL)) : Nat → (Int32 × Int32 × Int32 × Int32 × mwM × mwL) → Option (Int32 × mwM × mwL) := mloop (fun r235 s => fX13_choose_i235 fu k a1 r128 r134 r235 s.1 s.2.1 s.2.2.1 s.2.2.2.1 s.2.2.2.2.1 s.2.2.2.2.2)
noncomputable def fX13_choose_b224 (fu : Nat) (k : Nat) (a1 : Int32) (r128 : (Int32 × mwM × mwL) → Option (Int32 × mwM × mwL)) (r134 : (Int32 × Int32 × mwM × mwL) → Option (Int32 × mwM × mwL)) (r185 : (Int32 × Int32 × Int32 × Int32 × mwM × mwL) → Option (Int32 × mwM × mwL)) (v2 : Int32) (v3 : Int32) (v5 : Int32) (s0 : Int32) (M : mwM) (L : mwL) : Option (Int32 × mwM × mwL) :=
  mlet (v5 + 1) (fun x46 => r185 (v2, v3, s0, x46, M, L))
noncomputable def fX13_choose_b223 (fu : Nat) (k : Nat) (a1 : Int32) (r128 : (Int32 × mwM × mwL) → Option (Int32 × mwM × mwL)) (r134 : (Int32 × Int32 × mwM × mwL) → Option (Int32 × mwM × mwL)) (r185 : (Int32 × Int32 × Int32 × Int32 × mwM × mwL) → Option (Int32 × mwM × mwL)) (v2 : Int32) (v3 : Int32) (v5 : Int32) (M : mwM) (L : mwL) : Option (Int32 × mwM × mwL) :=
  fX13_choose_b224 fu k a1 r128 r134 r185 v2 v3 v5 0 M L
noncomputable def fX13_choose_b219 (fu : Nat) (k : Nat) (a1 : Int32) (r128 : (Int32 × mwM × mwL) → Option (Int32 × mwM × mwL)) (r134 : (Int32 × Int32 × mwM × mwL) → Option (Int32 × mwM × mwL)) (r185 : (Int32 × Int32 × Int32 × Int32 × mwM × mwL) → Option (Int32 × mwM × mwL)) (v2 : Int32) (v3 : Int32) (v5 : Int32) (M : mwM) (L : mwL) : Option (Int32 × mwM × mwL) :=
  fX13_choose_b224 fu k a1 r128 r134 r185 v2 v3 v5 1 M L
noncomputable def fX13_choose_i185 (fu : Nat) (k : Nat) (a1 : Int32) (r128 : (Int32 × mwM × mwL) → Option (Int32 × mwM × mwL)) (r134 : (Int32 × Int32 × mwM × mwL) → Option (Int32 × mwM × mwL)) (r185 : (Int32 × Int32 × Int32 × Int32 × mwM × mwL) → Option (Int32 × mwM × mwL)) (v2 : Int32) (v3 : Int32) (v4 : Int32) (v5 : Int32) (M : mwM) (L : mwL) : Option (Int32 × mwM × mwL) :=
  (if (M k 2) < v5 then fX13_choose_h235 fu k a1 r128 r134 fu (v2, v3, v4, 1, M, L) else (if v4 = 0 then fX13_choose_b223 fu k a1 r128 r134 r185 v2 v3 v5 M L else mck v5 201 ((if (M (k + 26) v5.toNatClampNeg) = 0 then fX13_choose_b219 fu k a1 r128 r134 r185 v2 v3 v5 M L else mck v5 201 ((if (M (k + 25) v5.toNatClampNeg) = 0 then fX13_choose_b219 fu k a1 r128 r134 r185 v2 v3 v5 M L else fX13_choose_b223 fu k a1 r128 r134 r185 v2 v3 v5 M L))))))
noncomputable def fX13_choose_h185 (fu : Nat) (k : Nat) (a1 : Int32) (r128 : (Int32 × mwM × mwL) → Option (Int32 × mwM × mwL)) (r134 : (Int32 × Int32 × mwM × mwL) → Option (Int32 × mwM × mwL)) : Nat → (Int32 × Int32 × Int32 × Int32 × mwM × mwL) → Option (Int32 × mwM × mwL) := mloop (fun r185 s => fX13_choose_i185 fu k a1 r128 r134 r185 s.1 s.2.1 s.2.2.1 s.2.2.2.1 s.2.2.2.2.1 s.2.2.2.2.2)
noncomputable def fX13_choose_i134 (fu : Nat) (k : Nat) (a1 : Int32) (r128 : (Int32 × mwM × mwL) → Option (Int32 × mwM × mwL)) (r134 : (Int32 × Int32 × mwM × mwL) → Option (Int32 × mwM × mwL)) (v2 : Int32) (v3 : Int32) (M : mwM) (L : mwL) : Option (Int32 × mwM × mwL) :=
  (if (M k 33) ≤ v3 then mlet (v2 + (-1)) (fun x29 => r128 (x29, M, L)) else mck v3 400 (mck (M (k + 23) v3.toNatClampNeg) 401 (mck (M (k + 10) (M (k + 23) v3.toNatClampNeg).toNatClampNeg) 201 ((if (M (k + 3) (M (k + 10) (M (k + 23) v3.toNatClampNeg).toNatClampNeg).toNatClampNeg) = v2 then mck v3 400 (mb3 (DX13_domain fu k (M (k + 23) v3.toNatClampNeg) M L) (fun r37 M35 L36 => mb2 (DX13_findExits fu k r37 M35 L36) (fun M38 L39 => fX13_choose_h185 fu k a1 r128 r134 fu (v2, v3, 1, 1, M38, L39)))) else fX13_choose_b317 fu k a1 r128 r134 v2 v3 M L)))))
noncomputable def fX13_choose_h134 (fu : Nat) (k : Nat) (a1 : Int32) (r128 : (Int32 × mwM × mwL) → Option (Int32 × mwM × mwL)) : Nat → (Int32 × Int32 × mwM × mwL) → Option (Int32 × mwM × mwL) := mloop (fun r134 s => fX13_choose_i134 fu k a1 r128 r134 s.1 s.2.1 s.2.2.1 s.2.2.2)
noncomputable def fX13_choose_i128 (fu : Nat) (k : Nat) (a1 : Int32) (r128 : (Int32 × mwM × mwL) → Option (Int32 × mwM × mwL)) (v2 : Int32) (M : mwM) (L : mwL) : Option (Int32 × mwM × mwL) :=
  (if v2 ≤ 0 then some (M k 35, M, L) else fX13_choose_h134 fu k a1 r128 fu (v2, 0, M, L))
noncomputable def fX13_choose_h128 (fu : Nat) (k : Nat) (a1 : Int32) : Nat → (Int32 × mwM × mwL) → Option (Int32 × mwM × mwL) := mloop (fun r128 s => fX13_choose_i128 fu k a1 r128 s.1 s.2.1 s.2.2)
noncomputable def fX13_choose_i104 (fu : Nat) (k : Nat) (a1 : Int32) (r104 : (Int32 × mwM × mwL) → Option (Int32 × mwM × mwL)) (v2 : Int32) (M : mwM) (L : mwL) : Option (Int32 × mwM × mwL) :=
  (if (M k 2) < v2 then fX13_choose_h128 fu k a1 fu (41, M, L) else mck v2 201 (mlet (mset M (k + 25) (v2.toNatClampNeg) (vp_nar .boolean 0)) (fun M25 => mlet (v2 + 1) (fun x26 => r104 (x26, M25, L)))))
noncomputable def fX13_choose_h104 (fu : Nat) (k : Nat) (a1 : Int32) : Nat → (Int32 × mwM × mwL) → Option (Int32 × mwM × mwL) := mloop (fun r104 s => fX13_choose_i104 fu k a1 r104 s.1 s.2.1 s.2.2)
noncomputable def fX13_choose_b91 (fu : Nat) (k : Nat) (a1 : Int32) (r7 : (Int32 × mwM × mwL) → Option (Int32 × mwM × mwL)) (v2 : Int32) (M : mwM) (L : mwL) : Option (Int32 × mwM × mwL) :=
  mlet (v2 + 1) (fun x22 => r7 (x22, M, L))
noncomputable def fX13_choose_i7 (fu : Nat) (k : Nat) (a1 : Int32) (r7 : (Int32 × mwM × mwL) → Option (Int32 × mwM × mwL)) (v2 : Int32) (M : mwM) (L : mwL) : Option (Int32 × mwM × mwL) :=
  (if (M k 12) < v2 then mlet (mset M k 35 0) (fun M2 => fX13_choose_h104 fu k a1 fu (0, M2, L)) else mck v2 401 ((if (M (k + 12) v2.toNatClampNeg) = a1 then mck v2 401 (mck (M (k + 10) v2.toNatClampNeg) 201 ((if (M (k + 1) (M (k + 10) v2.toNatClampNeg).toNatClampNeg) = 4 then fX13_choose_b91 fu k a1 r7 v2 M L else mck v2 401 (mck (M (k + 11) v2.toNatClampNeg) 201 ((if (M (k + 1) (M (k + 11) v2.toNatClampNeg).toNatClampNeg) = 5 then fX13_choose_b91 fu k a1 r7 v2 M L else mb3 (DX13_waitsFor fu k v2 M L) (fun r13 M11 L12 => (if r13 = 0 then fX13_choose_b91 fu k a1 r7 v2 M11 L12 else mb3 (DX13_holds fu k v2 M11 L12) (fun r17 M15 L16 => (if r17 = 0 then fX13_choose_b91 fu k a1 r7 v2 M15 L16 else mck (M15 k 33) 400 (mlet (mset M15 (k + 23) ((M15 k 33).toNatClampNeg) v2) (fun M20 => mlet (mset M20 k 33 ((M20 k 33) + 1)) (fun M21 => fX13_choose_b91 fu k a1 r7 v2 M21 L16))))))))))))) else fX13_choose_b91 fu k a1 r7 v2 M L)))
noncomputable def fX13_choose_h7 (fu : Nat) (k : Nat) (a1 : Int32) : Nat → (Int32 × mwM × mwL) → Option (Int32 × mwM × mwL) := mloop (fun r7 s => fX13_choose_i7 fu k a1 r7 s.1 s.2.1 s.2.2)
noncomputable def DX13_choose (fu : Nat) (k : Nat) (a1 : Int32) (M : mwM) (L : mwL) : Option (Int32 × mwM × mwL) :=
  mlet (mset M k 33 0) (fun M62 => fX13_choose_h7 fu k a1 fu (1, M62, L))
noncomputable def fX13_second_b50 (fu : Nat) (k : Nat) (a1 : Int32) (r4 : (Int32 × Int32 × mwM × mwL) → Option (Int32 × mwM × mwL)) (v3 : Int32) (s0 : Int32) (M : mwM) (L : mwL) : Option (Int32 × mwM × mwL) :=
  mlet (v3 + 1) (fun x10 => r4 (s0, x10, M, L))
noncomputable def fX13_second_b49 (fu : Nat) (k : Nat) (a1 : Int32) (r4 : (Int32 × Int32 × mwM × mwL) → Option (Int32 × mwM × mwL)) (v3 : Int32) (M : mwM) (L : mwL) : Option (Int32 × mwM × mwL) :=
  fX13_second_b50 fu k a1 r4 v3 0 M L
noncomputable def fX13_second_b45 (fu : Nat) (k : Nat) (a1 : Int32) (r4 : (Int32 × Int32 × mwM × mwL) → Option (Int32 × mwM × mwL)) (v3 : Int32) (M : mwM) (L : mwL) : Option (Int32 × mwM × mwL) :=
  fX13_second_b50 fu k a1 r4 v3 1 M L
noncomputable def fX13_second_i4 (fu : Nat) (k : Nat) (a1 : Int32) (r4 : (Int32 × Int32 × mwM × mwL) → Option (Int32 × mwM × mwL)) (v2 : Int32) (v3 : Int32) (M : mwM) (L : mwL) : Option (Int32 × mwM × mwL) :=
  (if (M k 2) < v3 then mzz v2 (some (v2, M, L)) else (if v2 = 0 then (if v3 = a1 then fX13_second_b49 fu k a1 r4 v3 M L else mck v3 201 (mck a1 201 ((if (M (k + 2) v3.toNatClampNeg) = (M (k + 2) a1.toNatClampNeg) then mck v3 201 ((if (M (k + 27) v3.toNatClampNeg) = 0 then fX13_second_b49 fu k a1 r4 v3 M L else fX13_second_b45 fu k a1 r4 v3 M L)) else fX13_second_b49 fu k a1 r4 v3 M L)))) else fX13_second_b45 fu k a1 r4 v3 M L))
noncomputable def fX13_second_h4 (fu : Nat) (k : Nat) (a1 : Int32) : Nat → (Int32 × Int32 × mwM × mwL) → Option (Int32 × mwM × mwL) := mloop (fun r4 s => fX13_second_i4 fu k a1 r4 s.1 s.2.1 s.2.2.1 s.2.2.2)
noncomputable def DX13_second (fu : Nat) (k : Nat) (a1 : Int32) (M : mwM) (L : mwL) : Option (Int32 × mwM × mwL) :=
  fX13_second_h4 fu k a1 fu (0, 1, M, L)
noncomputable def fX13_aim_b173 (fu : Nat) (k : Nat) (a1 : Int32) (a2 : Int32) (s1 : Int32) (s2 : Int32) (M : mwM) (L : mwL) : Option (mwM × mwL) :=
  mck s1 201 (mlet (mset M (k + 29) (s1.toNatClampNeg) (vp_nar .boolean s2)) (fun M31 => some (M31, L)))
noncomputable def fX13_aim_b168 (fu : Nat) (k : Nat) (a1 : Int32) (a2 : Int32) (s1 : Int32) (M : mwM) (L : mwL) : Option (mwM × mwL) :=
  fX13_aim_b173 fu k a1 a2 s1 1 M L
noncomputable def fX13_aim_b133 (fu : Nat) (k : Nat) (a1 : Int32) (a2 : Int32) (s1 : Int32) (s2 : Int32) (M : mwM) (L : mwL) : Option (mwM × mwL) :=
  mck s1 201 (mlet (mset M (k + 28) (s1.toNatClampNeg) (vp_nar .boolean s2)) (fun M23 => mck a2 201 (mck a2 201 (mck (M23 (k + 2) a2.toNatClampNeg) 201 ((if (M23 (k + 29) (M23 (k + 2) a2.toNatClampNeg).toNatClampNeg) = 0 then mck a2 201 ((if (M23 (k + 1) a2.toNatClampNeg) = 3 then fX13_aim_b168 fu k a1 a2 (M23 (k + 2) a2.toNatClampNeg) M23 L else fX13_aim_b173 fu k a1 a2 (M23 (k + 2) a2.toNatClampNeg) 0 M23 L)) else fX13_aim_b168 fu k a1 a2 (M23 (k + 2) a2.toNatClampNeg) M23 L))))))
noncomputable def fX13_aim_b128 (fu : Nat) (k : Nat) (a1 : Int32) (a2 : Int32) (s1 : Int32) (M : mwM) (L : mwL) : Option (mwM × mwL) :=
  fX13_aim_b133 fu k a1 a2 s1 1 M L
noncomputable def fX13_aim_i68 (fu : Nat) (k : Nat) (a1 : Int32) (a2 : Int32) (r68 : (Int32 × mwM × mwL) → Option (mwM × mwL)) (v4 : Int32) (M : mwM) (L : mwL) : Option (mwM × mwL) :=
  (if v4 = a1 then mck a2 201 (mck a2 201 (mck (M (k + 2) a2.toNatClampNeg) 201 ((if (M (k + 28) (M (k + 2) a2.toNatClampNeg).toNatClampNeg) = 0 then mck a2 201 ((if (M (k + 1) a2.toNatClampNeg) = 2 then fX13_aim_b128 fu k a1 a2 (M (k + 2) a2.toNatClampNeg) M L else fX13_aim_b133 fu k a1 a2 (M (k + 2) a2.toNatClampNeg) 0 M L)) else fX13_aim_b128 fu k a1 a2 (M (k + 2) a2.toNatClampNeg) M L)))) else mck v4 201 (mlet (mset M (k + 27) (v4.toNatClampNeg) (vp_nar .boolean 1)) (fun M19 => mck v4 201 (mlet (M19 (k + 2) v4.toNatClampNeg) (fun x21 => r68 (x21, M19, L))))))
noncomputable def fX13_aim_h68 (fu : Nat) (k : Nat) (a1 : Int32) (a2 : Int32) : Nat → (Int32 × mwM × mwL) → Option (mwM × mwL) := mloop (fun r68 s => fX13_aim_i68 fu k a1 a2 r68 s.1 s.2.1 s.2.2)
noncomputable def fX13_aim_b53 (fu : Nat) (k : Nat) (a1 : Int32) (a2 : Int32) (r22 : (Int32 × Int32 × mwM × mwL) → Option (mwM × mwL)) (v3 : Int32) (v4 : Int32) (M : mwM) (L : mwL) : Option (mwM × mwL) :=
  mck v4 201 (mlet (M (k + 2) v4.toNatClampNeg) (fun x10 => r22 (v3, x10, M, L)))
noncomputable def fX13_aim_i22 (fu : Nat) (k : Nat) (a1 : Int32) (a2 : Int32) (r22 : (Int32 × Int32 × mwM × mwL) → Option (mwM × mwL)) (v3 : Int32) (v4 : Int32) (M : mwM) (L : mwL) : Option (mwM × mwL) :=
  (if v4 = a1 then fX13_aim_h68 fu k a1 a2 fu (v3, M, L) else mck v4 201 (mck (M (k + 2) v4.toNatClampNeg) 201 ((if (M (k + 1) (M (k + 2) v4.toNatClampNeg).toNatClampNeg) = 0 then mb3 (DX13_second fu k v4 M L) (fun r7 M5 L6 => (if r7 = 0 then fX13_aim_b53 fu k a1 a2 r22 v3 v4 M5 L6 else some (M5, L6))) else fX13_aim_b53 fu k a1 a2 r22 v3 v4 M L))))
noncomputable def fX13_aim_h22 (fu : Nat) (k : Nat) (a1 : Int32) (a2 : Int32) : Nat → (Int32 × Int32 × mwM × mwL) → Option (mwM × mwL) := mloop (fun r22 s => fX13_aim_i22 fu k a1 a2 r22 s.1 s.2.1 s.2.2.1 s.2.2.2)
noncomputable def fX13_aim_b18 (fu : Nat) (k : Nat) (a1 : Int32) (a2 : Int32) (s0 : Int32) (M : mwM) (L : mwL) : Option (mwM × mwL) :=
  fX13_aim_h22 fu k a1 a2 fu (s0, s0, M, L)
noncomputable def DX13_aim (fu : Nat) (k : Nat) (a1 : Int32) (a2 : Int32) (M : mwM) (L : mwL) : Option (mwM × mwL) :=
  mb3 (DX13_mark fu k a2 M L) (fun r34 M32 L33 => (if r34 = 0 then fX13_aim_b18 fu k a1 a2 a2 M32 L33 else mck a2 201 (fX13_aim_b18 fu k a1 a2 (M32 (k + 2) a2.toNatClampNeg) M32 L33)))
noncomputable def fX13_fill_b199 (fu : Nat) (k : Nat) (a1 : Int32) (a2 : Int32) (M : mwM) (L : mwL) : Option (mwM × mwL) :=
  some (M, L)
noncomputable def fX13_fill_b184 (fu : Nat) (k : Nat) (a1 : Int32) (a2 : Int32) (s0 : Int32) (M : mwM) (L : mwL) : Option (mwM × mwL) :=
  (if s0 ≤ 0 then fX13_fill_b199 fu k a1 a2 M L else mck s0 201 (mlet (mset M (k + 27) (s0.toNatClampNeg) (vp_nar .boolean 1)) (fun M35 => fX13_fill_b199 fu k a1 a2 M35 L)))
noncomputable def fX13_fill_b178 (fu : Nat) (k : Nat) (a1 : Int32) (a2 : Int32) (M : mwM) (L : mwL) : Option (mwM × mwL) :=
  mb3 (DX13_child fu k a1 0 M L) (fun r32 M30 L31 => fX13_fill_b184 fu k a1 a2 r32 M30 L31)
noncomputable def fX13_fill_b160 (fu : Nat) (k : Nat) (a1 : Int32) (a2 : Int32) (M : mwM) (L : mwL) : Option (mwM × mwL) :=
  mck a1 201 ((if (M (k + 4) a1.toNatClampNeg) ≤ 0 then fX13_fill_b178 fu k a1 a2 M L else mck a1 201 (fX13_fill_b184 fu k a1 a2 (M (k + 4) a1.toNatClampNeg) M L)))
noncomputable def fX13_fill_b141 (fu : Nat) (k : Nat) (a1 : Int32) (a2 : Int32) (M : mwM) (L : mwL) : Option (mwM × mwL) :=
  some (M, L)
noncomputable def fX13_fill_b121 (fu : Nat) (k : Nat) (a1 : Int32) (a2 : Int32) (r44 : (Int32 × Int32 × mwM × mwL) → Option (mwM × mwL)) (v4 : Int32) (s0 : Int32) (M : mwM) (L : mwL) : Option (mwM × mwL) :=
  mlet (v4 + 1) (fun x26 => r44 (s0, x26, M, L))
noncomputable def fX13_fill_b120 (fu : Nat) (k : Nat) (a1 : Int32) (a2 : Int32) (r44 : (Int32 × Int32 × mwM × mwL) → Option (mwM × mwL)) (v4 : Int32) (M : mwM) (L : mwL) : Option (mwM × mwL) :=
  fX13_fill_b121 fu k a1 a2 r44 v4 0 M L
noncomputable def fX13_fill_b116 (fu : Nat) (k : Nat) (a1 : Int32) (a2 : Int32) (r44 : (Int32 × Int32 × mwM × mwL) → Option (mwM × mwL)) (v4 : Int32) (M : mwM) (L : mwL) : Option (mwM × mwL) :=
  fX13_fill_b121 fu k a1 a2 r44 v4 1 M L
noncomputable def fX13_fill_b91 (fu : Nat) (k : Nat) (a1 : Int32) (a2 : Int32) (r44 : (Int32 × Int32 × mwM × mwL) → Option (mwM × mwL)) (v3 : Int32) (v4 : Int32) (M : mwM) (L : mwL) : Option (mwM × mwL) :=
  (if v3 = 0 then mck v4 201 ((if (M (k + 2) v4.toNatClampNeg) = a1 then mck v4 201 ((if (M (k + 27) v4.toNatClampNeg) = 0 then fX13_fill_b120 fu k a1 a2 r44 v4 M L else fX13_fill_b116 fu k a1 a2 r44 v4 M L)) else fX13_fill_b120 fu k a1 a2 r44 v4 M L)) else fX13_fill_b116 fu k a1 a2 r44 v4 M L)
noncomputable def fX13_fill_i44 (fu : Nat) (k : Nat) (a1 : Int32) (a2 : Int32) (r44 : (Int32 × Int32 × mwM × mwL) → Option (mwM × mwL)) (v3 : Int32) (v4 : Int32) (M : mwM) (L : mwL) : Option (mwM × mwL) :=
  (if (M k 2) < v4 then (if v3 = 0 then mck a1 201 ((if (M (k + 1) a1.toNatClampNeg) = 0 then mck a1 201 ((if (M (k + 29) a1.toNatClampNeg) = 0 then mck a1 201 ((if (M (k + 28) a1.toNatClampNeg) = 0 then fX13_fill_b178 fu k a1 a2 M L else fX13_fill_b160 fu k a1 a2 M L)) else fX13_fill_b160 fu k a1 a2 M L)) else fX13_fill_b141 fu k a1 a2 M L)) else fX13_fill_b141 fu k a1 a2 M L) else mck v4 201 ((if (M (k + 2) v4.toNatClampNeg) = a1 then mck a1 201 ((if (M (k + 1) a1.toNatClampNeg) = 1 then mb3 (DX13_mark fu k v4 M L) (fun r17 M15 L16 => (if r17 = 0 then mck v4 201 (mlet (mset M15 (k + 27) (v4.toNatClampNeg) (vp_nar .boolean 1)) (fun M20 => fX13_fill_b91 fu k a1 a2 r44 v3 v4 M20 L16)) else fX13_fill_b91 fu k a1 a2 r44 v3 v4 M15 L16)) else fX13_fill_b91 fu k a1 a2 r44 v3 v4 M L)) else fX13_fill_b91 fu k a1 a2 r44 v3 v4 M L)))
noncomputable def fX13_fill_h44 (fu : Nat) (k : Nat) (a1 : Int32) (a2 : Int32) : Nat → (Int32 × Int32 × mwM × mwL) → Option (mwM × mwL) := mloop (fun r44 s => fX13_fill_i44 fu k a1 a2 r44 s.1 s.2.1 s.2.2.1 s.2.2.2)
noncomputable def fX13_fill_b38 (fu : Nat) (k : Nat) (a1 : Int32) (a2 : Int32) (s2 : Int32) (M : mwM) (L : mwL) : Option (mwM × mwL) :=
  mck a1 201 (mlet (mset M (k + 29) (a1.toNatClampNeg) (vp_nar .boolean s2)) (fun M2 => fX13_fill_h44 fu k a1 a2 fu (0, 1, M2, L)))
noncomputable def fX13_fill_b33 (fu : Nat) (k : Nat) (a1 : Int32) (a2 : Int32) (M : mwM) (L : mwL) : Option (mwM × mwL) :=
  fX13_fill_b38 fu k a1 a2 1 M L
noncomputable def fX13_fill_b37 (fu : Nat) (k : Nat) (a1 : Int32) (a2 : Int32) (M : mwM) (L : mwL) : Option (mwM × mwL) :=
  fX13_fill_b38 fu k a1 a2 0 M L
noncomputable def DX13_fill (fu : Nat) (k : Nat) (a1 : Int32) (a2 : Int32) (M : mwM) (L : mwL) : Option (mwM × mwL) :=
  mck a1 201 ((if (M (k + 29) a1.toNatClampNeg) = 0 then (if a1 = a2 then fX13_fill_b37 fu k a1 a2 M L else mck a1 201 (mck (M (k + 2) a1.toNatClampNeg) 201 ((if (M (k + 29) (M (k + 2) a1.toNatClampNeg).toNatClampNeg) = 0 then fX13_fill_b37 fu k a1 a2 M L else fX13_fill_b33 fu k a1 a2 M L)))) else fX13_fill_b33 fu k a1 a2 M L))
noncomputable def fX13_enter_b251 (fu : Nat) (k : Nat) (a1 : Int32) (a2 : Int32) (a3 : Int64) (r163 : (Int32 × mwM × mwL) → Option (mwM × mwL)) (r173 : (Int32 × Int32 × mwM × mwL) → Option (mwM × mwL)) (v5 : Int32) (v6 : Int32) (M : mwM) (L : mwL) : Option (mwM × mwL) :=
  mlet (v6 + 1) (fun x51 => r173 (v5, x51, M, L))
noncomputable def fX13_enter_i173 (fu : Nat) (k : Nat) (a1 : Int32) (a2 : Int32) (a3 : Int64) (r163 : (Int32 × mwM × mwL) → Option (mwM × mwL)) (r173 : (Int32 × Int32 × mwM × mwL) → Option (mwM × mwL)) (v5 : Int32) (v6 : Int32) (M : mwM) (L : mwL) : Option (mwM × mwL) :=
  (if (M k 2) < v6 then mlet (v5 + 1) (fun x34 => r163 (x34, M, L)) else mck v6 201 ((if (M (k + 27) v6.toNatClampNeg) = 0 then fX13_enter_b251 fu k a1 a2 a3 r163 r173 v5 v6 M L else mck v6 201 ((if (M (k + 3) v6.toNatClampNeg) = v5 then mb2 (DX13_note fu k 3 v6 0 M L) (fun M39 L40 => mck v6 201 (mlet (mset M39 (k + 9) (v6.toNatClampNeg) (vp_nar .boolean 1)) (fun M42 => mck v6 201 (mlet (mset L40 (k + 6) (v6.toNatClampNeg) a3) (fun L44 => mck v6 201 (mlet (mset M42 (k + 7) (v6.toNatClampNeg) (vp_nar .boolean 0)) (fun M46 => mck v6 201 (mlet (mset M46 (k + 8) (v6.toNatClampNeg) (vp_nar .boolean 1)) (fun M48 => mb2 (DX13_doActs fu k v6 0 M48 L44) (fun M49 L50 => fX13_enter_b251 fu k a1 a2 a3 r163 r173 v5 v6 M49 L50)))))))))) else fX13_enter_b251 fu k a1 a2 a3 r163 r173 v5 v6 M L)))))
noncomputable def fX13_enter_h173 (fu : Nat) (k : Nat) (a1 : Int32) (a2 : Int32) (a3 : Int64) (r163 : (Int32 × mwM × mwL) → Option (mwM × mwL)) : Nat → (Int32 × Int32 × mwM × mwL) → Option (mwM × mwL) := mloop (fun r173 s => fX13_enter_i173 fu k a1 a2 a3 r163 r173 s.1 s.2.1 s.2.2.1 s.2.2.2)
noncomputable def fX13_enter_i163 (fu : Nat) (k : Nat) (a1 : Int32) (a2 : Int32) (a3 : Int64) (r163 : (Int32 × mwM × mwL) → Option (mwM × mwL)) (v5 : Int32) (M : mwM) (L : mwL) : Option (mwM × mwL) :=
  (if 42 ≤ v5 then some (M, L) else fX13_enter_h173 fu k a1 a2 a3 r163 fu (v5, 1, M, L))
noncomputable def fX13_enter_h163 (fu : Nat) (k : Nat) (a1 : Int32) (a2 : Int32) (a3 : Int64) : Nat → (Int32 × mwM × mwL) → Option (mwM × mwL) := mloop (fun r163 s => fX13_enter_i163 fu k a1 a2 a3 r163 s.1 s.2.1 s.2.2)
noncomputable def fX13_enter_b148 (fu : Nat) (k : Nat) (a1 : Int32) (a2 : Int32) (a3 : Int64) (r94 : (Int32 × mwM × mwL) → Option (mwM × mwL)) (r104 : (Int32 × Int32 × mwM × mwL) → Option (mwM × mwL)) (v5 : Int32) (v6 : Int32) (M : mwM) (L : mwL) : Option (mwM × mwL) :=
  mlet (v6 + 1) (fun x31 => r104 (v5, x31, M, L))
noncomputable def fX13_enter_b141 (fu : Nat) (k : Nat) (a1 : Int32) (a2 : Int32) (a3 : Int64) (r94 : (Int32 × mwM × mwL) → Option (mwM × mwL)) (r104 : (Int32 × Int32 × mwM × mwL) → Option (mwM × mwL)) (v5 : Int32) (v6 : Int32) (M : mwM) (L : mwL) : Option (mwM × mwL) :=
  mb2 (DX13_fill fu k v6 a1 M L) (fun M29 L30 => fX13_enter_b148 fu k a1 a2 a3 r94 r104 v5 v6 M29 L30)
noncomputable def fX13_enter_i104 (fu : Nat) (k : Nat) (a1 : Int32) (a2 : Int32) (a3 : Int64) (r94 : (Int32 × mwM × mwL) → Option (mwM × mwL)) (r104 : (Int32 × Int32 × mwM × mwL) → Option (mwM × mwL)) (v5 : Int32) (v6 : Int32) (M : mwM) (L : mwL) : Option (mwM × mwL) :=
  (if (M k 2) < v6 then mlet (v5 + 1) (fun x23 => r94 (x23, M, L)) else mck v6 201 ((if (M (k + 3) v6.toNatClampNeg) = v5 then (if v6 = a1 then fX13_enter_b141 fu k a1 a2 a3 r94 r104 v5 v6 M L else mck v6 201 ((if (M (k + 27) v6.toNatClampNeg) = 0 then fX13_enter_b148 fu k a1 a2 a3 r94 r104 v5 v6 M L else fX13_enter_b141 fu k a1 a2 a3 r94 r104 v5 v6 M L))) else fX13_enter_b148 fu k a1 a2 a3 r94 r104 v5 v6 M L)))
noncomputable def fX13_enter_h104 (fu : Nat) (k : Nat) (a1 : Int32) (a2 : Int32) (a3 : Int64) (r94 : (Int32 × mwM × mwL) → Option (mwM × mwL)) : Nat → (Int32 × Int32 × mwM × mwL) → Option (mwM × mwL) := mloop (fun r104 s => fX13_enter_i104 fu k a1 a2 a3 r94 r104 s.1 s.2.1 s.2.2.1 s.2.2.2)
noncomputable def fX13_enter_i94 (fu : Nat) (k : Nat) (a1 : Int32) (a2 : Int32) (a3 : Int64) (r94 : (Int32 × mwM × mwL) → Option (mwM × mwL)) (v5 : Int32) (M : mwM) (L : mwL) : Option (mwM × mwL) :=
  (if 42 ≤ v5 then fX13_enter_h163 fu k a1 a2 a3 fu (0, M, L) else fX13_enter_h104 fu k a1 a2 a3 r94 fu (v5, 0, M, L))
noncomputable def fX13_enter_h94 (fu : Nat) (k : Nat) (a1 : Int32) (a2 : Int32) (a3 : Int64) : Nat → (Int32 × mwM × mwL) → Option (mwM × mwL) := mloop (fun r94 s => fX13_enter_i94 fu k a1 a2 a3 r94 s.1 s.2.1 s.2.2)
noncomputable def fX13_enter_b86 (fu : Nat) (k : Nat) (a1 : Int32) (a2 : Int32) (a3 : Int64) (M : mwM) (L : mwL) : Option (mwM × mwL) :=
  mck a1 201 (mlet (M (k + 3) a1.toNatClampNeg) (fun x20 => fX13_enter_h94 fu k a1 a2 a3 fu (x20, M, L)))
noncomputable def fX13_enter_b80 (fu : Nat) (k : Nat) (a1 : Int32) (a2 : Int32) (a3 : Int64) (r45 : (Int32 × mwM × mwL) → Option (mwM × mwL)) (v5 : Int32) (M : mwM) (L : mwL) : Option (mwM × mwL) :=
  mlet (v5 + 1) (fun x18 => r45 (x18, M, L))
noncomputable def fX13_enter_i45 (fu : Nat) (k : Nat) (a1 : Int32) (a2 : Int32) (a3 : Int64) (r45 : (Int32 × mwM × mwL) → Option (mwM × mwL)) (v5 : Int32) (M : mwM) (L : mwL) : Option (mwM × mwL) :=
  (if (M k 12) < v5 then fX13_enter_b86 fu k a1 a2 a3 M L else (if a2 ≤ 0 then fX13_enter_b86 fu k a1 a2 a3 M L else mb3 (DX13_saysTarget fu k a2 v5 M L) (fun r13 M11 L12 => (if r13 = 0 then fX13_enter_b80 fu k a1 a2 a3 r45 v5 M11 L12 else mck v5 401 (mb2 (DX13_aim fu k a1 (M11 (k + 11) v5.toNatClampNeg) M11 L12) (fun M16 L17 => fX13_enter_b80 fu k a1 a2 a3 r45 v5 M16 L17))))))
noncomputable def fX13_enter_h45 (fu : Nat) (k : Nat) (a1 : Int32) (a2 : Int32) (a3 : Int64) : Nat → (Int32 × mwM × mwL) → Option (mwM × mwL) := mloop (fun r45 s => fX13_enter_i45 fu k a1 a2 a3 r45 s.1 s.2.1 s.2.2)
noncomputable def fX13_enter_i3 (fu : Nat) (k : Nat) (a1 : Int32) (a2 : Int32) (a3 : Int64) (r3 : (Int32 × mwM × mwL) → Option (mwM × mwL)) (v5 : Int32) (M : mwM) (L : mwL) : Option (mwM × mwL) :=
  (if (M k 2) < v5 then fX13_enter_h45 fu k a1 a2 a3 fu (1, M, L) else mck v5 201 (mlet (mset M (k + 27) (v5.toNatClampNeg) (vp_nar .boolean 0)) (fun M3 => mck v5 201 (mlet (mset M3 (k + 28) (v5.toNatClampNeg) (vp_nar .boolean 0)) (fun M5 => mck v5 201 (mlet (mset M5 (k + 29) (v5.toNatClampNeg) (vp_nar .boolean 0)) (fun M7 => mlet (v5 + 1) (fun x8 => r3 (x8, M7, L)))))))))
noncomputable def fX13_enter_h3 (fu : Nat) (k : Nat) (a1 : Int32) (a2 : Int32) (a3 : Int64) : Nat → (Int32 × mwM × mwL) → Option (mwM × mwL) := mloop (fun r3 s => fX13_enter_i3 fu k a1 a2 a3 r3 s.1 s.2.1 s.2.2)
noncomputable def DX13_enter (fu : Nat) (k : Nat) (a1 : Int32) (a2 : Int32) (a3 : Int64) (M : mwM) (L : mwL) : Option (mwM × mwL) :=
  fX13_enter_h3 fu k a1 a2 a3 fu (0, M, L)
noncomputable def fX13_take_b145 (fu : Nat) (k : Nat) (a1 : Int32) (a2 : Int64) (r83 : (Int32 × Int32 × mwM × mwL) → Option (mwM × mwL)) (r91 : (Int32 × Int32 × Int32 × mwM × mwL) → Option (mwM × mwL)) (v4 : Int32) (v5 : Int32) (v6 : Int32) (M : mwM) (L : mwL) : Option (mwM × mwL) :=
  mlet (v6 + 1) (fun x29 => r91 (v4, v5, x29, M, L))
noncomputable def fX13_take_i91 (fu : Nat) (k : Nat) (a1 : Int32) (a2 : Int64) (r83 : (Int32 × Int32 × mwM × mwL) → Option (mwM × mwL)) (r91 : (Int32 × Int32 × Int32 × mwM × mwL) → Option (mwM × mwL)) (v4 : Int32) (v5 : Int32) (v6 : Int32) (M : mwM) (L : mwL) : Option (mwM × mwL) :=
  (if (M k 2) < v6 then mlet (v5 + (-1)) (fun x18 => r83 (v4, x18, M, L)) else mck v6 201 ((if (M (k + 26) v6.toNatClampNeg) = 0 then fX13_take_b145 fu k a1 a2 r83 r91 v4 v5 v6 M L else mck v6 201 ((if (M (k + 3) v6.toNatClampNeg) = v5 then mb2 (DX13_note fu k 1 v6 0 M L) (fun M23 L24 => mck v6 201 (mlet (mset M23 (k + 9) (v6.toNatClampNeg) (vp_nar .boolean 0)) (fun M26 => mb2 (DX13_doActs fu k v6 1 M26 L24) (fun M27 L28 => fX13_take_b145 fu k a1 a2 r83 r91 v4 v5 v6 M27 L28)))) else fX13_take_b145 fu k a1 a2 r83 r91 v4 v5 v6 M L)))))
noncomputable def fX13_take_h91 (fu : Nat) (k : Nat) (a1 : Int32) (a2 : Int64) (r83 : (Int32 × Int32 × mwM × mwL) → Option (mwM × mwL)) : Nat → (Int32 × Int32 × Int32 × mwM × mwL) → Option (mwM × mwL) := mloop (fun r91 s => fX13_take_i91 fu k a1 a2 r83 r91 s.1 s.2.1 s.2.2.1 s.2.2.2.1 s.2.2.2.2)
noncomputable def fX13_take_i83 (fu : Nat) (k : Nat) (a1 : Int32) (a2 : Int64) (r83 : (Int32 × Int32 × mwM × mwL) → Option (mwM × mwL)) (v4 : Int32) (v5 : Int32) (M : mwM) (L : mwL) : Option (mwM × mwL) :=
  (if v5 ≤ 0 then mb2 (DX13_doActs fu k a1 2 M L) (fun M13 L14 => mb2 (DX13_enter fu k v4 a1 a2 M13 L14) (fun M15 L16 => some (M15, L16))) else fX13_take_h91 fu k a1 a2 r83 fu (v4, v5, 1, M, L))
noncomputable def fX13_take_h83 (fu : Nat) (k : Nat) (a1 : Int32) (a2 : Int64) : Nat → (Int32 × Int32 × mwM × mwL) → Option (mwM × mwL) := mloop (fun r83 s => fX13_take_i83 fu k a1 a2 r83 s.1 s.2.1 s.2.2.1 s.2.2.2)
noncomputable def fX13_take_b73 (fu : Nat) (k : Nat) (a1 : Int32) (a2 : Int64) (r30 : (Int32 × Int32 × mwM × mwL) → Option (mwM × mwL)) (v4 : Int32) (v5 : Int32) (M : mwM) (L : mwL) : Option (mwM × mwL) :=
  mlet (v5 + 1) (fun x11 => r30 (v4, x11, M, L))
noncomputable def fX13_take_i30 (fu : Nat) (k : Nat) (a1 : Int32) (a2 : Int64) (r30 : (Int32 × Int32 × mwM × mwL) → Option (mwM × mwL)) (v4 : Int32) (v5 : Int32) (M : mwM) (L : mwL) : Option (mwM × mwL) :=
  (if (M k 2) < v5 then fX13_take_h83 fu k a1 a2 fu (v4, 41, M, L) else mck v5 201 ((if (M (k + 26) v5.toNatClampNeg) = 0 then fX13_take_b73 fu k a1 a2 r30 v4 v5 M L else mck v5 201 ((if (M (k + 1) v5.toNatClampNeg) = 0 then mb3 (DX13_child fu k v5 1 M L) (fun r8 M6 L7 => mck v5 201 (mlet (mset M6 (k + 4) (v5.toNatClampNeg) r8) (fun M10 => fX13_take_b73 fu k a1 a2 r30 v4 v5 M10 L7))) else fX13_take_b73 fu k a1 a2 r30 v4 v5 M L)))))
noncomputable def fX13_take_h30 (fu : Nat) (k : Nat) (a1 : Int32) (a2 : Int64) : Nat → (Int32 × Int32 × mwM × mwL) → Option (mwM × mwL) := mloop (fun r30 s => fX13_take_i30 fu k a1 a2 r30 s.1 s.2.1 s.2.2.1 s.2.2.2)
noncomputable def DX13_take (fu : Nat) (k : Nat) (a1 : Int32) (a2 : Int64) (M : mwM) (L : mwL) : Option (mwM × mwL) :=
  mb2 (DX13_note fu k 4 a1 0 M L) (fun M30 L31 => mck a1 401 (mlet (mset M30 (k + 14) (a1.toNatClampNeg) (vp_nar .boolean 1)) (fun M33 => mb3 (DX13_domain fu k a1 M33 L31) (fun r36 M34 L35 => mb2 (DX13_findExits fu k r36 M34 L35) (fun M37 L38 => fX13_take_h30 fu k a1 a2 fu (r36, 1, M37, L38))))))
noncomputable def fX13_step_i2 (fu : Nat) (k : Nat) (a1 : Int64) (r2 : (Int32 × mwM × mwL) → Option (Int32 × mwM × mwL)) (v3 : Int32) (M : mwM) (L : mwL) : Option (Int32 × mwM × mwL) :=
  (if (M k 35) ≤ v3 then some (M k 35, M, L) else mck v3 400 (mb2 (DX13_take fu k (M (k + 24) v3.toNatClampNeg) a1 M L) (fun M3 L4 => mlet (v3 + 1) (fun x5 => r2 (x5, M3, L4)))))
noncomputable def fX13_step_h2 (fu : Nat) (k : Nat) (a1 : Int64) : Nat → (Int32 × mwM × mwL) → Option (Int32 × mwM × mwL) := mloop (fun r2 s => fX13_step_i2 fu k a1 r2 s.1 s.2.1 s.2.2)
noncomputable def DX13_step (fu : Nat) (k : Nat) (a1 : Int64) (M : mwM) (L : mwL) : Option (Int32 × mwM × mwL) :=
  fX13_step_h2 fu k a1 fu (0, M, L)
noncomputable def fX13_chain_i5 (fu : Nat) (k : Nat) (a1 : Int64) (r5 : (Int32 × Int32 × mwM × mwL) → Option (Int32 × mwM × mwL)) (v3 : Int32) (v4 : Int32) (M : mwM) (L : mwL) : Option (Int32 × mwM × mwL) :=
  mb3 (DX13_choose fu k 0 M L) (fun r3 M1 L2 => (if r3 ≤ 0 then some (v3, M1, L2) else (if v4 = (M1 k 1) then mb2 (DX13_note fu k 6 0 0 M1 L2) (fun M11 L12 => some ((-1), M11, L12)) else mb3 (DX13_step fu k a1 M1 L2) (fun r8 M6 L7 => mlet (v3 + r8) (fun x9 => mlet (v4 + 1) (fun x10 => r5 (x9, x10, M6, L7)))))))
noncomputable def fX13_chain_h5 (fu : Nat) (k : Nat) (a1 : Int64) : Nat → (Int32 × Int32 × mwM × mwL) → Option (Int32 × mwM × mwL) := mloop (fun r5 s => fX13_chain_i5 fu k a1 r5 s.1 s.2.1 s.2.2.1 s.2.2.2)
noncomputable def DX13_chain (fu : Nat) (k : Nat) (a1 : Int64) (M : mwM) (L : mwL) : Option (Int32 × mwM × mwL) :=
  fX13_chain_h5 fu k a1 fu (0, 0, M, L)
noncomputable def fX13_due_b120 (fu : Nat) (k : Nat) (a1 : Int64) (r5 : (Int32 × Int32 × mwM × mwL) → Option (Int32 × mwM × mwL)) (v4 : Int32) (s0 : Int32) (M : mwM) (L : mwL) : Option (Int32 × mwM × mwL) :=
  mlet (v4 + 1) (fun x18 => r5 (s0, x18, M, L))
noncomputable def fX13_due_b119 (fu : Nat) (k : Nat) (a1 : Int64) (r5 : (Int32 × Int32 × mwM × mwL) → Option (Int32 × mwM × mwL)) (v3 : Int32) (v4 : Int32) (M : mwM) (L : mwL) : Option (Int32 × mwM × mwL) :=
  fX13_due_b120 fu k a1 r5 v4 v3 M L
noncomputable def fX13_due_b114 (fu : Nat) (k : Nat) (a1 : Int64) (r5 : (Int32 × Int32 × mwM × mwL) → Option (Int32 × mwM × mwL)) (v4 : Int32) (M : mwM) (L : mwL) : Option (Int32 × mwM × mwL) :=
  fX13_due_b120 fu k a1 r5 v4 v4 M L
noncomputable def fX13_due_b71 (fu : Nat) (k : Nat) (a1 : Int64) (r5 : (Int32 × Int32 × mwM × mwL) → Option (Int32 × mwM × mwL)) (v3 : Int32) (v4 : Int32) (s0 : Int32) (M : mwM) (L : mwL) : Option (Int32 × mwM × mwL) :=
  (if s0 = 0 then fX13_due_b119 fu k a1 r5 v3 v4 M L else (if v3 = 0 then fX13_due_b114 fu k a1 r5 v4 M L else mck v4 201 (mck v4 201 (mck v3 201 (mck v3 201 ((if 0 ≤ (lg_cmp ((L (k + 6) v4.toNatClampNeg) + (L (k + 5) v4.toNatClampNeg)) ((L (k + 6) v3.toNatClampNeg) + (L (k + 5) v3.toNatClampNeg))) then fX13_due_b119 fu k a1 r5 v3 v4 M L else fX13_due_b114 fu k a1 r5 v4 M L)))))))
noncomputable def fX13_due_b70 (fu : Nat) (k : Nat) (a1 : Int64) (r5 : (Int32 × Int32 × mwM × mwL) → Option (Int32 × mwM × mwL)) (v3 : Int32) (v4 : Int32) (M : mwM) (L : mwL) : Option (Int32 × mwM × mwL) :=
  fX13_due_b71 fu k a1 r5 v3 v4 0 M L
noncomputable def fX13_due_i5 (fu : Nat) (k : Nat) (a1 : Int64) (r5 : (Int32 × Int32 × mwM × mwL) → Option (Int32 × mwM × mwL)) (v3 : Int32) (v4 : Int32) (M : mwM) (L : mwL) : Option (Int32 × mwM × mwL) :=
  (if (M k 2) < v4 then some (v3, M, L) else mck v4 201 ((if (M (k + 9) v4.toNatClampNeg) = 0 then fX13_due_b70 fu k a1 r5 v3 v4 M L else mck v4 201 ((if (lg_cmp (L (k + 5) v4.toNatClampNeg) 0) ≤ 0 then fX13_due_b70 fu k a1 r5 v3 v4 M L else mck v4 201 ((if (M (k + 7) v4.toNatClampNeg) = 0 then mck v4 201 (mck v4 201 ((if 0 < (lg_cmp ((L (k + 6) v4.toNatClampNeg) + (L (k + 5) v4.toNatClampNeg)) a1) then fX13_due_b70 fu k a1 r5 v3 v4 M L else fX13_due_b71 fu k a1 r5 v3 v4 1 M L))) else fX13_due_b70 fu k a1 r5 v3 v4 M L)))))))
noncomputable def fX13_due_h5 (fu : Nat) (k : Nat) (a1 : Int64) : Nat → (Int32 × Int32 × mwM × mwL) → Option (Int32 × mwM × mwL) := mloop (fun r5 s => fX13_due_i5 fu k a1 r5 s.1 s.2.1 s.2.2.1 s.2.2.2)
noncomputable def DX13_due (fu : Nat) (k : Nat) (a1 : Int64) (M : mwM) (L : mwL) : Option (Int32 × mwM × mwL) :=
  fX13_due_h5 fu k a1 fu (0, 1, M, L)
noncomputable def fX13_event_b39 (fu : Nat) (k : Nat) (a1 : Int32) (a2 : Int64) (M : mwM) (L : mwL) : Option (Int32 × mwM × mwL) :=
  some ((-2), M, L)
noncomputable def fX13_event_b290 (fu : Nat) (k : Nat) (a1 : Int32) (a2 : Int64) (s0 : Int32) (M : mwM) (L : mwL) : Option (Int32 × mwM × mwL) :=
  some (s0, M, L)
noncomputable def fX13_event_b256 (fu : Nat) (k : Nat) (a1 : Int32) (a2 : Int64) (v4 : Int32) (s1 : Int32) (M : mwM) (L : mwL) : Option (Int32 × mwM × mwL) :=
  mlet (mset M k 29 s1) (fun M34 => mb3 (DX13_step fu k a2 M34 L) (fun r37 M35 L36 => mlet (v4 + r37) (fun x38 => mb3 (DX13_chain fu k a2 M35 L36) (fun r41 M39 L40 => (if 0 ≤ r41 then fX13_event_b290 fu k a1 a2 (x38 + r41) M39 L40 else fX13_event_b290 fu k a1 a2 ((-1)) M39 L40)))))
noncomputable def fX13_event_i117 (fu : Nat) (k : Nat) (a1 : Int32) (a2 : Int64) (r117 : (Int32 × Int32 × Int32 × mwM × mwL) → Option (Int32 × mwM × mwL)) (v4 : Int32) (v5 : Int32) (v6 : Int32) (M : mwM) (L : mwL) : Option (Int32 × mwM × mwL) :=
  (if v5 ≤ 0 then (if a1 = 0 then some (v4, M, L) else mb3 (DX13_choose fu k a1 M L) (fun r8 M6 L7 => (if r8 = 0 then fX13_event_b256 fu k a1 a2 v4 ((M6 k 29) + 1) M6 L7 else fX13_event_b256 fu k a1 a2 v4 (M6 k 29) M6 L7))) else (if v6 = 1000 then mb2 (DX13_note fu k 6 0 0 M L) (fun M32 L33 => some ((-1), M32, L33)) else mlet (v6 + 1) (fun x11 => mck v5 201 (mlet (mset M (k + 7) (v5.toNatClampNeg) (vp_nar .boolean 1)) (fun M13 => mck v5 201 (mck v5 201 (mlet ((L (k + 6) v5.toNatClampNeg) + (L (k + 5) v5.toNatClampNeg)) (fun x16 => mb3 (DX13_choose fu k (1000 + v5) M13 L) (fun r19 M17 L18 => mb3 (DX13_step fu k x16 M17 L18) (fun r22 M20 L21 => mlet (v4 + r22) (fun x23 => mb3 (DX13_chain fu k x16 M20 L21) (fun r26 M24 L25 => (if 0 ≤ r26 then mlet (x23 + r26) (fun x28 => mb3 (DX13_due fu k a2 M24 L25) (fun r31 M29 L30 => r117 (x28, r31, x11, M29, L30))) else some ((-1), M24, L25))))))))))))))
noncomputable def fX13_event_h117 (fu : Nat) (k : Nat) (a1 : Int32) (a2 : Int64) : Nat → (Int32 × Int32 × Int32 × mwM × mwL) → Option (Int32 × mwM × mwL) := mloop (fun r117 s => fX13_event_i117 fu k a1 a2 r117 s.1 s.2.1 s.2.2.1 s.2.2.2.1 s.2.2.2.2)
noncomputable def fX13_event_b107 (fu : Nat) (k : Nat) (a1 : Int32) (a2 : Int64) (v4 : Int32) (M : mwM) (L : mwL) : Option (Int32 × mwM × mwL) :=
  mb3 (DX13_due fu k a2 M L) (fun r3 M1 L2 => fX13_event_h117 fu k a1 a2 fu (v4, r3, 0, M1, L2))
noncomputable def DX13_event (fu : Nat) (k : Nat) (a1 : Int32) (a2 : Int64) (M : mwM) (L : mwL) : Option (Int32 × mwM × mwL) :=
  mlet (mset M k 0 0) (fun M43 => (if a1 < 0 then fX13_event_b39 fu k a1 a2 M43 L else (if 999 < a1 then fX13_event_b39 fu k a1 a2 M43 L else (if (lg_cmp a2 (L k 28)) < 0 then fX13_event_b39 fu k a1 a2 M43 L else (if (lg_cmp a2 0) < 0 then fX13_event_b39 fu k a1 a2 M43 L else (if (lg_cmp a2 4611686018427387904) ≤ 0 then mb3 (DX13_child fu k 0 0 M43 L) (fun r51 M49 L50 => (if r51 = 0 then some ((-3), M49, L50) else mlet (mset M49 k 31 0) (fun M53 => mlet (mset L50 k 28 a2) (fun L54 => (if (M53 k 27) = 0 then mlet (mset M53 k 27 1) (fun M56 => mlet (mset M56 (k + 9) ((0 : Int32).toNatClampNeg) (vp_nar .boolean 1)) (fun M58 => mb2 (DX13_enter fu k 0 0 a2 M58 L54) (fun M59 L60 => mb3 (DX13_chain fu k a2 M59 L60) (fun r63 M61 L62 => (if 0 ≤ r63 then fX13_event_b107 fu k a1 a2 r63 M61 L62 else some ((-1), M61, L62)))))) else fX13_event_b107 fu k a1 a2 0 M53 L54))))) else fX13_event_b39 fu k a1 a2 M43 L))))))
noncomputable def fX13_active_b66 (fu : Nat) (k : Nat) (a1 : Int32) (v2 : Int32) (M : mwM) (L : mwL) : Option (Int32 × mwM × mwL) :=
  some (v2, M, L)
noncomputable def fX13_active_i38 (fu : Nat) (k : Nat) (a1 : Int32) (r38 : (Int32 × mwM × mwL) → Option (Int32 × mwM × mwL)) (v2 : Int32) (M : mwM) (L : mwL) : Option (Int32 × mwM × mwL) :=
  mck v2 201 ((if (M (k + 1) v2.toNatClampNeg) = 0 then mb3 (DX13_child fu k v2 1 M L) (fun r5 M3 L4 => (if r5 ≤ 0 then fX13_active_b66 fu k a1 v2 M3 L4 else mb3 (DX13_child fu k v2 1 M3 L4) (fun r9 M7 L8 => r38 (r9, M7, L8)))) else fX13_active_b66 fu k a1 v2 M L))
noncomputable def fX13_active_h38 (fu : Nat) (k : Nat) (a1 : Int32) : Nat → (Int32 × mwM × mwL) → Option (Int32 × mwM × mwL) := mloop (fun r38 s => fX13_active_i38 fu k a1 r38 s.1 s.2.1 s.2.2)
noncomputable def DX13_active (fu : Nat) (k : Nat) (a1 : Int32) (M : mwM) (L : mwL) : Option (Int32 × mwM × mwL) :=
  mlet (mset M k 0 0) (fun M10 => mb3 (DX13_none fu k a1 M10 L) (fun r13 M11 L12 => (if r13 = 0 then (if (M11 k 27) = 0 then some ((-3), M11, L12) else mck a1 201 ((if (M11 (k + 9) a1.toNatClampNeg) = 0 then some (0, M11, L12) else fX13_active_h38 fu k a1 fu (a1, M11, L12)))) else some ((-1), M11, L12))))
noncomputable def fX13_value_b25 (fu : Nat) (k : Nat) (a1 : Int32) (s0 : Int64) (M : mwM) (L : mwL) : Option (Int64 × mwM × mwL) :=
  some (s0, M, L)
noncomputable def fX13_value_b15 (fu : Nat) (k : Nat) (a1 : Int32) (M : mwM) (L : mwL) : Option (Int64 × mwM × mwL) :=
  fX13_value_b25 fu k a1 0 M L
noncomputable def DX13_value (fu : Nat) (k : Nat) (a1 : Int32) (M : mwM) (L : mwL) : Option (Int64 × mwM × mwL) :=
  mlet (mset M k 0 0) (fun M1 => (if a1 < 0 then fX13_value_b15 fu k a1 M1 L else (if a1 ≤ 31 then mck a1 32 (fX13_value_b25 fu k a1 (L (k + 21) a1.toNatClampNeg) M1 L) else fX13_value_b15 fu k a1 M1 L)))
noncomputable def DX13_dropped (fu : Nat) (k : Nat) (M : mwM) (L : mwL) : Option (Int32 × mwM × mwL) :=
  mlet (mset M k 0 0) (fun M1 => some (M1 k 29, M1, L))
noncomputable def fX13_covered_b14 (fu : Nat) (k : Nat) (a1 : Int32) (M : mwM) (L : mwL) : Option (Int32 × mwM × mwL) :=
  some ((-2), M, L)
noncomputable def fX13_covered_b137 (fu : Nat) (k : Nat) (a1 : Int32) (v2 : Int32) (M : mwM) (L : mwL) : Option (Int32 × mwM × mwL) :=
  some (v2, M, L)
noncomputable def fX13_covered_b130 (fu : Nat) (k : Nat) (a1 : Int32) (r68 : (Int32 × Int32 × mwM × mwL) → Option (Int32 × mwM × mwL)) (v3 : Int32) (s0 : Int32) (M : mwM) (L : mwL) : Option (Int32 × mwM × mwL) :=
  mlet (v3 + 1) (fun x16 => r68 (s0, x16, M, L))
noncomputable def fX13_covered_b129 (fu : Nat) (k : Nat) (a1 : Int32) (r68 : (Int32 × Int32 × mwM × mwL) → Option (Int32 × mwM × mwL)) (v2 : Int32) (v3 : Int32) (M : mwM) (L : mwL) : Option (Int32 × mwM × mwL) :=
  fX13_covered_b130 fu k a1 r68 v3 v2 M L
noncomputable def fX13_covered_b123 (fu : Nat) (k : Nat) (a1 : Int32) (r68 : (Int32 × Int32 × mwM × mwL) → Option (Int32 × mwM × mwL)) (v2 : Int32) (v3 : Int32) (M : mwM) (L : mwL) : Option (Int32 × mwM × mwL) :=
  fX13_covered_b130 fu k a1 r68 v3 (v2 + 1) M L
noncomputable def fX13_covered_i68 (fu : Nat) (k : Nat) (a1 : Int32) (r68 : (Int32 × Int32 × mwM × mwL) → Option (Int32 × mwM × mwL)) (v2 : Int32) (v3 : Int32) (M : mwM) (L : mwL) : Option (Int32 × mwM × mwL) :=
  (if (M k 12) < v3 then fX13_covered_b137 fu k a1 v2 M L else (if a1 ≤ 0 then fX13_covered_b137 fu k a1 v2 M L else (if a1 = 1 then mck v3 401 ((if (M (k + 14) v3.toNatClampNeg) = 0 then fX13_covered_b129 fu k a1 r68 v2 v3 M L else fX13_covered_b123 fu k a1 r68 v2 v3 M L)) else (if a1 = 2 then mck v3 401 ((if (M (k + 15) v3.toNatClampNeg) = 0 then fX13_covered_b129 fu k a1 r68 v2 v3 M L else fX13_covered_b123 fu k a1 r68 v2 v3 M L)) else mck v3 401 ((if (M (k + 16) v3.toNatClampNeg) = 0 then fX13_covered_b129 fu k a1 r68 v2 v3 M L else fX13_covered_b123 fu k a1 r68 v2 v3 M L))))))
noncomputable def fX13_covered_h68 (fu : Nat) (k : Nat) (a1 : Int32) : Nat → (Int32 × Int32 × mwM × mwL) → Option (Int32 × mwM × mwL) := mloop (fun r68 s => fX13_covered_i68 fu k a1 r68 s.1 s.2.1 s.2.2.1 s.2.2.2)
noncomputable def fX13_covered_b66 (fu : Nat) (k : Nat) (a1 : Int32) (v2 : Int32) (M : mwM) (L : mwL) : Option (Int32 × mwM × mwL) :=
  fX13_covered_h68 fu k a1 fu (v2, 1, M, L)
noncomputable def fX13_covered_b59 (fu : Nat) (k : Nat) (a1 : Int32) (r31 : (Int32 × Int32 × mwM × mwL) → Option (Int32 × mwM × mwL)) (v3 : Int32) (s0 : Int32) (M : mwM) (L : mwL) : Option (Int32 × mwM × mwL) :=
  mlet (v3 + 1) (fun x5 => r31 (s0, x5, M, L))
noncomputable def fX13_covered_i31 (fu : Nat) (k : Nat) (a1 : Int32) (r31 : (Int32 × Int32 × mwM × mwL) → Option (Int32 × mwM × mwL)) (v2 : Int32) (v3 : Int32) (M : mwM) (L : mwL) : Option (Int32 × mwM × mwL) :=
  (if (M k 2) < v3 then fX13_covered_b66 fu k a1 v2 M L else (if a1 = 0 then mck v3 201 ((if (M (k + 8) v3.toNatClampNeg) = 0 then fX13_covered_b59 fu k a1 r31 v3 v2 M L else fX13_covered_b59 fu k a1 r31 v3 (v2 + 1) M L)) else fX13_covered_b66 fu k a1 v2 M L))
noncomputable def fX13_covered_h31 (fu : Nat) (k : Nat) (a1 : Int32) : Nat → (Int32 × Int32 × mwM × mwL) → Option (Int32 × mwM × mwL) := mloop (fun r31 s => fX13_covered_i31 fu k a1 r31 s.1 s.2.1 s.2.2.1 s.2.2.2)
noncomputable def DX13_covered (fu : Nat) (k : Nat) (a1 : Int32) (M : mwM) (L : mwL) : Option (Int32 × mwM × mwL) :=
  mlet (mset M k 0 0) (fun M17 => (if a1 < 0 then fX13_covered_b14 fu k a1 M17 L else (if a1 ≤ 4 then (if a1 = 4 then some (M17 k 30, M17, L) else fX13_covered_h31 fu k a1 fu (0, 1, M17, L)) else fX13_covered_b14 fu k a1 M17 L)))
noncomputable def DX14_substitute (fu : Nat) (a1 : Int32) (M : mwM) (L : mwL) : Option (Int32 × mwM × mwL) :=
  mck a1 256 (some (M 868 a1.toNatClampNeg, M, L))
noncomputable def fX14_noKey_b23 (fu : Nat) (a1 : Int32) (s0 : Int32) (M : mwM) (L : mwL) : Option (Int32 × mwM × mwL) :=
  mzz s0 (some (s0, M, L))
noncomputable def fX14_noKey_b18 (fu : Nat) (a1 : Int32) (M : mwM) (L : mwL) : Option (Int32 × mwM × mwL) :=
  fX14_noKey_b23 fu a1 1 M L
noncomputable def DX14_noKey (fu : Nat) (a1 : Int32) (M : mwM) (L : mwL) : Option (Int32 × mwM × mwL) :=
  mlet (mset M 854 0 0) (fun M2 => (if a1 < 1 then fX14_noKey_b18 fu a1 M2 L else (if a1 ≤ (M2 854 1) then fX14_noKey_b23 fu a1 0 M2 L else fX14_noKey_b18 fu a1 M2 L)))
noncomputable def fX14_product_b54 (fu : Nat) (a1 : Int32) (a2 : Int32) (r7 : (Int32 × Int32 × Int32 × mwM × mwL) → Option (Int32 × mwM × mwL)) (v2 : Int32) (v4 : Int32) (s0 : Int32) (M : mwM) (L : mwL) : Option (Int32 × mwM × mwL) :=
  mlet (v4 + 1) (fun x4 => r7 (v2, s0, x4, M, L))
noncomputable def fX14_product_b31 (fu : Nat) (a1 : Int32) (a2 : Int32) (r7 : (Int32 × Int32 × Int32 × mwM × mwL) → Option (Int32 × mwM × mwL)) (v3 : Int32) (v4 : Int32) (s0 : Int32) (M : mwM) (L : mwL) : Option (Int32 × mwM × mwL) :=
  (if v3 ≤ 127 then fX14_product_b54 fu a1 a2 r7 s0 v4 (2 * v3) M L else fX14_product_b54 fu a1 a2 r7 s0 v4 (((2 * v3) - 256) ^^^ 27) M L)
noncomputable def fX14_product_i7 (fu : Nat) (a1 : Int32) (a2 : Int32) (r7 : (Int32 × Int32 × Int32 × mwM × mwL) → Option (Int32 × mwM × mwL)) (v2 : Int32) (v3 : Int32) (v4 : Int32) (M : mwM) (L : mwL) : Option (Int32 × mwM × mwL) :=
  (if 8 ≤ v4 then some (v2, M, L) else (if ((a2 >>> (v4 &&& 31)) &&& 1) = 1 then fX14_product_b31 fu a1 a2 r7 v3 v4 (v2 ^^^ v3) M L else fX14_product_b31 fu a1 a2 r7 v3 v4 v2 M L))
noncomputable def fX14_product_h7 (fu : Nat) (a1 : Int32) (a2 : Int32) : Nat → (Int32 × Int32 × Int32 × mwM × mwL) → Option (Int32 × mwM × mwL) := mloop (fun r7 s => fX14_product_i7 fu a1 a2 r7 s.1 s.2.1 s.2.2.1 s.2.2.2.1 s.2.2.2.2)
noncomputable def DX14_product (fu : Nat) (a1 : Int32) (a2 : Int32) (M : mwM) (L : mwL) : Option (Int32 × mwM × mwL) :=
  fX14_product_h7 fu a1 a2 fu (0, a1, 0, M, L)
noncomputable def fX14_substituteOf_i26 (fu : Nat) (a1 : Int32) (r26 : (Int32 × Int32 × Int32 × mwM × mwL) → Option (Int32 × mwM × mwL)) (v1 : Int32) (v2 : Int32) (v3 : Int32) (M : mwM) (L : mwL) : Option (Int32 × mwM × mwL) :=
  (if 5 ≤ v3 then some (v2, M, L) else mlet (v2 ^^^ (((v1 <<< (v3 &&& 31)) ||| (v1 >>> ((8 - v3) &&& 31))) &&& 255)) (fun x8 => mlet (v3 + 1) (fun x9 => r26 (v1, x8, x9, M, L))))
noncomputable def fX14_substituteOf_h26 (fu : Nat) (a1 : Int32) : Nat → (Int32 × Int32 × Int32 × mwM × mwL) → Option (Int32 × mwM × mwL) := mloop (fun r26 s => fX14_substituteOf_i26 fu a1 r26 s.1 s.2.1 s.2.2.1 s.2.2.2.1 s.2.2.2.2)
noncomputable def fX14_substituteOf_b21 (fu : Nat) (a1 : Int32) (v1 : Int32) (M : mwM) (L : mwL) : Option (Int32 × mwM × mwL) :=
  fX14_substituteOf_h26 fu a1 fu (v1, 99, 0, M, L)
noncomputable def fX14_substituteOf_i2 (fu : Nat) (a1 : Int32) (r2 : (Int32 × mwM × mwL) → Option (Int32 × mwM × mwL)) (v1 : Int32) (M : mwM) (L : mwL) : Option (Int32 × mwM × mwL) :=
  (if a1 ≤ 0 then fX14_substituteOf_b21 fu a1 v1 M L else mb3 (DX14_product fu a1 v1 M L) (fun r4 M2 L3 => (if r4 = 1 then fX14_substituteOf_b21 fu a1 v1 M2 L3 else mlet (v1 + 1) (fun x6 => r2 (x6, M2, L3)))))
noncomputable def fX14_substituteOf_h2 (fu : Nat) (a1 : Int32) : Nat → (Int32 × mwM × mwL) → Option (Int32 × mwM × mwL) := mloop (fun r2 s => fX14_substituteOf_i2 fu a1 r2 s.1 s.2.1 s.2.2)
noncomputable def DX14_substituteOf (fu : Nat) (a1 : Int32) (M : mwM) (L : mwL) : Option (Int32 × mwM × mwL) :=
  fX14_substituteOf_h2 fu a1 fu (0, M, L)
noncomputable def fX14_makeRound_b140 (fu : Nat) (a1 : Int32) (r33 : (Int32 × Int32 × mwM × mwL) → Option (mwM × mwL)) (v3 : Int32) (v6 : Int32) (s0 : Int32) (M : mwM) (L : mwL) : Option (mwM × mwL) :=
  mck (v3 - 16) 176 (mck v3 176 (mlet (mset M 865 (v3.toNatClampNeg) ((M 865 (v3 - 16).toNatClampNeg) ^^^ v6)) (fun M27 => mlet (v3 + 1) (fun x28 => r33 (s0, x28, M27, L)))))
noncomputable def fX14_makeRound_b139 (fu : Nat) (a1 : Int32) (r33 : (Int32 × Int32 × mwM × mwL) → Option (mwM × mwL)) (v2 : Int32) (v3 : Int32) (v6 : Int32) (M : mwM) (L : mwL) : Option (mwM × mwL) :=
  fX14_makeRound_b140 fu a1 r33 v3 v6 v2 M L
noncomputable def fX14_makeRound_b119 (fu : Nat) (a1 : Int32) (r33 : (Int32 × Int32 × mwM × mwL) → Option (mwM × mwL)) (v2 : Int32) (v3 : Int32) (v4 : Int32) (v5 : Int32) (s0 : Int32) (M : mwM) (L : mwL) : Option (mwM × mwL) :=
  (if v5 = 0 then fX14_makeRound_b139 fu a1 r33 v2 v3 s0 M L else (if v4 = 0 then mb3 (DX14_product fu v2 2 M L) (fun r24 M22 L23 => fX14_makeRound_b140 fu a1 r33 v3 s0 r24 M22 L23) else fX14_makeRound_b139 fu a1 r33 v2 v3 s0 M L))
noncomputable def fX14_makeRound_b117 (fu : Nat) (a1 : Int32) (r33 : (Int32 × Int32 × mwM × mwL) → Option (mwM × mwL)) (v2 : Int32) (v3 : Int32) (v4 : Int32) (v5 : Int32) (v6 : Int32) (M : mwM) (L : mwL) : Option (mwM × mwL) :=
  fX14_makeRound_b119 fu a1 r33 v2 v3 v4 v5 v6 M L
noncomputable def fX14_makeRound_b98 (fu : Nat) (a1 : Int32) (r33 : (Int32 × Int32 × mwM × mwL) → Option (mwM × mwL)) (v2 : Int32) (v3 : Int32) (v4 : Int32) (v5 : Int32) (s0 : Int32) (M : mwM) (L : mwL) : Option (mwM × mwL) :=
  (if v5 = 0 then fX14_makeRound_b117 fu a1 r33 v2 v3 v4 v5 s0 M L else (if v4 = 0 then fX14_makeRound_b119 fu a1 r33 v2 v3 v4 v5 (s0 ^^^ v2) M L else fX14_makeRound_b117 fu a1 r33 v2 v3 v4 v5 s0 M L))
noncomputable def fX14_makeRound_b58 (fu : Nat) (a1 : Int32) (r33 : (Int32 × Int32 × mwM × mwL) → Option (mwM × mwL)) (v2 : Int32) (v3 : Int32) (v4 : Int32) (s0 : Int32) (M : mwM) (L : mwL) : Option (mwM × mwL) :=
  (if s0 = 0 then mck (v3 - 4) 176 (fX14_makeRound_b98 fu a1 r33 v2 v3 v4 s0 (M 865 (v3 - 4).toNatClampNeg) M L) else mck (((v3 - 4) - v4) + ((v4 + 1) - (v4 + 1) / 4 * 4)) 176 (mb3 (DX14_substitute fu (M 865 (((v3 - 4) - v4) + ((v4 + 1) - (v4 + 1) / 4 * 4)).toNatClampNeg) M L) (fun r17 M15 L16 => fX14_makeRound_b98 fu a1 r33 v2 v3 v4 s0 r17 M15 L16)))
noncomputable def fX14_makeRound_i33 (fu : Nat) (a1 : Int32) (r33 : (Int32 × Int32 × mwM × mwL) → Option (mwM × mwL)) (v2 : Int32) (v3 : Int32) (M : mwM) (L : mwL) : Option (mwM × mwL) :=
  (if 176 ≤ v3 then some (M, L) else mlet (v3 - v3 / 4 * 4) (fun x8 => (if 4 ≤ (v3 - v3 / 16 * 16) then fX14_makeRound_b58 fu a1 r33 v2 v3 x8 0 M L else fX14_makeRound_b58 fu a1 r33 v2 v3 x8 1 M L)))
noncomputable def fX14_makeRound_h33 (fu : Nat) (a1 : Int32) : Nat → (Int32 × Int32 × mwM × mwL) → Option (mwM × mwL) := mloop (fun r33 s => fX14_makeRound_i33 fu a1 r33 s.1 s.2.1 s.2.2.1 s.2.2.2)
noncomputable def fX14_makeRound_i2 (fu : Nat) (a1 : Int32) (r2 : (Int32 × mwM × mwL) → Option (mwM × mwL)) (v2 : Int32) (M : mwM) (L : mwL) : Option (mwM × mwL) :=
  (if 16 ≤ v2 then fX14_makeRound_h33 fu a1 fu (1, 16, M, L) else mck (a1 + v2) 272 (mck v2 176 (mlet (mset M 865 (v2.toNatClampNeg) (M 855 (a1 + v2).toNatClampNeg)) (fun M4 => mlet (v2 + 1) (fun x5 => r2 (x5, M4, L))))))
noncomputable def fX14_makeRound_h2 (fu : Nat) (a1 : Int32) : Nat → (Int32 × mwM × mwL) → Option (mwM × mwL) := mloop (fun r2 s => fX14_makeRound_i2 fu a1 r2 s.1 s.2.1 s.2.2)
noncomputable def DX14_makeRound (fu : Nat) (a1 : Int32) (M : mwM) (L : mwL) : Option (mwM × mwL) :=
  fX14_makeRound_h2 fu a1 fu (0, M, L)
