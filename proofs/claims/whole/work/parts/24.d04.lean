noncomputable def fX14_cipher_b200 (fu : Nat) (a1 : Int32) (r40 : (Int32 × mwM × mwL) → Option (mwM × mwL)) (r107 : (Int32 × Int32 × mwM × mwL) → Option (mwM × mwL)) (r115 : (Int32 × Int32 × Int32 × mwM × mwL) → Option (mwM × mwL)) (v2 : Int32) (v3 : Int32) (v4 : Int32) (v5 : Int32) (M : mwM) (L : mwL) : Option (mwM × mwL) :=
  mck (((16 * v2) + (4 * v3)) + v4) 176 (mck ((4 * v3) + v4) 16 (mlet (mset M 863 (((4 * v3) + v4).toNatClampNeg) (v5 ^^^ (M 865 (((16 * v2) + (4 * v3)) + v4).toNatClampNeg))) (fun M41 => mlet (v4 + 1) (fun x42 => r115 (v2, v3, x42, M41, L)))))
noncomputable def fX14_cipher_i115 (fu : Nat) (a1 : Int32) (r40 : (Int32 × mwM × mwL) → Option (mwM × mwL)) (r107 : (Int32 × Int32 × mwM × mwL) → Option (mwM × mwL)) (r115 : (Int32 × Int32 × Int32 × mwM × mwL) → Option (mwM × mwL)) (v2 : Int32) (v3 : Int32) (v4 : Int32) (M : mwM) (L : mwL) : Option (mwM × mwL) :=
  (if 4 ≤ v4 then mlet (v3 + 1) (fun x22 => r107 (v2, x22, M, L)) else mck ((4 * v3) + v4) 16 (mlet (M 864 ((4 * v3) + v4).toNatClampNeg) (fun x24 => (if 10 ≤ v2 then fX14_cipher_b200 fu a1 r40 r107 r115 v2 v3 v4 x24 M L else mb3 (DX14_product fu x24 2 M L) (fun r28 M26 L27 => mck ((4 * v3) + ((v4 + 1) - (v4 + 1) / 4 * 4)) 16 (mb3 (DX14_product fu (M26 864 ((4 * v3) + ((v4 + 1) - (v4 + 1) / 4 * 4)).toNatClampNeg) 3 M26 L27) (fun r33 M31 L32 => mck ((4 * v3) + ((v4 + 2) - (v4 + 2) / 4 * 4)) 16 (mck ((4 * v3) + ((v4 + 3) - (v4 + 3) / 4 * 4)) 16 (mlet (((r28 ^^^ r33) ^^^ (M31 864 ((4 * v3) + ((v4 + 2) - (v4 + 2) / 4 * 4)).toNatClampNeg)) ^^^ (M31 864 ((4 * v3) + ((v4 + 3) - (v4 + 3) / 4 * 4)).toNatClampNeg)) (fun x38 => fX14_cipher_b200 fu a1 r40 r107 r115 v2 v3 v4 x38 M31 L32))))))))))
noncomputable def fX14_cipher_h115 (fu : Nat) (a1 : Int32) (r40 : (Int32 × mwM × mwL) → Option (mwM × mwL)) (r107 : (Int32 × Int32 × mwM × mwL) → Option (mwM × mwL)) : Nat → (Int32 × Int32 × Int32 × mwM × mwL) → Option (mwM × mwL) := mloop (fun r115 s => fX14_cipher_i115 fu a1 r40 r107 r115 s.1 s.2.1 s.2.2.1 s.2.2.2.1 s.2.2.2.2)
noncomputable def fX14_cipher_i107 (fu : Nat) (a1 : Int32) (r40 : (Int32 × mwM × mwL) → Option (mwM × mwL)) (r107 : (Int32 × Int32 × mwM × mwL) → Option (mwM × mwL)) (v2 : Int32) (v3 : Int32) (M : mwM) (L : mwL) : Option (mwM × mwL) :=
  (if 4 ≤ v3 then mlet (v2 + 1) (fun x20 => r40 (x20, M, L)) else fX14_cipher_h115 fu a1 r40 r107 fu (v2, v3, 0, M, L))
noncomputable def fX14_cipher_h107 (fu : Nat) (a1 : Int32) (r40 : (Int32 × mwM × mwL) → Option (mwM × mwL)) : Nat → (Int32 × Int32 × mwM × mwL) → Option (mwM × mwL) := mloop (fun r107 s => fX14_cipher_i107 fu a1 r40 r107 s.1 s.2.1 s.2.2.1 s.2.2.2)
noncomputable def fX14_cipher_i56 (fu : Nat) (a1 : Int32) (r40 : (Int32 × mwM × mwL) → Option (mwM × mwL)) (r48 : (Int32 × Int32 × mwM × mwL) → Option (mwM × mwL)) (r56 : (Int32 × Int32 × Int32 × mwM × mwL) → Option (mwM × mwL)) (v2 : Int32) (v3 : Int32) (v4 : Int32) (M : mwM) (L : mwL) : Option (mwM × mwL) :=
  (if 4 ≤ v4 then mlet (v3 + 1) (fun x10 => r48 (v2, x10, M, L)) else mck ((4 * ((v3 + v4) - (v3 + v4) / 4 * 4)) + v4) 16 (mb3 (DX14_substitute fu (M 863 ((4 * ((v3 + v4) - (v3 + v4) / 4 * 4)) + v4).toNatClampNeg) M L) (fun r15 M13 L14 => mck ((4 * v3) + v4) 16 (mlet (mset M13 864 (((4 * v3) + v4).toNatClampNeg) r15) (fun M17 => mlet (v4 + 1) (fun x18 => r56 (v2, v3, x18, M17, L14)))))))
noncomputable def fX14_cipher_h56 (fu : Nat) (a1 : Int32) (r40 : (Int32 × mwM × mwL) → Option (mwM × mwL)) (r48 : (Int32 × Int32 × mwM × mwL) → Option (mwM × mwL)) : Nat → (Int32 × Int32 × Int32 × mwM × mwL) → Option (mwM × mwL) := mloop (fun r56 s => fX14_cipher_i56 fu a1 r40 r48 r56 s.1 s.2.1 s.2.2.1 s.2.2.2.1 s.2.2.2.2)
noncomputable def fX14_cipher_i48 (fu : Nat) (a1 : Int32) (r40 : (Int32 × mwM × mwL) → Option (mwM × mwL)) (r48 : (Int32 × Int32 × mwM × mwL) → Option (mwM × mwL)) (v2 : Int32) (v3 : Int32) (M : mwM) (L : mwL) : Option (mwM × mwL) :=
  (if 4 ≤ v3 then fX14_cipher_h107 fu a1 r40 fu (v2, 0, M, L) else fX14_cipher_h56 fu a1 r40 r48 fu (v2, v3, 0, M, L))
noncomputable def fX14_cipher_h48 (fu : Nat) (a1 : Int32) (r40 : (Int32 × mwM × mwL) → Option (mwM × mwL)) : Nat → (Int32 × Int32 × mwM × mwL) → Option (mwM × mwL) := mloop (fun r48 s => fX14_cipher_i48 fu a1 r40 r48 s.1 s.2.1 s.2.2.1 s.2.2.2)
noncomputable def fX14_cipher_i40 (fu : Nat) (a1 : Int32) (r40 : (Int32 × mwM × mwL) → Option (mwM × mwL)) (v2 : Int32) (M : mwM) (L : mwL) : Option (mwM × mwL) :=
  (if 11 ≤ v2 then some (M, L) else fX14_cipher_h48 fu a1 r40 fu (v2, 0, M, L))
noncomputable def fX14_cipher_h40 (fu : Nat) (a1 : Int32) : Nat → (Int32 × mwM × mwL) → Option (mwM × mwL) := mloop (fun r40 s => fX14_cipher_i40 fu a1 r40 s.1 s.2.1 s.2.2)
noncomputable def fX14_cipher_i7 (fu : Nat) (a1 : Int32) (r7 : (Int32 × mwM × mwL) → Option (mwM × mwL)) (v2 : Int32) (M : mwM) (L : mwL) : Option (mwM × mwL) :=
  (if 16 ≤ v2 then fX14_cipher_h40 fu a1 fu (1, M, L) else mck v2 16 (mck v2 176 (mck v2 16 (mlet (mset M 863 (v2.toNatClampNeg) ((M 863 v2.toNatClampNeg) ^^^ (M 865 v2.toNatClampNeg))) (fun M5 => mlet (v2 + 1) (fun x6 => r7 (x6, M5, L)))))))
noncomputable def fX14_cipher_h7 (fu : Nat) (a1 : Int32) : Nat → (Int32 × mwM × mwL) → Option (mwM × mwL) := mloop (fun r7 s => fX14_cipher_i7 fu a1 r7 s.1 s.2.1 s.2.2)
noncomputable def DX14_cipher (fu : Nat) (a1 : Int32) (M : mwM) (L : mwL) : Option (mwM × mwL) :=
  mb2 (DX14_makeRound fu a1 M L) (fun M43 L44 => fX14_cipher_h7 fu a1 fu (0, M43, L44))
noncomputable def fX14_doubled_i5 (fu : Nat) (r5 : (Int32 × Int32 × mwM × mwL) → Option (mwM × mwL)) (v1 : Int32) (v2 : Int32) (M : mwM) (L : mwL) : Option (mwM × mwL) :=
  (if v2 < 0 then mlet (mset M 866 ((15 : Int32).toNatClampNeg) ((M 866 (15 : Int32).toNatClampNeg) ^^^ (135 * v1))) (fun M4 => some (M4, L)) else mck v2 16 (mlet ((2 * (M 866 v2.toNatClampNeg)) + v1) (fun x6 => mck v2 16 (mlet (mset M 866 (v2.toNatClampNeg) (x6 &&& 255)) (fun M8 => mlet (x6 >>> (8 &&& 31)) (fun x9 => mlet (v2 + (-1)) (fun x10 => r5 (x9, x10, M8, L))))))))
noncomputable def fX14_doubled_h5 (fu : Nat) : Nat → (Int32 × Int32 × mwM × mwL) → Option (mwM × mwL) := mloop (fun r5 s => fX14_doubled_i5 fu r5 s.1 s.2.1 s.2.2.1 s.2.2.2)
noncomputable def DX14_doubled (fu : Nat) (M : mwM) (L : mwL) : Option (mwM × mwL) :=
  fX14_doubled_h5 fu fu (0, 15, M, L)
noncomputable def fX14_codeOf_b234 (fu : Nat) (a1 : Int32) (a2 : Int32) (r128 : (Int32 × Int32 × mwM × mwL) → Option (mwM × mwL)) (r138 : (Int32 × Int32 × Int32 × mwM × mwL) → Option (mwM × mwL)) (v4 : Int32) (v5 : Int32) (v6 : Int32) (M : mwM) (L : mwL) : Option (mwM × mwL) :=
  mlet (v6 + 1) (fun x42 => r138 (v4, v5, x42, M, L))
noncomputable def fX14_codeOf_b183 (fu : Nat) (a1 : Int32) (a2 : Int32) (r128 : (Int32 × Int32 × mwM × mwL) → Option (mwM × mwL)) (r138 : (Int32 × Int32 × Int32 × mwM × mwL) → Option (mwM × mwL)) (v4 : Int32) (v5 : Int32) (v6 : Int32) (s0 : Int32) (M : mwM) (L : mwL) : Option (mwM × mwL) :=
  mck v6 16 (mck v6 16 (mlet (mset M 863 (v6.toNatClampNeg) ((M 863 v6.toNatClampNeg) ^^^ s0)) (fun M36 => (if (v5 + 16) = v4 then mck v6 16 (mck v6 16 (mck v6 16 (mlet (mset M36 863 (v6.toNatClampNeg) ((M36 863 v6.toNatClampNeg) ^^^ (M36 866 v6.toNatClampNeg))) (fun M41 => fX14_codeOf_b234 fu a1 a2 r128 r138 v4 v5 v6 M41 L)))) else fX14_codeOf_b234 fu a1 a2 r128 r138 v4 v5 v6 M36 L))))
noncomputable def fX14_codeOf_i138 (fu : Nat) (a1 : Int32) (a2 : Int32) (r128 : (Int32 × Int32 × mwM × mwL) → Option (mwM × mwL)) (r138 : (Int32 × Int32 × Int32 × mwM × mwL) → Option (mwM × mwL)) (v4 : Int32) (v5 : Int32) (v6 : Int32) (M : mwM) (L : mwL) : Option (mwM × mwL) :=
  (if 16 ≤ v6 then mb2 (DX14_cipher fu a1 M L) (fun M28 L29 => mlet (v5 + 16) (fun x30 => r128 (v4, x30, M28, L29))) else (if a2 ≤ (v5 + v6) then (if (v5 + v6) = a2 then fX14_codeOf_b183 fu a1 a2 r128 r138 v4 v5 v6 128 M L else fX14_codeOf_b183 fu a1 a2 r128 r138 v4 v5 v6 0 M L) else mck (v5 + v6) 320 (fX14_codeOf_b183 fu a1 a2 r128 r138 v4 v5 v6 (M 867 (v5 + v6).toNatClampNeg) M L)))
noncomputable def fX14_codeOf_h138 (fu : Nat) (a1 : Int32) (a2 : Int32) (r128 : (Int32 × Int32 × mwM × mwL) → Option (mwM × mwL)) : Nat → (Int32 × Int32 × Int32 × mwM × mwL) → Option (mwM × mwL) := mloop (fun r138 s => fX14_codeOf_i138 fu a1 a2 r128 r138 s.1 s.2.1 s.2.2.1 s.2.2.2.1 s.2.2.2.2)
noncomputable def fX14_codeOf_i128 (fu : Nat) (a1 : Int32) (a2 : Int32) (r128 : (Int32 × Int32 × mwM × mwL) → Option (mwM × mwL)) (v4 : Int32) (v5 : Int32) (M : mwM) (L : mwL) : Option (mwM × mwL) :=
  (if v4 ≤ v5 then some (M, L) else fX14_codeOf_h138 fu a1 a2 r128 fu (v4, v5, 0, M, L))
noncomputable def fX14_codeOf_h128 (fu : Nat) (a1 : Int32) (a2 : Int32) : Nat → (Int32 × Int32 × mwM × mwL) → Option (mwM × mwL) := mloop (fun r128 s => fX14_codeOf_i128 fu a1 a2 r128 s.1 s.2.1 s.2.2.1 s.2.2.2)
noncomputable def fX14_codeOf_i104 (fu : Nat) (a1 : Int32) (a2 : Int32) (r104 : (Int32 × Int32 × mwM × mwL) → Option (mwM × mwL)) (v4 : Int32) (v5 : Int32) (M : mwM) (L : mwL) : Option (mwM × mwL) :=
  (if 16 ≤ v5 then fX14_codeOf_h128 fu a1 a2 fu (v4, 0, M, L) else mck v5 16 (mlet (mset M 863 (v5.toNatClampNeg) 0) (fun M24 => mlet (v5 + 1) (fun x25 => r104 (v4, x25, M24, L)))))
noncomputable def fX14_codeOf_h104 (fu : Nat) (a1 : Int32) (a2 : Int32) : Nat → (Int32 × Int32 × mwM × mwL) → Option (mwM × mwL) := mloop (fun r104 s => fX14_codeOf_i104 fu a1 a2 r104 s.1 s.2.1 s.2.2.1 s.2.2.2)
noncomputable def fX14_codeOf_b99 (fu : Nat) (a1 : Int32) (a2 : Int32) (s0 : Int32) (M : mwM) (L : mwL) : Option (mwM × mwL) :=
  fX14_codeOf_h104 fu a1 a2 fu (s0, 0, M, L)
noncomputable def fX14_codeOf_b81 (fu : Nat) (a1 : Int32) (a2 : Int32) (v3 : Int32) (M : mwM) (L : mwL) : Option (mwM × mwL) :=
  (if v3 = 0 then fX14_codeOf_b99 fu a1 a2 (((a2 / 16) * 16) + 16) M L else fX14_codeOf_b99 fu a1 a2 a2 M L)
noncomputable def fX14_codeOf_b72 (fu : Nat) (a1 : Int32) (a2 : Int32) (s0 : Int32) (M : mwM) (L : mwL) : Option (mwM × mwL) :=
  (if s0 = 0 then mb2 (DX14_doubled fu M L) (fun M18 L19 => fX14_codeOf_b81 fu a1 a2 s0 M18 L19) else fX14_codeOf_b81 fu a1 a2 s0 M L)
noncomputable def fX14_codeOf_b71 (fu : Nat) (a1 : Int32) (a2 : Int32) (M : mwM) (L : mwL) : Option (mwM × mwL) :=
  fX14_codeOf_b72 fu a1 a2 0 M L
noncomputable def fX14_codeOf_i28 (fu : Nat) (a1 : Int32) (a2 : Int32) (r28 : (Int32 × mwM × mwL) → Option (mwM × mwL)) (v3 : Int32) (M : mwM) (L : mwL) : Option (mwM × mwL) :=
  (if 16 ≤ v3 then mb2 (DX14_doubled fu M L) (fun M8 L9 => (if a2 ≤ 0 then fX14_codeOf_b71 fu a1 a2 M8 L9 else (if (a2 - a2 / 16 * 16) = 0 then fX14_codeOf_b72 fu a1 a2 1 M8 L9 else fX14_codeOf_b71 fu a1 a2 M8 L9))) else mck v3 16 (mck v3 16 (mlet (mset M 866 (v3.toNatClampNeg) (M 863 v3.toNatClampNeg)) (fun M15 => mlet (v3 + 1) (fun x16 => r28 (x16, M15, L))))))
noncomputable def fX14_codeOf_h28 (fu : Nat) (a1 : Int32) (a2 : Int32) : Nat → (Int32 × mwM × mwL) → Option (mwM × mwL) := mloop (fun r28 s => fX14_codeOf_i28 fu a1 a2 r28 s.1 s.2.1 s.2.2)
noncomputable def fX14_codeOf_i2 (fu : Nat) (a1 : Int32) (a2 : Int32) (r2 : (Int32 × mwM × mwL) → Option (mwM × mwL)) (v3 : Int32) (M : mwM) (L : mwL) : Option (mwM × mwL) :=
  (if 16 ≤ v3 then mb2 (DX14_cipher fu a1 M L) (fun M2 L3 => fX14_codeOf_h28 fu a1 a2 fu (0, M2, L3)) else mck v3 16 (mlet (mset M 863 (v3.toNatClampNeg) 0) (fun M5 => mlet (v3 + 1) (fun x6 => r2 (x6, M5, L)))))
noncomputable def fX14_codeOf_h2 (fu : Nat) (a1 : Int32) (a2 : Int32) : Nat → (Int32 × mwM × mwL) → Option (mwM × mwL) := mloop (fun r2 s => fX14_codeOf_i2 fu a1 a2 r2 s.1 s.2.1 s.2.2)
noncomputable def DX14_codeOf (fu : Nat) (a1 : Int32) (a2 : Int32) (M : mwM) (L : mwL) : Option (mwM × mwL) :=
  fX14_codeOf_h2 fu a1 a2 fu (0, M, L)
noncomputable def DX14_key (fu : Nat) (M : mwM) (L : mwL) : Option (Int32 × mwM × mwL) :=
  mlet (mset M 854 0 0) (fun M1 => (if (M1 854 1) = 16 then some ((-4), M1, L) else mlet (mset M1 854 1 ((M1 854 1) + 1)) (fun M3 => some (M3 854 1, M3, L))))
noncomputable def DX14_keyByte (fu : Nat) (a1 : Int32) (a2 : Int32) (M : mwM) (L : mwL) : Option (mwM × mwL) :=
  mb3 (DX14_noKey fu a1 M L) (fun r3 M1 L2 => (if r3 = 0 then mck a1 17 (mck ((16 * a1) + (M1 856 a1.toNatClampNeg)) 272 (mlet (mset M1 855 (((16 * a1) + (M1 856 a1.toNatClampNeg)).toNatClampNeg) (a2 &&& 255)) (fun M7 => mck a1 17 (mck a1 17 (mlet (mset M7 856 (a1.toNatClampNeg) (((M7 856 a1.toNatClampNeg) + 1) - ((M7 856 a1.toNatClampNeg) + 1) / 16 * 16)) (fun M11 => some (M11, L2))))))) else some (M1, L2)))
noncomputable def DX14_octet (fu : Nat) (a1 : Int32) (M : mwM) (L : mwL) : Option (mwM × mwL) :=
  mlet (mset M 854 0 0) (fun M1 => (if (M1 854 6) = 300 then some (M1, L) else mck (M1 854 6) 300 (mlet (mset M1 858 ((M1 854 6).toNatClampNeg) (a1 &&& 255)) (fun M4 => mlet (mset M4 854 6 ((M4 854 6) + 1)) (fun M5 => some (M5, L))))))
noncomputable def fX14_tell_i2 (fu : Nat) (a1 : Int32) (r2 : (Int32 × mwM × mwL) → Option (Int32 × mwM × mwL)) (v2 : Int32) (M : mwM) (L : mwL) : Option (Int32 × mwM × mwL) :=
  (if a1 ≤ v2 then mlet (mset M 854 7 a1) (fun M2 => mlet (mset M2 854 6 0) (fun M3 => some (a1, M3, L))) else mck v2 16 (mck v2 16 (mlet (mset M 859 (v2.toNatClampNeg) (M 863 v2.toNatClampNeg)) (fun M6 => mlet (v2 + 1) (fun x7 => r2 (x7, M6, L))))))
noncomputable def fX14_tell_h2 (fu : Nat) (a1 : Int32) : Nat → (Int32 × mwM × mwL) → Option (Int32 × mwM × mwL) := mloop (fun r2 s => fX14_tell_i2 fu a1 r2 s.1 s.2.1 s.2.2)
noncomputable def DX14_tell (fu : Nat) (a1 : Int32) (M : mwM) (L : mwL) : Option (Int32 × mwM × mwL) :=
  fX14_tell_h2 fu a1 fu (0, M, L)
noncomputable def fX14_code_b23 (fu : Nat) (a1 : Int32) (a2 : Int32) (M : mwM) (L : mwL) : Option (Int32 × mwM × mwL) :=
  some ((-2), M, L)
noncomputable def fX14_code_i81 (fu : Nat) (a1 : Int32) (a2 : Int32) (r81 : (Int32 × Int32 × mwM × mwL) → Option (Int32 × mwM × mwL)) (v3 : Int32) (v4 : Int32) (M : mwM) (L : mwL) : Option (Int32 × mwM × mwL) :=
  (if (8 * v3) ≤ v4 then some (v3, M, L) else mck (v3 - 1) 16 (mck (v3 - 1) 16 (mlet (mset M 859 ((v3 - 1).toNatClampNeg) ((M 859 (v3 - 1).toNatClampNeg) &&& ((128 >>> ((v4 - v4 / 8 * 8) &&& 31)) ^^^ ((-1))))) (fun M16 => mlet (v4 + 1) (fun x17 => r81 (v3, x17, M16, L))))))
noncomputable def fX14_code_h81 (fu : Nat) (a1 : Int32) (a2 : Int32) : Nat → (Int32 × Int32 × mwM × mwL) → Option (Int32 × mwM × mwL) := mloop (fun r81 s => fX14_code_i81 fu a1 a2 r81 s.1 s.2.1 s.2.2.1 s.2.2.2)
noncomputable def fX14_code_i28 (fu : Nat) (a1 : Int32) (a2 : Int32) (r28 : (Int32 × mwM × mwL) → Option (Int32 × mwM × mwL)) (v3 : Int32) (M : mwM) (L : mwL) : Option (Int32 × mwM × mwL) :=
  (if (M 854 6) ≤ v3 then mb2 (DX14_codeOf fu (16 * a1) (M 854 6) M L) (fun M2 L3 => mb3 (DX14_tell fu ((a2 + 7) / 8) M2 L3) (fun r7 M5 L6 => fX14_code_h81 fu a1 a2 fu (r7, a2, M5, L6))) else mck v3 300 (mck v3 320 (mlet (mset M 867 (v3.toNatClampNeg) (M 858 v3.toNatClampNeg)) (fun M10 => mlet (v3 + 1) (fun x11 => r28 (x11, M10, L))))))
noncomputable def fX14_code_h28 (fu : Nat) (a1 : Int32) (a2 : Int32) : Nat → (Int32 × mwM × mwL) → Option (Int32 × mwM × mwL) := mloop (fun r28 s => fX14_code_i28 fu a1 a2 r28 s.1 s.2.1 s.2.2)
noncomputable def DX14_code (fu : Nat) (a1 : Int32) (a2 : Int32) (M : mwM) (L : mwL) : Option (Int32 × mwM × mwL) :=
  mb3 (DX14_noKey fu a1 M L) (fun r20 M18 L19 => (if r20 = 0 then (if a2 < 32 then fX14_code_b23 fu a1 a2 M18 L19 else (if a2 ≤ 128 then fX14_code_h28 fu a1 a2 fu (0, M18, L19) else fX14_code_b23 fu a1 a2 M18 L19)) else some ((-1), M18, L19)))
noncomputable def fX14_out_b39 (fu : Nat) (a1 : Int32) (s0 : Int32) (M : mwM) (L : mwL) : Option (Int32 × mwM × mwL) :=
  mbb s0 (some (s0, M, L))
noncomputable def fX14_out_b18 (fu : Nat) (a1 : Int32) (s1 : Int32) (M : mwM) (L : mwL) : Option (Int32 × mwM × mwL) :=
  mlet (mset M 854 0 s1) (fun M1 => (if (M1 854 0) ≤ 0 then mck a1 16 (fX14_out_b39 fu a1 ((M1 859 a1.toNatClampNeg).toInt8.toInt32) M1 L) else fX14_out_b39 fu a1 0 M1 L))
noncomputable def fX14_out_b13 (fu : Nat) (a1 : Int32) (M : mwM) (L : mwL) : Option (Int32 × mwM × mwL) :=
  fX14_out_b18 fu a1 1 M L
noncomputable def DX14_out (fu : Nat) (a1 : Int32) (M : mwM) (L : mwL) : Option (Int32 × mwM × mwL) :=
  (if a1 < 0 then fX14_out_b13 fu a1 M L else (if a1 < (M 854 7) then fX14_out_b18 fu a1 0 M L else fX14_out_b13 fu a1 M L))
noncomputable def fX15_anew_i162 (fu : Nat) (a1 : Int32) (r162 : (Int32 × mwM × mwL) → Option (mwM × mwL)) (v2 : Int32) (M : mwM) (L : mwL) : Option (mwM × mwL) :=
  (if 17 ≤ v2 then some (M, L) else mck v2 17 (mlet (mset M 809 (v2.toNatClampNeg) 0) (fun M29 => mlet (v2 + 1) (fun x30 => r162 (x30, M29, L)))))
noncomputable def fX15_anew_h162 (fu : Nat) (a1 : Int32) : Nat → (Int32 × mwM × mwL) → Option (mwM × mwL) := mloop (fun r162 s => fX15_anew_i162 fu a1 r162 s.1 s.2.1 s.2.2)
noncomputable def fX15_anew_i141 (fu : Nat) (a1 : Int32) (r141 : (Int32 × mwM × mwL) → Option (mwM × mwL)) (v2 : Int32) (M : mwM) (L : mwL) : Option (mwM × mwL) :=
  (if 33 ≤ v2 then fX15_anew_h162 fu a1 fu (0, M, L) else mck v2 33 (mlet (mset M 806 (v2.toNatClampNeg) 0) (fun M25 => mlet (v2 + 1) (fun x26 => r141 (x26, M25, L)))))
noncomputable def fX15_anew_h141 (fu : Nat) (a1 : Int32) : Nat → (Int32 × mwM × mwL) → Option (mwM × mwL) := mloop (fun r141 s => fX15_anew_i141 fu a1 r141 s.1 s.2.1 s.2.2)
noncomputable def fX15_anew_i57 (fu : Nat) (a1 : Int32) (r57 : (Int32 × mwM × mwL) → Option (mwM × mwL)) (v2 : Int32) (M : mwM) (L : mwL) : Option (mwM × mwL) :=
  (if 101 ≤ v2 then fX15_anew_h141 fu a1 fu (0, M, L) else mck v2 101 (mlet (mset M 796 (v2.toNatClampNeg) 0) (fun M3 => mck v2 101 (mlet (mset M3 798 (v2.toNatClampNeg) 0) (fun M5 => mck v2 101 (mlet (mset M5 799 (v2.toNatClampNeg) 0) (fun M7 => mck v2 101 (mlet (mset L 800 (v2.toNatClampNeg) 0) (fun L9 => mck v2 101 (mlet (mset M7 801 (v2.toNatClampNeg) (vp_nar .boolean 0)) (fun M11 => mck v2 101 (mlet (mset M11 802 (v2.toNatClampNeg) 0) (fun M13 => mck v2 101 (mlet (mset M13 803 (v2.toNatClampNeg) 0) (fun M15 => mck v2 101 (mlet (mset M15 804 (v2.toNatClampNeg) (vp_nar .boolean 0)) (fun M17 => mck v2 101 (mlet (mset L9 805 (v2.toNatClampNeg) 0) (fun L19 => mck v2 101 (mlet (mset M17 810 (v2.toNatClampNeg) 0) (fun M21 => mlet (v2 + 1) (fun x22 => r57 (x22, M21, L19)))))))))))))))))))))))
noncomputable def fX15_anew_h57 (fu : Nat) (a1 : Int32) : Nat → (Int32 × mwM × mwL) → Option (mwM × mwL) := mloop (fun r57 s => fX15_anew_i57 fu a1 r57 s.1 s.2.1 s.2.2)
noncomputable def DX15_anew (fu : Nat) (a1 : Int32) (M : mwM) (L : mwL) : Option (mwM × mwL) :=
  mlet (mset M 787 0 a1) (fun M31 => mlet (mset M31 787 1 0) (fun M32 => mlet (mset M32 787 7 0) (fun M33 => mlet (mset L 787 21 0) (fun L34 => mlet (mset L34 787 28 0) (fun L35 => mlet (mset M33 787 29 0) (fun M36 => mlet (mset M36 787 31 0) (fun M37 => mlet (mset M37 787 32 0) (fun M38 => mlet (mset M38 787 35 0) (fun M39 => mlet (mset M39 787 39 0) (fun M40 => mlet (mset L35 787 43 0) (fun L41 => fX15_anew_h57 fu a1 fu (0, M40, L41))))))))))))
noncomputable def fX15_no_b18 (fu : Nat) (a1 : Int32) (s0 : Int32) (M : mwM) (L : mwL) : Option (Int32 × mwM × mwL) :=
  mzz s0 (some (s0, M, L))
noncomputable def fX15_no_b13 (fu : Nat) (a1 : Int32) (M : mwM) (L : mwL) : Option (Int32 × mwM × mwL) :=
  fX15_no_b18 fu a1 1 M L
noncomputable def DX15_no (fu : Nat) (a1 : Int32) (M : mwM) (L : mwL) : Option (Int32 × mwM × mwL) :=
  (if a1 < 1 then fX15_no_b13 fu a1 M L else (if a1 ≤ (M 787 1) then fX15_no_b18 fu a1 0 M L else fX15_no_b13 fu a1 M L))
noncomputable def fX15_task_b12 (fu : Nat) (a1 : Int32) (a2 : Int32) (a3 : Int32) (a4 : Int32) (M : mwM) (L : mwL) : Option (Int32 × mwM × mwL) :=
  some ((-1), M, L)
noncomputable def fX15_task_b46 (fu : Nat) (a1 : Int32) (a2 : Int32) (a3 : Int32) (a4 : Int32) (M : mwM) (L : mwL) : Option (Int32 × mwM × mwL) :=
  some ((-2), M, L)
noncomputable def fX15_task_b49 (fu : Nat) (a1 : Int32) (a2 : Int32) (a3 : Int32) (a4 : Int32) (M : mwM) (L : mwL) : Option (Int32 × mwM × mwL) :=
  (if (lg_cmp (L 787 43) 0) ≤ 0 then (if (M 787 1) = 100 then some ((-4), M, L) else mlet (mset M 787 1 ((M 787 1) + 1)) (fun M3 => mck (M3 787 1) 101 (mlet (mset M3 788 ((M3 787 1).toNatClampNeg) a1) (fun M5 => mck (M5 787 1) 101 (mlet (mset M5 789 ((M5 787 1).toNatClampNeg) a2) (fun M7 => mck (M7 787 1) 101 (mlet (mset M7 790 ((M7 787 1).toNatClampNeg) a3) (fun M9 => mck (M9 787 1) 101 (mlet (mset M9 791 ((M9 787 1).toNatClampNeg) (vp_nar .boolean a4)) (fun M11 => mck (M11 787 1) 101 (mlet (mset M11 792 ((M11 787 1).toNatClampNeg) (vp_nar .boolean 1)) (fun M13 => some (M13 787 1, M13, L))))))))))))) else some ((-3), M, L))
noncomputable def DX15_task (fu : Nat) (a1 : Int32) (a2 : Int32) (a3 : Int32) (a4 : Int32) (M : mwM) (L : mwL) : Option (Int32 × mwM × mwL) :=
  (if a2 < 0 then fX15_task_b12 fu a1 a2 a3 a4 M L else (if a2 < (M 787 0) then (if a1 < 0 then fX15_task_b46 fu a1 a2 a3 a4 M L else (if 255 < a1 then fX15_task_b46 fu a1 a2 a3 a4 M L else (if a3 < 1 then fX15_task_b46 fu a1 a2 a3 a4 M L else (if 100 < a3 then fX15_task_b46 fu a1 a2 a3 a4 M L else (if a4 = 0 then fX15_task_b49 fu a1 a2 a3 a4 M L else (if a3 ≤ 1 then fX15_task_b49 fu a1 a2 a3 a4 M L else fX15_task_b46 fu a1 a2 a3 a4 M L)))))) else fX15_task_b12 fu a1 a2 a3 a4 M L))
noncomputable def fX15_good_b29 (fu : Nat) (a1 : Int32) (a2 : Int64) (s0 : Int32) (M : mwM) (L : mwL) : Option (Int32 × mwM × mwL) :=
  mzz s0 (some (s0, M, L))
noncomputable def fX15_good_b28 (fu : Nat) (a1 : Int32) (a2 : Int64) (M : mwM) (L : mwL) : Option (Int32 × mwM × mwL) :=
  fX15_good_b29 fu a1 a2 0 M L
noncomputable def fX15_good_b10 (fu : Nat) (a1 : Int32) (a2 : Int64) (M : mwM) (L : mwL) : Option (Int32 × mwM × mwL) :=
  (if (lg_cmp a2 1) < 0 then fX15_good_b28 fu a1 a2 M L else (if 0 < (lg_cmp a2 50000) then fX15_good_b28 fu a1 a2 M L else fX15_good_b29 fu a1 a2 1 M L))
noncomputable def fX15_good_b59 (fu : Nat) (a1 : Int32) (a2 : Int64) (s0 : Int32) (M : mwM) (L : mwL) : Option (Int32 × mwM × mwL) :=
  mzz s0 (some (s0, M, L))
noncomputable def fX15_good_b58 (fu : Nat) (a1 : Int32) (a2 : Int64) (M : mwM) (L : mwL) : Option (Int32 × mwM × mwL) :=
  fX15_good_b59 fu a1 a2 0 M L
noncomputable def fX15_good_b40 (fu : Nat) (a1 : Int32) (a2 : Int64) (M : mwM) (L : mwL) : Option (Int32 × mwM × mwL) :=
  (if (lg_cmp a2 1) < 0 then fX15_good_b58 fu a1 a2 M L else (if 0 < (lg_cmp a2 100) then fX15_good_b58 fu a1 a2 M L else fX15_good_b59 fu a1 a2 1 M L))
noncomputable def fX15_good_b89 (fu : Nat) (a1 : Int32) (a2 : Int64) (s0 : Int32) (M : mwM) (L : mwL) : Option (Int32 × mwM × mwL) :=
  mzz s0 (some (s0, M, L))
noncomputable def fX15_good_b88 (fu : Nat) (a1 : Int32) (a2 : Int64) (M : mwM) (L : mwL) : Option (Int32 × mwM × mwL) :=
  fX15_good_b89 fu a1 a2 0 M L
noncomputable def fX15_good_b70 (fu : Nat) (a1 : Int32) (a2 : Int64) (M : mwM) (L : mwL) : Option (Int32 × mwM × mwL) :=
  (if (lg_cmp a2 1) < 0 then fX15_good_b88 fu a1 a2 M L else (if 0 < (lg_cmp a2 65535) then fX15_good_b88 fu a1 a2 M L else fX15_good_b89 fu a1 a2 1 M L))
noncomputable def fX15_good_b126 (fu : Nat) (a1 : Int32) (a2 : Int64) (s0 : Int32) (M : mwM) (L : mwL) : Option (Int32 × mwM × mwL) :=
  mzz s0 (some (s0, M, L))
noncomputable def fX15_good_b125 (fu : Nat) (a1 : Int32) (a2 : Int64) (M : mwM) (L : mwL) : Option (Int32 × mwM × mwL) :=
  fX15_good_b126 fu a1 a2 0 M L
noncomputable def fX15_good_b158 (fu : Nat) (a1 : Int32) (a2 : Int64) (s0 : Int32) (M : mwM) (L : mwL) : Option (Int32 × mwM × mwL) :=
  mzz s0 (some (s0, M, L))
noncomputable def fX15_good_b157 (fu : Nat) (a1 : Int32) (a2 : Int64) (M : mwM) (L : mwL) : Option (Int32 × mwM × mwL) :=
  fX15_good_b158 fu a1 a2 0 M L
noncomputable def fX15_good_b139 (fu : Nat) (a1 : Int32) (a2 : Int64) (M : mwM) (L : mwL) : Option (Int32 × mwM × mwL) :=
  (if (lg_cmp a2 1) < 0 then fX15_good_b157 fu a1 a2 M L else (if 0 < (lg_cmp a2 32) then fX15_good_b157 fu a1 a2 M L else fX15_good_b158 fu a1 a2 1 M L))
noncomputable def fX15_good_b190 (fu : Nat) (a1 : Int32) (a2 : Int64) (s0 : Int32) (M : mwM) (L : mwL) : Option (Int32 × mwM × mwL) :=
  mzz s0 (some (s0, M, L))
noncomputable def fX15_good_b189 (fu : Nat) (a1 : Int32) (a2 : Int64) (M : mwM) (L : mwL) : Option (Int32 × mwM × mwL) :=
  fX15_good_b190 fu a1 a2 0 M L
noncomputable def fX15_good_b171 (fu : Nat) (a1 : Int32) (a2 : Int64) (M : mwM) (L : mwL) : Option (Int32 × mwM × mwL) :=
  (if (lg_cmp a2 1) < 0 then fX15_good_b189 fu a1 a2 M L else (if 0 < (lg_cmp a2 16) then fX15_good_b189 fu a1 a2 M L else fX15_good_b190 fu a1 a2 1 M L))
noncomputable def fX15_good_b202 (fu : Nat) (a1 : Int32) (a2 : Int64) (s0 : Int32) (M : mwM) (L : mwL) : Option (Int32 × mwM × mwL) :=
  mzz s0 (some (s0, M, L))
noncomputable def DX15_good (fu : Nat) (a1 : Int32) (a2 : Int64) (M : mwM) (L : mwL) : Option (Int32 × mwM × mwL) :=
  (if a1 = 0 then fX15_good_b10 fu a1 a2 M L else (if a1 = 12 then fX15_good_b10 fu a1 a2 M L else (if a1 = 1 then fX15_good_b40 fu a1 a2 M L else (if a1 = 2 then fX15_good_b40 fu a1 a2 M L else (if a1 = 3 then fX15_good_b70 fu a1 a2 M L else (if a1 = 5 then fX15_good_b70 fu a1 a2 M L else (if a1 = 4 then (if (lg_cmp a2 65537) < 0 then fX15_good_b125 fu a1 a2 M L else (if 0 < (lg_cmp a2 6619135) then fX15_good_b125 fu a1 a2 M L else mnzL 65536 ((if (lg_cmp (a2 - a2 / 65536 * 65536) 0) ≤ 0 then fX15_good_b125 fu a1 a2 M L else fX15_good_b126 fu a1 a2 1 M L)))) else (if a1 = 6 then fX15_good_b139 fu a1 a2 M L else (if a1 = 7 then fX15_good_b139 fu a1 a2 M L else (if a1 = 8 then fX15_good_b171 fu a1 a2 M L else (if a1 = 9 then fX15_good_b171 fu a1 a2 M L else (if (lg_cmp a2 0) = 0 then fX15_good_b202 fu a1 a2 1 M L else fX15_good_b202 fu a1 a2 0 M L))))))))))))
noncomputable def fX15_part_b28 (fu : Nat) (a1 : Int32) (a2 : Int32) (a3 : Int64) (M : mwM) (L : mwL) : Option (Int32 × mwM × mwL) :=
  some ((-2), M, L)
noncomputable def fX15_part_b131 (fu : Nat) (a1 : Int32) (a2 : Int32) (a3 : Int64) (r102 : (Int32 × Int32 × mwM × mwL) → Option (Int32 × mwM × mwL)) (v6 : Int32) (s0 : Int32) (M : mwM) (L : mwL) : Option (Int32 × mwM × mwL) :=
  mlet (v6 + 1) (fun x4 => r102 (s0, x4, M, L))
noncomputable def fX15_part_i102 (fu : Nat) (a1 : Int32) (a2 : Int32) (a3 : Int64) (r102 : (Int32 × Int32 × mwM × mwL) → Option (Int32 × mwM × mwL)) (v5 : Int32) (v6 : Int32) (M : mwM) (L : mwL) : Option (Int32 × mwM × mwL) :=
  (if (M 787 7) ≤ v6 then some (v5, M, L) else mck v6 500 ((if (M 793 v6.toNatClampNeg) = a1 then fX15_part_b131 fu a1 a2 a3 r102 v6 (v5 + 1) M L else fX15_part_b131 fu a1 a2 a3 r102 v6 v5 M L)))
noncomputable def fX15_part_h102 (fu : Nat) (a1 : Int32) (a2 : Int32) (a3 : Int64) : Nat → (Int32 × Int32 × mwM × mwL) → Option (Int32 × mwM × mwL) := mloop (fun r102 s => fX15_part_i102 fu a1 a2 a3 r102 s.1 s.2.1 s.2.2.1 s.2.2.2)
noncomputable def DX15_part (fu : Nat) (a1 : Int32) (a2 : Int32) (a3 : Int64) (M : mwM) (L : mwL) : Option (Int32 × mwM × mwL) :=
  mb3 (DX15_no fu a1 M L) (fun r7 M5 L6 => (if r7 = 0 then (if a2 < 0 then fX15_part_b28 fu a1 a2 a3 M5 L6 else (if 13 < a2 then fX15_part_b28 fu a1 a2 a3 M5 L6 else mb3 (DX15_good fu a2 a3 M5 L6) (fun r13 M11 L12 => (if r13 = 0 then fX15_part_b28 fu a1 a2 a3 M11 L12 else (if (lg_cmp (L12 787 43) 0) ≤ 0 then (if (M11 787 7) = 500 then some ((-4), M11, L12) else mck (M11 787 7) 500 (mlet (mset M11 793 ((M11 787 7).toNatClampNeg) a1) (fun M18 => mck (M18 787 7) 500 (mlet (mset M18 794 ((M18 787 7).toNatClampNeg) a2) (fun M20 => mck (M20 787 7) 500 (mlet (mset L12 795 ((M20 787 7).toNatClampNeg) a3) (fun L22 => mlet (mset M20 787 7 ((M20 787 7) + 1)) (fun M23 => fX15_part_h102 fu a1 a2 a3 fu (0, 0, M23, L22))))))))) else some ((-3), M11, L12)))))) else some ((-1), M5, L6)))
noncomputable def fX15_activate_b27 (fu : Nat) (a1 : Int32) (a2 : Int64) (M : mwM) (L : mwL) : Option (Int32 × mwM × mwL) :=
  some ((-2), M, L)
noncomputable def DX15_activate (fu : Nat) (a1 : Int32) (a2 : Int64) (M : mwM) (L : mwL) : Option (Int32 × mwM × mwL) :=
  mb3 (DX15_no fu a1 M L) (fun r3 M1 L2 => (if r3 = 0 then (if (lg_cmp a2 (L2 787 43)) < 0 then fX15_activate_b27 fu a1 a2 M1 L2 else (if (lg_cmp a2 50000) ≤ 0 then (if (M1 787 32) = 500 then some ((-4), M1, L2) else mck (M1 787 32) 500 (mlet (mset M1 812 ((M1 787 32).toNatClampNeg) a1) (fun M9 => mck (M9 787 32) 500 (mlet (mset L2 813 ((M9 787 32).toNatClampNeg) a2) (fun L11 => mlet (mset M9 787 32 ((M9 787 32) + 1)) (fun M12 => some (1, M12, L11))))))) else fX15_activate_b27 fu a1 a2 M1 L2)) else some ((-1), M1, L2)))
noncomputable def fX15_tell_b43 (fu : Nat) (a1 : Int32) (a2 : Int32) (M : mwM) (L : mwL) : Option (mwM × mwL) :=
  mlet (mset M 787 39 ((M 787 39) + 1)) (fun M1 => some (M1, L))
noncomputable def DX15_tell (fu : Nat) (a1 : Int32) (a2 : Int32) (M : mwM) (L : mwL) : Option (mwM × mwL) :=
  (if 1000 ≤ (M 787 39) then fX15_tell_b43 fu a1 a2 M L else mck (M 787 39) 1000 (mlet (mset M 817 ((M 787 39).toNatClampNeg) a1) (fun M4 => mck (M4 787 39) 1000 (mlet (mset M4 818 ((M4 787 39).toNatClampNeg) a2) (fun M6 => mck (M6 787 39) 1000 (mlet (mset L 819 ((M6 787 39).toNatClampNeg) (L 787 43)) (fun L8 => fX15_tell_b43 fu a1 a2 M6 L8)))))))
noncomputable def DX15_ready (fu : Nat) (a1 : Int32) (M : mwM) (L : mwL) : Option (mwM × mwL) :=
  mlet (mset L 787 21 ((L 787 21) + 1)) (fun L1 => mck a1 101 (mlet (mset L1 797 (a1.toNatClampNeg) (L1 787 21)) (fun L3 => mck a1 101 (mlet (mset M 796 (a1.toNatClampNeg) 1) (fun M5 => some (M5, L3))))))
noncomputable def fX15_begin_b45 (fu : Nat) (a1 : Int32) (M : mwM) (L : mwL) : Option (mwM × mwL) :=
  some (M, L)
noncomputable def DX15_begin (fu : Nat) (a1 : Int32) (M : mwM) (L : mwL) : Option (mwM × mwL) :=
  mck a1 101 ((if (M 796 a1.toNatClampNeg) = 0 then mb2 (DX15_ready fu a1 M L) (fun M3 L4 => mck a1 101 (mlet (mset M3 802 (a1.toNatClampNeg) 0) (fun M6 => mck a1 101 (mlet (mset M6 799 (a1.toNatClampNeg) 0) (fun M8 => mck a1 101 (mlet (mset L4 800 (a1.toNatClampNeg) 1) (fun L10 => mck a1 101 (mlet (mset M8 801 (a1.toNatClampNeg) (vp_nar .boolean 1)) (fun M12 => some (M12, L10)))))))))) else mck a1 101 (mck a1 101 ((if (1 + (M 798 a1.toNatClampNeg)) < (M 790 a1.toNatClampNeg) then mck a1 101 (mck a1 101 (mlet (mset M 798 (a1.toNatClampNeg) ((M 798 a1.toNatClampNeg) + 1)) (fun M18 => fX15_begin_b45 fu a1 M18 L))) else mb2 (DX15_tell fu 1 a1 M L) (fun M19 L20 => fX15_begin_b45 fu a1 M19 L20))))))
noncomputable def fX15_set_b18 (fu : Nat) (a1 : Int32) (a2 : Int32) (M : mwM) (L : mwL) : Option (Int32 × mwM × mwL) :=
  some (0, M, L)
noncomputable def fX15_set_b65 (fu : Nat) (a1 : Int32) (a2 : Int32) (M : mwM) (L : mwL) : Option (Int32 × mwM × mwL) :=
  some (1, M, L)
noncomputable def DX15_set (fu : Nat) (a1 : Int32) (a2 : Int32) (M : mwM) (L : mwL) : Option (Int32 × mwM × mwL) :=
  mck a1 101 ((if (M 791 a1.toNatClampNeg) = 0 then fX15_set_b18 fu a1 a2 M L else mck a1 101 ((if (M 796 a1.toNatClampNeg) = 0 then fX15_set_b18 fu a1 a2 M L else mck a1 101 (mck a1 101 (mlet (mset M 802 (a1.toNatClampNeg) ((M 802 a1.toNatClampNeg) ||| a2)) (fun M7 => mck a1 101 ((if (M7 796 a1.toNatClampNeg) = 3 then mck a1 101 (mck a1 101 ((if ((M7 802 a1.toNatClampNeg) &&& (M7 803 a1.toNatClampNeg)) = 0 then fX15_set_b65 fu a1 a2 M7 L else mb2 (DX15_ready fu a1 M7 L) (fun M13 L14 => fX15_set_b65 fu a1 a2 M13 L14)))) else fX15_set_b65 fu a1 a2 M7 L)))))))))
noncomputable def fX15_unlock_b51 (fu : Nat) (a1 : Int32) (r11 : (Int32 × Int32 × mwM × mwL) → Option (mwM × mwL)) (v2 : Int32) (v3 : Int32) (M : mwM) (L : mwL) : Option (mwM × mwL) :=
  mlet (v3 + 1) (fun x16 => r11 (v2, x16, M, L))
noncomputable def fX15_unlock_b49 (fu : Nat) (a1 : Int32) (r11 : (Int32 × Int32 × mwM × mwL) → Option (mwM × mwL)) (v3 : Int32) (M : mwM) (L : mwL) : Option (mwM × mwL) :=
  fX15_unlock_b51 fu a1 r11 v3 v3 M L
noncomputable def fX15_unlock_i11 (fu : Nat) (a1 : Int32) (r11 : (Int32 × Int32 × mwM × mwL) → Option (mwM × mwL)) (v2 : Int32) (v3 : Int32) (M : mwM) (L : mwL) : Option (mwM × mwL) :=
  (if (M 787 1) < v3 then (if v2 = 0 then some (M, L) else mck a1 17 (mlet (mset M 809 (a1.toNatClampNeg) v2) (fun M4 => mck v2 101 (mlet (mset M4 810 (v2.toNatClampNeg) 0) (fun M6 => mck v2 101 (mck v2 101 (mlet (mset M6 799 (v2.toNatClampNeg) ((M6 799 v2.toNatClampNeg) + 1)) (fun M9 => some (M9, L))))))))) else mck v3 101 ((if (M 810 v3.toNatClampNeg) = a1 then (if v2 = 0 then fX15_unlock_b49 fu a1 r11 v3 M L else mck v3 101 (mck v2 101 ((if 0 ≤ (lg_cmp (L 811 v3.toNatClampNeg) (L 811 v2.toNatClampNeg)) then fX15_unlock_b51 fu a1 r11 v2 v3 M L else fX15_unlock_b49 fu a1 r11 v3 M L)))) else fX15_unlock_b51 fu a1 r11 v2 v3 M L)))
noncomputable def fX15_unlock_h11 (fu : Nat) (a1 : Int32) : Nat → (Int32 × Int32 × mwM × mwL) → Option (mwM × mwL) := mloop (fun r11 s => fX15_unlock_i11 fu a1 r11 s.1 s.2.1 s.2.2.1 s.2.2.2)
noncomputable def DX15_unlock (fu : Nat) (a1 : Int32) (M : mwM) (L : mwL) : Option (mwM × mwL) :=
  mck a1 17 (mlet (mset M 809 (a1.toNatClampNeg) 0) (fun M18 => fX15_unlock_h11 fu a1 fu (0, 1, M18, L)))
noncomputable def fX15_holdsSome_b63 (fu : Nat) (a1 : Int32) (r38 : (Int32 × Int32 × mwM × mwL) → Option (Int32 × mwM × mwL)) (v3 : Int32) (s0 : Int32) (M : mwM) (L : mwL) : Option (Int32 × mwM × mwL) :=
  mlet (v3 + 1) (fun x11 => r38 (s0, x11, M, L))
noncomputable def fX15_holdsSome_b58 (fu : Nat) (a1 : Int32) (r38 : (Int32 × Int32 × mwM × mwL) → Option (Int32 × mwM × mwL)) (v3 : Int32) (M : mwM) (L : mwL) : Option (Int32 × mwM × mwL) :=
  fX15_holdsSome_b63 fu a1 r38 v3 1 M L
noncomputable def fX15_holdsSome_i38 (fu : Nat) (a1 : Int32) (r38 : (Int32 × Int32 × mwM × mwL) → Option (Int32 × mwM × mwL)) (v2 : Int32) (v3 : Int32) (M : mwM) (L : mwL) : Option (Int32 × mwM × mwL) :=
  (if 16 < v3 then mzz v2 (some (v2, M, L)) else (if v2 = 0 then mck v3 17 ((if (M 809 v3.toNatClampNeg) = a1 then fX15_holdsSome_b58 fu a1 r38 v3 M L else fX15_holdsSome_b63 fu a1 r38 v3 0 M L)) else fX15_holdsSome_b58 fu a1 r38 v3 M L))
noncomputable def fX15_holdsSome_h38 (fu : Nat) (a1 : Int32) : Nat → (Int32 × Int32 × mwM × mwL) → Option (Int32 × mwM × mwL) := mloop (fun r38 s => fX15_holdsSome_i38 fu a1 r38 s.1 s.2.1 s.2.2.1 s.2.2.2)
noncomputable def fX15_holdsSome_b29 (fu : Nat) (a1 : Int32) (r4 : (Int32 × Int32 × mwM × mwL) → Option (Int32 × mwM × mwL)) (v3 : Int32) (s0 : Int32) (M : mwM) (L : mwL) : Option (Int32 × mwM × mwL) :=
  mlet (v3 + 1) (fun x5 => r4 (s0, x5, M, L))
noncomputable def fX15_holdsSome_b24 (fu : Nat) (a1 : Int32) (r4 : (Int32 × Int32 × mwM × mwL) → Option (Int32 × mwM × mwL)) (v3 : Int32) (M : mwM) (L : mwL) : Option (Int32 × mwM × mwL) :=
  fX15_holdsSome_b29 fu a1 r4 v3 1 M L
noncomputable def fX15_holdsSome_i4 (fu : Nat) (a1 : Int32) (r4 : (Int32 × Int32 × mwM × mwL) → Option (Int32 × mwM × mwL)) (v2 : Int32) (v3 : Int32) (M : mwM) (L : mwL) : Option (Int32 × mwM × mwL) :=
  (if 32 < v3 then fX15_holdsSome_h38 fu a1 fu (v2, 1, M, L) else (if v2 = 0 then mck v3 33 ((if (M 806 v3.toNatClampNeg) = a1 then fX15_holdsSome_b24 fu a1 r4 v3 M L else fX15_holdsSome_b29 fu a1 r4 v3 0 M L)) else fX15_holdsSome_b24 fu a1 r4 v3 M L))
noncomputable def fX15_holdsSome_h4 (fu : Nat) (a1 : Int32) : Nat → (Int32 × Int32 × mwM × mwL) → Option (Int32 × mwM × mwL) := mloop (fun r4 s => fX15_holdsSome_i4 fu a1 r4 s.1 s.2.1 s.2.2.1 s.2.2.2)
noncomputable def DX15_holdsSome (fu : Nat) (a1 : Int32) (M : mwM) (L : mwL) : Option (Int32 × mwM × mwL) :=
  fX15_holdsSome_h4 fu a1 fu (0, 1, M, L)
noncomputable def fX15_free_b121 (fu : Nat) (a1 : Int32) (M : mwM) (L : mwL) : Option (mwM × mwL) :=
  mck a1 101 (mlet (mset M 796 (a1.toNatClampNeg) 0) (fun M20 => mck a1 101 (mlet (mset M20 804 (a1.toNatClampNeg) (vp_nar .boolean 0)) (fun M22 => some (M22, L)))))
noncomputable def fX15_free_b108 (fu : Nat) (a1 : Int32) (v2 : Int32) (s1 : Int32) (M : mwM) (L : mwL) : Option (mwM × mwL) :=
  mlet (mset M 787 29 s1) (fun M15 => (if v2 = 0 then fX15_free_b121 fu a1 M15 L else mb2 (DX15_tell fu 3 a1 M15 L) (fun M17 L18 => fX15_free_b121 fu a1 M17 L18)))
noncomputable def fX15_free_b85 (fu : Nat) (a1 : Int32) (r64 : (Int32 × Int32 × mwM × mwL) → Option (mwM × mwL)) (v2 : Int32) (v3 : Int32) (M : mwM) (L : mwL) : Option (mwM × mwL) :=
  mlet (v3 + 1) (fun x14 => r64 (v2, x14, M, L))
noncomputable def fX15_free_i64 (fu : Nat) (a1 : Int32) (r64 : (Int32 × Int32 × mwM × mwL) → Option (mwM × mwL)) (v2 : Int32) (v3 : Int32) (M : mwM) (L : mwL) : Option (mwM × mwL) :=
  (if 16 < v3 then (if (M 787 29) = a1 then fX15_free_b108 fu a1 v2 0 M L else fX15_free_b108 fu a1 v2 (M 787 29) M L) else mck v3 17 ((if (M 809 v3.toNatClampNeg) = a1 then mb2 (DX15_unlock fu v3 M L) (fun M12 L13 => fX15_free_b85 fu a1 r64 v2 v3 M12 L13) else fX15_free_b85 fu a1 r64 v2 v3 M L)))
noncomputable def fX15_free_h64 (fu : Nat) (a1 : Int32) : Nat → (Int32 × Int32 × mwM × mwL) → Option (mwM × mwL) := mloop (fun r64 s => fX15_free_i64 fu a1 r64 s.1 s.2.1 s.2.2.1 s.2.2.2)
noncomputable def fX15_free_b55 (fu : Nat) (a1 : Int32) (r24 : (Int32 × Int32 × mwM × mwL) → Option (mwM × mwL)) (v2 : Int32) (v3 : Int32) (s1 : Int32) (s2 : Int32) (M : mwM) (L : mwL) : Option (mwM × mwL) :=
  mck s1 33 (mlet (mset M 806 (s1.toNatClampNeg) s2) (fun M6 => mlet (v3 + 1) (fun x7 => r24 (v2, x7, M6, L))))
noncomputable def fX15_free_i24 (fu : Nat) (a1 : Int32) (r24 : (Int32 × Int32 × mwM × mwL) → Option (mwM × mwL)) (v2 : Int32) (v3 : Int32) (M : mwM) (L : mwL) : Option (mwM × mwL) :=
  (if 32 < v3 then fX15_free_h64 fu a1 fu (v2, 1, M, L) else mck v3 33 ((if (M 806 v3.toNatClampNeg) = a1 then fX15_free_b55 fu a1 r24 v2 v3 v3 0 M L else mck v3 33 (fX15_free_b55 fu a1 r24 v2 v3 v3 (M 806 v3.toNatClampNeg) M L))))
noncomputable def fX15_free_h24 (fu : Nat) (a1 : Int32) : Nat → (Int32 × Int32 × mwM × mwL) → Option (mwM × mwL) := mloop (fun r24 s => fX15_free_i24 fu a1 r24 s.1 s.2.1 s.2.2.1 s.2.2.2)
noncomputable def fX15_free_b21 (fu : Nat) (a1 : Int32) (s0 : Int32) (M : mwM) (L : mwL) : Option (mwM × mwL) :=
  fX15_free_h24 fu a1 fu (s0, 1, M, L)
noncomputable def fX15_free_b16 (fu : Nat) (a1 : Int32) (M : mwM) (L : mwL) : Option (mwM × mwL) :=
  fX15_free_b21 fu a1 1 M L
noncomputable def DX15_free (fu : Nat) (a1 : Int32) (M : mwM) (L : mwL) : Option (mwM × mwL) :=
  mb3 (DX15_holdsSome fu a1 M L) (fun r25 M23 L24 => (if r25 = 0 then (if (M23 787 29) = a1 then fX15_free_b16 fu a1 M23 L24 else fX15_free_b21 fu a1 0 M23 L24) else fX15_free_b16 fu a1 M23 L24))
noncomputable def DX15_ends (fu : Nat) (a1 : Int32) (M : mwM) (L : mwL) : Option (mwM × mwL) :=
  mb2 (DX15_free fu a1 M L) (fun M1 L2 => mck a1 101 ((if (M1 798 a1.toNatClampNeg) = 0 then some (M1, L2) else mck a1 101 (mck a1 101 (mlet (mset M1 798 (a1.toNatClampNeg) ((M1 798 a1.toNatClampNeg) - 1)) (fun M7 => mb2 (DX15_begin fu a1 M7 L2) (fun M8 L9 => some (M8, L9))))))))
noncomputable def fX15_nextPart_b37 (fu : Nat) (a1 : Int32) (r4 : (Int32 × Int32 × mwM × mwL) → Option (Int32 × mwM × mwL)) (v2 : Int32) (v3 : Int32) (M : mwM) (L : mwL) : Option (Int32 × mwM × mwL) :=
  mlet (v3 + 1) (fun x7 => r4 (v2, x7, M, L))
noncomputable def fX15_nextPart_i4 (fu : Nat) (a1 : Int32) (r4 : (Int32 × Int32 × mwM × mwL) → Option (Int32 × mwM × mwL)) (v2 : Int32) (v3 : Int32) (M : mwM) (L : mwL) : Option (Int32 × mwM × mwL) :=
  (if (M 787 7) ≤ v3 then some ((-1), M, L) else mck v3 500 ((if (M 793 v3.toNatClampNeg) = a1 then mck a1 101 ((if v2 = (M 799 a1.toNatClampNeg) then some (v3, M, L) else mlet (v2 + 1) (fun x6 => fX15_nextPart_b37 fu a1 r4 x6 v3 M L))) else fX15_nextPart_b37 fu a1 r4 v2 v3 M L)))
noncomputable def fX15_nextPart_h4 (fu : Nat) (a1 : Int32) : Nat → (Int32 × Int32 × mwM × mwL) → Option (Int32 × mwM × mwL) := mloop (fun r4 s => fX15_nextPart_i4 fu a1 r4 s.1 s.2.1 s.2.2.1 s.2.2.2)
noncomputable def DX15_nextPart (fu : Nat) (a1 : Int32) (M : mwM) (L : mwL) : Option (Int32 × mwM × mwL) :=
  fX15_nextPart_h4 fu a1 fu (0, 0, M, L)
noncomputable def fX15_chain_b46 (fu : Nat) (a1 : Int32) (a2 : Int32) (M : mwM) (L : mwL) : Option (mwM × mwL) :=
  some (M, L)
noncomputable def fX15_chain_b33 (fu : Nat) (a1 : Int32) (a2 : Int32) (M : mwM) (L : mwL) : Option (mwM × mwL) :=
  mb3 (DX15_no fu a2 M L) (fun r8 M6 L7 => (if r8 = 0 then mb2 (DX15_begin fu a2 M6 L7) (fun M10 L11 => fX15_chain_b46 fu a1 a2 M10 L11) else fX15_chain_b46 fu a1 a2 M6 L7))
noncomputable def fX15_chain_b15 (fu : Nat) (a1 : Int32) (a2 : Int32) (M : mwM) (L : mwL) : Option (mwM × mwL) :=
  (if a2 = a1 then mb2 (DX15_free fu a1 M L) (fun M4 L5 => fX15_chain_b33 fu a1 a2 M4 L5) else mb2 (DX15_ends fu a1 M L) (fun M2 L3 => fX15_chain_b33 fu a1 a2 M2 L3))
noncomputable def DX15_chain (fu : Nat) (a1 : Int32) (a2 : Int32) (M : mwM) (L : mwL) : Option (mwM × mwL) :=
  mb3 (DX15_no fu a2 M L) (fun r14 M12 L13 => (if r14 = 0 then fX15_chain_b15 fu a1 a2 M12 L13 else mb2 (DX15_tell fu 8 a1 M12 L13) (fun M16 L17 => fX15_chain_b15 fu a1 a2 M16 L17)))
noncomputable def fX15_act_b666 (fu : Nat) (a1 : Int32) (a2 : Int32) (a3 : Int64) (M : mwM) (L : mwL) : Option (mwM × mwL) :=
  some (M, L)
noncomputable def fX15_act_b654 (fu : Nat) (a1 : Int32) (a2 : Int32) (a3 : Int64) (v6 : Int32) (M : mwM) (L : mwL) : Option (mwM × mwL) :=
  (if v6 ≤ 0 then fX15_act_b666 fu a1 a2 a3 M L else mb2 (DX15_tell fu v6 a1 M L) (fun M96 L97 => fX15_act_b666 fu a1 a2 a3 M96 L97))
noncomputable def fX15_act_b159 (fu : Nat) (a1 : Int32) (a2 : Int32) (a3 : Int64) (v5 : Int32) (s0 : Int32) (M : mwM) (L : mwL) : Option (mwM × mwL) :=
  (if s0 = 0 then mck a1 101 ((if ((M 802 a1.toNatClampNeg) &&& v5) = 0 then mck a1 101 (mlet (mset M 796 (a1.toNatClampNeg) 3) (fun M59 => mck a1 101 (mlet (mset M59 803 (a1.toNatClampNeg) v5) (fun M61 => fX15_act_b654 fu a1 a2 a3 s0 M61 L)))) else fX15_act_b654 fu a1 a2 a3 s0 M L)) else fX15_act_b654 fu a1 a2 a3 s0 M L)
noncomputable def fX15_act_b241 (fu : Nat) (a1 : Int32) (a2 : Int32) (a3 : Int64) (s0 : Int32) (M : mwM) (L : mwL) : Option (mwM × mwL) :=
  fX15_act_b654 fu a1 a2 a3 s0 M L
noncomputable def fX15_act_b297 (fu : Nat) (a1 : Int32) (a2 : Int32) (a3 : Int64) (v6 : Int32) (s2 : Int32) (M : mwM) (L : mwL) : Option (mwM × mwL) :=
  mck a1 101 (mlet (mset M 802 (a1.toNatClampNeg) s2) (fun M66 => fX15_act_b654 fu a1 a2 a3 v6 M66 L))
noncomputable def fX15_act_b265 (fu : Nat) (a1 : Int32) (a2 : Int32) (a3 : Int64) (v5 : Int32) (s0 : Int32) (M : mwM) (L : mwL) : Option (mwM × mwL) :=
  (if s0 = 0 then mck a1 101 (fX15_act_b297 fu a1 a2 a3 s0 ((M 802 a1.toNatClampNeg) &&& (v5 ^^^ ((-1)))) M L) else mck a1 101 (fX15_act_b297 fu a1 a2 a3 s0 (M 802 a1.toNatClampNeg) M L))
noncomputable def fX15_act_b322 (fu : Nat) (a1 : Int32) (a2 : Int32) (a3 : Int64) (v5 : Int32) (s0 : Int32) (M : mwM) (L : mwL) : Option (mwM × mwL) :=
  (if s0 = 0 then mlet (mset L 787 28 ((L 787 28) + 1)) (fun L68 => mck v5 33 (mlet (mset M 806 (v5.toNatClampNeg) a1) (fun M70 => mck v5 33 (mlet (mset L68 807 (v5.toNatClampNeg) (L68 787 28)) (fun L72 => fX15_act_b654 fu a1 a2 a3 s0 M70 L72))))) else fX15_act_b654 fu a1 a2 a3 s0 M L)
noncomputable def fX15_act_b460 (fu : Nat) (a1 : Int32) (a2 : Int32) (a3 : Int64) (v6 : Int32) (s1 : Int32) (s2 : Int32) (M : mwM) (L : mwL) : Option (mwM × mwL) :=
  mck s1 33 (mlet (mset M 806 (s1.toNatClampNeg) s2) (fun M83 => fX15_act_b654 fu a1 a2 a3 v6 M83 L))
noncomputable def fX15_act_b430 (fu : Nat) (a1 : Int32) (a2 : Int32) (a3 : Int64) (r388 : (Int32 × Int32 × Int32 × mwM × mwL) → Option (mwM × mwL)) (v5 : Int32) (v7 : Int32) (s0 : Int32) (M : mwM) (L : mwL) : Option (mwM × mwL) :=
  mlet (v7 + 1) (fun x81 => r388 (v5, s0, x81, M, L))
noncomputable def fX15_act_b428 (fu : Nat) (a1 : Int32) (a2 : Int32) (a3 : Int64) (r388 : (Int32 × Int32 × Int32 × mwM × mwL) → Option (mwM × mwL)) (v5 : Int32) (v6 : Int32) (v7 : Int32) (M : mwM) (L : mwL) : Option (mwM × mwL) :=
  fX15_act_b430 fu a1 a2 a3 r388 v5 v7 v6 M L
noncomputable def fX15_act_i388 (fu : Nat) (a1 : Int32) (a2 : Int32) (a3 : Int64) (r388 : (Int32 × Int32 × Int32 × mwM × mwL) → Option (mwM × mwL)) (v5 : Int32) (v6 : Int32) (v7 : Int32) (M : mwM) (L : mwL) : Option (mwM × mwL) :=
  (if 32 < v7 then (if v6 = 0 then fX15_act_b460 fu a1 a2 a3 v6 v5 0 M L else mck v5 33 (fX15_act_b460 fu a1 a2 a3 v6 v5 (M 806 v5.toNatClampNeg) M L)) else mck v7 33 ((if (M 806 v7.toNatClampNeg) = a1 then mck v7 33 (mck v5 33 ((if (lg_cmp (L 807 v7.toNatClampNeg) (L 807 v5.toNatClampNeg)) ≤ 0 then fX15_act_b428 fu a1 a2 a3 r388 v5 v6 v7 M L else fX15_act_b430 fu a1 a2 a3 r388 v5 v7 4 M L))) else fX15_act_b428 fu a1 a2 a3 r388 v5 v6 v7 M L)))
noncomputable def fX15_act_h388 (fu : Nat) (a1 : Int32) (a2 : Int32) (a3 : Int64) : Nat → (Int32 × Int32 × Int32 × mwM × mwL) → Option (mwM × mwL) := mloop (fun r388 s => fX15_act_i388 fu a1 a2 a3 r388 s.1 s.2.1 s.2.2.1 s.2.2.2.1 s.2.2.2.2)
noncomputable def fX15_act_b383 (fu : Nat) (a1 : Int32) (a2 : Int32) (a3 : Int64) (v5 : Int32) (s0 : Int32) (M : mwM) (L : mwL) : Option (mwM × mwL) :=
  fX15_act_h388 fu a1 a2 a3 fu (v5, s0, 1, M, L)
noncomputable def fX15_act_b487 (fu : Nat) (a1 : Int32) (a2 : Int32) (a3 : Int64) (v5 : Int32) (s0 : Int32) (M : mwM) (L : mwL) : Option (mwM × mwL) :=
  mck v5 17 (mlet (mset M 809 (v5.toNatClampNeg) a1) (fun M85 => fX15_act_b654 fu a1 a2 a3 s0 M85 L))
noncomputable def fX15_act_b523 (fu : Nat) (a1 : Int32) (a2 : Int32) (a3 : Int64) (v5 : Int32) (s0 : Int32) (M : mwM) (L : mwL) : Option (mwM × mwL) :=
  (if s0 = 0 then mb2 (DX15_unlock fu v5 M L) (fun M87 L88 => fX15_act_b654 fu a1 a2 a3 s0 M87 L88) else fX15_act_b654 fu a1 a2 a3 s0 M L)
noncomputable def fX15_act_b583 (fu : Nat) (a1 : Int32) (a2 : Int32) (a3 : Int64) (s0 : Int32) (M : mwM) (L : mwL) : Option (mwM × mwL) :=
  (if s0 = 0 then mlet (mset M 787 29 a1) (fun M90 => mlet (mset L 787 30 ((L 787 43) + a3)) (fun L91 => mlet (mset M90 787 31 0) (fun M92 => fX15_act_b654 fu a1 a2 a3 s0 M92 L91))) else fX15_act_b654 fu a1 a2 a3 s0 M L)
noncomputable def fX15_act_b577 (fu : Nat) (a1 : Int32) (a2 : Int32) (a3 : Int64) (M : mwM) (L : mwL) : Option (mwM × mwL) :=
  fX15_act_b583 fu a1 a2 a3 7 M L
noncomputable def fX15_act_b651 (fu : Nat) (a1 : Int32) (a2 : Int32) (a3 : Int64) (v6 : Int32) (s1 : Int32) (M : mwM) (L : mwL) : Option (mwM × mwL) :=
  mlet (mset M 787 29 s1) (fun M94 => fX15_act_b654 fu a1 a2 a3 v6 M94 L)
noncomputable def fX15_act_b635 (fu : Nat) (a1 : Int32) (a2 : Int32) (a3 : Int64) (s0 : Int32) (M : mwM) (L : mwL) : Option (mwM × mwL) :=
  (if s0 = 0 then fX15_act_b651 fu a1 a2 a3 s0 0 M L else fX15_act_b651 fu a1 a2 a3 s0 (M 787 29) M L)
noncomputable def fX15_act_b629 (fu : Nat) (a1 : Int32) (a2 : Int32) (a3 : Int64) (M : mwM) (L : mwL) : Option (mwM × mwL) :=
  fX15_act_b635 fu a1 a2 a3 7 M L
noncomputable def fX15_act_b88 (fu : Nat) (a1 : Int32) (a2 : Int32) (a3 : Int64) (v5 : Int32) (v6 : Int32) (M : mwM) (L : mwL) : Option (mwM × mwL) :=
  mck a1 101 (mck a1 101 (mlet (mset M 799 (a1.toNatClampNeg) ((M 799 a1.toNatClampNeg) + 1)) (fun M3 => (if a2 = 1 then mb3 (DX15_no fu v5 M3 L) (fun r51 M49 L50 => (if r51 = 0 then mb2 (DX15_begin fu v5 M49 L50) (fun M53 L54 => fX15_act_b654 fu a1 a2 a3 v6 M53 L54) else fX15_act_b654 fu a1 a2 a3 8 M49 L50)) else (if a2 = 3 then mck a1 101 ((if (M3 791 a1.toNatClampNeg) = 0 then fX15_act_b159 fu a1 a2 a3 v5 2 M3 L else mb3 (DX15_holdsSome fu a1 M3 L) (fun r47 M45 L46 => (if r47 = 0 then fX15_act_b159 fu a1 a2 a3 v5 0 M45 L46 else fX15_act_b159 fu a1 a2 a3 v5 4 M45 L46)))) else (if a2 = 4 then mlet (v5 / 65536) (fun x33 => mb3 (DX15_no fu x33 M3 L) (fun r36 M34 L35 => (if r36 = 0 then mb3 (DX15_set fu x33 (v5 - v5 / 65536 * 65536) M34 L35) (fun r41 M39 L40 => (if r41 = 0 then fX15_act_b241 fu a1 a2 a3 5 M39 L40 else fX15_act_b241 fu a1 a2 a3 0 M39 L40)) else fX15_act_b241 fu a1 a2 a3 8 M34 L35))) else (if a2 = 5 then mck a1 101 ((if (M3 791 a1.toNatClampNeg) = 0 then fX15_act_b265 fu a1 a2 a3 v5 2 M3 L else fX15_act_b265 fu a1 a2 a3 v5 0 M3 L)) else (if a2 = 6 then mck v5 33 ((if (M3 806 v5.toNatClampNeg) = 0 then fX15_act_b322 fu a1 a2 a3 v5 0 M3 L else fX15_act_b322 fu a1 a2 a3 v5 4 M3 L)) else (if a2 = 7 then mck v5 33 ((if (M3 806 v5.toNatClampNeg) = a1 then fX15_act_b383 fu a1 a2 a3 v5 0 M3 L else fX15_act_b383 fu a1 a2 a3 v5 4 M3 L)) else (if a2 = 8 then mck v5 17 ((if (M3 809 v5.toNatClampNeg) = a1 then fX15_act_b487 fu a1 a2 a3 v5 6 M3 L else fX15_act_b487 fu a1 a2 a3 v5 0 M3 L)) else (if a2 = 9 then mck v5 17 ((if (M3 809 v5.toNatClampNeg) = a1 then fX15_act_b523 fu a1 a2 a3 v5 0 M3 L else fX15_act_b523 fu a1 a2 a3 v5 6 M3 L)) else (if a2 = 10 then mck a1 101 (mlet (mset M3 804 (a1.toNatClampNeg) (vp_nar .boolean 1)) (fun M21 => fX15_act_b654 fu a1 a2 a3 v6 M21 L)) else (if a2 = 12 then mck a1 101 ((if (M3 789 a1.toNatClampNeg) = 0 then (if (M3 787 29) ≤ 0 then fX15_act_b583 fu a1 a2 a3 0 M3 L else fX15_act_b577 fu a1 a2 a3 M3 L) else fX15_act_b577 fu a1 a2 a3 M3 L)) else mck a1 101 ((if (M3 789 a1.toNatClampNeg) = 0 then (if (M3 787 29) = 0 then fX15_act_b629 fu a1 a2 a3 M3 L else fX15_act_b635 fu a1 a2 a3 0 M3 L) else fX15_act_b629 fu a1 a2 a3 M3 L)))))))))))))))
noncomputable def DX15_act (fu : Nat) (a1 : Int32) (a2 : Int32) (a3 : Int64) (M : mwM) (L : mwL) : Option (mwM × mwL) :=
  mlet a3.toInt32 (fun x98 => (if a2 = 2 then mb2 (DX15_chain fu a1 x98 M L) (fun M113 L114 => some (M113, L114)) else (if a2 = 11 then mb2 (DX15_ends fu a1 M L) (fun M111 L112 => some (M111, L112)) else (if a2 = 8 then mck x98 17 ((if (M 809 x98.toNatClampNeg) = 0 then fX15_act_b88 fu a1 a2 a3 x98 0 M L else mck x98 17 ((if (M 809 x98.toNatClampNeg) = a1 then fX15_act_b88 fu a1 a2 a3 x98 0 M L else mlet (mset L 787 28 ((L 787 28) + 1)) (fun L106 => mck a1 101 (mlet (mset M 810 (a1.toNatClampNeg) x98) (fun M108 => mck a1 101 (mlet (mset L106 811 (a1.toNatClampNeg) (L106 787 28)) (fun L110 => some (M108, L110)))))))))) else fX15_act_b88 fu a1 a2 a3 x98 0 M L))))
noncomputable def fX15_height_b45 (fu : Nat) (a1 : Int32) (r9 : (Int32 × Int32 × mwM × mwL) → Option (Int32 × mwM × mwL)) (v3 : Int32) (s0 : Int32) (M : mwM) (L : mwL) : Option (Int32 × mwM × mwL) :=
  mlet (v3 + 1) (fun x7 => r9 (s0, x7, M, L))
noncomputable def fX15_height_b44 (fu : Nat) (a1 : Int32) (r9 : (Int32 × Int32 × mwM × mwL) → Option (Int32 × mwM × mwL)) (v2 : Int32) (v3 : Int32) (M : mwM) (L : mwL) : Option (Int32 × mwM × mwL) :=
  fX15_height_b45 fu a1 r9 v3 v2 M L
noncomputable def fX15_height_i9 (fu : Nat) (a1 : Int32) (r9 : (Int32 × Int32 × mwM × mwL) → Option (Int32 × mwM × mwL)) (v2 : Int32) (v3 : Int32) (M : mwM) (L : mwL) : Option (Int32 × mwM × mwL) :=
  (if 32 < v3 then some (v2, M, L) else mck v3 33 ((if (M 806 v3.toNatClampNeg) = a1 then mck v3 33 ((if (M 808 v3.toNatClampNeg) ≤ v2 then fX15_height_b44 fu a1 r9 v2 v3 M L else mck v3 33 (fX15_height_b45 fu a1 r9 v3 (M 808 v3.toNatClampNeg) M L))) else fX15_height_b44 fu a1 r9 v2 v3 M L)))
noncomputable def fX15_height_h9 (fu : Nat) (a1 : Int32) : Nat → (Int32 × Int32 × mwM × mwL) → Option (Int32 × mwM × mwL) := mloop (fun r9 s => fX15_height_i9 fu a1 r9 s.1 s.2.1 s.2.2.1 s.2.2.2)
noncomputable def DX15_height (fu : Nat) (a1 : Int32) (M : mwM) (L : mwL) : Option (Int32 × mwM × mwL) :=
  mck a1 101 (mlet (M 788 a1.toNatClampNeg) (fun x9 => fX15_height_h9 fu a1 fu (x9, 1, M, L)))
noncomputable def fX15_findCeilings_b87 (fu : Nat) (r23 : (Int32 × mwM × mwL) → Option (mwM × mwL)) (v1 : Int32) (M : mwM) (L : mwL) : Option (mwM × mwL) :=
  mlet (v1 + 1) (fun x18 => r23 (x18, M, L))
noncomputable def fX15_findCeilings_i23 (fu : Nat) (r23 : (Int32 × mwM × mwL) → Option (mwM × mwL)) (v1 : Int32) (M : mwM) (L : mwL) : Option (mwM × mwL) :=
  (if (M 787 7) ≤ v1 then some (M, L) else mck v1 500 (mlet ((L 795 v1.toNatClampNeg).toInt32) (fun x7 => mck v1 500 ((if (M 794 v1.toNatClampNeg) = 6 then mck v1 500 (mck (M 793 v1.toNatClampNeg) 101 (mck x7 33 ((if (M 788 (M 793 v1.toNatClampNeg).toNatClampNeg) ≤ (M 808 x7.toNatClampNeg) then fX15_findCeilings_b87 fu r23 v1 M L else mck v1 500 (mck (M 793 v1.toNatClampNeg) 101 (mck x7 33 (mlet (mset M 808 (x7.toNatClampNeg) (M 788 (M 793 v1.toNatClampNeg).toNatClampNeg)) (fun M17 => fX15_findCeilings_b87 fu r23 v1 M17 L)))))))) else fX15_findCeilings_b87 fu r23 v1 M L)))))
noncomputable def fX15_findCeilings_h23 (fu : Nat) : Nat → (Int32 × mwM × mwL) → Option (mwM × mwL) := mloop (fun r23 s => fX15_findCeilings_i23 fu r23 s.1 s.2.1 s.2.2)
noncomputable def fX15_findCeilings_i2 (fu : Nat) (r2 : (Int32 × mwM × mwL) → Option (mwM × mwL)) (v1 : Int32) (M : mwM) (L : mwL) : Option (mwM × mwL) :=
  (if 32 < v1 then fX15_findCeilings_h23 fu fu (0, M, L) else mck v1 33 (mlet (mset M 808 (v1.toNatClampNeg) 0) (fun M3 => mlet (v1 + 1) (fun x4 => r2 (x4, M3, L)))))
noncomputable def fX15_findCeilings_h2 (fu : Nat) : Nat → (Int32 × mwM × mwL) → Option (mwM × mwL) := mloop (fun r2 s => fX15_findCeilings_i2 fu r2 s.1 s.2.1 s.2.2)
noncomputable def DX15_findCeilings (fu : Nat) (M : mwM) (L : mwL) : Option (mwM × mwL) :=
  fX15_findCeilings_h2 fu fu (1, M, L)
noncomputable def fX15_runningOf_b37 (fu : Nat) (a1 : Int32) (r4 : (Int32 × Int32 × mwM × mwL) → Option (Int32 × mwM × mwL)) (v3 : Int32) (s0 : Int32) (M : mwM) (L : mwL) : Option (Int32 × mwM × mwL) :=
  mlet (v3 + 1) (fun x6 => r4 (s0, x6, M, L))
noncomputable def fX15_runningOf_b36 (fu : Nat) (a1 : Int32) (r4 : (Int32 × Int32 × mwM × mwL) → Option (Int32 × mwM × mwL)) (v2 : Int32) (v3 : Int32) (M : mwM) (L : mwL) : Option (Int32 × mwM × mwL) :=
  fX15_runningOf_b37 fu a1 r4 v3 v2 M L
noncomputable def fX15_runningOf_i4 (fu : Nat) (a1 : Int32) (r4 : (Int32 × Int32 × mwM × mwL) → Option (Int32 × mwM × mwL)) (v2 : Int32) (v3 : Int32) (M : mwM) (L : mwL) : Option (Int32 × mwM × mwL) :=
  (if (M 787 1) < v3 then some (v2, M, L) else mck v3 101 ((if (M 789 v3.toNatClampNeg) = a1 then mck v3 101 ((if (M 796 v3.toNatClampNeg) = 2 then fX15_runningOf_b37 fu a1 r4 v3 v3 M L else fX15_runningOf_b36 fu a1 r4 v2 v3 M L)) else fX15_runningOf_b36 fu a1 r4 v2 v3 M L)))
noncomputable def fX15_runningOf_h4 (fu : Nat) (a1 : Int32) : Nat → (Int32 × Int32 × mwM × mwL) → Option (Int32 × mwM × mwL) := mloop (fun r4 s => fX15_runningOf_i4 fu a1 r4 s.1 s.2.1 s.2.2.1 s.2.2.2)
noncomputable def DX15_runningOf (fu : Nat) (a1 : Int32) (M : mwM) (L : mwL) : Option (Int32 × mwM × mwL) :=
  fX15_runningOf_h4 fu a1 fu (0, 1, M, L)
noncomputable def fX15_choose_b170 (fu : Nat) (a1 : Int32) (v3 : Int32) (M : mwM) (L : mwL) : Option (Int32 × mwM × mwL) :=
  some (v3, M, L)
noncomputable def fX15_choose_b159 (fu : Nat) (a1 : Int32) (v3 : Int32) (M : mwM) (L : mwL) : Option (Int32 × mwM × mwL) :=
  (if v3 ≤ 0 then fX15_choose_b170 fu a1 v3 M L else mck v3 101 (mlet (mset M 796 (v3.toNatClampNeg) 2) (fun M27 => fX15_choose_b170 fu a1 v3 M27 L)))
noncomputable def fX15_choose_b135 (fu : Nat) (a1 : Int32) (r50 : (Int32 × Int32 × Int32 × Int32 × mwM × mwL) → Option (Int32 × mwM × mwL)) (v2 : Int32) (v3 : Int32) (v4 : Int32) (v5 : Int32) (M : mwM) (L : mwL) : Option (Int32 × mwM × mwL) :=
  mlet (v5 + 1) (fun x24 => r50 (v2, v3, v4, x24, M, L))
noncomputable def fX15_choose_b128 (fu : Nat) (a1 : Int32) (r50 : (Int32 × Int32 × Int32 × Int32 × mwM × mwL) → Option (Int32 × mwM × mwL)) (v2 : Int32) (v5 : Int32) (v6 : Int32) (M : mwM) (L : mwL) : Option (Int32 × mwM × mwL) :=
  fX15_choose_b135 fu a1 r50 v2 v5 v6 v5 M L
noncomputable def fX15_choose_i50 (fu : Nat) (a1 : Int32) (r50 : (Int32 × Int32 × Int32 × Int32 × mwM × mwL) → Option (Int32 × mwM × mwL)) (v2 : Int32) (v3 : Int32) (v4 : Int32) (v5 : Int32) (M : mwM) (L : mwL) : Option (Int32 × mwM × mwL) :=
  (if (M 787 1) < v5 then (if v2 ≤ 0 then fX15_choose_b159 fu a1 v3 M L else mck v2 101 (mlet (mset M 804 (v2.toNatClampNeg) (vp_nar .boolean 0)) (fun M8 => mck v2 101 (mlet (mset M8 796 (v2.toNatClampNeg) 1) (fun M10 => fX15_choose_b159 fu a1 v3 M10 L))))) else mck v5 101 ((if (M 789 v5.toNatClampNeg) = a1 then mck v5 101 ((if (M 796 v5.toNatClampNeg) = 1 then mb3 (DX15_height fu v5 M L) (fun r17 M15 L16 => (if v4 < r17 then fX15_choose_b128 fu a1 r50 v2 v5 r17 M15 L16 else (if r17 = v4 then (if v3 = v2 then fX15_choose_b135 fu a1 r50 v2 v3 v4 v5 M15 L16 else mck v5 101 (mck v3 101 ((if 0 ≤ (lg_cmp (L16 797 v5.toNatClampNeg) (L16 797 v3.toNatClampNeg)) then fX15_choose_b135 fu a1 r50 v2 v3 v4 v5 M15 L16 else fX15_choose_b128 fu a1 r50 v2 v5 r17 M15 L16)))) else fX15_choose_b135 fu a1 r50 v2 v3 v4 v5 M15 L16))) else fX15_choose_b135 fu a1 r50 v2 v3 v4 v5 M L)) else fX15_choose_b135 fu a1 r50 v2 v3 v4 v5 M L)))
noncomputable def fX15_choose_h50 (fu : Nat) (a1 : Int32) : Nat → (Int32 × Int32 × Int32 × Int32 × mwM × mwL) → Option (Int32 × mwM × mwL) := mloop (fun r50 s => fX15_choose_i50 fu a1 r50 s.1 s.2.1 s.2.2.1 s.2.2.2.1 s.2.2.2.2.1 s.2.2.2.2.2)
noncomputable def fX15_choose_b45 (fu : Nat) (a1 : Int32) (v2 : Int32) (v3 : Int32) (s0 : Int32) (M : mwM) (L : mwL) : Option (Int32 × mwM × mwL) :=
  fX15_choose_h50 fu a1 fu (v2, v3, s0, 1, M, L)
noncomputable def fX15_choose_b30 (fu : Nat) (a1 : Int32) (v2 : Int32) (M : mwM) (L : mwL) : Option (Int32 × mwM × mwL) :=
  (if v2 ≤ 0 then fX15_choose_b45 fu a1 v2 v2 ((-1)) M L else mb3 (DX15_height fu v2 M L) (fun r4 M2 L3 => fX15_choose_b45 fu a1 v2 v2 r4 M2 L3))
noncomputable def DX15_choose (fu : Nat) (a1 : Int32) (M : mwM) (L : mwL) : Option (Int32 × mwM × mwL) :=
  mb3 (DX15_runningOf fu a1 M L) (fun r30 M28 L29 => (if r30 ≤ 0 then fX15_choose_b30 fu a1 r30 M28 L29 else mck r30 101 ((if (M28 792 r30.toNatClampNeg) = 0 then mck r30 101 ((if (M28 804 r30.toNatClampNeg) = 0 then some (r30, M28, L29) else fX15_choose_b30 fu a1 r30 M28 L29)) else fX15_choose_b30 fu a1 r30 M28 L29))))
noncomputable def fX15_atHand_b86 (fu : Nat) (r4 : (Int32 × Int32 × mwM × mwL) → Option (Int32 × mwM × mwL)) (v1 : Int32) (v2 : Int32) (M : mwM) (L : mwL) : Option (Int32 × mwM × mwL) :=
  mlet (v2 + 1) (fun x14 => r4 (v1, x14, M, L))
noncomputable def fX15_atHand_b84 (fu : Nat) (r4 : (Int32 × Int32 × mwM × mwL) → Option (Int32 × mwM × mwL)) (v2 : Int32) (M : mwM) (L : mwL) : Option (Int32 × mwM × mwL) :=
  fX15_atHand_b86 fu r4 v2 v2 M L
noncomputable def fX15_atHand_b60 (fu : Nat) (r4 : (Int32 × Int32 × mwM × mwL) → Option (Int32 × mwM × mwL)) (v1 : Int32) (v2 : Int32) (s0 : Int32) (M : mwM) (L : mwL) : Option (Int32 × mwM × mwL) :=
  (if s0 = 0 then fX15_atHand_b86 fu r4 v1 v2 M L else (if v1 < 0 then fX15_atHand_b84 fu r4 v2 M L else mck v2 500 (mck v1 500 ((if (M 814 v2.toNatClampNeg) ≤ (M 814 v1.toNatClampNeg) then fX15_atHand_b86 fu r4 v1 v2 M L else fX15_atHand_b84 fu r4 v2 M L)))))
noncomputable def fX15_atHand_b59 (fu : Nat) (r4 : (Int32 × Int32 × mwM × mwL) → Option (Int32 × mwM × mwL)) (v1 : Int32) (v2 : Int32) (M : mwM) (L : mwL) : Option (Int32 × mwM × mwL) :=
  fX15_atHand_b60 fu r4 v1 v2 0 M L
noncomputable def fX15_atHand_b55 (fu : Nat) (r4 : (Int32 × Int32 × mwM × mwL) → Option (Int32 × mwM × mwL)) (v1 : Int32) (v2 : Int32) (M : mwM) (L : mwL) : Option (Int32 × mwM × mwL) :=
  fX15_atHand_b60 fu r4 v1 v2 1 M L
noncomputable def fX15_atHand_i4 (fu : Nat) (r4 : (Int32 × Int32 × mwM × mwL) → Option (Int32 × mwM × mwL)) (v1 : Int32) (v2 : Int32) (M : mwM) (L : mwL) : Option (Int32 × mwM × mwL) :=
  (if (M 787 35) ≤ v2 then some (v1, M, L) else mck v2 500 ((if 0 < (lg_cmp (L 815 v2.toNatClampNeg) (L 787 43)) then fX15_atHand_b59 fu r4 v1 v2 M L else mck v2 500 ((if (lg_cmp (L 816 v2.toNatClampNeg) 0) ≤ 0 then fX15_atHand_b59 fu r4 v1 v2 M L else mck v2 500 ((if 7 < (M 814 v2.toNatClampNeg) then fX15_atHand_b55 fu r4 v1 v2 M L else (if (M 787 29) = 0 then fX15_atHand_b55 fu r4 v1 v2 M L else fX15_atHand_b59 fu r4 v1 v2 M L))))))))
noncomputable def fX15_atHand_h4 (fu : Nat) : Nat → (Int32 × Int32 × mwM × mwL) → Option (Int32 × mwM × mwL) := mloop (fun r4 s => fX15_atHand_i4 fu r4 s.1 s.2.1 s.2.2.1 s.2.2.2)
noncomputable def DX15_atHand (fu : Nat) (M : mwM) (L : mwL) : Option (Int32 × mwM × mwL) :=
  fX15_atHand_h4 fu fu (((-1)), 0, M, L)
noncomputable def fX15_step_b41 (fu : Nat) (a1 : Int32) (M : mwM) (L : mwL) : Option (Int32 × mwM × mwL) :=
  some (0, M, L)
noncomputable def fX15_step_b93 (fu : Nat) (a1 : Int32) (M : mwM) (L : mwL) : Option (Int32 × mwM × mwL) :=
  some (1, M, L)
noncomputable def fX15_step_b64 (fu : Nat) (a1 : Int32) (v2 : Int32) (v3 : Int32) (M : mwM) (L : mwL) : Option (Int32 × mwM × mwL) :=
  (if 0 ≤ v3 then mck v3 500 (mck v3 500 (mb2 (DX15_act fu v2 (M 794 v3.toNatClampNeg) (L 795 v3.toNatClampNeg) M L) (fun M18 L19 => fX15_step_b93 fu a1 M18 L19))) else mb2 (DX15_ends fu v2 M L) (fun M20 L21 => fX15_step_b93 fu a1 M20 L21))
noncomputable def fX15_step_b13 (fu : Nat) (a1 : Int32) (M : mwM) (L : mwL) : Option (Int32 × mwM × mwL) :=
  mb3 (DX15_choose fu a1 M L) (fun r3 M1 L2 => (if r3 = 0 then fX15_step_b41 fu a1 M1 L2 else mck r3 101 ((if (M1 801 r3.toNatClampNeg) = 0 then mck r3 101 ((if (M1 810 r3.toNatClampNeg) ≤ 0 then mb3 (DX15_nextPart fu r3 M1 L2) (fun r11 M9 L10 => (if r11 < 0 then fX15_step_b64 fu a1 r3 r11 M9 L10 else mck r11 500 ((if (M9 794 r11.toNatClampNeg) = 0 then some (0, M9, L10) else fX15_step_b64 fu a1 r3 r11 M9 L10)))) else fX15_step_b41 fu a1 M1 L2)) else fX15_step_b41 fu a1 M1 L2))))
noncomputable def DX15_step (fu : Nat) (a1 : Int32) (M : mwM) (L : mwL) : Option (Int32 × mwM × mwL) :=
  (if a1 = 0 then mb3 (DX15_atHand fu M L) (fun r25 M23 L24 => (if r25 < 0 then fX15_step_b13 fu a1 M23 L24 else some (0, M23, L24))) else fX15_step_b13 fu a1 M L)
noncomputable def fX15_pass_b73 (fu : Nat) (a1 : Int32) (M : mwM) (L : mwL) : Option (mwM × mwL) :=
  mck a1 101 (mck a1 101 (mlet (mset L 800 (a1.toNatClampNeg) ((L 800 a1.toNatClampNeg) - 1)) (fun L3 => mck a1 101 ((if (lg_cmp (L3 800 a1.toNatClampNeg) 0) ≤ 0 then mck a1 101 (mlet (mset L3 800 (a1.toNatClampNeg) ((-1))) (fun L7 => mck a1 101 (mck a1 101 (mlet (mset M 799 (a1.toNatClampNeg) ((M 799 a1.toNatClampNeg) + 1)) (fun M10 => some (M10, L7)))))) else some (M, L3))))))
noncomputable def DX15_pass (fu : Nat) (a1 : Int32) (M : mwM) (L : mwL) : Option (mwM × mwL) :=
  mck a1 101 (mck a1 101 (mlet (mset L 805 (a1.toNatClampNeg) ((L 805 a1.toNatClampNeg) + 1)) (fun L13 => mck a1 101 ((if (M 810 a1.toNatClampNeg) ≤ 0 then mck a1 101 ((if (M 801 a1.toNatClampNeg) = 0 then mck a1 101 ((if 0 ≤ (lg_cmp (L13 800 a1.toNatClampNeg) 0) then fX15_pass_b73 fu a1 M L13 else mb3 (DX15_nextPart fu a1 M L13) (fun r22 M20 L21 => mck r22 500 (mck a1 101 (mlet (mset L21 800 (a1.toNatClampNeg) (L21 795 r22.toNatClampNeg)) (fun L25 => fX15_pass_b73 fu a1 M20 L25)))))) else mck a1 101 (mlet (mset M 801 (a1.toNatClampNeg) (vp_nar .boolean 0)) (fun M27 => mck a1 101 (mlet (mset L13 800 (a1.toNatClampNeg) ((-1))) (fun L29 => some (M27, L29))))))) else some (M, L13))))))
noncomputable def fX15_microsecond_b274 (fu : Nat) (r125 : (Int32 × Int32 × mwM × mwL) → Option (Int32 × mwM × mwL)) (v2 : Int32) (v3 : Int32) (M : mwM) (L : mwL) : Option (Int32 × mwM × mwL) :=
  mlet (v3 + 1) (fun x44 => r125 (v2, x44, M, L))
noncomputable def fX15_microsecond_b243 (fu : Nat) (r125 : (Int32 × Int32 × mwM × mwL) → Option (Int32 × mwM × mwL)) (v3 : Int32) (v4 : Int32) (v5 : Int32) (s0 : Int32) (M : mwM) (L : mwL) : Option (Int32 × mwM × mwL) :=
  (if v5 < 0 then (if v4 ≤ 0 then fX15_microsecond_b274 fu r125 s0 v3 M L else mb2 (DX15_pass fu v4 M L) (fun M39 L40 => fX15_microsecond_b274 fu r125 s0 v3 M39 L40)) else mck v5 500 (mck v5 500 (mlet (mset L 816 (v5.toNatClampNeg) ((L 816 v5.toNatClampNeg) - 1)) (fun L43 => fX15_microsecond_b274 fu r125 s0 v3 M L43))))
noncomputable def fX15_microsecond_b227 (fu : Nat) (r125 : (Int32 × Int32 × mwM × mwL) → Option (Int32 × mwM × mwL)) (v2 : Int32) (v3 : Int32) (v4 : Int32) (v5 : Int32) (v6 : Int32) (s0 : Int32) (M : mwM) (L : mwL) : Option (Int32 × mwM × mwL) :=
  (if v6 = s0 then fX15_microsecond_b243 fu r125 v3 v4 v5 v2 M L else fX15_microsecond_b243 fu r125 v3 v4 v5 (v2 + 1) M L)
noncomputable def fX15_microsecond_b175 (fu : Nat) (r125 : (Int32 × Int32 × mwM × mwL) → Option (Int32 × mwM × mwL)) (v2 : Int32) (v3 : Int32) (v4 : Int32) (v5 : Int32) (s0 : Int32) (M : mwM) (L : mwL) : Option (Int32 × mwM × mwL) :=
  mck ((20000 * v3) + ((L 787 43).toInt32)) 120000 (mlet (mset M 820 (((20000 * v3) + ((L 787 43).toInt32)).toNatClampNeg) (vp_nar .short s0.toInt16.toInt32)) (fun M33 => (if (lg_cmp (L 787 43) 0) ≤ 0 then fX15_microsecond_b227 fu r125 v2 v3 v4 v5 s0 0 M33 L else mck (((20000 * v3) + ((L 787 43).toInt32)) - 1) 120000 (fX15_microsecond_b227 fu r125 v2 v3 v4 v5 s0 (M33 820 (((20000 * v3) + ((L 787 43).toInt32)) - 1).toNatClampNeg) M33 L))))
noncomputable def fX15_microsecond_b152 (fu : Nat) (r125 : (Int32 × Int32 × mwM × mwL) → Option (Int32 × mwM × mwL)) (v2 : Int32) (v3 : Int32) (v4 : Int32) (s0 : Int32) (M : mwM) (L : mwL) : Option (Int32 × mwM × mwL) :=
  (if s0 < 0 then fX15_microsecond_b175 fu r125 v2 v3 v4 s0 v4 M L else mck s0 500 (fX15_microsecond_b175 fu r125 v2 v3 v4 s0 (1000 + (M 814 s0.toNatClampNeg)) M L))
noncomputable def fX15_microsecond_i125 (fu : Nat) (r125 : (Int32 × Int32 × mwM × mwL) → Option (Int32 × mwM × mwL)) (v2 : Int32) (v3 : Int32) (M : mwM) (L : mwL) : Option (Int32 × mwM × mwL) :=
  (if (M 787 0) ≤ v3 then mlet (mset L 787 43 ((L 787 43) + 1)) (fun L22 => some (v2, M, L22)) else mb3 (DX15_choose fu v3 M L) (fun r25 M23 L24 => (if v3 = 0 then mb3 (DX15_atHand fu M23 L24) (fun r29 M27 L28 => fX15_microsecond_b152 fu r125 v2 v3 r25 r29 M27 L28) else fX15_microsecond_b152 fu r125 v2 v3 r25 ((-1)) M23 L24)))
noncomputable def fX15_microsecond_h125 (fu : Nat) : Nat → (Int32 × Int32 × mwM × mwL) → Option (Int32 × mwM × mwL) := mloop (fun r125 s => fX15_microsecond_i125 fu r125 s.1 s.2.1 s.2.2.1 s.2.2.2)
noncomputable def fX15_microsecond_b121 (fu : Nat) (M : mwM) (L : mwL) : Option (Int32 × mwM × mwL) :=
  fX15_microsecond_h125 fu fu (0, 0, M, L)
noncomputable def fX15_microsecond_i58 (fu : Nat) (r42 : (Int32 × mwM × mwL) → Option (Int32 × mwM × mwL)) (r50 : (Int32 × Int32 × mwM × mwL) → Option (Int32 × mwM × mwL)) (r58 : (Int32 × Int32 × mwM × mwL) → Option (Int32 × mwM × mwL)) (v1 : Int32) (v2 : Int32) (M : mwM) (L : mwL) : Option (Int32 × mwM × mwL) :=
  mb3 (DX15_step fu v2 M L) (fun r18 M16 L17 => (if r18 = 0 then mlet (v2 + 1) (fun x20 => r50 (v1, x20, M16, L17)) else r58 (1, v2, M16, L17)))
noncomputable def fX15_microsecond_h58 (fu : Nat) (r42 : (Int32 × mwM × mwL) → Option (Int32 × mwM × mwL)) (r50 : (Int32 × Int32 × mwM × mwL) → Option (Int32 × mwM × mwL)) : Nat → (Int32 × Int32 × mwM × mwL) → Option (Int32 × mwM × mwL) := mloop (fun r58 s => fX15_microsecond_i58 fu r42 r50 r58 s.1 s.2.1 s.2.2.1 s.2.2.2)
noncomputable def fX15_microsecond_i50 (fu : Nat) (r42 : (Int32 × mwM × mwL) → Option (Int32 × mwM × mwL)) (r50 : (Int32 × Int32 × mwM × mwL) → Option (Int32 × mwM × mwL)) (v1 : Int32) (v2 : Int32) (M : mwM) (L : mwL) : Option (Int32 × mwM × mwL) :=
  (if (M 787 0) ≤ v2 then r42 (v1, M, L) else fX15_microsecond_h58 fu r42 r50 fu (v1, v2, M, L))
noncomputable def fX15_microsecond_h50 (fu : Nat) (r42 : (Int32 × mwM × mwL) → Option (Int32 × mwM × mwL)) : Nat → (Int32 × Int32 × mwM × mwL) → Option (Int32 × mwM × mwL) := mloop (fun r50 s => fX15_microsecond_i50 fu r42 r50 s.1 s.2.1 s.2.2.1 s.2.2.2)
noncomputable def fX15_microsecond_i42 (fu : Nat) (r42 : (Int32 × mwM × mwL) → Option (Int32 × mwM × mwL)) (v1 : Int32) (M : mwM) (L : mwL) : Option (Int32 × mwM × mwL) :=
  (if v1 = 0 then (if (M 787 29) ≤ 0 then fX15_microsecond_b121 fu M L else (if (M 787 31) = 0 then (if (lg_cmp (L 787 43) (L 787 30)) < 0 then fX15_microsecond_b121 fu M L else mb2 (DX15_tell fu 9 (M 787 29) M L) (fun M12 L13 => mlet (mset M12 787 31 1) (fun M14 => fX15_microsecond_b121 fu M14 L13))) else fX15_microsecond_b121 fu M L)) else fX15_microsecond_h50 fu r42 fu (0, 0, M, L))
noncomputable def fX15_microsecond_h42 (fu : Nat) : Nat → (Int32 × mwM × mwL) → Option (Int32 × mwM × mwL) := mloop (fun r42 s => fX15_microsecond_i42 fu r42 s.1 s.2.1 s.2.2)
noncomputable def fX15_microsecond_b34 (fu : Nat) (r2 : (Int32 × mwM × mwL) → Option (Int32 × mwM × mwL)) (v1 : Int32) (M : mwM) (L : mwL) : Option (Int32 × mwM × mwL) :=
  mlet (v1 + 1) (fun x7 => r2 (x7, M, L))
noncomputable def fX15_microsecond_i2 (fu : Nat) (r2 : (Int32 × mwM × mwL) → Option (Int32 × mwM × mwL)) (v1 : Int32) (M : mwM) (L : mwL) : Option (Int32 × mwM × mwL) :=
  (if (M 787 32) ≤ v1 then fX15_microsecond_h42 fu fu (1, M, L) else mck v1 500 ((if (lg_cmp (L 813 v1.toNatClampNeg) (L 787 43)) = 0 then mck v1 500 (mb2 (DX15_begin fu (M 812 v1.toNatClampNeg) M L) (fun M5 L6 => fX15_microsecond_b34 fu r2 v1 M5 L6)) else fX15_microsecond_b34 fu r2 v1 M L)))
noncomputable def fX15_microsecond_h2 (fu : Nat) : Nat → (Int32 × mwM × mwL) → Option (Int32 × mwM × mwL) := mloop (fun r2 s => fX15_microsecond_i2 fu r2 s.1 s.2.1 s.2.2)
noncomputable def DX15_microsecond (fu : Nat) (M : mwM) (L : mwL) : Option (Int32 × mwM × mwL) :=
  fX15_microsecond_h2 fu fu (0, M, L)
noncomputable def fX15_run_b19 (fu : Nat) (a1 : Int64) (M : mwM) (L : mwL) : Option (Int32 × mwM × mwL) :=
  some ((-2), M, L)
noncomputable def fX15_run_i31 (fu : Nat) (a1 : Int64) (r31 : (Int32 × Int64 × mwM × mwL) → Option (Int32 × mwM × mwL)) (v3 : Int32) (v4 : Int64) (M : mwM) (L : mwL) : Option (Int32 × mwM × mwL) :=
  (if 0 ≤ (lg_cmp v4 a1) then some (v3, M, L) else mb3 (DX15_microsecond fu M L) (fun r4 M2 L3 => mlet (v3 + r4) (fun x5 => mlet (v4 + 1) (fun x6 => r31 (x5, x6, M2, L3)))))
noncomputable def fX15_run_h31 (fu : Nat) (a1 : Int64) : Nat → (Int32 × Int64 × mwM × mwL) → Option (Int32 × mwM × mwL) := mloop (fun r31 s => fX15_run_i31 fu a1 r31 s.1 s.2.1 s.2.2.1 s.2.2.2)
noncomputable def DX15_run (fu : Nat) (a1 : Int64) (M : mwM) (L : mwL) : Option (Int32 × mwM × mwL) :=
  (if (lg_cmp a1 0) < 0 then fX15_run_b19 fu a1 M L else (if (lg_cmp a1 (50000 - (L 787 43))) ≤ 0 then mb2 (DX15_findCeilings fu M L) (fun M9 L10 => fX15_run_h31 fu a1 fu (0, 0, M9, L10)) else fX15_run_b19 fu a1 M L))
noncomputable def fX15_running_b12 (fu : Nat) (a1 : Int32) (a2 : Int64) (M : mwM) (L : mwL) : Option (Int32 × mwM × mwL) :=
  some ((-1), M, L)
noncomputable def fX15_running_b29 (fu : Nat) (a1 : Int32) (a2 : Int64) (M : mwM) (L : mwL) : Option (Int32 × mwM × mwL) :=
  some ((-2), M, L)
noncomputable def DX15_running (fu : Nat) (a1 : Int32) (a2 : Int64) (M : mwM) (L : mwL) : Option (Int32 × mwM × mwL) :=
  (if a1 < 0 then fX15_running_b12 fu a1 a2 M L else (if a1 < (M 787 0) then (if (lg_cmp a2 0) < 0 then fX15_running_b29 fu a1 a2 M L else (if (lg_cmp a2 (L 787 43)) < 0 then mck ((20000 * a1) + a2.toInt32) 120000 (some (M 820 ((20000 * a1) + a2.toInt32).toNatClampNeg, M, L)) else fX15_running_b29 fu a1 a2 M L)) else fX15_running_b12 fu a1 a2 M L))
noncomputable def fX15_used_b20 (fu : Nat) (a1 : Int32) (s0 : Int64) (M : mwM) (L : mwL) : Option (Int64 × mwM × mwL) :=
  some (s0, M, L)
noncomputable def DX15_used (fu : Nat) (a1 : Int32) (M : mwM) (L : mwL) : Option (Int64 × mwM × mwL) :=
  mb3 (DX15_no fu a1 M L) (fun r3 M1 L2 => (if r3 = 0 then mck a1 101 (fX15_used_b20 fu a1 (L2 805 a1.toNatClampNeg) M1 L2) else fX15_used_b20 fu a1 ((-1)) M1 L2))
noncomputable def fX15_state_b18 (fu : Nat) (a1 : Int32) (s0 : Int32) (M : mwM) (L : mwL) : Option (Int32 × mwM × mwL) :=
  some (s0, M, L)
noncomputable def DX15_state (fu : Nat) (a1 : Int32) (M : mwM) (L : mwL) : Option (Int32 × mwM × mwL) :=
  mb3 (DX15_no fu a1 M L) (fun r3 M1 L2 => (if r3 = 0 then mck a1 101 (fX15_state_b18 fu a1 (M1 796 a1.toNatClampNeg) M1 L2) else fX15_state_b18 fu a1 ((-1)) M1 L2))
noncomputable def fX16_anew_i22 (fu : Nat) (k : Nat) (a1 : Int32) (r22 : (Int32 × mwM × mwL) → Option (mwM × mwL)) (v2 : Int32) (M : mwM) (L : mwL) : Option (mwM × mwL) :=
  (if 65 ≤ v2 then some (M, L) else mck v2 65 (mlet (mset M (k + 14) (v2.toNatClampNeg) ((-1))) (fun M3 => mlet (v2 + 1) (fun x4 => r22 (x4, M3, L)))))
noncomputable def fX16_anew_h22 (fu : Nat) (k : Nat) (a1 : Int32) : Nat → (Int32 × mwM × mwL) → Option (mwM × mwL) := mloop (fun r22 s => fX16_anew_i22 fu k a1 r22 s.1 s.2.1 s.2.2)
noncomputable def DX16_anew (fu : Nat) (k : Nat) (a1 : Int32) (M : mwM) (L : mwL) : Option (mwM × mwL) :=
  mlet (mset M k 1 a1) (fun M5 => mlet (mset M5 k 2 0) (fun M6 => mlet (mset M6 k 15 0) (fun M7 => mlet (mset M7 k 14 0) (fun M8 => fX16_anew_h22 fu k a1 fu (0, M8, L)))))
noncomputable def fX16_none_b18 (fu : Nat) (k : Nat) (a1 : Int32) (s0 : Int32) (M : mwM) (L : mwL) : Option (Int32 × mwM × mwL) :=
  mzz s0 (some (s0, M, L))
noncomputable def fX16_none_b13 (fu : Nat) (k : Nat) (a1 : Int32) (M : mwM) (L : mwL) : Option (Int32 × mwM × mwL) :=
  fX16_none_b18 fu k a1 1 M L
noncomputable def DX16_none (fu : Nat) (k : Nat) (a1 : Int32) (M : mwM) (L : mwL) : Option (Int32 × mwM × mwL) :=
  (if a1 < 1 then fX16_none_b13 fu k a1 M L else (if a1 ≤ (M k 2) then fX16_none_b18 fu k a1 0 M L else fX16_none_b13 fu k a1 M L))
noncomputable def DX16_octetsOf (fu : Nat) (k : Nat) (a1 : Int32) (M : mwM) (L : mwL) : Option (Int32 × mwM × mwL) :=
  mck a1 129 (some (((M (k + 1) a1.toNatClampNeg) + 7) / 8, M, L))
noncomputable def fX16_part_b156 (fu : Nat) (k : Nat) (a1 : Int32) (a2 : Int32) (a3 : Int32) (a4 : Int32) (r91 : (Int32 × Int32 × mwM × mwL) → Option (Int32 × mwM × mwL)) (v6 : Int32) (v7 : Int32) (M : mwM) (L : mwL) : Option (Int32 × mwM × mwL) :=
  mlet (v7 + 1) (fun x26 => r91 (v6, x26, M, L))
noncomputable def fX16_part_i91 (fu : Nat) (k : Nat) (a1 : Int32) (a2 : Int32) (a3 : Int32) (a4 : Int32) (r91 : (Int32 × Int32 × mwM × mwL) → Option (Int32 × mwM × mwL)) (v6 : Int32) (v7 : Int32) (M : mwM) (L : mwL) : Option (Int32 × mwM × mwL) :=
  (if (M k 2) < v7 then some (v6, M, L) else mck v7 129 ((if (M (k + 5) v7.toNatClampNeg) = a1 then mck v7 129 ((if (M (k + 4) v7.toNatClampNeg) = a2 then mck v7 129 ((if (M (k + 3) v7.toNatClampNeg) = 0 then fX16_part_b156 fu k a1 a2 a3 a4 r91 v6 v7 M L else (if v7 = a4 then some (8 * v6, M, L) else mb3 (DX16_octetsOf fu k v7 M L) (fun r24 M22 L23 => mlet (v6 + r24) (fun x25 => fX16_part_b156 fu k a1 a2 a3 a4 r91 x25 v7 M22 L23))))) else fX16_part_b156 fu k a1 a2 a3 a4 r91 v6 v7 M L)) else fX16_part_b156 fu k a1 a2 a3 a4 r91 v6 v7 M L)))
noncomputable def fX16_part_h91 (fu : Nat) (k : Nat) (a1 : Int32) (a2 : Int32) (a3 : Int32) (a4 : Int32) : Nat → (Int32 × Int32 × mwM × mwL) → Option (Int32 × mwM × mwL) := mloop (fun r91 s => fX16_part_i91 fu k a1 a2 a3 a4 r91 s.1 s.2.1 s.2.2.1 s.2.2.2)
noncomputable def fX16_part_b72 (fu : Nat) (k : Nat) (a1 : Int32) (a2 : Int32) (a3 : Int32) (a4 : Int32) (r9 : (Int32 × Int32 × mwM × mwL) → Option (Int32 × mwM × mwL)) (v5 : Int32) (v6 : Int32) (M : mwM) (L : mwL) : Option (Int32 × mwM × mwL) :=
  mlet (v6 + 1) (fun x13 => r9 (v5, x13, M, L))
noncomputable def fX16_part_i9 (fu : Nat) (k : Nat) (a1 : Int32) (a2 : Int32) (a3 : Int32) (a4 : Int32) (r9 : (Int32 × Int32 × mwM × mwL) → Option (Int32 × mwM × mwL)) (v5 : Int32) (v6 : Int32) (M : mwM) (L : mwL) : Option (Int32 × mwM × mwL) :=
  (if (M k 2) < v6 then mlet ((v5 + 7) / 8) (fun x3 => fX16_part_h91 fu k a1 a2 a3 a4 fu (x3, 1, M, L)) else mck v6 129 ((if (M (k + 5) v6.toNatClampNeg) = a1 then mck v6 129 ((if (M (k + 4) v6.toNatClampNeg) = a2 then mck v6 129 ((if (M (k + 3) v6.toNatClampNeg) = 0 then (if v6 = a4 then some (v5, M, L) else mck v6 129 (mlet (v5 + (M (k + 1) v6.toNatClampNeg)) (fun x12 => fX16_part_b72 fu k a1 a2 a3 a4 r9 x12 v6 M L))) else fX16_part_b72 fu k a1 a2 a3 a4 r9 v5 v6 M L)) else fX16_part_b72 fu k a1 a2 a3 a4 r9 v5 v6 M L)) else fX16_part_b72 fu k a1 a2 a3 a4 r9 v5 v6 M L)))
noncomputable def fX16_part_h9 (fu : Nat) (k : Nat) (a1 : Int32) (a2 : Int32) (a3 : Int32) (a4 : Int32) : Nat → (Int32 × Int32 × mwM × mwL) → Option (Int32 × mwM × mwL) := mloop (fun r9 s => fX16_part_i9 fu k a1 a2 a3 a4 r9 s.1 s.2.1 s.2.2.1 s.2.2.2)
noncomputable def DX16_part (fu : Nat) (k : Nat) (a1 : Int32) (a2 : Int32) (a3 : Int32) (a4 : Int32) (M : mwM) (L : mwL) : Option (Int32 × mwM × mwL) :=
  mlet (8 * a3) (fun x27 => fX16_part_h9 fu k a1 a2 a3 a4 fu (x27, 1, M, L))
noncomputable def fX16_size_b73 (fu : Nat) (k : Nat) (a1 : Int32) (r14 : (Int32 × Int32 × Int32 × mwM × mwL) → Option (Int32 × mwM × mwL)) (v2 : Int32) (v3 : Int32) (v4 : Int32) (M : mwM) (L : mwL) : Option (Int32 × mwM × mwL) :=
  mlet (v4 + 1) (fun x11 => r14 (v2, v3, x11, M, L))
noncomputable def fX16_size_b72 (fu : Nat) (k : Nat) (a1 : Int32) (r14 : (Int32 × Int32 × Int32 × mwM × mwL) → Option (Int32 × mwM × mwL)) (v2 : Int32) (v4 : Int32) (s0 : Int32) (M : mwM) (L : mwL) : Option (Int32 × mwM × mwL) :=
  fX16_size_b73 fu k a1 r14 v2 s0 v4 M L
noncomputable def fX16_size_i14 (fu : Nat) (k : Nat) (a1 : Int32) (r14 : (Int32 × Int32 × Int32 × mwM × mwL) → Option (Int32 × mwM × mwL)) (v2 : Int32) (v3 : Int32) (v4 : Int32) (M : mwM) (L : mwL) : Option (Int32 × mwM × mwL) :=
  (if (M k 2) < v4 then some (v3, M, L) else mck v4 129 ((if (M (k + 5) v4.toNatClampNeg) = a1 then mck v4 129 ((if (M (k + 4) v4.toNatClampNeg) < 0 then fX16_size_b73 fu k a1 r14 v2 v3 v4 M L else mck v4 129 (mb3 (DX16_part fu k a1 (M (k + 4) v4.toNatClampNeg) v2 0 M L) (fun r9 M7 L8 => (if r9 ≤ v3 then fX16_size_b72 fu k a1 r14 v2 v4 v3 M7 L8 else fX16_size_b72 fu k a1 r14 v2 v4 r9 M7 L8))))) else fX16_size_b73 fu k a1 r14 v2 v3 v4 M L)))
noncomputable def fX16_size_h14 (fu : Nat) (k : Nat) (a1 : Int32) : Nat → (Int32 × Int32 × Int32 × mwM × mwL) → Option (Int32 × mwM × mwL) := mloop (fun r14 s => fX16_size_i14 fu k a1 r14 s.1 s.2.1 s.2.2.1 s.2.2.2.1 s.2.2.2.2)
noncomputable def DX16_size (fu : Nat) (k : Nat) (a1 : Int32) (M : mwM) (L : mwL) : Option (Int32 × mwM × mwL) :=
  mb3 (DX16_part fu k a1 ((-1)) 0 0 M L) (fun r15 M12 L13 => fX16_size_h14 fu k a1 fu (r15, r15, 1, M12, L13))
noncomputable def fX16_bitInGroup_b47 (fu : Nat) (k : Nat) (a1 : Int32) (s0 : Int32) (M : mwM) (L : mwL) : Option (Int32 × mwM × mwL) :=
  some (s0, M, L)
noncomputable def DX16_bitInGroup (fu : Nat) (k : Nat) (a1 : Int32) (M : mwM) (L : mwL) : Option (Int32 × mwM × mwL) :=
  mck a1 129 (mlet (M (k + 5) a1.toNatClampNeg) (fun x2 => mck a1 129 ((if 0 ≤ (M (k + 4) a1.toNatClampNeg) then mck a1 129 (mb3 (DX16_part fu k x2 ((-1)) 0 0 M L) (fun r8 M6 L7 => mb3 (DX16_part fu k x2 (M (k + 4) a1.toNatClampNeg) r8 a1 M6 L7) (fun r11 M9 L10 => fX16_bitInGroup_b47 fu k a1 r11 M9 L10))) else mb3 (DX16_part fu k x2 ((-1)) 0 a1 M L) (fun r14 M12 L13 => fX16_bitInGroup_b47 fu k a1 r14 M12 L13)))))
noncomputable def fX16_signal_b27 (fu : Nat) (k : Nat) (a1 : Int32) (a2 : Int32) (a3 : Int32) (M : mwM) (L : mwL) : Option (Int32 × mwM × mwL) :=
  some ((-2), M, L)
noncomputable def DX16_signal (fu : Nat) (k : Nat) (a1 : Int32) (a2 : Int32) (a3 : Int32) (M : mwM) (L : mwL) : Option (Int32 × mwM × mwL) :=
  mlet (mset M k 0 0) (fun M1 => (if a1 < 1 then fX16_signal_b27 fu k a1 a2 a3 M1 L else (if 64 < a1 then fX16_signal_b27 fu k a1 a2 a3 M1 L else (if a2 < 1 then fX16_signal_b27 fu k a1 a2 a3 M1 L else (if a2 ≤ 1000000 then (if (M1 k 2) = 128 then some ((-4), M1, L) else (if ((a1 + 7) / 8) ≤ (M1 k 1) then mlet (mset M1 k 2 ((M1 k 2) + 1)) (fun M9 => mck (M9 k 2) 129 (mlet (mset M9 (k + 1) ((M9 k 2).toNatClampNeg) a1) (fun M11 => mck (M11 k 2) 129 (mlet (mset M11 (k + 2) ((M11 k 2).toNatClampNeg) a2) (fun M13 => mck (M13 k 2) 129 (mlet (mset M13 (k + 3) ((M13 k 2).toNatClampNeg) (vp_nar .boolean a3)) (fun M15 => mck (M15 k 2) 129 (mlet (mset M15 (k + 4) ((M15 k 2).toNatClampNeg) ((-1))) (fun M17 => mck (M17 k 2) 129 (mlet (mset M17 (k + 5) ((M17 k 2).toNatClampNeg) (M17 k 2)) (fun M19 => mck (M19 k 2) 129 (mlet (mset M19 (k + 6) ((M19 k 2).toNatClampNeg) 0) (fun M21 => mck (M21 k 2) 129 (mlet (mset M21 (k + 7) ((M21 k 2).toNatClampNeg) 0) (fun M23 => mck (M23 k 2) 129 (mlet (mset M23 (k + 9) ((M23 k 2).toNatClampNeg) 0) (fun M25 => mck (M25 k 2) 129 (mlet (mset M25 (k + 11) ((M25 k 2).toNatClampNeg) (vp_nar .boolean 0)) (fun M27 => some (M27 k 2, M27, L)))))))))))))))))))) else some (0, M1, L))) else fX16_signal_b27 fu k a1 a2 a3 M1 L)))))
noncomputable def fX16_isGroup_b15 (fu : Nat) (k : Nat) (a1 : Int32) (s0 : Int32) (M : mwM) (L : mwL) : Option (Int32 × mwM × mwL) :=
  mzz s0 (some (s0, M, L))
noncomputable def DX16_isGroup (fu : Nat) (k : Nat) (a1 : Int32) (M : mwM) (L : mwL) : Option (Int32 × mwM × mwL) :=
  mck a1 129 ((if (M (k + 5) a1.toNatClampNeg) = a1 then fX16_isGroup_b15 fu k a1 1 M L else fX16_isGroup_b15 fu k a1 0 M L))
noncomputable def fX16_isFree_b99 (fu : Nat) (k : Nat) (a1 : Int32) (a2 : Int32) (a3 : Int32) (v4 : Int32) (M : mwM) (L : mwL) : Option (Int32 × mwM × mwL) :=
  mzz v4 (some (v4, M, L))
noncomputable def fX16_isFree_b91 (fu : Nat) (k : Nat) (a1 : Int32) (a2 : Int32) (a3 : Int32) (r20 : (Int32 × Int32 × mwM × mwL) → Option (Int32 × mwM × mwL)) (v5 : Int32) (s0 : Int32) (M : mwM) (L : mwL) : Option (Int32 × mwM × mwL) :=
  mlet (v5 + 1) (fun x14 => r20 (s0, x14, M, L))
noncomputable def fX16_isFree_b86 (fu : Nat) (k : Nat) (a1 : Int32) (a2 : Int32) (a3 : Int32) (r20 : (Int32 × Int32 × mwM × mwL) → Option (Int32 × mwM × mwL)) (v5 : Int32) (M : mwM) (L : mwL) : Option (Int32 × mwM × mwL) :=
  fX16_isFree_b91 fu k a1 a2 a3 r20 v5 1 M L
noncomputable def fX16_isFree_i20 (fu : Nat) (k : Nat) (a1 : Int32) (a2 : Int32) (a3 : Int32) (r20 : (Int32 × Int32 × mwM × mwL) → Option (Int32 × mwM × mwL)) (v4 : Int32) (v5 : Int32) (M : mwM) (L : mwL) : Option (Int32 × mwM × mwL) :=
  (if (M k 2) < v5 then fX16_isFree_b99 fu k a1 a2 a3 v4 M L else (if v4 = 0 then fX16_isFree_b99 fu k a1 a2 a3 v4 M L else mb3 (DX16_isGroup fu k v5 M L) (fun r5 M3 L4 => (if r5 = 0 then fX16_isFree_b86 fu k a1 a2 a3 r20 v5 M3 L4 else mck v5 129 ((if (M3 (k + 16) v5.toNatClampNeg) = a1 then mck v5 129 (mck v5 129 ((if ((M3 (k + 17) v5.toNatClampNeg) + (M3 (k + 22) v5.toNatClampNeg)) ≤ a2 then fX16_isFree_b86 fu k a1 a2 a3 r20 v5 M3 L4 else mck v5 129 ((if (M3 (k + 17) v5.toNatClampNeg) < (a2 + a3) then fX16_isFree_b91 fu k a1 a2 a3 r20 v5 0 M3 L4 else fX16_isFree_b86 fu k a1 a2 a3 r20 v5 M3 L4))))) else fX16_isFree_b86 fu k a1 a2 a3 r20 v5 M3 L4))))))
noncomputable def fX16_isFree_h20 (fu : Nat) (k : Nat) (a1 : Int32) (a2 : Int32) (a3 : Int32) : Nat → (Int32 × Int32 × mwM × mwL) → Option (Int32 × mwM × mwL) := mloop (fun r20 s => fX16_isFree_i20 fu k a1 a2 a3 r20 s.1 s.2.1 s.2.2.1 s.2.2.2)
noncomputable def fX16_isFree_b15 (fu : Nat) (k : Nat) (a1 : Int32) (a2 : Int32) (a3 : Int32) (s0 : Int32) (M : mwM) (L : mwL) : Option (Int32 × mwM × mwL) :=
  fX16_isFree_h20 fu k a1 a2 a3 fu (s0, 1, M, L)
noncomputable def DX16_isFree (fu : Nat) (k : Nat) (a1 : Int32) (a2 : Int32) (a3 : Int32) (M : mwM) (L : mwL) : Option (Int32 × mwM × mwL) :=
  (if (M k 1) < (a2 + a3) then fX16_isFree_b15 fu k a1 a2 a3 0 M L else fX16_isFree_b15 fu k a1 a2 a3 1 M L)
noncomputable def fX16_room_b103 (fu : Nat) (k : Nat) (a1 : Int32) (a2 : Int32) (v3 : Int32) (M : mwM) (L : mwL) : Option (Int32 × mwM × mwL) :=
  some (v3, M, L)
noncomputable def fX16_room_b97 (fu : Nat) (k : Nat) (a1 : Int32) (a2 : Int32) (r19 : (Int32 × Int32 × mwM × mwL) → Option (Int32 × mwM × mwL)) (v3 : Int32) (v4 : Int32) (M : mwM) (L : mwL) : Option (Int32 × mwM × mwL) :=
  mlet (v4 + 1) (fun x18 => r19 (v3, x18, M, L))
noncomputable def fX16_room_b96 (fu : Nat) (k : Nat) (a1 : Int32) (a2 : Int32) (r19 : (Int32 × Int32 × mwM × mwL) → Option (Int32 × mwM × mwL)) (v4 : Int32) (s0 : Int32) (M : mwM) (L : mwL) : Option (Int32 × mwM × mwL) :=
  fX16_room_b97 fu k a1 a2 r19 s0 v4 M L
noncomputable def fX16_room_b95 (fu : Nat) (k : Nat) (a1 : Int32) (a2 : Int32) (r19 : (Int32 × Int32 × mwM × mwL) → Option (Int32 × mwM × mwL)) (v3 : Int32) (v4 : Int32) (M : mwM) (L : mwL) : Option (Int32 × mwM × mwL) :=
  fX16_room_b96 fu k a1 a2 r19 v4 v3 M L
noncomputable def fX16_room_b90 (fu : Nat) (k : Nat) (a1 : Int32) (a2 : Int32) (r19 : (Int32 × Int32 × mwM × mwL) → Option (Int32 × mwM × mwL)) (v4 : Int32) (v5 : Int32) (M : mwM) (L : mwL) : Option (Int32 × mwM × mwL) :=
  fX16_room_b96 fu k a1 a2 r19 v4 v5 M L
noncomputable def fX16_room_i19 (fu : Nat) (k : Nat) (a1 : Int32) (a2 : Int32) (r19 : (Int32 × Int32 × mwM × mwL) → Option (Int32 × mwM × mwL)) (v3 : Int32) (v4 : Int32) (M : mwM) (L : mwL) : Option (Int32 × mwM × mwL) :=
  (if (M k 2) < v4 then fX16_room_b103 fu k a1 a2 v3 M L else (if v3 = 0 then fX16_room_b103 fu k a1 a2 v3 M L else mb3 (DX16_isGroup fu k v4 M L) (fun r5 M3 L4 => (if r5 = 0 then fX16_room_b97 fu k a1 a2 r19 v3 v4 M3 L4 else mck v4 129 ((if (M3 (k + 16) v4.toNatClampNeg) = a1 then mck v4 129 (mck v4 129 (mlet ((M3 (k + 17) v4.toNatClampNeg) + (M3 (k + 22) v4.toNatClampNeg)) (fun x11 => mb3 (DX16_isFree fu k a1 x11 a2 M3 L4) (fun r14 M12 L13 => (if r14 = 0 then fX16_room_b95 fu k a1 a2 r19 v3 v4 M12 L13 else (if v3 < 0 then fX16_room_b90 fu k a1 a2 r19 v4 x11 M12 L13 else (if v3 ≤ x11 then fX16_room_b95 fu k a1 a2 r19 v3 v4 M12 L13 else fX16_room_b90 fu k a1 a2 r19 v4 x11 M12 L13))))))) else fX16_room_b97 fu k a1 a2 r19 v3 v4 M3 L4))))))
noncomputable def fX16_room_h19 (fu : Nat) (k : Nat) (a1 : Int32) (a2 : Int32) : Nat → (Int32 × Int32 × mwM × mwL) → Option (Int32 × mwM × mwL) := mloop (fun r19 s => fX16_room_i19 fu k a1 a2 r19 s.1 s.2.1 s.2.2.1 s.2.2.2)
noncomputable def fX16_room_b15 (fu : Nat) (k : Nat) (a1 : Int32) (a2 : Int32) (s0 : Int32) (M : mwM) (L : mwL) : Option (Int32 × mwM × mwL) :=
  fX16_room_h19 fu k a1 a2 fu (s0, 1, M, L)
noncomputable def DX16_room (fu : Nat) (k : Nat) (a1 : Int32) (a2 : Int32) (M : mwM) (L : mwL) : Option (Int32 × mwM × mwL) :=
  mb3 (DX16_isFree fu k a1 0 a2 M L) (fun r21 M19 L20 => (if r21 = 0 then fX16_room_b15 fu k a1 a2 ((-1)) M19 L20 else fX16_room_b15 fu k a1 a2 0 M19 L20))
noncomputable def fX16_isUsed_b39 (fu : Nat) (k : Nat) (a1 : Int32) (r4 : (Int32 × Int32 × mwM × mwL) → Option (Int32 × mwM × mwL)) (v3 : Int32) (s0 : Int32) (M : mwM) (L : mwL) : Option (Int32 × mwM × mwL) :=
  mlet (v3 + 1) (fun x10 => r4 (s0, x10, M, L))
noncomputable def fX16_isUsed_b38 (fu : Nat) (k : Nat) (a1 : Int32) (r4 : (Int32 × Int32 × mwM × mwL) → Option (Int32 × mwM × mwL)) (v3 : Int32) (M : mwM) (L : mwL) : Option (Int32 × mwM × mwL) :=
  fX16_isUsed_b39 fu k a1 r4 v3 0 M L
noncomputable def fX16_isUsed_b34 (fu : Nat) (k : Nat) (a1 : Int32) (r4 : (Int32 × Int32 × mwM × mwL) → Option (Int32 × mwM × mwL)) (v3 : Int32) (M : mwM) (L : mwL) : Option (Int32 × mwM × mwL) :=
  fX16_isUsed_b39 fu k a1 r4 v3 1 M L
noncomputable def fX16_isUsed_i4 (fu : Nat) (k : Nat) (a1 : Int32) (r4 : (Int32 × Int32 × mwM × mwL) → Option (Int32 × mwM × mwL)) (v2 : Int32) (v3 : Int32) (M : mwM) (L : mwL) : Option (Int32 × mwM × mwL) :=
  (if (M k 2) < v3 then mzz v2 (some (v2, M, L)) else (if v2 = 0 then mb3 (DX16_isGroup fu k v3 M L) (fun r6 M4 L5 => (if r6 = 0 then fX16_isUsed_b38 fu k a1 r4 v3 M4 L5 else mck v3 129 ((if (M4 (k + 16) v3.toNatClampNeg) = a1 then fX16_isUsed_b34 fu k a1 r4 v3 M4 L5 else fX16_isUsed_b38 fu k a1 r4 v3 M4 L5)))) else fX16_isUsed_b34 fu k a1 r4 v3 M L))
noncomputable def fX16_isUsed_h4 (fu : Nat) (k : Nat) (a1 : Int32) : Nat → (Int32 × Int32 × mwM × mwL) → Option (Int32 × mwM × mwL) := mloop (fun r4 s => fX16_isUsed_i4 fu k a1 r4 s.1 s.2.1 s.2.2.1 s.2.2.2)
noncomputable def DX16_isUsed (fu : Nat) (k : Nat) (a1 : Int32) (M : mwM) (L : mwL) : Option (Int32 × mwM × mwL) :=
  fX16_isUsed_h4 fu k a1 fu (0, 1, M, L)
noncomputable def fX16_hasOther_b54 (fu : Nat) (k : Nat) (a1 : Int32) (a2 : Int32) (r5 : (Int32 × Int32 × mwM × mwL) → Option (Int32 × mwM × mwL)) (v4 : Int32) (s0 : Int32) (M : mwM) (L : mwL) : Option (Int32 × mwM × mwL) :=
  mlet (v4 + 1) (fun x12 => r5 (s0, x12, M, L))
noncomputable def fX16_hasOther_b53 (fu : Nat) (k : Nat) (a1 : Int32) (a2 : Int32) (r5 : (Int32 × Int32 × mwM × mwL) → Option (Int32 × mwM × mwL)) (v4 : Int32) (M : mwM) (L : mwL) : Option (Int32 × mwM × mwL) :=
  fX16_hasOther_b54 fu k a1 a2 r5 v4 0 M L
noncomputable def fX16_hasOther_b49 (fu : Nat) (k : Nat) (a1 : Int32) (a2 : Int32) (r5 : (Int32 × Int32 × mwM × mwL) → Option (Int32 × mwM × mwL)) (v4 : Int32) (M : mwM) (L : mwL) : Option (Int32 × mwM × mwL) :=
  fX16_hasOther_b54 fu k a1 a2 r5 v4 1 M L
noncomputable def fX16_hasOther_i5 (fu : Nat) (k : Nat) (a1 : Int32) (a2 : Int32) (r5 : (Int32 × Int32 × mwM × mwL) → Option (Int32 × mwM × mwL)) (v3 : Int32) (v4 : Int32) (M : mwM) (L : mwL) : Option (Int32 × mwM × mwL) :=
  (if (M k 2) < v4 then mzz v3 (some (v3, M, L)) else (if v3 = 0 then mb3 (DX16_isGroup fu k v4 M L) (fun r6 M4 L5 => (if r6 = 0 then fX16_hasOther_b53 fu k a1 a2 r5 v4 M4 L5 else mck v4 129 ((if (M4 (k + 16) v4.toNatClampNeg) = a1 then mck v4 129 ((if (M4 (k + 2) v4.toNatClampNeg) = a2 then fX16_hasOther_b53 fu k a1 a2 r5 v4 M4 L5 else fX16_hasOther_b49 fu k a1 a2 r5 v4 M4 L5)) else fX16_hasOther_b53 fu k a1 a2 r5 v4 M4 L5)))) else fX16_hasOther_b49 fu k a1 a2 r5 v4 M L))
noncomputable def fX16_hasOther_h5 (fu : Nat) (k : Nat) (a1 : Int32) (a2 : Int32) : Nat → (Int32 × Int32 × mwM × mwL) → Option (Int32 × mwM × mwL) := mloop (fun r5 s => fX16_hasOther_i5 fu k a1 a2 r5 s.1 s.2.1 s.2.2.1 s.2.2.2)
noncomputable def DX16_hasOther (fu : Nat) (k : Nat) (a1 : Int32) (a2 : Int32) (M : mwM) (L : mwL) : Option (Int32 × mwM × mwL) :=
  fX16_hasOther_h5 fu k a1 a2 fu (0, 1, M, L)
noncomputable def fX16_newFrame_b22 (fu : Nat) (k : Nat) (v1 : Int32) (M : mwM) (L : mwL) : Option (Int32 × mwM × mwL) :=
  some (v1, M, L)
noncomputable def fX16_newFrame_i2 (fu : Nat) (k : Nat) (r2 : (Int32 × mwM × mwL) → Option (Int32 × mwM × mwL)) (v1 : Int32) (M : mwM) (L : mwL) : Option (Int32 × mwM × mwL) :=
  (if 65 ≤ v1 then fX16_newFrame_b22 fu k v1 M L else mb3 (DX16_isUsed fu k v1 M L) (fun r4 M2 L3 => (if r4 = 0 then fX16_newFrame_b22 fu k v1 M2 L3 else mlet (v1 + 1) (fun x6 => r2 (x6, M2, L3)))))
noncomputable def fX16_newFrame_h2 (fu : Nat) (k : Nat) : Nat → (Int32 × mwM × mwL) → Option (Int32 × mwM × mwL) := mloop (fun r2 s => fX16_newFrame_i2 fu k r2 s.1 s.2.1 s.2.2)
noncomputable def DX16_newFrame (fu : Nat) (k : Nat) (M : mwM) (L : mwL) : Option (Int32 × mwM × mwL) :=
  fX16_newFrame_h2 fu k fu (1, M, L)
noncomputable def fX16_search_b289 (fu : Nat) (k : Nat) (a1 : Int32) (a2 : Int32) (a3 : Int32) (s0 : Int32) (M : mwM) (L : mwL) : Option (Int32 × mwM × mwL) :=
  mzz s0 (some (s0, M, L))
noncomputable def fX16_search_b278 (fu : Nat) (k : Nat) (a1 : Int32) (a2 : Int32) (a3 : Int32) (v4 : Int32) (M : mwM) (L : mwL) : Option (Int32 × mwM × mwL) :=
  (if v4 = a1 then fX16_search_b289 fu k a1 a2 a3 1 M L else fX16_search_b289 fu k a1 a2 a3 0 M L)
noncomputable def fX16_search_b156 (fu : Nat) (k : Nat) (a1 : Int32) (a2 : Int32) (a3 : Int32) (r13 : (Int32 × Int32 × mwM × mwL) → Option (Int32 × mwM × mwL)) (v4 : Int32) (v5 : Int32) (M : mwM) (L : mwL) : Option (Int32 × mwM × mwL) :=
  mlet (v4 + (-1)) (fun x29 => r13 (x29, v5, M, L))
noncomputable def fX16_search_b246 (fu : Nat) (k : Nat) (a1 : Int32) (a2 : Int32) (a3 : Int32) (r13 : (Int32 × Int32 × mwM × mwL) → Option (Int32 × mwM × mwL)) (v4 : Int32) (v5 : Int32) (v6 : Int32) (v8 : Int32) (v9 : Int32) (M : mwM) (L : mwL) : Option (Int32 × mwM × mwL) :=
  mck v6 129 (mlet (mset M (k + 16) (v6.toNatClampNeg) v8) (fun M48 => mck v6 129 (mlet (mset M48 (k + 17) (v6.toNatClampNeg) v9) (fun M50 => mlet (v4 + 1) (fun x51 => mck x51 129 (mlet (mset M50 (k + 20) (x51.toNatClampNeg) ((-1))) (fun M53 => r13 (x51, v5, M53, L))))))))
noncomputable def fX16_search_b209 (fu : Nat) (k : Nat) (a1 : Int32) (a2 : Int32) (a3 : Int32) (r13 : (Int32 × Int32 × mwM × mwL) → Option (Int32 × mwM × mwL)) (v4 : Int32) (v5 : Int32) (v6 : Int32) (v7 : Int32) (v8 : Int32) (s0 : Int32) (M : mwM) (L : mwL) : Option (Int32 × mwM × mwL) :=
  (if 0 ≤ s0 then (if v7 = v5 then mck v5 65 (mlet (mset M (k + 19) (v5.toNatClampNeg) v8) (fun M43 => mlet (v5 + 1) (fun x44 => mck v4 129 (mlet (mset M43 (k + 21) (v4.toNatClampNeg) (vp_nar .boolean 1)) (fun M46 => fX16_search_b246 fu k a1 a2 a3 r13 v4 x44 v6 v8 s0 M46 L))))) else fX16_search_b246 fu k a1 a2 a3 r13 v4 v5 v6 v8 s0 M L) else r13 (v4, v5, M, L))
noncomputable def fX16_search_b183 (fu : Nat) (k : Nat) (a1 : Int32) (a2 : Int32) (a3 : Int32) (r13 : (Int32 × Int32 × mwM × mwL) → Option (Int32 × mwM × mwL)) (v4 : Int32) (v5 : Int32) (v6 : Int32) (v7 : Int32) (s0 : Int32) (M : mwM) (L : mwL) : Option (Int32 × mwM × mwL) :=
  (if v7 = v5 then fX16_search_b209 fu k a1 a2 a3 r13 v4 v5 v6 v7 s0 0 M L else mck v6 129 (mb3 (DX16_room fu k s0 (M (k + 22) v6.toNatClampNeg) M L) (fun r39 M37 L38 => fX16_search_b209 fu k a1 a2 a3 r13 v4 v5 v6 v7 s0 r39 M37 L38)))
noncomputable def fX16_search_b162 (fu : Nat) (k : Nat) (a1 : Int32) (a2 : Int32) (a3 : Int32) (r13 : (Int32 × Int32 × mwM × mwL) → Option (Int32 × mwM × mwL)) (v4 : Int32) (v5 : Int32) (v6 : Int32) (v7 : Int32) (M : mwM) (L : mwL) : Option (Int32 × mwM × mwL) :=
  (if v7 = v5 then mb3 (DX16_newFrame fu k M L) (fun r34 M32 L33 => fX16_search_b183 fu k a1 a2 a3 r13 v4 v5 v6 v7 r34 M32 L33) else mck v7 65 (fX16_search_b183 fu k a1 a2 a3 r13 v4 v5 v6 v7 (M (k + 19) v7.toNatClampNeg) M L))
noncomputable def fX16_search_b97 (fu : Nat) (k : Nat) (a1 : Int32) (a2 : Int32) (a3 : Int32) (r13 : (Int32 × Int32 × mwM × mwL) → Option (Int32 × mwM × mwL)) (v4 : Int32) (v5 : Int32) (v6 : Int32) (M : mwM) (L : mwL) : Option (Int32 × mwM × mwL) :=
  mck v4 129 (mlet (mset M (k + 21) (v4.toNatClampNeg) (vp_nar .boolean 0)) (fun M16 => mck v4 129 (mck v4 129 (mlet (mset M16 (k + 20) (v4.toNatClampNeg) ((M16 (k + 20) v4.toNatClampNeg) + 1)) (fun M19 => mck v4 129 (mlet (M19 (k + 20) v4.toNatClampNeg) (fun x21 => (if v5 < x21 then fX16_search_b156 fu k a1 a2 a3 r13 v4 v5 M19 L else (if x21 = v5 then (if (v5 - a2) = a3 then fX16_search_b156 fu k a1 a2 a3 r13 v4 v5 M19 L else mb3 (DX16_newFrame fu k M19 L) (fun r27 M25 L26 => (if r27 = 65 then fX16_search_b156 fu k a1 a2 a3 r13 v4 v5 M25 L26 else fX16_search_b162 fu k a1 a2 a3 r13 v4 v5 v6 x21 M25 L26))) else fX16_search_b162 fu k a1 a2 a3 r13 v4 v5 v6 x21 M19 L)))))))))
noncomputable def fX16_search_b87 (fu : Nat) (k : Nat) (a1 : Int32) (a2 : Int32) (a3 : Int32) (r13 : (Int32 × Int32 × mwM × mwL) → Option (Int32 × mwM × mwL)) (v4 : Int32) (v6 : Int32) (s0 : Int32) (M : mwM) (L : mwL) : Option (Int32 × mwM × mwL) :=
  mck v6 129 (mlet (mset M (k + 16) (v6.toNatClampNeg) 0) (fun M14 => fX16_search_b97 fu k a1 a2 a3 r13 v4 s0 v6 M14 L))
noncomputable def fX16_search_b85 (fu : Nat) (k : Nat) (a1 : Int32) (a2 : Int32) (a3 : Int32) (r13 : (Int32 × Int32 × mwM × mwL) → Option (Int32 × mwM × mwL)) (v4 : Int32) (v5 : Int32) (v6 : Int32) (M : mwM) (L : mwL) : Option (Int32 × mwM × mwL) :=
  fX16_search_b87 fu k a1 a2 a3 r13 v4 v6 v5 M L
noncomputable def fX16_search_i13 (fu : Nat) (k : Nat) (a1 : Int32) (a2 : Int32) (a3 : Int32) (r13 : (Int32 × Int32 × mwM × mwL) → Option (Int32 × mwM × mwL)) (v4 : Int32) (v5 : Int32) (M : mwM) (L : mwL) : Option (Int32 × mwM × mwL) :=
  (if v4 < 0 then fX16_search_b278 fu k a1 a2 a3 v4 M L else (if a1 ≤ v4 then fX16_search_b278 fu k a1 a2 a3 v4 M L else mck v4 129 (mlet (M (k + 18) v4.toNatClampNeg) (fun x4 => mck x4 129 ((if (M (k + 16) x4.toNatClampNeg) ≤ 0 then fX16_search_b97 fu k a1 a2 a3 r13 v4 v5 x4 M L else mck v4 129 ((if (M (k + 20) v4.toNatClampNeg) = (v5 - 1) then mck v4 129 ((if (M (k + 20) v4.toNatClampNeg) < a2 then fX16_search_b85 fu k a1 a2 a3 r13 v4 v5 x4 M L else mck v4 129 ((if (M (k + 21) v4.toNatClampNeg) = 0 then fX16_search_b85 fu k a1 a2 a3 r13 v4 v5 x4 M L else fX16_search_b87 fu k a1 a2 a3 r13 v4 x4 (v5 - 1) M L)))) else fX16_search_b85 fu k a1 a2 a3 r13 v4 v5 x4 M L))))))))
noncomputable def fX16_search_h13 (fu : Nat) (k : Nat) (a1 : Int32) (a2 : Int32) (a3 : Int32) : Nat → (Int32 × Int32 × mwM × mwL) → Option (Int32 × mwM × mwL) := mloop (fun r13 s => fX16_search_i13 fu k a1 a2 a3 r13 s.1 s.2.1 s.2.2.1 s.2.2.2)
noncomputable def DX16_search (fu : Nat) (k : Nat) (a1 : Int32) (a2 : Int32) (a3 : Int32) (M : mwM) (L : mwL) : Option (Int32 × mwM × mwL) :=
  mlet (mset M (k + 20) ((0 : Int32).toNatClampNeg) ((-1))) (fun M57 => fX16_search_h13 fu k a1 a2 a3 fu (0, a2, M57, L))
noncomputable def fX16_inTurn_b104 (fu : Nat) (k : Nat) (a1 : Int32) (a2 : Int32) (r5 : (Int32 × Int32 × mwM × mwL) → Option (Int32 × mwM × mwL)) (v3 : Int32) (v4 : Int32) (v5 : Int32) (v6 : Int32) (v7 : Int32) (M : mwM) (L : mwL) : Option (Int32 × mwM × mwL) :=
  mck v5 129 (mlet (mset M (k + 16) (v5.toNatClampNeg) v7) (fun M22 => mck v5 129 (mlet (mset M22 (k + 17) (v5.toNatClampNeg) v6) (fun M24 => mlet (v4 + 1) (fun x25 => r5 (v3, x25, M24, L))))))
noncomputable def fX16_inTurn_b70 (fu : Nat) (k : Nat) (a1 : Int32) (a2 : Int32) (r5 : (Int32 × Int32 × mwM × mwL) → Option (Int32 × mwM × mwL)) (v3 : Int32) (v4 : Int32) (v5 : Int32) (v6 : Int32) (v7 : Int32) (M : mwM) (L : mwL) : Option (Int32 × mwM × mwL) :=
  (if 0 ≤ v6 then fX16_inTurn_b104 fu k a1 a2 r5 v3 v4 v5 v6 v7 M L else mb3 (DX16_newFrame fu k M L) (fun r16 M14 L15 => (if r16 = 65 then some (0, M14, L15) else mck v3 65 (mlet (mset M14 (k + 19) (v3.toNatClampNeg) r16) (fun M19 => mlet (v3 + 1) (fun x20 => fX16_inTurn_b104 fu k a1 a2 r5 x20 v4 v5 0 r16 M19 L15))))))
noncomputable def fX16_inTurn_i29 (fu : Nat) (k : Nat) (a1 : Int32) (a2 : Int32) (r5 : (Int32 × Int32 × mwM × mwL) → Option (Int32 × mwM × mwL)) (r29 : (Int32 × Int32 × Int32 × Int32 × Int32 × Int32 × mwM × mwL) → Option (Int32 × mwM × mwL)) (v3 : Int32) (v4 : Int32) (v5 : Int32) (v6 : Int32) (v7 : Int32) (v8 : Int32) (M : mwM) (L : mwL) : Option (Int32 × mwM × mwL) :=
  (if v3 ≤ v8 then fX16_inTurn_b70 fu k a1 a2 r5 v3 v4 v5 v6 v7 M L else (if 0 ≤ v6 then fX16_inTurn_b70 fu k a1 a2 r5 v3 v4 v5 v6 v7 M L else mck v8 65 (mlet (M (k + 19) v8.toNatClampNeg) (fun x7 => mck v5 129 (mb3 (DX16_room fu k x7 (M (k + 22) v5.toNatClampNeg) M L) (fun r11 M9 L10 => mlet (v8 + 1) (fun x12 => r29 (v3, v4, v5, r11, x7, x12, M9, L10))))))))
noncomputable def fX16_inTurn_h29 (fu : Nat) (k : Nat) (a1 : Int32) (a2 : Int32) (r5 : (Int32 × Int32 × mwM × mwL) → Option (Int32 × mwM × mwL)) : Nat → (Int32 × Int32 × Int32 × Int32 × Int32 × Int32 × mwM × mwL) → Option (Int32 × mwM × mwL) := mloop (fun r29 s => fX16_inTurn_i29 fu k a1 a2 r5 r29 s.1 s.2.1 s.2.2.1 s.2.2.2.1 s.2.2.2.2.1 s.2.2.2.2.2.1 s.2.2.2.2.2.2.1 s.2.2.2.2.2.2.2)
noncomputable def fX16_inTurn_i5 (fu : Nat) (k : Nat) (a1 : Int32) (a2 : Int32) (r5 : (Int32 × Int32 × mwM × mwL) → Option (Int32 × mwM × mwL)) (v3 : Int32) (v4 : Int32) (M : mwM) (L : mwL) : Option (Int32 × mwM × mwL) :=
  (if a1 ≤ v4 then some (1, M, L) else mck v4 129 (mlet (M (k + 18) v4.toNatClampNeg) (fun x3 => fX16_inTurn_h29 fu k a1 a2 r5 fu (v3, v4, x3, ((-1)), 0, 0, M, L))))
noncomputable def fX16_inTurn_h5 (fu : Nat) (k : Nat) (a1 : Int32) (a2 : Int32) : Nat → (Int32 × Int32 × mwM × mwL) → Option (Int32 × mwM × mwL) := mloop (fun r5 s => fX16_inTurn_i5 fu k a1 a2 r5 s.1 s.2.1 s.2.2.1 s.2.2.2)
noncomputable def DX16_inTurn (fu : Nat) (k : Nat) (a1 : Int32) (a2 : Int32) (M : mwM) (L : mwL) : Option (Int32 × mwM × mwL) :=
  fX16_inTurn_h5 fu k a1 a2 fu (a2, 0, M, L)
noncomputable def fX16_listed_b165 (fu : Nat) (k : Nat) (a1 : Int32) (r4 : (Int32 × Int32 × mwM × mwL) → Option (Int32 × mwM × mwL)) (r13 : (Int32 × Int32 × Int32 × mwM × mwL) → Option (Int32 × mwM × mwL)) (v2 : Int32) (v4 : Int32) (s0 : Int32) (M : mwM) (L : mwL) : Option (Int32 × mwM × mwL) :=
  mlet (v4 + 1) (fun x32 => r13 (v2, s0, x32, M, L))
noncomputable def fX16_listed_b164 (fu : Nat) (k : Nat) (a1 : Int32) (r4 : (Int32 × Int32 × mwM × mwL) → Option (Int32 × mwM × mwL)) (r13 : (Int32 × Int32 × Int32 × mwM × mwL) → Option (Int32 × mwM × mwL)) (v2 : Int32) (v3 : Int32) (v4 : Int32) (M : mwM) (L : mwL) : Option (Int32 × mwM × mwL) :=
  fX16_listed_b165 fu k a1 r4 r13 v2 v4 v3 M L
noncomputable def fX16_listed_b159 (fu : Nat) (k : Nat) (a1 : Int32) (r4 : (Int32 × Int32 × mwM × mwL) → Option (Int32 × mwM × mwL)) (r13 : (Int32 × Int32 × Int32 × mwM × mwL) → Option (Int32 × mwM × mwL)) (v2 : Int32) (v4 : Int32) (M : mwM) (L : mwL) : Option (Int32 × mwM × mwL) :=
  fX16_listed_b165 fu k a1 r4 r13 v2 v4 v4 M L
noncomputable def fX16_listed_b127 (fu : Nat) (k : Nat) (a1 : Int32) (r4 : (Int32 × Int32 × mwM × mwL) → Option (Int32 × mwM × mwL)) (r13 : (Int32 × Int32 × Int32 × mwM × mwL) → Option (Int32 × mwM × mwL)) (v2 : Int32) (v3 : Int32) (v4 : Int32) (v5 : Int32) (s0 : Int32) (M : mwM) (L : mwL) : Option (Int32 × mwM × mwL) :=
  (if v5 = 0 then fX16_listed_b164 fu k a1 r4 r13 v2 v3 v4 M L else (if s0 = 0 then fX16_listed_b164 fu k a1 r4 r13 v2 v3 v4 M L else (if v3 < 0 then fX16_listed_b159 fu k a1 r4 r13 v2 v4 M L else mck v4 129 (mck v3 129 ((if (M (k + 22) v4.toNatClampNeg) ≤ (M (k + 22) v3.toNatClampNeg) then fX16_listed_b164 fu k a1 r4 r13 v2 v3 v4 M L else fX16_listed_b159 fu k a1 r4 r13 v2 v4 M L))))))
noncomputable def fX16_listed_b122 (fu : Nat) (k : Nat) (a1 : Int32) (r4 : (Int32 × Int32 × mwM × mwL) → Option (Int32 × mwM × mwL)) (r13 : (Int32 × Int32 × Int32 × mwM × mwL) → Option (Int32 × mwM × mwL)) (v2 : Int32) (v3 : Int32) (v4 : Int32) (v5 : Int32) (M : mwM) (L : mwL) : Option (Int32 × mwM × mwL) :=
  fX16_listed_b127 fu k a1 r4 r13 v2 v3 v4 v5 1 M L
noncomputable def fX16_listed_b126 (fu : Nat) (k : Nat) (a1 : Int32) (r4 : (Int32 × Int32 × mwM × mwL) → Option (Int32 × mwM × mwL)) (r13 : (Int32 × Int32 × Int32 × mwM × mwL) → Option (Int32 × mwM × mwL)) (v2 : Int32) (v3 : Int32) (v4 : Int32) (v5 : Int32) (M : mwM) (L : mwL) : Option (Int32 × mwM × mwL) :=
  fX16_listed_b127 fu k a1 r4 r13 v2 v3 v4 v5 0 M L
noncomputable def fX16_listed_b57 (fu : Nat) (k : Nat) (a1 : Int32) (r4 : (Int32 × Int32 × mwM × mwL) → Option (Int32 × mwM × mwL)) (r13 : (Int32 × Int32 × Int32 × mwM × mwL) → Option (Int32 × mwM × mwL)) (v2 : Int32) (v3 : Int32) (v4 : Int32) (s0 : Int32) (M : mwM) (L : mwL) : Option (Int32 × mwM × mwL) :=
  (if v2 = 0 then fX16_listed_b122 fu k a1 r4 r13 v2 v3 v4 s0 M L else mck v4 129 (mck (v2 - 1) 129 (mck (M (k + 18) (v2 - 1).toNatClampNeg) 129 ((if (M (k + 22) v4.toNatClampNeg) < (M (k + 22) (M (k + 18) (v2 - 1).toNatClampNeg).toNatClampNeg) then fX16_listed_b122 fu k a1 r4 r13 v2 v3 v4 s0 M L else mck v4 129 (mck (v2 - 1) 129 (mck (M (k + 18) (v2 - 1).toNatClampNeg) 129 ((if (M (k + 22) v4.toNatClampNeg) = (M (k + 22) (M (k + 18) (v2 - 1).toNatClampNeg).toNatClampNeg) then mck (v2 - 1) 129 ((if v4 ≤ (M (k + 18) (v2 - 1).toNatClampNeg) then fX16_listed_b126 fu k a1 r4 r13 v2 v3 v4 s0 M L else fX16_listed_b122 fu k a1 r4 r13 v2 v3 v4 s0 M L)) else fX16_listed_b126 fu k a1 r4 r13 v2 v3 v4 s0 M L)))))))))
noncomputable def fX16_listed_b56 (fu : Nat) (k : Nat) (a1 : Int32) (r4 : (Int32 × Int32 × mwM × mwL) → Option (Int32 × mwM × mwL)) (r13 : (Int32 × Int32 × Int32 × mwM × mwL) → Option (Int32 × mwM × mwL)) (v2 : Int32) (v3 : Int32) (v4 : Int32) (M : mwM) (L : mwL) : Option (Int32 × mwM × mwL) :=
  fX16_listed_b57 fu k a1 r4 r13 v2 v3 v4 0 M L
noncomputable def fX16_listed_i13 (fu : Nat) (k : Nat) (a1 : Int32) (r4 : (Int32 × Int32 × mwM × mwL) → Option (Int32 × mwM × mwL)) (r13 : (Int32 × Int32 × Int32 × mwM × mwL) → Option (Int32 × mwM × mwL)) (v2 : Int32) (v3 : Int32) (v4 : Int32) (M : mwM) (L : mwL) : Option (Int32 × mwM × mwL) :=
  (if (M k 2) < v4 then (if v3 ≤ 0 then r4 (v2, v3, M, L) else mck v2 129 (mlet (mset M (k + 18) (v2.toNatClampNeg) v3) (fun M5 => mlet (v2 + 1) (fun x6 => r4 (x6, v3, M5, L))))) else mb3 (DX16_isGroup fu k v4 M L) (fun r9 M7 L8 => (if r9 = 0 then fX16_listed_b56 fu k a1 r4 r13 v2 v3 v4 M7 L8 else mck v4 129 ((if (M7 (k + 16) v4.toNatClampNeg) = 0 then mck v4 129 ((if (M7 (k + 2) v4.toNatClampNeg) = a1 then fX16_listed_b57 fu k a1 r4 r13 v2 v3 v4 1 M7 L8 else fX16_listed_b56 fu k a1 r4 r13 v2 v3 v4 M7 L8)) else fX16_listed_b56 fu k a1 r4 r13 v2 v3 v4 M7 L8)))))
noncomputable def fX16_listed_h13 (fu : Nat) (k : Nat) (a1 : Int32) (r4 : (Int32 × Int32 × mwM × mwL) → Option (Int32 × mwM × mwL)) : Nat → (Int32 × Int32 × Int32 × mwM × mwL) → Option (Int32 × mwM × mwL) := mloop (fun r13 s => fX16_listed_i13 fu k a1 r4 r13 s.1 s.2.1 s.2.2.1 s.2.2.2.1 s.2.2.2.2)
noncomputable def fX16_listed_i4 (fu : Nat) (k : Nat) (a1 : Int32) (r4 : (Int32 × Int32 × mwM × mwL) → Option (Int32 × mwM × mwL)) (v2 : Int32) (v3 : Int32) (M : mwM) (L : mwL) : Option (Int32 × mwM × mwL) :=
  (if v3 < 0 then some (v2, M, L) else fX16_listed_h13 fu k a1 r4 fu (v2, ((-1)), 1, M, L))
noncomputable def fX16_listed_h4 (fu : Nat) (k : Nat) (a1 : Int32) : Nat → (Int32 × Int32 × mwM × mwL) → Option (Int32 × mwM × mwL) := mloop (fun r4 s => fX16_listed_i4 fu k a1 r4 s.1 s.2.1 s.2.2.1 s.2.2.2)
noncomputable def DX16_listed (fu : Nat) (k : Nat) (a1 : Int32) (M : mwM) (L : mwL) : Option (Int32 × mwM × mwL) :=
  fX16_listed_h4 fu k a1 fu (0, 0, M, L)
noncomputable def fX16_packPeriod_b105 (fu : Nat) (k : Nat) (a1 : Int32) (a2 : Int64) (v4 : Int32) (v5 : Int32) (M : mwM) (L : mwL) : Option (Int32 × mwM × mwL) :=
  mlet (mset M k 14 0) (fun M20 => mb3 (DX16_inTurn fu k v4 v5 M20 L) (fun r23 M21 L22 => mzz r23 (some (r23, M21, L22))))
noncomputable def fX16_packPeriod_i122 (fu : Nat) (k : Nat) (a1 : Int32) (a2 : Int64) (r122 : (Int32 × Int32 × Int32 × mwM × mwL) → Option (Int32 × mwM × mwL)) (v4 : Int32) (v5 : Int32) (v8 : Int32) (M : mwM) (L : mwL) : Option (Int32 × mwM × mwL) :=
  (if v4 < v8 then some (0, M, L) else mb3 (DX16_search fu k v4 v5 v8 M L) (fun r28 M26 L27 => (if r28 = 0 then mlet (v8 + 1) (fun x30 => r122 (v4, v5, x30, M26, L27)) else some (1, M26, L27))))
noncomputable def fX16_packPeriod_h122 (fu : Nat) (k : Nat) (a1 : Int32) (a2 : Int64) : Nat → (Int32 × Int32 × Int32 × mwM × mwL) → Option (Int32 × mwM × mwL) := mloop (fun r122 s => fX16_packPeriod_i122 fu k a1 a2 r122 s.1 s.2.1 s.2.2.1 s.2.2.2.1 s.2.2.2.2)
noncomputable def fX16_packPeriod_b91 (fu : Nat) (k : Nat) (a1 : Int32) (a2 : Int64) (v4 : Int32) (v5 : Int32) (v6 : Int64) (M : mwM) (L : mwL) : Option (Int32 × mwM × mwL) :=
  (if 7 < v4 then fX16_packPeriod_b105 fu k a1 a2 v4 v5 M L else (if (lg_cmp v6 a2) ≤ 0 then fX16_packPeriod_h122 fu k a1 a2 fu (v4, v5, 0, M, L) else fX16_packPeriod_b105 fu k a1 a2 v4 v5 M L))
noncomputable def fX16_packPeriod_i63 (fu : Nat) (k : Nat) (a1 : Int32) (a2 : Int64) (r63 : (Int32 × Int32 × Int64 × Int32 × mwM × mwL) → Option (Int32 × mwM × mwL)) (v4 : Int32) (v5 : Int32) (v6 : Int64) (v8 : Int32) (M : mwM) (L : mwL) : Option (Int32 × mwM × mwL) :=
  (if v4 < v8 then fX16_packPeriod_b91 fu k a1 a2 v4 v5 v6 M L else (if 8 ≤ v4 then fX16_packPeriod_b91 fu k a1 a2 v4 v5 v6 M L else mlet (v6 * v8.toInt64) (fun x16 => mlet (v8 + 1) (fun x17 => r63 (v4, v5, x16, x17, M, L)))))
noncomputable def fX16_packPeriod_h63 (fu : Nat) (k : Nat) (a1 : Int32) (a2 : Int64) : Nat → (Int32 × Int32 × Int64 × Int32 × mwM × mwL) → Option (Int32 × mwM × mwL) := mloop (fun r63 s => fX16_packPeriod_i63 fu k a1 a2 r63 s.1 s.2.1 s.2.2.1 s.2.2.2.1 s.2.2.2.2.1 s.2.2.2.2.2)
noncomputable def fX16_packPeriod_b51 (fu : Nat) (k : Nat) (a1 : Int32) (a2 : Int64) (r13 : (Int32 × Int32 × Int32 × mwM × mwL) → Option (Int32 × mwM × mwL)) (v4 : Int32) (v5 : Int32) (v6 : Int32) (M : mwM) (L : mwL) : Option (Int32 × mwM × mwL) :=
  mlet (v6 + 1) (fun x13 => r13 (v4, v5, x13, M, L))
noncomputable def fX16_packPeriod_i13 (fu : Nat) (k : Nat) (a1 : Int32) (a2 : Int64) (r13 : (Int32 × Int32 × Int32 × mwM × mwL) → Option (Int32 × mwM × mwL)) (v4 : Int32) (v5 : Int32) (v6 : Int32) (M : mwM) (L : mwL) : Option (Int32 × mwM × mwL) :=
  (if 65 ≤ v6 then fX16_packPeriod_h63 fu k a1 a2 fu (v4, v5, 1, 2, M, L) else mb3 (DX16_isUsed fu k v6 M L) (fun r4 M2 L3 => (if r4 = 0 then fX16_packPeriod_b51 fu k a1 a2 r13 v4 v5 v6 M2 L3 else mb3 (DX16_hasOther fu k v6 a1 M2 L3) (fun r8 M6 L7 => (if r8 = 0 then mck v5 65 (mlet (mset M6 (k + 19) (v5.toNatClampNeg) v6) (fun M11 => mlet (v5 + 1) (fun x12 => fX16_packPeriod_b51 fu k a1 a2 r13 v4 x12 v6 M11 L7))) else fX16_packPeriod_b51 fu k a1 a2 r13 v4 v5 v6 M6 L7)))))
noncomputable def fX16_packPeriod_h13 (fu : Nat) (k : Nat) (a1 : Int32) (a2 : Int64) : Nat → (Int32 × Int32 × Int32 × mwM × mwL) → Option (Int32 × mwM × mwL) := mloop (fun r13 s => fX16_packPeriod_i13 fu k a1 a2 r13 s.1 s.2.1 s.2.2.1 s.2.2.2.1 s.2.2.2.2)
noncomputable def DX16_packPeriod (fu : Nat) (k : Nat) (a1 : Int32) (a2 : Int64) (M : mwM) (L : mwL) : Option (Int32 × mwM × mwL) :=
  mb3 (DX16_listed fu k a1 M L) (fun r33 M31 L32 => fX16_packPeriod_h13 fu k a1 a2 fu (r33, 0, 1, M31, L32))
noncomputable def fX16_frames_b25 (fu : Nat) (k : Nat) (r4 : (Int32 × Int32 × mwM × mwL) → Option (Int32 × mwM × mwL)) (v2 : Int32) (s0 : Int32) (M : mwM) (L : mwL) : Option (Int32 × mwM × mwL) :=
  mlet (v2 + 1) (fun x7 => r4 (s0, x7, M, L))
noncomputable def fX16_frames_i4 (fu : Nat) (k : Nat) (r4 : (Int32 × Int32 × mwM × mwL) → Option (Int32 × mwM × mwL)) (v1 : Int32) (v2 : Int32) (M : mwM) (L : mwL) : Option (Int32 × mwM × mwL) :=
  (if 65 ≤ v2 then some (v1, M, L) else mb3 (DX16_isUsed fu k v2 M L) (fun r5 M2 L3 => (if r5 = 0 then fX16_frames_b25 fu k r4 v2 v1 M2 L3 else fX16_frames_b25 fu k r4 v2 (v1 + 1) M2 L3)))
noncomputable def fX16_frames_h4 (fu : Nat) (k : Nat) : Nat → (Int32 × Int32 × mwM × mwL) → Option (Int32 × mwM × mwL) := mloop (fun r4 s => fX16_frames_i4 fu k r4 s.1 s.2.1 s.2.2.1 s.2.2.2)
noncomputable def DX16_frames (fu : Nat) (k : Nat) (M : mwM) (L : mwL) : Option (Int32 × mwM × mwL) :=
  fX16_frames_h4 fu k fu (0, 1, M, L)
noncomputable def fX16_packs_b328 (fu : Nat) (k : Nat) (a1 : Int64) (s0 : Int32) (M : mwM) (L : mwL) : Option (Int32 × mwM × mwL) :=
  mzz s0 (some (s0, M, L))
noncomputable def fX16_packs_b299 (fu : Nat) (k : Nat) (a1 : Int64) (r196 : (Int32 × mwM × mwL) → Option (Int32 × mwM × mwL)) (v4 : Int32) (M : mwM) (L : mwL) : Option (Int32 × mwM × mwL) :=
  r196 (v4, M, L)
noncomputable def fX16_packs_b272 (fu : Nat) (k : Nat) (a1 : Int64) (r196 : (Int32 × mwM × mwL) → Option (Int32 × mwM × mwL)) (r209 : (Int32 × Int32 × Int32 × mwM × mwL) → Option (Int32 × mwM × mwL)) (v3 : Int32) (v5 : Int32) (s0 : Int32) (M : mwM) (L : mwL) : Option (Int32 × mwM × mwL) :=
  mlet (v5 + 1) (fun x75 => r209 (v3, s0, x75, M, L))
noncomputable def fX16_packs_b270 (fu : Nat) (k : Nat) (a1 : Int64) (r196 : (Int32 × mwM × mwL) → Option (Int32 × mwM × mwL)) (r209 : (Int32 × Int32 × Int32 × mwM × mwL) → Option (Int32 × mwM × mwL)) (v3 : Int32) (v4 : Int32) (v5 : Int32) (M : mwM) (L : mwL) : Option (Int32 × mwM × mwL) :=
  fX16_packs_b272 fu k a1 r196 r209 v3 v5 v4 M L
noncomputable def fX16_packs_i209 (fu : Nat) (k : Nat) (a1 : Int64) (r196 : (Int32 × mwM × mwL) → Option (Int32 × mwM × mwL)) (r209 : (Int32 × Int32 × Int32 × mwM × mwL) → Option (Int32 × mwM × mwL)) (v3 : Int32) (v4 : Int32) (v5 : Int32) (M : mwM) (L : mwL) : Option (Int32 × mwM × mwL) :=
  (if (M k 2) < v5 then (if 1000001 ≤ v4 then fX16_packs_b299 fu k a1 r196 v4 M L else mb3 (DX16_packPeriod fu k v4 a1 M L) (fun r62 M60 L61 => (if r62 = 0 then some (0, M60, L61) else fX16_packs_b299 fu k a1 r196 v4 M60 L61))) else mb3 (DX16_isGroup fu k v5 M L) (fun r66 M64 L65 => (if r66 = 0 then fX16_packs_b270 fu k a1 r196 r209 v3 v4 v5 M64 L65 else mck v5 129 ((if (M64 (k + 16) v5.toNatClampNeg) = 0 then mck v5 129 ((if (M64 (k + 2) v5.toNatClampNeg) ≤ v3 then fX16_packs_b270 fu k a1 r196 r209 v3 v4 v5 M64 L65 else mck v5 129 ((if v4 ≤ (M64 (k + 2) v5.toNatClampNeg) then fX16_packs_b270 fu k a1 r196 r209 v3 v4 v5 M64 L65 else mck v5 129 (fX16_packs_b272 fu k a1 r196 r209 v3 v5 (M64 (k + 2) v5.toNatClampNeg) M64 L65))))) else fX16_packs_b270 fu k a1 r196 r209 v3 v4 v5 M64 L65)))))
noncomputable def fX16_packs_h209 (fu : Nat) (k : Nat) (a1 : Int64) (r196 : (Int32 × mwM × mwL) → Option (Int32 × mwM × mwL)) : Nat → (Int32 × Int32 × Int32 × mwM × mwL) → Option (Int32 × mwM × mwL) := mloop (fun r209 s => fX16_packs_i209 fu k a1 r196 r209 s.1 s.2.1 s.2.2.1 s.2.2.2.1 s.2.2.2.2)
noncomputable def fX16_packs_i196 (fu : Nat) (k : Nat) (a1 : Int64) (r196 : (Int32 × mwM × mwL) → Option (Int32 × mwM × mwL)) (v3 : Int32) (M : mwM) (L : mwL) : Option (Int32 × mwM × mwL) :=
  (if 1000001 ≤ v3 then mb3 (DX16_frames fu k M L) (fun r56 M54 L55 => (if 0 < (lg_cmp (r56.toInt64 * ((M54 k 1).toInt64)) 65536) then fX16_packs_b328 fu k a1 0 M54 L55 else fX16_packs_b328 fu k a1 1 M54 L55)) else fX16_packs_h209 fu k a1 r196 fu (v3, 1000001, 1, M, L))
noncomputable def fX16_packs_h196 (fu : Nat) (k : Nat) (a1 : Int64) : Nat → (Int32 × mwM × mwL) → Option (Int32 × mwM × mwL) := mloop (fun r196 s => fX16_packs_i196 fu k a1 r196 s.1 s.2.1 s.2.2)
noncomputable def fX16_packs_b188 (fu : Nat) (k : Nat) (a1 : Int64) (r77 : (Int32 × mwM × mwL) → Option (Int32 × mwM × mwL)) (v3 : Int32) (M : mwM) (L : mwL) : Option (Int32 × mwM × mwL) :=
  mlet (v3 + 1) (fun x52 => r77 (x52, M, L))
noncomputable def fX16_packs_i77 (fu : Nat) (k : Nat) (a1 : Int64) (r77 : (Int32 × mwM × mwL) → Option (Int32 × mwM × mwL)) (v3 : Int32) (M : mwM) (L : mwL) : Option (Int32 × mwM × mwL) :=
  (if (M k 2) < v3 then fX16_packs_h196 fu k a1 fu (0, M, L) else mb3 (DX16_isGroup fu k v3 M L) (fun r25 M23 L24 => (if r25 = 0 then fX16_packs_b188 fu k a1 r77 v3 M23 L24 else mck v3 129 ((if (M23 (k + 7) v3.toNatClampNeg) = 0 then mck v3 129 ((if (M23 (k + 11) v3.toNatClampNeg) = 0 then fX16_packs_b188 fu k a1 r77 v3 M23 L24 else mck v3 129 ((if (M23 (k + 9) v3.toNatClampNeg) ≤ 0 then fX16_packs_b188 fu k a1 r77 v3 M23 L24 else mck v3 129 (mck v3 129 (mb3 (DX16_hasOther fu k (M23 (k + 9) v3.toNatClampNeg) (M23 (k + 2) v3.toNatClampNeg) M23 L24) (fun r37 M35 L36 => (if r37 = 0 then mck v3 129 (mck v3 129 (mck v3 129 (mb3 (DX16_isFree fu k (M35 (k + 9) v3.toNatClampNeg) (M35 (k + 10) v3.toNatClampNeg) (M35 (k + 22) v3.toNatClampNeg) M35 L36) (fun r44 M42 L43 => (if r44 = 0 then fX16_packs_b188 fu k a1 r77 v3 M42 L43 else mck v3 129 (mck v3 129 (mlet (mset M42 (k + 16) (v3.toNatClampNeg) (M42 (k + 9) v3.toNatClampNeg)) (fun M48 => mck v3 129 (mck v3 129 (mlet (mset M48 (k + 17) (v3.toNatClampNeg) (M48 (k + 10) v3.toNatClampNeg)) (fun M51 => fX16_packs_b188 fu k a1 r77 v3 M51 L43))))))))))) else fX16_packs_b188 fu k a1 r77 v3 M35 L36)))))))) else fX16_packs_b188 fu k a1 r77 v3 M23 L24)))))
noncomputable def fX16_packs_h77 (fu : Nat) (k : Nat) (a1 : Int64) : Nat → (Int32 × mwM × mwL) → Option (Int32 × mwM × mwL) := mloop (fun r77 s => fX16_packs_i77 fu k a1 r77 s.1 s.2.1 s.2.2)
noncomputable def fX16_packs_b56 (fu : Nat) (k : Nat) (a1 : Int64) (r2 : (Int32 × mwM × mwL) → Option (Int32 × mwM × mwL)) (v3 : Int32) (s1 : Int32) (s2 : Int32) (M : mwM) (L : mwL) : Option (Int32 × mwM × mwL) :=
  mck s1 129 (mlet (mset M (k + 16) (s1.toNatClampNeg) s2) (fun M17 => mck v3 129 (mck v3 129 (mlet (mset M17 (k + 17) (v3.toNatClampNeg) (M17 (k + 8) v3.toNatClampNeg)) (fun M20 => mlet (v3 + 1) (fun x21 => r2 (x21, M20, L)))))))
noncomputable def fX16_packs_b32 (fu : Nat) (k : Nat) (a1 : Int64) (r2 : (Int32 × mwM × mwL) → Option (Int32 × mwM × mwL)) (v3 : Int32) (s1 : Int32) (s2 : Int32) (M : mwM) (L : mwL) : Option (Int32 × mwM × mwL) :=
  mck s1 129 (mlet (mset M (k + 22) (s1.toNatClampNeg) s2) (fun M10 => mb3 (DX16_isGroup fu k v3 M10 L) (fun r13 M11 L12 => (if r13 = 0 then fX16_packs_b56 fu k a1 r2 v3 v3 0 M11 L12 else mck v3 129 (fX16_packs_b56 fu k a1 r2 v3 v3 (M11 (k + 7) v3.toNatClampNeg) M11 L12)))))
noncomputable def fX16_packs_i2 (fu : Nat) (k : Nat) (a1 : Int64) (r2 : (Int32 × mwM × mwL) → Option (Int32 × mwM × mwL)) (v3 : Int32) (M : mwM) (L : mwL) : Option (Int32 × mwM × mwL) :=
  (if (M k 2) < v3 then fX16_packs_h77 fu k a1 fu (1, M, L) else mb3 (DX16_isGroup fu k v3 M L) (fun r4 M2 L3 => (if r4 = 0 then fX16_packs_b32 fu k a1 r2 v3 v3 0 M2 L3 else mb3 (DX16_size fu k v3 M2 L3) (fun r8 M6 L7 => fX16_packs_b32 fu k a1 r2 v3 v3 r8 M6 L7))))
noncomputable def fX16_packs_h2 (fu : Nat) (k : Nat) (a1 : Int64) : Nat → (Int32 × mwM × mwL) → Option (Int32 × mwM × mwL) := mloop (fun r2 s => fX16_packs_i2 fu k a1 r2 s.1 s.2.1 s.2.2)
noncomputable def DX16_packs (fu : Nat) (k : Nat) (a1 : Int64) (M : mwM) (L : mwL) : Option (Int32 × mwM × mwL) :=
  fX16_packs_h2 fu k a1 fu (1, M, L)
noncomputable def fX16_pack_i160 (fu : Nat) (k : Nat) (a1 : Int64) (r160 : (Int32 × Int32 × mwM × mwL) → Option (Int32 × mwM × mwL)) (v4 : Int32) (v5 : Int32) (M : mwM) (L : mwL) : Option (Int32 × mwM × mwL) :=
  (if (M k 2) < v5 then some (v4, M, L) else mck v5 129 (mlet (M (k + 5) v5.toNatClampNeg) (fun x19 => mck x19 129 (mck x19 129 (mlet (mset M (k + 9) (x19.toNatClampNeg) (M (k + 16) x19.toNatClampNeg)) (fun M22 => mck x19 129 (mck x19 129 (mlet (mset M22 (k + 10) (x19.toNatClampNeg) (M22 (k + 17) x19.toNatClampNeg)) (fun M25 => mck x19 129 (mlet (mset M25 (k + 11) (x19.toNatClampNeg) (vp_nar .boolean 1)) (fun M27 => mck x19 129 (mck ((129 * (M27 k 15)) + v5) 2193 (mlet (mset M27 (k + 12) (((129 * (M27 k 15)) + v5).toNatClampNeg) (M27 (k + 9) x19.toNatClampNeg)) (fun M30 => mck x19 129 (mb3 (DX16_bitInGroup fu k v5 M30 L) (fun r34 M32 L33 => mck ((129 * (M30 k 15)) + v5) 2193 (mlet (mset M32 (k + 13) (((129 * (M30 k 15)) + v5).toNatClampNeg) ((8 * (M30 (k + 10) x19.toNatClampNeg)) + r34)) (fun M36 => mlet (v5 + 1) (fun x37 => r160 (v4, x37, M36, L33))))))))))))))))))))
noncomputable def fX16_pack_h160 (fu : Nat) (k : Nat) (a1 : Int64) : Nat → (Int32 × Int32 × mwM × mwL) → Option (Int32 × mwM × mwL) := mloop (fun r160 s => fX16_pack_i160 fu k a1 r160 s.1 s.2.1 s.2.2.1 s.2.2.2)
noncomputable def fX16_pack_i131 (fu : Nat) (k : Nat) (a1 : Int64) (r131 : (Int32 × Int32 × mwM × mwL) → Option (Int32 × mwM × mwL)) (v4 : Int32) (v5 : Int32) (M : mwM) (L : mwL) : Option (Int32 × mwM × mwL) :=
  (if (v4 * (M k 1)) ≤ v5 then fX16_pack_h160 fu k a1 fu (v4, 1, M, L) else mck v5 512 (mlet (mset M (k + 15) (v5.toNatClampNeg) 0) (fun M15 => mlet (v5 + 1) (fun x16 => r131 (v4, x16, M15, L)))))
noncomputable def fX16_pack_h131 (fu : Nat) (k : Nat) (a1 : Int64) : Nat → (Int32 × Int32 × mwM × mwL) → Option (Int32 × mwM × mwL) := mloop (fun r131 s => fX16_pack_i131 fu k a1 r131 s.1 s.2.1 s.2.2.1 s.2.2.2)
noncomputable def fX16_pack_b120 (fu : Nat) (k : Nat) (a1 : Int64) (r68 : (Int32 × Int32 × mwM × mwL) → Option (Int32 × mwM × mwL)) (v5 : Int32) (s0 : Int32) (M : mwM) (L : mwL) : Option (Int32 × mwM × mwL) :=
  mlet (v5 + 1) (fun x12 => r68 (s0, x12, M, L))
noncomputable def fX16_pack_b101 (fu : Nat) (k : Nat) (a1 : Int64) (r68 : (Int32 × Int32 × mwM × mwL) → Option (Int32 × mwM × mwL)) (v4 : Int32) (v5 : Int32) (s1 : Int32) (s2 : Int32) (M : mwM) (L : mwL) : Option (Int32 × mwM × mwL) :=
  mck s1 65 (mlet (mset M (k + 14) (s1.toNatClampNeg) s2) (fun M7 => mb3 (DX16_isUsed fu k v5 M7 L) (fun r10 M8 L9 => (if r10 = 0 then fX16_pack_b120 fu k a1 r68 v5 v4 M8 L9 else fX16_pack_b120 fu k a1 r68 v5 (v4 + 1) M8 L9))))
noncomputable def fX16_pack_i68 (fu : Nat) (k : Nat) (a1 : Int64) (r68 : (Int32 × Int32 × mwM × mwL) → Option (Int32 × mwM × mwL)) (v4 : Int32) (v5 : Int32) (M : mwM) (L : mwL) : Option (Int32 × mwM × mwL) :=
  (if 65 ≤ v5 then fX16_pack_h131 fu k a1 fu (v4, 0, M, L) else mb3 (DX16_isUsed fu k v5 M L) (fun r4 M2 L3 => (if r4 = 0 then fX16_pack_b101 fu k a1 r68 v4 v5 v5 ((-1)) M2 L3 else fX16_pack_b101 fu k a1 r68 v4 v5 v5 (v4 * (M2 k 1)) M2 L3)))
noncomputable def fX16_pack_h68 (fu : Nat) (k : Nat) (a1 : Int64) : Nat → (Int32 × Int32 × mwM × mwL) → Option (Int32 × mwM × mwL) := mloop (fun r68 s => fX16_pack_i68 fu k a1 r68 s.1 s.2.1 s.2.2.1 s.2.2.2)
noncomputable def DX16_pack (fu : Nat) (k : Nat) (a1 : Int64) (M : mwM) (L : mwL) : Option (Int32 × mwM × mwL) :=
  mlet (mset M k 0 0) (fun M38 => (if 0 ≤ (lg_cmp a1 0) then (if (M38 k 15) = 16 then some ((-4), M38, L) else mlet (M38 k 14) (fun x41 => mlet (mset M38 k 14 1) (fun M42 => mb3 (DX16_packs fu k a1 M42 L) (fun r45 M43 L44 => (if r45 = 0 then mzz x41 (mlet (mset M43 k 14 x41) (fun M49 => some ((-4), M49, L44))) else mlet (mset M43 k 15 ((M43 k 15) + 1)) (fun M47 => fX16_pack_h68 fu k a1 fu (0, 1, M47, L44))))))) else some ((-2), M38, L)))
noncomputable def fX16_isNowhere_b31 (fu : Nat) (k : Nat) (a1 : Int32) (s0 : Int32) (M : mwM) (L : mwL) : Option (Int32 × mwM × mwL) :=
  mzz s0 (some (s0, M, L))
noncomputable def fX16_isNowhere_b26 (fu : Nat) (k : Nat) (a1 : Int32) (M : mwM) (L : mwL) : Option (Int32 × mwM × mwL) :=
  fX16_isNowhere_b31 fu k a1 1 M L
noncomputable def DX16_isNowhere (fu : Nat) (k : Nat) (a1 : Int32) (M : mwM) (L : mwL) : Option (Int32 × mwM × mwL) :=
  mb3 (DX16_none fu k a1 M L) (fun r4 M2 L3 => (if r4 = 0 then mck ((129 * (M2 k 15)) + a1) 2193 ((if (M2 (k + 12) ((129 * (M2 k 15)) + a1).toNatClampNeg) = 0 then fX16_isNowhere_b26 fu k a1 M2 L3 else fX16_isNowhere_b31 fu k a1 0 M2 L3)) else fX16_isNowhere_b26 fu k a1 M2 L3))
noncomputable def fX16_place_b24 (fu : Nat) (k : Nat) (a1 : Int32) (a2 : Int32) (M : mwM) (L : mwL) : Option (Int32 × mwM × mwL) :=
  some ((-2), M, L)
noncomputable def fX16_place_b92 (fu : Nat) (k : Nat) (a1 : Int32) (a2 : Int32) (s0 : Int32) (M : mwM) (L : mwL) : Option (Int32 × mwM × mwL) :=
  some (s0, M, L)
noncomputable def DX16_place (fu : Nat) (k : Nat) (a1 : Int32) (a2 : Int32) (M : mwM) (L : mwL) : Option (Int32 × mwM × mwL) :=
  mlet (mset M k 0 0) (fun M1 => mb3 (DX16_none fu k a1 M1 L) (fun r4 M2 L3 => (if r4 = 0 then (if a2 < 0 then fX16_place_b24 fu k a1 a2 M2 L3 else (if a2 ≤ 2 then mb3 (DX16_isNowhere fu k a1 M2 L3) (fun r10 M8 L9 => (if r10 = 0 then (if a2 = 0 then mck ((129 * (M8 k 15)) + a1) 2193 (fX16_place_b92 fu k a1 a2 (M8 (k + 12) ((129 * (M8 k 15)) + a1).toNatClampNeg) M8 L9) else (if a2 = 1 then mck ((129 * (M8 k 15)) + a1) 2193 (fX16_place_b92 fu k a1 a2 (M8 (k + 13) ((129 * (M8 k 15)) + a1).toNatClampNeg) M8 L9) else mck a1 129 (mb3 (DX16_size fu k (M8 (k + 5) a1.toNatClampNeg) M8 L9) (fun r17 M15 L16 => fX16_place_b92 fu k a1 a2 r17 M15 L16)))) else some (0, M8, L9))) else fX16_place_b24 fu k a1 a2 M2 L3)) else some ((-1), M2, L3))))
noncomputable def fX16_where_b80 (fu : Nat) (k : Nat) (a1 : Int32) (a2 : Int32) (s0 : Int32) (M : mwM) (L : mwL) : Option (Int32 × mwM × mwL) :=
  some (s0, M, L)
noncomputable def DX16_where (fu : Nat) (k : Nat) (a1 : Int32) (a2 : Int32) (M : mwM) (L : mwL) : Option (Int32 × mwM × mwL) :=
  mck ((129 * (M k 15)) + a1) 2193 (mck (M (k + 12) ((129 * (M k 15)) + a1).toNatClampNeg) 65 (mck ((129 * (M k 15)) + a1) 2193 (mlet ((8 * (M (k + 14) (M (k + 12) ((129 * (M k 15)) + a1).toNatClampNeg).toNatClampNeg)) + (M (k + 13) ((129 * (M k 15)) + a1).toNatClampNeg)) (fun x4 => mck a1 129 ((if (M (k + 3) a1.toNatClampNeg) = 0 then fX16_where_b80 fu k a1 a2 (x4 + a2) M L else mb3 (DX16_octetsOf fu k a1 M L) (fun r9 M7 L8 => fX16_where_b80 fu k a1 a2 (((x4 + (8 * (r9 - 1))) - (8 * (a2 / 8))) + (a2 - a2 / 8 * 8)) M7 L8)))))))
noncomputable def fX16_write_b83 (fu : Nat) (k : Nat) (a1 : Int32) (a2 : Int64) (r3 : (Int32 × mwM × mwL) → Option (mwM × mwL)) (v4 : Int32) (s1 : Int32) (s2 : Int32) (M : mwM) (L : mwL) : Option (mwM × mwL) :=
  mck s1 512 (mlet (mset M (k + 15) (s1.toNatClampNeg) s2) (fun M14 => mlet (v4 + 1) (fun x15 => r3 (x15, M14, L))))
noncomputable def fX16_write_i3 (fu : Nat) (k : Nat) (a1 : Int32) (a2 : Int64) (r3 : (Int32 × mwM × mwL) → Option (mwM × mwL)) (v4 : Int32) (M : mwM) (L : mwL) : Option (mwM × mwL) :=
  mck a1 129 ((if (M (k + 1) a1.toNatClampNeg) ≤ v4 then some (M, L) else mb3 (DX16_where fu k a1 v4 M L) (fun r5 M3 L4 => mlet (1 <<< ((r5 &&& 7) &&& 31)) (fun x6 => (if (lg_cmp ((a2 >>> (v4.toInt64 &&& 63)) &&& 1) 1) = 0 then mck (r5 / 8) 512 (fX16_write_b83 fu k a1 a2 r3 v4 (r5 / 8) ((M3 (k + 15) (r5 / 8).toNatClampNeg) ||| x6) M3 L4) else mck (r5 / 8) 512 (fX16_write_b83 fu k a1 a2 r3 v4 (r5 / 8) ((M3 (k + 15) (r5 / 8).toNatClampNeg) &&& (x6 ^^^ ((-1)))) M3 L4))))))
noncomputable def fX16_write_h3 (fu : Nat) (k : Nat) (a1 : Int32) (a2 : Int64) : Nat → (Int32 × mwM × mwL) → Option (mwM × mwL) := mloop (fun r3 s => fX16_write_i3 fu k a1 a2 r3 s.1 s.2.1 s.2.2)
noncomputable def DX16_write (fu : Nat) (k : Nat) (a1 : Int32) (a2 : Int64) (M : mwM) (L : mwL) : Option (mwM × mwL) :=
  fX16_write_h3 fu k a1 a2 fu (0, M, L)
noncomputable def fX16_put_b58 (fu : Nat) (k : Nat) (a1 : Int32) (a2 : Int64) (M : mwM) (L : mwL) : Option (mwM × mwL) :=
  mb2 (DX16_write fu k a1 a2 M L) (fun M1 L2 => some (M1, L2))
noncomputable def DX16_put (fu : Nat) (k : Nat) (a1 : Int32) (a2 : Int64) (M : mwM) (L : mwL) : Option (mwM × mwL) :=
  mlet (mset M k 0 0) (fun M3 => mb3 (DX16_isNowhere fu k a1 M3 L) (fun r6 M4 L5 => (if r6 = 0 then mck a1 129 (mck (M4 (k + 5) a1.toNatClampNeg) 129 (mlet (M4 (k + 6) (M4 (k + 5) a1.toNatClampNeg).toNatClampNeg) (fun x10 => mck a1 129 ((if (M4 (k + 4) a1.toNatClampNeg) < 0 then fX16_put_b58 fu k a1 a2 M4 L5 else mb3 (DX16_isNowhere fu k x10 M4 L5) (fun r15 M13 L14 => (if r15 = 0 then mck a1 129 (mb2 (DX16_write fu k x10 ((M13 (k + 4) a1.toNatClampNeg).toInt64) M13 L14) (fun M18 L19 => fX16_put_b58 fu k a1 a2 M18 L19)) else fX16_put_b58 fu k a1 a2 M13 L14))))))) else some (M4, L5))))
noncomputable def fX16_noFrame_b25 (fu : Nat) (k : Nat) (a1 : Int32) (s0 : Int32) (M : mwM) (L : mwL) : Option (Int32 × mwM × mwL) :=
  mzz s0 (some (s0, M, L))
noncomputable def fX16_noFrame_b20 (fu : Nat) (k : Nat) (a1 : Int32) (M : mwM) (L : mwL) : Option (Int32 × mwM × mwL) :=
  fX16_noFrame_b25 fu k a1 1 M L
noncomputable def DX16_noFrame (fu : Nat) (k : Nat) (a1 : Int32) (M : mwM) (L : mwL) : Option (Int32 × mwM × mwL) :=
  (if a1 < 1 then fX16_noFrame_b20 fu k a1 M L else (if 64 < a1 then fX16_noFrame_b20 fu k a1 M L else mck a1 65 ((if 0 ≤ (M (k + 14) a1.toNatClampNeg) then fX16_noFrame_b25 fu k a1 0 M L else fX16_noFrame_b20 fu k a1 M L))))
noncomputable def fX16_octet_b43 (fu : Nat) (k : Nat) (a1 : Int32) (a2 : Int32) (s0 : Int32) (M : mwM) (L : mwL) : Option (Int32 × mwM × mwL) :=
  mbb s0 (some (s0, M, L))
noncomputable def fX16_octet_b25 (fu : Nat) (k : Nat) (a1 : Int32) (a2 : Int32) (M : mwM) (L : mwL) : Option (Int32 × mwM × mwL) :=
  fX16_octet_b43 fu k a1 a2 0 M L
noncomputable def DX16_octet (fu : Nat) (k : Nat) (a1 : Int32) (a2 : Int32) (M : mwM) (L : mwL) : Option (Int32 × mwM × mwL) :=
  mlet (mset M k 0 0) (fun M2 => mb3 (DX16_noFrame fu k a1 M2 L) (fun r5 M3 L4 => (if r5 = 0 then (if a2 < 0 then fX16_octet_b25 fu k a1 a2 M3 L4 else (if a2 < (M3 k 1) then mck a1 65 (mck ((M3 (k + 14) a1.toNatClampNeg) + a2) 512 (fX16_octet_b43 fu k a1 a2 ((M3 (k + 15) ((M3 (k + 14) a1.toNatClampNeg) + a2).toNatClampNeg).toInt8.toInt32) M3 L4)) else fX16_octet_b25 fu k a1 a2 M3 L4)) else fX16_octet_b25 fu k a1 a2 M3 L4)))
noncomputable def fX17_anew_i156 (fu : Nat) (a1 : Int32) (r156 : (Int32 × mwM × mwL) → Option (mwM × mwL)) (v2 : Int32) (M : mwM) (L : mwL) : Option (mwM × mwL) :=
  (if 20000 ≤ v2 then some (M, L) else mck v2 20000 (mlet (mset M 871 (v2.toNatClampNeg) (vp_nar .byte 0)) (fun M27 => mlet (v2 + 1) (fun x28 => r156 (x28, M27, L)))))
noncomputable def fX17_anew_h156 (fu : Nat) (a1 : Int32) : Nat → (Int32 × mwM × mwL) → Option (mwM × mwL) := mloop (fun r156 s => fX17_anew_i156 fu a1 r156 s.1 s.2.1 s.2.2)
noncomputable def fX17_anew_i135 (fu : Nat) (a1 : Int32) (r135 : (Int32 × mwM × mwL) → Option (mwM × mwL)) (v2 : Int32) (M : mwM) (L : mwL) : Option (mwM × mwL) :=
  (if 8 ≤ v2 then fX17_anew_h156 fu a1 fu (0, M, L) else mck v2 8 (mlet (mset M 901 (v2.toNatClampNeg) 0) (fun M23 => mlet (v2 + 1) (fun x24 => r135 (x24, M23, L)))))
noncomputable def fX17_anew_h135 (fu : Nat) (a1 : Int32) : Nat → (Int32 × mwM × mwL) → Option (mwM × mwL) := mloop (fun r135 s => fX17_anew_i135 fu a1 r135 s.1 s.2.1 s.2.2)
noncomputable def fX17_anew_i115 (fu : Nat) (a1 : Int32) (r115 : (Int32 × mwM × mwL) → Option (mwM × mwL)) (v2 : Int32) (M : mwM) (L : mwL) : Option (mwM × mwL) :=
  (if 4 ≤ v2 then fX17_anew_h135 fu a1 fu (0, M, L) else mck v2 4 (mlet (mset M 882 (v2.toNatClampNeg) 0) (fun M19 => mlet (v2 + 1) (fun x20 => r115 (x20, M19, L)))))
noncomputable def fX17_anew_h115 (fu : Nat) (a1 : Int32) : Nat → (Int32 × mwM × mwL) → Option (mwM × mwL) := mloop (fun r115 s => fX17_anew_i115 fu a1 r115 s.1 s.2.1 s.2.2)
noncomputable def fX17_anew_i52 (fu : Nat) (a1 : Int32) (r52 : (Int32 × mwM × mwL) → Option (mwM × mwL)) (v2 : Int32) (M : mwM) (L : mwL) : Option (mwM × mwL) :=
  (if 101 ≤ v2 then fX17_anew_h115 fu a1 fu (0, M, L) else mck v2 101 (mlet (mset M 872 (v2.toNatClampNeg) (vp_nar .boolean 0)) (fun M3 => mck v2 101 (mlet (mset M3 873 (v2.toNatClampNeg) 0) (fun M5 => mck v2 101 (mlet (mset M5 874 (v2.toNatClampNeg) 0) (fun M7 => mck v2 101 (mlet (mset M7 875 (v2.toNatClampNeg) 0) (fun M9 => mck v2 101 (mlet (mset M9 876 (v2.toNatClampNeg) 0) (fun M11 => mck v2 101 (mlet (mset M11 877 (v2.toNatClampNeg) 0) (fun M13 => mck v2 101 (mlet (mset M13 879 (v2.toNatClampNeg) 0) (fun M15 => mlet (v2 + 1) (fun x16 => r52 (x16, M15, L)))))))))))))))))
noncomputable def fX17_anew_h52 (fu : Nat) (a1 : Int32) : Nat → (Int32 × mwM × mwL) → Option (mwM × mwL) := mloop (fun r52 s => fX17_anew_i52 fu a1 r52 s.1 s.2.1 s.2.2)
noncomputable def DX17_anew (fu : Nat) (a1 : Int32) (M : mwM) (L : mwL) : Option (mwM × mwL) :=
  mlet (mset M 869 1 a1) (fun M29 => mlet (mset L 869 2 0) (fun L30 => mlet (mset M29 869 3 0) (fun M31 => mlet (mset M31 869 26 0) (fun M32 => mlet (mset M32 869 35 0) (fun M33 => mlet (mset M33 869 36 0) (fun M34 => mlet (mset M34 869 37 0) (fun M35 => mlet (mset M35 869 38 3) (fun M36 => mlet (mset M36 869 39 0) (fun M37 => mlet (mset M37 869 40 0) (fun M38 => fX17_anew_h52 fu a1 fu (0, M38, L30)))))))))))
noncomputable def DX17_size (fu : Nat) (a1 : Int32) (M : mwM) (L : mwL) : Option (Int32 × mwM × mwL) :=
  mck (a1 + 1) 102 (mck a1 102 (some ((M 870 (a1 + 1).toNatClampNeg) - (M 870 a1.toNatClampNeg), M, L)))
noncomputable def fX17_send_b16 (fu : Nat) (a1 : Int32) (M : mwM) (L : mwL) : Option (Int32 × mwM × mwL) :=
  some ((-2), M, L)
noncomputable def fX17_send_b48 (fu : Nat) (a1 : Int32) (M : mwM) (L : mwL) : Option (Int32 × mwM × mwL) :=
  some (0, M, L)
noncomputable def fX17_send_b50 (fu : Nat) (a1 : Int32) (M : mwM) (L : mwL) : Option (Int32 × mwM × mwL) :=
  mlet (mset M 869 3 ((M 869 3) + 1)) (fun M1 => mck (M1 869 3) 102 (mck ((M1 869 3) + 1) 102 (mlet (mset M1 870 (((M1 869 3) + 1).toNatClampNeg) ((M1 870 (M1 869 3).toNatClampNeg) + a1)) (fun M4 => some (M4 869 3, M4, L)))))
noncomputable def DX17_send (fu : Nat) (a1 : Int32) (M : mwM) (L : mwL) : Option (Int32 × mwM × mwL) :=
  mlet (mset M 869 0 0) (fun M5 => (if a1 < 0 then fX17_send_b16 fu a1 M5 L else (if a1 ≤ 10000 then (if (M5 869 3) = 100 then some ((-4), M5, L) else (if a1 = 0 then fX17_send_b48 fu a1 M5 L else (if (M5 869 39) = 0 then fX17_send_b50 fu a1 M5 L else (if a1 ≤ 7 then fX17_send_b50 fu a1 M5 L else fX17_send_b48 fu a1 M5 L)))) else fX17_send_b16 fu a1 M5 L)))
noncomputable def fX17_octet_b31 (fu : Nat) (a1 : Int32) (a2 : Int32) (a3 : Int32) (M : mwM) (L : mwL) : Option (mwM × mwL) :=
  some (M, L)
noncomputable def DX17_octet (fu : Nat) (a1 : Int32) (a2 : Int32) (a3 : Int32) (M : mwM) (L : mwL) : Option (mwM × mwL) :=
  mlet (mset M 869 0 0) (fun M1 => (if a1 < 1 then fX17_octet_b31 fu a1 a2 a3 M1 L else (if (M1 869 3) < a1 then fX17_octet_b31 fu a1 a2 a3 M1 L else (if a2 < 0 then fX17_octet_b31 fu a1 a2 a3 M1 L else mb3 (DX17_size fu a1 M1 L) (fun r7 M5 L6 => (if a2 < r7 then mck a1 102 (mck ((M5 870 a1.toNatClampNeg) + a2) 20000 (mlet (mset M5 871 (((M5 870 a1.toNatClampNeg) + a2).toNatClampNeg) (vp_nar .byte a3)) (fun M11 => some (M11, L6)))) else fX17_octet_b31 fu a1 a2 a3 M5 L6))))))
noncomputable def DX17_make (fu : Nat) (a1 : Int32) (a2 : Int32) (a3 : Int32) (a4 : Int32) (a5 : Int32) (M : mwM) (L : mwL) : Option (Int32 × mwM × mwL) :=
  (if (M 869 26) = 6000 then some (0, M, L) else mlet (mset M 869 26 ((M 869 26) + 1)) (fun M2 => mck (M2 869 26) 6001 (mlet (mset M2 892 ((M2 869 26).toNatClampNeg) a1) (fun M4 => mck (M4 869 26) 6001 (mlet (mset M4 893 ((M4 869 26).toNatClampNeg) a2) (fun M6 => mck (M6 869 26) 6001 (mlet (mset M6 894 ((M6 869 26).toNatClampNeg) a3) (fun M8 => mck (M8 869 26) 6001 (mlet (mset M8 895 ((M8 869 26).toNatClampNeg) a4) (fun M10 => mck (M10 869 26) 6001 (mlet (mset M10 896 ((M10 869 26).toNatClampNeg) a5) (fun M12 => mck (M12 869 26) 6001 (mlet (mset L 897 ((M12 869 26).toNatClampNeg) (L 869 2)) (fun L14 => mck (M12 869 26) 6001 (mlet (mset M12 898 ((M12 869 26).toNatClampNeg) (vp_nar .boolean 0)) (fun M16 => some (M16 869 26, M16, L14)))))))))))))))))
noncomputable def fX17_fill_b48 (fu : Nat) (a1 : Int32) (a2 : Int32) (a3 : Int32) (a4 : Int32) (M : mwM) (L : mwL) : Option (mwM × mwL) :=
  some (M, L)
noncomputable def fX17_fill_i3 (fu : Nat) (a1 : Int32) (a2 : Int32) (a3 : Int32) (a4 : Int32) (r3 : (Int32 × mwM × mwL) → Option (mwM × mwL)) (v5 : Int32) (M : mwM) (L : mwL) : Option (mwM × mwL) :=
  (if a4 ≤ v5 then fX17_fill_b48 fu a1 a2 a3 a4 M L else (if a1 ≤ 0 then fX17_fill_b48 fu a1 a2 a3 a4 M L else mck a2 102 (mck (((M 870 a2.toNatClampNeg) + a3) + v5) 20000 (mck ((7 * a1) + v5) 42007 (mlet (mset M 899 (((7 * a1) + v5).toNatClampNeg) (vp_nar .byte (M 871 (((M 870 a2.toNatClampNeg) + a3) + v5).toNatClampNeg))) (fun M6 => mlet (v5 + 1) (fun x7 => r3 (x7, M6, L))))))))
noncomputable def fX17_fill_h3 (fu : Nat) (a1 : Int32) (a2 : Int32) (a3 : Int32) (a4 : Int32) : Nat → (Int32 × mwM × mwL) → Option (mwM × mwL) := mloop (fun r3 s => fX17_fill_i3 fu a1 a2 a3 a4 r3 s.1 s.2.1 s.2.2)
noncomputable def DX17_fill (fu : Nat) (a1 : Int32) (a2 : Int32) (a3 : Int32) (a4 : Int32) (M : mwM) (L : mwL) : Option (mwM × mwL) :=
  fX17_fill_h3 fu a1 a2 a3 a4 fu (0, M, L)
noncomputable def DX17_endSender (fu : Nat) (a1 : Int32) (a2 : Int32) (M : mwM) (L : mwL) : Option (mwM × mwL) :=
  mck a1 101 (mlet (mset M 873 (a1.toNatClampNeg) 4) (fun M2 => mck a2 8 (mck a2 8 (mlet (mset M2 901 (a2.toNatClampNeg) ((M2 901 a2.toNatClampNeg) + 1)) (fun M5 => some (M5, L))))))
noncomputable def fX17_start_b143 (fu : Nat) (a1 : Int32) (M : mwM) (L : mwL) : Option (mwM × mwL) :=
  some (M, L)
noncomputable def fX17_start_b130 (fu : Nat) (a1 : Int32) (v4 : Int32) (s2 : Int32) (M : mwM) (L : mwL) : Option (mwM × mwL) :=
  mck a1 101 (mlet (mset M 873 (a1.toNatClampNeg) s2) (fun M23 => (if v4 = 0 then mb2 (DX17_endSender fu a1 7 M23 L) (fun M25 L26 => fX17_start_b143 fu a1 M25 L26) else fX17_start_b143 fu a1 M23 L)))
noncomputable def fX17_start_b76 (fu : Nat) (a1 : Int32) (v2 : Int32) (v3 : Int32) (s1 : Int32) (s3 : Int32) (M : mwM) (L : mwL) : Option (mwM × mwL) :=
  mb3 (DX17_make fu s1 a1 s3 v2 0 M L) (fun r12 M10 L11 => mb2 (DX17_fill fu r12 a1 0 v2 M10 L11) (fun M13 L14 => mck a1 101 (mlet (mset M13 872 (a1.toNatClampNeg) (vp_nar .boolean 1)) (fun M16 => mck a1 101 (mlet (mset M16 874 (a1.toNatClampNeg) v2) (fun M18 => mck a1 101 (mlet (mset L14 880 (a1.toNatClampNeg) (L14 869 2)) (fun L20 => (if v3 = 0 then fX17_start_b130 fu a1 r12 1 M18 L20 else fX17_start_b130 fu a1 r12 3 M18 L20)))))))))
noncomputable def fX17_start_b62 (fu : Nat) (a1 : Int32) (v2 : Int32) (v3 : Int32) (s1 : Int32) (M : mwM) (L : mwL) : Option (mwM × mwL) :=
  (if v3 = 0 then mb3 (DX17_size fu a1 M L) (fun r9 M7 L8 => fX17_start_b76 fu a1 v2 v3 s1 r9 M7 L8) else fX17_start_b76 fu a1 v2 v3 s1 0 M L)
noncomputable def fX17_start_b51 (fu : Nat) (a1 : Int32) (v2 : Int32) (s0 : Int32) (M : mwM) (L : mwL) : Option (mwM × mwL) :=
  (if s0 = 0 then fX17_start_b62 fu a1 v2 s0 1 M L else fX17_start_b62 fu a1 v2 s0 0 M L)
noncomputable def fX17_start_b35 (fu : Nat) (a1 : Int32) (s0 : Int32) (M : mwM) (L : mwL) : Option (mwM × mwL) :=
  mb3 (DX17_size fu a1 M L) (fun r3 M1 L2 => (if 8 ≤ r3 then fX17_start_b51 fu a1 s0 0 M1 L2 else fX17_start_b51 fu a1 s0 1 M1 L2))
noncomputable def DX17_start (fu : Nat) (a1 : Int32) (M : mwM) (L : mwL) : Option (mwM × mwL) :=
  mb3 (DX17_size fu a1 M L) (fun r29 M27 L28 => (if 8 ≤ r29 then mb3 (DX17_size fu a1 M27 L28) (fun r33 M31 L32 => (if r33 ≤ 4095 then fX17_start_b35 fu a1 6 M31 L32 else fX17_start_b35 fu a1 2 M31 L32)) else mb3 (DX17_size fu a1 M27 L28) (fun r37 M35 L36 => fX17_start_b35 fu a1 r37 M35 L36)))
noncomputable def fX17_sendNext_b177 (fu : Nat) (a1 : Int32) (M : mwM) (L : mwL) : Option (mwM × mwL) :=
  some (M, L)
noncomputable def fX17_sendNext_b25 (fu : Nat) (a1 : Int32) (v2 : Int32) (s0 : Int32) (M : mwM) (L : mwL) : Option (mwM × mwL) :=
  mck a1 101 (mck a1 101 (mlet (mset M 875 (a1.toNatClampNeg) (((M 875 a1.toNatClampNeg) + 1) - ((M 875 a1.toNatClampNeg) + 1) / 16 * 16)) (fun M4 => mck a1 101 (mb3 (DX17_make fu 2 a1 (M4 875 a1.toNatClampNeg) s0 0 M4 L) (fun r8 M6 L7 => (if r8 = 0 then mb2 (DX17_endSender fu a1 7 M6 L7) (fun M33 L34 => some (M33, L34)) else mck a1 101 (mb2 (DX17_fill fu r8 a1 (M6 874 a1.toNatClampNeg) s0 M6 L7) (fun M11 L12 => mck a1 101 (mck a1 101 (mlet (mset M11 874 (a1.toNatClampNeg) ((M11 874 a1.toNatClampNeg) + s0)) (fun M15 => mck a1 101 (mck a1 101 (mlet (mset L12 881 (a1.toNatClampNeg) ((L12 869 2) + ((M15 878 a1.toNatClampNeg).toInt64))) (fun L18 => (if s0 = v2 then mck a1 101 (mlet (mset M15 873 (a1.toNatClampNeg) 3) (fun M32 => some (M32, L18))) else mck a1 101 ((if (M15 876 a1.toNatClampNeg) = 0 then some (M15, L18) else mck a1 101 (mck a1 101 (mlet (mset M15 877 (a1.toNatClampNeg) ((M15 877 a1.toNatClampNeg) - 1)) (fun M24 => mck a1 101 ((if (M24 877 a1.toNatClampNeg) = 0 then mck a1 101 (mlet (mset M24 873 (a1.toNatClampNeg) 1) (fun M28 => mck a1 101 (mlet (mset L18 880 (a1.toNatClampNeg) (L18 869 2)) (fun L30 => fX17_sendNext_b177 fu a1 M28 L30)))) else fX17_sendNext_b177 fu a1 M24 L18))))))))))))))))))))))
noncomputable def DX17_sendNext (fu : Nat) (a1 : Int32) (M : mwM) (L : mwL) : Option (mwM × mwL) :=
  mb3 (DX17_size fu a1 M L) (fun r37 M35 L36 => mck a1 101 (mlet (r37 - (M35 874 a1.toNatClampNeg)) (fun x39 => (if x39 ≤ 7 then fX17_sendNext_b25 fu a1 x39 x39 M35 L36 else fX17_sendNext_b25 fu a1 x39 7 M35 L36))))
noncomputable def fX17_takeFlow_b179 (fu : Nat) (a1 : Int32) (v2 : Int32) (M : mwM) (L : mwL) : Option (Int32 × mwM × mwL) :=
  mck v2 101 (some (M 873 v2.toNatClampNeg, M, L))
noncomputable def fX17_takeFlow_b107 (fu : Nat) (a1 : Int32) (v2 : Int32) (s1 : Int32) (s2 : Int32) (M : mwM) (L : mwL) : Option (Int32 × mwM × mwL) :=
  mck s1 101 (mlet (mset M 878 (s1.toNatClampNeg) s2) (fun M2 => mck v2 101 (mlet (mset L 881 (v2.toNatClampNeg) (L 869 2)) (fun L4 => fX17_takeFlow_b179 fu a1 v2 M2 L4))))
noncomputable def fX17_takeFlow_b105 (fu : Nat) (a1 : Int32) (v2 : Int32) (s1 : Int32) (M : mwM) (L : mwL) : Option (Int32 × mwM × mwL) :=
  fX17_takeFlow_b107 fu a1 v2 s1 127 M L
noncomputable def DX17_takeFlow (fu : Nat) (a1 : Int32) (M : mwM) (L : mwL) : Option (Int32 × mwM × mwL) :=
  mck a1 6001 (mlet (M 893 a1.toNatClampNeg) (fun x7 => mck x7 101 ((if (M 873 x7.toNatClampNeg) = 1 then mck a1 6001 (mlet (M 896 a1.toNatClampNeg) (fun x11 => mck a1 6001 ((if (M 894 a1.toNatClampNeg) = 0 then mck x7 101 (mlet (mset M 873 (x7.toNatClampNeg) 2) (fun M28 => mck a1 6001 (mck x7 101 (mlet (mset M28 876 (x7.toNatClampNeg) (M28 895 a1.toNatClampNeg)) (fun M31 => mck a1 6001 (mck x7 101 (mlet (mset M31 877 (x7.toNatClampNeg) (M31 895 a1.toNatClampNeg)) (fun M34 => (if 128 ≤ x11 then (if x11 < 241 then fX17_takeFlow_b105 fu a1 x7 x7 M34 L else (if 249 < x11 then fX17_takeFlow_b105 fu a1 x7 x7 M34 L else fX17_takeFlow_b107 fu a1 x7 x7 1 M34 L)) else fX17_takeFlow_b107 fu a1 x7 x7 x11 M34 L))))))))) else mck a1 6001 ((if (M 894 a1.toNatClampNeg) = 1 then mck x7 101 (mck x7 101 (mlet (mset M 879 (x7.toNatClampNeg) ((M 879 x7.toNatClampNeg) + 1)) (fun M20 => mck x7 101 (mlet (mset L 880 (x7.toNatClampNeg) (L 869 2)) (fun L22 => mck x7 101 ((if (M20 879 x7.toNatClampNeg) ≤ (M20 869 38) then fX17_takeFlow_b179 fu a1 x7 M20 L22 else mb2 (DX17_endSender fu x7 5 M20 L22) (fun M25 L26 => fX17_takeFlow_b179 fu a1 x7 M25 L26)))))))) else mb2 (DX17_endSender fu x7 4 M L) (fun M16 L17 => fX17_takeFlow_b179 fu a1 x7 M16 L17))))))) else mck x7 101 (some (M 873 x7.toNatClampNeg, M, L))))))
noncomputable def DX17_endReceiver (fu : Nat) (a1 : Int32) (a2 : Int32) (M : mwM) (L : mwL) : Option (mwM × mwL) :=
  mck a1 4 (mlet (mset M 882 (a1.toNatClampNeg) 3) (fun M2 => mck a2 8 (mck a2 8 (mlet (mset M2 901 (a2.toNatClampNeg) ((M2 901 a2.toNatClampNeg) + 1)) (fun M5 => some (M5, L))))))
noncomputable def fX17_answer_b104 (fu : Nat) (a1 : Int32) (M : mwM) (L : mwL) : Option (mwM × mwL) :=
  some (M, L)
noncomputable def fX17_answer_b90 (fu : Nat) (a1 : Int32) (M : mwM) (L : mwL) : Option (mwM × mwL) :=
  (if (M 869 37) = 2 then mb2 (DX17_endReceiver fu a1 4 M L) (fun M9 L10 => fX17_answer_b104 fu a1 M9 L10) else fX17_answer_b104 fu a1 M L)
noncomputable def fX17_answer_b62 (fu : Nat) (a1 : Int32) (s2 : Int32) (M : mwM) (L : mwL) : Option (mwM × mwL) :=
  mck a1 4 (mlet (mset M 890 (a1.toNatClampNeg) (vp_nar .boolean s2)) (fun M2 => (if (M2 869 37) = 0 then mck a1 4 (mlet (mset M2 887 (a1.toNatClampNeg) (M2 869 35)) (fun M5 => mck a1 4 (mlet (mset M5 888 (a1.toNatClampNeg) (M5 869 35)) (fun M7 => fX17_answer_b90 fu a1 M7 L)))) else fX17_answer_b90 fu a1 M2 L)))
noncomputable def DX17_answer (fu : Nat) (a1 : Int32) (M : mwM) (L : mwL) : Option (mwM × mwL) :=
  mck a1 4 (mb3 (DX17_make fu 3 (M 883 a1.toNatClampNeg) (M 869 37) (M 869 35) (M 869 36) M L) (fun r14 M12 L13 => (if r14 = 0 then mb2 (DX17_endReceiver fu a1 7 M12 L13) (fun M19 L20 => some (M19, L20)) else mck a1 4 (mlet (mset L13 889 (a1.toNatClampNeg) (L13 869 2)) (fun L17 => (if (M12 869 37) = 1 then fX17_answer_b62 fu a1 1 M12 L17 else fX17_answer_b62 fu a1 0 M12 L17))))))
noncomputable def fX17_put_i2 (fu : Nat) (a1 : Int32) (a2 : Int32) (r2 : (Int32 × mwM × mwL) → Option (mwM × mwL)) (v3 : Int32) (M : mwM) (L : mwL) : Option (mwM × mwL) :=
  mck a2 6001 ((if (M 895 a2.toNatClampNeg) ≤ v3 then some (M, L) else mck a1 4 (mck ((7 * a2) + v3) 42007 (mck ((10000 * a1) + (M 885 a1.toNatClampNeg)) 40000 (mlet (mset M 891 (((10000 * a1) + (M 885 a1.toNatClampNeg)).toNatClampNeg) (vp_nar .byte (M 899 ((7 * a2) + v3).toNatClampNeg))) (fun M6 => mck a1 4 (mck a1 4 (mlet (mset M6 885 (a1.toNatClampNeg) ((M6 885 a1.toNatClampNeg) + 1)) (fun M9 => mlet (v3 + 1) (fun x10 => r2 (x10, M9, L)))))))))))
noncomputable def fX17_put_h2 (fu : Nat) (a1 : Int32) (a2 : Int32) : Nat → (Int32 × mwM × mwL) → Option (mwM × mwL) := mloop (fun r2 s => fX17_put_i2 fu a1 a2 r2 s.1 s.2.1 s.2.2)
noncomputable def DX17_put (fu : Nat) (a1 : Int32) (a2 : Int32) (M : mwM) (L : mwL) : Option (mwM × mwL) :=
  fX17_put_h2 fu a1 a2 fu (0, M, L)
noncomputable def fX17_whole_i29 (fu : Nat) (a1 : Int32) (r29 : (Int32 × mwM × mwL) → Option (mwM × mwL)) (v2 : Int32) (M : mwM) (L : mwL) : Option (mwM × mwL) :=
  (if (M 869 40) ≤ v2 then some (M, L) else mck ((10000 * a1) + v2) 40000 (mck v2 10000 (mlet (mset M 900 (v2.toNatClampNeg) (vp_nar .byte (M 891 ((10000 * a1) + v2).toNatClampNeg))) (fun M4 => mlet (v2 + 1) (fun x5 => r29 (x5, M4, L))))))
noncomputable def fX17_whole_h29 (fu : Nat) (a1 : Int32) : Nat → (Int32 × mwM × mwL) → Option (mwM × mwL) := mloop (fun r29 s => fX17_whole_i29 fu a1 r29 s.1 s.2.1 s.2.2)
noncomputable def DX17_whole (fu : Nat) (a1 : Int32) (M : mwM) (L : mwL) : Option (mwM × mwL) :=
  mck a1 4 (mlet (mset M 882 (a1.toNatClampNeg) 2) (fun M7 => mlet (mset M7 901 ((0 : Int32).toNatClampNeg) ((M7 901 (0 : Int32).toNatClampNeg) + 1)) (fun M10 => mck a1 4 (mlet (mset M10 869 40 (M10 884 a1.toNatClampNeg)) (fun M12 => fX17_whole_h29 fu a1 fu (0, M12, L))))))
noncomputable def fX17_takeNext_b116 (fu : Nat) (a1 : Int32) (a2 : Int32) (M : mwM) (L : mwL) : Option (mwM × mwL) :=
  some (M, L)
noncomputable def DX17_takeNext (fu : Nat) (a1 : Int32) (a2 : Int32) (M : mwM) (L : mwL) : Option (mwM × mwL) :=
  mck a2 6001 (mck a1 4 ((if (M 894 a2.toNatClampNeg) = (M 886 a1.toNatClampNeg) then mck a1 4 (mck a1 4 (mlet (mset M 886 (a1.toNatClampNeg) (((M 886 a1.toNatClampNeg) + 1) - ((M 886 a1.toNatClampNeg) + 1) / 16 * 16)) (fun M7 => mck a1 4 (mlet (mset L 889 (a1.toNatClampNeg) (L 869 2)) (fun L9 => mck a1 4 (mlet (mset M7 890 (a1.toNatClampNeg) (vp_nar .boolean 0)) (fun M11 => mb2 (DX17_put fu a1 a2 M11 L9) (fun M12 L13 => mck a1 4 (mck a1 4 ((if (M12 885 a1.toNatClampNeg) = (M12 884 a1.toNatClampNeg) then mb2 (DX17_whole fu a1 M12 L13) (fun M26 L27 => some (M26, L27)) else mck a1 4 (mck a1 4 (mlet (mset M12 888 (a1.toNatClampNeg) ((M12 888 a1.toNatClampNeg) - 1)) (fun M19 => mck a1 4 ((if (M19 887 a1.toNatClampNeg) ≤ 0 then fX17_takeNext_b116 fu a1 a2 M19 L13 else mck a1 4 ((if (M19 888 a1.toNatClampNeg) = 0 then mb2 (DX17_answer fu a1 M19 L13) (fun M24 L25 => fX17_takeNext_b116 fu a1 a2 M24 L25) else fX17_takeNext_b116 fu a1 a2 M19 L13)))))))))))))))))) else mb2 (DX17_endReceiver fu a1 3 M L) (fun M28 L29 => some (M28, L29)))))
noncomputable def fX17_take_b50 (fu : Nat) (a1 : Int32) (v2 : Int32) (M : mwM) (L : mwL) : Option (Int32 × mwM × mwL) :=
  mck v2 4 (some (M 882 v2.toNatClampNeg, M, L))
noncomputable def fX17_take_b222 (fu : Nat) (a1 : Int32) (v2 : Int32) (M : mwM) (L : mwL) : Option (Int32 × mwM × mwL) :=
  mck v2 4 (some (M 882 v2.toNatClampNeg, M, L))
noncomputable def fX17_take_b191 (fu : Nat) (a1 : Int32) (v2 : Int32) (s1 : Int32) (s2 : Int32) (M : mwM) (L : mwL) : Option (Int32 × mwM × mwL) :=
  mb2 (DX17_endReceiver fu s1 s2 M L) (fun M36 L37 => fX17_take_b222 fu a1 v2 M36 L37)
noncomputable def fX17_take_b129 (fu : Nat) (a1 : Int32) (v2 : Int32) (s1 : Int32) (s2 : Int32) (M : mwM) (L : mwL) : Option (Int32 × mwM × mwL) :=
  mck s1 4 (mlet (mset M 884 (s1.toNatClampNeg) s2) (fun M14 => mck a1 6001 ((if (M14 892 a1.toNatClampNeg) = 0 then mb2 (DX17_put fu v2 a1 M14 L) (fun M32 L33 => mb2 (DX17_whole fu v2 M32 L33) (fun M34 L35 => fX17_take_b222 fu a1 v2 M34 L35)) else mck a1 6001 ((if (M14 894 a1.toNatClampNeg) ≤ (M14 869 1) then mck v2 4 (mlet (mset M14 882 (v2.toNatClampNeg) 1) (fun M20 => mck v2 4 (mlet (mset M20 886 (v2.toNatClampNeg) 1) (fun M22 => mb2 (DX17_put fu v2 a1 M22 L) (fun M23 L24 => mb2 (DX17_answer fu v2 M23 L24) (fun M25 L26 => fX17_take_b222 fu a1 v2 M25 L26)))))) else mck a1 6001 (mb3 (DX17_make fu 3 (M14 893 a1.toNatClampNeg) 2 0 0 M14 L) (fun r30 M28 L29 => (if r30 ≤ 0 then fX17_take_b191 fu a1 v2 v2 7 M28 L29 else fX17_take_b191 fu a1 v2 v2 4 M28 L29)))))))))
noncomputable def fX17_take_b74 (fu : Nat) (a1 : Int32) (v2 : Int32) (M : mwM) (L : mwL) : Option (Int32 × mwM × mwL) :=
  mck a1 6001 (mck v2 4 (mlet (mset M 883 (v2.toNatClampNeg) (M 893 a1.toNatClampNeg)) (fun M4 => mck v2 4 (mlet (mset M4 885 (v2.toNatClampNeg) 0) (fun M6 => mck v2 4 (mlet (mset M6 887 (v2.toNatClampNeg) 0) (fun M8 => mck a1 6001 ((if (M8 892 a1.toNatClampNeg) = 0 then mck a1 6001 (fX17_take_b129 fu a1 v2 v2 (M8 895 a1.toNatClampNeg) M8 L) else mck a1 6001 (fX17_take_b129 fu a1 v2 v2 (M8 894 a1.toNatClampNeg) M8 L))))))))))
noncomputable def DX17_take (fu : Nat) (a1 : Int32) (M : mwM) (L : mwL) : Option (Int32 × mwM × mwL) :=
  mck a1 6001 (mlet ((M 893 a1.toNatClampNeg) - (M 893 a1.toNatClampNeg) / 4 * 4) (fun x41 => mck a1 6001 ((if (M 892 a1.toNatClampNeg) = 2 then mck x41 4 ((if (M 882 x41.toNatClampNeg) = 1 then mck x41 4 (mck a1 6001 ((if (M 883 x41.toNatClampNeg) = (M 893 a1.toNatClampNeg) then mb2 (DX17_takeNext fu x41 a1 M L) (fun M53 L54 => fX17_take_b50 fu a1 x41 M53 L54) else fX17_take_b50 fu a1 x41 M L))) else fX17_take_b50 fu a1 x41 M L)) else mck x41 4 ((if (M 882 x41.toNatClampNeg) = 1 then mb2 (DX17_endReceiver fu x41 6 M L) (fun M46 L47 => fX17_take_b74 fu a1 x41 M46 L47) else fX17_take_b74 fu a1 x41 M L))))))
noncomputable def fX17_senderDue_b57 (fu : Nat) (a1 : Int32) (s0 : Int32) (M : mwM) (L : mwL) : Option (Int32 × mwM × mwL) :=
  mzz s0 (some (s0, M, L))
noncomputable def fX17_senderDue_b52 (fu : Nat) (a1 : Int32) (M : mwM) (L : mwL) : Option (Int32 × mwM × mwL) :=
  fX17_senderDue_b57 fu a1 1 M L
noncomputable def fX17_senderDue_b56 (fu : Nat) (a1 : Int32) (M : mwM) (L : mwL) : Option (Int32 × mwM × mwL) :=
  fX17_senderDue_b57 fu a1 0 M L
noncomputable def fX17_senderDue_b24 (fu : Nat) (a1 : Int32) (M : mwM) (L : mwL) : Option (Int32 × mwM × mwL) :=
  mck a1 101 ((if (M 873 a1.toNatClampNeg) = 1 then mck a1 101 ((if (lg_cmp ((L 869 2) - (L 880 a1.toNatClampNeg)) 1000) = 0 then fX17_senderDue_b52 fu a1 M L else fX17_senderDue_b56 fu a1 M L)) else fX17_senderDue_b56 fu a1 M L))
noncomputable def DX17_senderDue (fu : Nat) (a1 : Int32) (M : mwM) (L : mwL) : Option (Int32 × mwM × mwL) :=
  mck a1 101 ((if (M 873 a1.toNatClampNeg) = 2 then mck a1 101 ((if (lg_cmp (L 881 a1.toNatClampNeg) (L 869 2)) = 0 then fX17_senderDue_b52 fu a1 M L else fX17_senderDue_b24 fu a1 M L)) else fX17_senderDue_b24 fu a1 M L))
noncomputable def fX17_moment_b138 (fu : Nat) (r53 : (Int32 × mwM × mwL) → Option (mwM × mwL)) (v1 : Int32) (M : mwM) (L : mwL) : Option (mwM × mwL) :=
  mlet (v1 + 1) (fun x30 => r53 (x30, M, L))
noncomputable def fX17_moment_b104 (fu : Nat) (r53 : (Int32 × mwM × mwL) → Option (mwM × mwL)) (v1 : Int32) (v2 : Int32) (M : mwM) (L : mwL) : Option (mwM × mwL) :=
  mck v2 4 ((if (M 882 v2.toNatClampNeg) = 1 then mck v2 4 ((if (lg_cmp ((L 869 2) - (L 889 v2.toNatClampNeg)) 1000) = 0 then mb2 (DX17_endReceiver fu v2 2 M L) (fun M28 L29 => fX17_moment_b138 fu r53 v1 M28 L29) else fX17_moment_b138 fu r53 v1 M L)) else fX17_moment_b138 fu r53 v1 M L))
noncomputable def fX17_moment_i53 (fu : Nat) (r53 : (Int32 × mwM × mwL) → Option (mwM × mwL)) (v1 : Int32) (M : mwM) (L : mwL) : Option (mwM × mwL) :=
  (if 5 ≤ v1 then some (M, L) else mlet (v1 - v1 / 4 * 4) (fun x15 => mck x15 4 ((if (M 882 x15.toNatClampNeg) = 1 then mck x15 4 ((if (M 890 x15.toNatClampNeg) = 0 then fX17_moment_b104 fu r53 v1 x15 M L else mck x15 4 ((if (lg_cmp ((L 869 2) - (L 889 x15.toNatClampNeg)) 500) = 0 then mb2 (DX17_answer fu x15 M L) (fun M22 L23 => fX17_moment_b104 fu r53 v1 x15 M22 L23) else fX17_moment_b104 fu r53 v1 x15 M L)))) else fX17_moment_b104 fu r53 v1 x15 M L))))
noncomputable def fX17_moment_h53 (fu : Nat) : Nat → (Int32 × mwM × mwL) → Option (mwM × mwL) := mloop (fun r53 s => fX17_moment_i53 fu r53 s.1 s.2.1 s.2.2)
noncomputable def fX17_moment_i10 (fu : Nat) (r2 : (Int32 × mwM × mwL) → Option (mwM × mwL)) (r10 : (Int32 × mwM × mwL) → Option (mwM × mwL)) (v1 : Int32) (M : mwM) (L : mwL) : Option (mwM × mwL) :=
  mb3 (DX17_senderDue fu v1 M L) (fun r4 M2 L3 => (if r4 = 0 then mlet (v1 + 1) (fun x6 => r2 (x6, M2, L3)) else mck v1 101 ((if (M2 873 v1.toNatClampNeg) = 1 then mb2 (DX17_endSender fu v1 1 M2 L3) (fun M11 L12 => r10 (v1, M11, L12)) else mb2 (DX17_sendNext fu v1 M2 L3) (fun M9 L10 => r10 (v1, M9, L10))))))
noncomputable def fX17_moment_h10 (fu : Nat) (r2 : (Int32 × mwM × mwL) → Option (mwM × mwL)) : Nat → (Int32 × mwM × mwL) → Option (mwM × mwL) := mloop (fun r10 s => fX17_moment_i10 fu r2 r10 s.1 s.2.1 s.2.2)
noncomputable def fX17_moment_i2 (fu : Nat) (r2 : (Int32 × mwM × mwL) → Option (mwM × mwL)) (v1 : Int32) (M : mwM) (L : mwL) : Option (mwM × mwL) :=
  (if (M 869 3) < v1 then fX17_moment_h53 fu fu (1, M, L) else fX17_moment_h10 fu r2 fu (v1, M, L))
noncomputable def fX17_moment_h2 (fu : Nat) : Nat → (Int32 × mwM × mwL) → Option (mwM × mwL) := mloop (fun r2 s => fX17_moment_i2 fu r2 s.1 s.2.1 s.2.2)
noncomputable def DX17_moment (fu : Nat) (M : mwM) (L : mwL) : Option (mwM × mwL) :=
  fX17_moment_h2 fu fu (1, M, L)
