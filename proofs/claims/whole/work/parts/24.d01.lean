noncomputable def fX2_clearState_i2 (fu : Nat) (k : Nat) (a1 : Int32) (r2 : (Int32 × mwM × mwL) → Option (mwM × mwL)) (v2 : Int32) (M : mwM) (L : mwL) : Option (mwM × mwL) :=
  (if 15 < v2 then some (M, L) else mck v2 18 (mck a1 201 (mlet (mset M (k + 2 + v2.toNatClampNeg) (a1.toNatClampNeg) 0) (fun M4 => mlet (v2 + 1) (fun x5 => r2 (x5, M4, L))))))
noncomputable def fX2_clearState_h2 (fu : Nat) (k : Nat) (a1 : Int32) : Nat → (Int32 × mwM × mwL) → Option (mwM × mwL) := mloop (fun r2 s => fX2_clearState_i2 fu k a1 r2 s.1 s.2.1 s.2.2)
noncomputable def DX2_clearState (fu : Nat) (k : Nat) (a1 : Int32) (M : mwM) (L : mwL) : Option (mwM × mwL) :=
  fX2_clearState_h2 fu k a1 fu (0, M, L)
noncomputable def fX2_begin_i62 (fu : Nat) (k : Nat) (a1 : Int32) (a2 : Int32) (r62 : (Int32 × mwM × mwL) → Option (mwM × mwL)) (v3 : Int32) (M : mwM) (L : mwL) : Option (mwM × mwL) :=
  (if 32 ≤ v3 then mb2 (DX2_clearState fu k 0 M L) (fun M2 L3 => some (M2, L3)) else mck v3 32 (mlet (mset L (k + 34) (v3.toNatClampNeg) 0) (fun L5 => mlet (v3 + 1) (fun x6 => r62 (x6, M, L5)))))
noncomputable def fX2_begin_h62 (fu : Nat) (k : Nat) (a1 : Int32) (a2 : Int32) : Nat → (Int32 × mwM × mwL) → Option (mwM × mwL) := mloop (fun r62 s => fX2_begin_i62 fu k a1 a2 r62 s.1 s.2.1 s.2.2)
noncomputable def DX2_begin (fu : Nat) (k : Nat) (a1 : Int32) (a2 : Int32) (M : mwM) (L : mwL) : Option (mwM × mwL) :=
  mlet (mset M k 5 a1) (fun M7 => mlet (mset M7 k 6 a2) (fun M8 => mlet (mset M8 k 7 0) (fun M9 => mlet (mset M9 k 8 0) (fun M10 => mlet (mset M10 k 9 0) (fun M11 => mlet (mset M11 k 10 0) (fun M12 => mlet (mset M12 k 11 0) (fun M13 => mlet (mset M13 k 12 0) (fun M14 => mlet (mset M14 k 13 0) (fun M15 => mlet (mset M15 k 14 0) (fun M16 => mlet (mset M16 k 15 0) (fun M17 => mlet (mset M17 k 16 0) (fun M18 => fX2_begin_h62 fu k a1 a2 fu (0, M18, L)))))))))))))
noncomputable def fX2_isMark_b17 (fu : Nat) (k : Nat) (a1 : Int32) (s0 : Int32) (M : mwM) (L : mwL) : Option (Int32 × mwM × mwL) :=
  mzz s0 (some (s0, M, L))
noncomputable def DX2_isMark (fu : Nat) (k : Nat) (a1 : Int32) (M : mwM) (L : mwL) : Option (Int32 × mwM × mwL) :=
  mck a1 201 ((if (M (k + 3) a1.toNatClampNeg) < 2 then fX2_isMark_b17 fu k a1 0 M L else fX2_isMark_b17 fu k a1 1 M L))
noncomputable def fX2_putInOrder_b76 (fu : Nat) (k : Nat) (a1 : Int32) (a2 : Int32) (v4 : Int32) (M : mwM) (L : mwL) : Option (mwM × mwL) :=
  mck a1 18 (mck v4 201 (mlet (mset M (k + 2 + a1.toNatClampNeg) (v4.toNatClampNeg) (M k 7)) (fun M15 => some (M15, L))))
noncomputable def fX2_putInOrder_i20 (fu : Nat) (k : Nat) (a1 : Int32) (a2 : Int32) (r20 : (Int32 × Int32 × mwM × mwL) → Option (mwM × mwL)) (v3 : Int32) (v4 : Int32) (M : mwM) (L : mwL) : Option (mwM × mwL) :=
  (if v4 ≤ 1 then fX2_putInOrder_b76 fu k a1 a2 v4 M L else mck a1 18 (mck (v4 - 1) 201 (mck (M (k + 2 + a1.toNatClampNeg) (v4 - 1).toNatClampNeg) 201 ((if (a2 * (M (k + 4) (M (k + 2 + a1.toNatClampNeg) (v4 - 1).toNatClampNeg).toNatClampNeg)) ≤ v3 then fX2_putInOrder_b76 fu k a1 a2 v4 M L else mck a1 18 (mck a1 18 (mck (v4 - 1) 201 (mck v4 201 (mlet (mset M (k + 2 + a1.toNatClampNeg) (v4.toNatClampNeg) (M (k + 2 + a1.toNatClampNeg) (v4 - 1).toNatClampNeg)) (fun M11 => mlet (v4 + (-1)) (fun x12 => r20 (v3, x12, M11, L))))))))))))
noncomputable def fX2_putInOrder_h20 (fu : Nat) (k : Nat) (a1 : Int32) (a2 : Int32) : Nat → (Int32 × Int32 × mwM × mwL) → Option (mwM × mwL) := mloop (fun r20 s => fX2_putInOrder_i20 fu k a1 a2 r20 s.1 s.2.1 s.2.2.1 s.2.2.2)
noncomputable def DX2_putInOrder (fu : Nat) (k : Nat) (a1 : Int32) (a2 : Int32) (M : mwM) (L : mwL) : Option (mwM × mwL) :=
  mck (M k 7) 201 (mlet (a2 * (M (k + 4) (M k 7).toNatClampNeg)) (fun x18 => mlet (M k 7) (fun x19 => fX2_putInOrder_h20 fu k a1 a2 fu (x18, x19, M, L))))
noncomputable def fX2_addState_b25 (fu : Nat) (k : Nat) (a1 : Int32) (a2 : Int32) (M : mwM) (L : mwL) : Option (Int32 × mwM × mwL) :=
  some ((-2), M, L)
noncomputable def fX2_addState_b129 (fu : Nat) (k : Nat) (a1 : Int32) (a2 : Int32) (M : mwM) (L : mwL) : Option (Int32 × mwM × mwL) :=
  mb2 (DX2_putInOrder fu k 16 1 M L) (fun M1 L2 => mb2 (DX2_putInOrder fu k 17 ((-1)) M1 L2) (fun M3 L4 => some (M3 k 7, M3, L4)))
noncomputable def DX2_addState (fu : Nat) (k : Nat) (a1 : Int32) (a2 : Int32) (M : mwM) (L : mwL) : Option (Int32 × mwM × mwL) :=
  mck a1 201 (mlet ((M (k + 4) a1.toNatClampNeg) + 1) (fun x7 => mb3 (DX2_isMark fu k a1 M L) (fun r10 M8 L9 => (if r10 = 0 then (if x7 ≤ 40 then (if (M8 k 7) < 200 then mlet (mset M8 k 7 ((M8 k 7) + 1)) (fun M14 => mb2 (DX2_clearState fu k (M14 k 7) M14 L9) (fun M15 L16 => mck (M15 k 7) 201 (mlet (mset M15 (k + 2) ((M15 k 7).toNatClampNeg) a1) (fun M19 => mck (M19 k 7) 201 (mlet (mset M19 (k + 3) ((M19 k 7).toNatClampNeg) a2) (fun M22 => mck (M22 k 7) 201 (mlet (mset M22 (k + 4) ((M22 k 7).toNatClampNeg) x7) (fun M25 => mck a1 201 ((if (M25 (k + 6) a1.toNatClampNeg) = 0 then mb3 (DX2_isMark fu k (M25 k 7) M25 L16) (fun r31 M29 L30 => (if r31 = 0 then mck a1 201 (mlet (mset M29 (k + 6) (a1.toNatClampNeg) (M29 k 7)) (fun M35 => fX2_addState_b129 fu k a1 a2 M35 L30)) else fX2_addState_b129 fu k a1 a2 M29 L30)) else fX2_addState_b129 fu k a1 a2 M25 L16)))))))))) else some ((-4), M8, L9)) else fX2_addState_b25 fu k a1 a2 M8 L9) else fX2_addState_b25 fu k a1 a2 M8 L9))))
noncomputable def fX2_addEdge_b24 (fu : Nat) (k : Nat) (a1 : Int32) (a2 : Int32) (a3 : Int32) (a4 : Int32) (M : mwM) (L : mwL) : Option (Int32 × mwM × mwL) :=
  some ((-2), M, L)
noncomputable def DX2_addEdge (fu : Nat) (k : Nat) (a1 : Int32) (a2 : Int32) (a3 : Int32) (a4 : Int32) (M : mwM) (L : mwL) : Option (Int32 × mwM × mwL) :=
  mck a1 201 ((if (M (k + 3) a1.toNatClampNeg) = 2 then fX2_addEdge_b24 fu k a1 a2 a3 a4 M L else mck a1 201 ((if (M (k + 3) a1.toNatClampNeg) = 3 then fX2_addEdge_b24 fu k a1 a2 a3 a4 M L else (if (M k 8) < 400 then mlet (mset M k 8 ((M k 8) + 1)) (fun M8 => mck (M8 k 8) 401 (mlet (mset M8 (k + 21) ((M8 k 8).toNatClampNeg) a1) (fun M11 => mck (M11 k 8) 401 (mlet (mset M11 (k + 22) ((M11 k 8).toNatClampNeg) a2) (fun M14 => mck (M14 k 8) 401 (mlet (mset M14 (k + 23) ((M14 k 8).toNatClampNeg) a3) (fun M17 => mck (M17 k 8) 401 (mlet (mset M17 (k + 24) ((M17 k 8).toNatClampNeg) a4) (fun M20 => mck (M20 k 8) 401 (mlet (mset M20 (k + 26) ((M20 k 8).toNatClampNeg) 0) (fun M23 => some (M23 k 8, M23, L)))))))))))) else some ((-4), M, L))))))
noncomputable def fX2_addAct_b104 (fu : Nat) (k : Nat) (a1 : Int32) (a2 : Int32) (a3 : Int32) (a4 : Int32) (a5 : Int32) (s1 : Int32) (s2 : Int32) (M : mwM) (L : mwL) : Option (Int32 × mwM × mwL) :=
  mck s1 600 (mlet (mset M (k + 33) (s1.toNatClampNeg) s2) (fun M17 => mlet (mset M17 k 9 ((M17 k 9) + 1)) (fun M18 => some (M18 k 9, M18, L))))
noncomputable def fX2_addAct_b22 (fu : Nat) (k : Nat) (a1 : Int32) (a2 : Int32) (a3 : Int32) (a4 : Int32) (a5 : Int32) (M : mwM) (L : mwL) : Option (Int32 × mwM × mwL) :=
  (if (M k 9) < 600 then mck (M k 9) 600 (mlet (mset M (k + 29) ((M k 9).toNatClampNeg) a1) (fun M4 => mck (M4 k 9) 600 (mlet (mset M4 (k + 30) ((M4 k 9).toNatClampNeg) a2) (fun M7 => mck (M7 k 9) 600 (mlet (mset M7 (k + 31) ((M7 k 9).toNatClampNeg) a3) (fun M10 => mck (M10 k 9) 600 (mlet (mset M10 (k + 32) ((M10 k 9).toNatClampNeg) a4) (fun M13 => (if a5 = 0 then fX2_addAct_b104 fu k a1 a2 a3 a4 a5 (M13 k 9) 0 M13 L else fX2_addAct_b104 fu k a1 a2 a3 a4 a5 (M13 k 9) 1 M13 L))))))))) else some ((-4), M, L))
noncomputable def DX2_addAct (fu : Nat) (k : Nat) (a1 : Int32) (a2 : Int32) (a3 : Int32) (a4 : Int32) (a5 : Int32) (M : mwM) (L : mwL) : Option (Int32 × mwM × mwL) :=
  (if a1 = 0 then some ((-1), M, L) else (if a2 = 2 then fX2_addAct_b22 fu k a1 a2 a3 a4 a5 M L else mb3 (DX2_isMark fu k a1 M L) (fun r23 M21 L22 => (if r23 = 0 then fX2_addAct_b22 fu k a1 a2 a3 a4 a5 M21 L22 else some ((-2), M21, L22)))))
noncomputable def DX2_addDatum (fu : Nat) (k : Nat) (a1 : Int32) (M : mwM) (L : mwL) : Option (Int32 × mwM × mwL) :=
  (if (M k 10) < 32 then mck (M k 10) 32 (mlet (mset L (k + 34) ((M k 10).toNatClampNeg) a1.toInt64) (fun L3 => mlet (mset M k 10 ((M k 10) + 1)) (fun M4 => some ((M4 k 10) - 1, M4, L3)))) else some ((-4), M, L))
noncomputable def DX2_setTicks (fu : Nat) (k : Nat) (a1 : Int32) (a2 : Int32) (M : mwM) (L : mwL) : Option (Int32 × mwM × mwL) :=
  mb3 (DX2_isMark fu k a1 M L) (fun r3 M1 L2 => (if r3 = 0 then mck a1 201 (mlet (mset M1 (k + 5) (a1.toNatClampNeg) a2) (fun M7 => some (1000 + a1, M7, L2))) else some ((-2), M1, L2)))
noncomputable def fX2_firstInto_i2 (fu : Nat) (k : Nat) (a1 : Int32) (r2 : (Int32 × mwM × mwL) → Option (Int32 × mwM × mwL)) (v2 : Int32) (M : mwM) (L : mwL) : Option (Int32 × mwM × mwL) :=
  (if (M k 8) < v2 then some (a1, M, L) else mck v2 401 ((if (M (k + 22) v2.toNatClampNeg) = a1 then mck v2 401 (some (M (k + 21) v2.toNatClampNeg, M, L)) else mlet (v2 + 1) (fun x5 => r2 (x5, M, L)))))
noncomputable def fX2_firstInto_h2 (fu : Nat) (k : Nat) (a1 : Int32) : Nat → (Int32 × mwM × mwL) → Option (Int32 × mwM × mwL) := mloop (fun r2 s => fX2_firstInto_i2 fu k a1 r2 s.1 s.2.1 s.2.2)
noncomputable def DX2_firstInto (fu : Nat) (k : Nat) (a1 : Int32) (M : mwM) (L : mwL) : Option (Int32 × mwM × mwL) :=
  fX2_firstInto_h2 fu k a1 fu (1, M, L)
noncomputable def fX2_isIn_b38 (fu : Nat) (k : Nat) (a1 : Int32) (a2 : Int32) (M : mwM) (L : mwL) : Option (Int32 × mwM × mwL) :=
  some (0, M, L)
noncomputable def fX2_isIn_i5 (fu : Nat) (k : Nat) (a1 : Int32) (a2 : Int32) (r5 : (Int32 × Int32 × mwM × mwL) → Option (Int32 × mwM × mwL)) (v3 : Int32) (v4 : Int32) (M : mwM) (L : mwL) : Option (Int32 × mwM × mwL) :=
  (if 40 < v4 then fX2_isIn_b38 fu k a1 a2 M L else (if v3 = 0 then fX2_isIn_b38 fu k a1 a2 M L else mck v3 201 (mlet (M (k + 2) v3.toNatClampNeg) (fun x5 => (if x5 = a2 then some (1, M, L) else mlet (v4 + 1) (fun x7 => r5 (x5, x7, M, L)))))))
noncomputable def fX2_isIn_h5 (fu : Nat) (k : Nat) (a1 : Int32) (a2 : Int32) : Nat → (Int32 × Int32 × mwM × mwL) → Option (Int32 × mwM × mwL) := mloop (fun r5 s => fX2_isIn_i5 fu k a1 a2 r5 s.1 s.2.1 s.2.2.1 s.2.2.2)
noncomputable def DX2_isIn (fu : Nat) (k : Nat) (a1 : Int32) (a2 : Int32) (M : mwM) (L : mwL) : Option (Int32 × mwM × mwL) :=
  fX2_isIn_h5 fu k a1 a2 fu (a1, 0, M, L)
noncomputable def fX2_isAim_b29 (fu : Nat) (k : Nat) (a1 : Int32) (s0 : Int32) (M : mwM) (L : mwL) : Option (Int32 × mwM × mwL) :=
  mzz s0 (some (s0, M, L))
noncomputable def fX2_isAim_b28 (fu : Nat) (k : Nat) (a1 : Int32) (M : mwM) (L : mwL) : Option (Int32 × mwM × mwL) :=
  fX2_isAim_b29 fu k a1 0 M L
noncomputable def DX2_isAim (fu : Nat) (k : Nat) (a1 : Int32) (M : mwM) (L : mwL) : Option (Int32 × mwM × mwL) :=
  mck a1 201 ((if (M (k + 3) a1.toNatClampNeg) = 4 then fX2_isAim_b28 fu k a1 M L else mck a1 201 ((if (M (k + 3) a1.toNatClampNeg) = 5 then fX2_isAim_b28 fu k a1 M L else fX2_isAim_b29 fu k a1 1 M L))))
noncomputable def fX2_isAround_b209 (fu : Nat) (k : Nat) (a1 : Int32) (a2 : Int32) (v5 : Int32) (M : mwM) (L : mwL) : Option (Int32 × mwM × mwL) :=
  mzz v5 (some (v5, M, L))
noncomputable def fX2_isAround_b203 (fu : Nat) (k : Nat) (a1 : Int32) (a2 : Int32) (r86 : (Int32 × Int32 × Int32 × Int32 × mwM × mwL) → Option (Int32 × mwM × mwL)) (v3 : Int32) (v4 : Int32) (v5 : Int32) (v6 : Int32) (M : mwM) (L : mwL) : Option (Int32 × mwM × mwL) :=
  mlet (v6 + 1) (fun x39 => r86 (v3, v4, v5, x39, M, L))
noncomputable def fX2_isAround_b141 (fu : Nat) (k : Nat) (a1 : Int32) (a2 : Int32) (r86 : (Int32 × Int32 × Int32 × Int32 × mwM × mwL) → Option (Int32 × mwM × mwL)) (v3 : Int32) (v4 : Int32) (v5 : Int32) (v6 : Int32) (M : mwM) (L : mwL) : Option (Int32 × mwM × mwL) :=
  mck v4 201 ((if (M (k + 3) v4.toNatClampNeg) = 4 then mck v6 401 ((if (M (k + 21) v6.toNatClampNeg) = v4 then mck v6 401 (mb3 (DX2_isAim fu k (M (k + 22) v6.toNatClampNeg) M L) (fun r31 M29 L30 => (if r31 = 0 then fX2_isAround_b203 fu k a1 a2 r86 v3 v4 v5 v6 M29 L30 else mck v6 401 (mb3 (DX2_isIn fu k (M29 (k + 22) v6.toNatClampNeg) a1 M29 L30) (fun r37 M35 L36 => mlet (v5 &&& r37) (fun x38 => fX2_isAround_b203 fu k a1 a2 r86 v3 v4 x38 v6 M35 L36)))))) else fX2_isAround_b203 fu k a1 a2 r86 v3 v4 v5 v6 M L)) else fX2_isAround_b203 fu k a1 a2 r86 v3 v4 v5 v6 M L))
noncomputable def fX2_isAround_i86 (fu : Nat) (k : Nat) (a1 : Int32) (a2 : Int32) (r86 : (Int32 × Int32 × Int32 × Int32 × mwM × mwL) → Option (Int32 × mwM × mwL)) (v3 : Int32) (v4 : Int32) (v5 : Int32) (v6 : Int32) (M : mwM) (L : mwL) : Option (Int32 × mwM × mwL) :=
  (if (M k 8) < v6 then fX2_isAround_b209 fu k a1 a2 v5 M L else (if v5 = 0 then fX2_isAround_b209 fu k a1 a2 v5 M L else mck v3 201 ((if (M (k + 3) v3.toNatClampNeg) = 5 then mck v6 401 ((if (M (k + 22) v6.toNatClampNeg) = v3 then mck v6 401 (mb3 (DX2_isIn fu k (M (k + 21) v6.toNatClampNeg) a1 M L) (fun r20 M18 L19 => fX2_isAround_b141 fu k a1 a2 r86 v3 v4 r20 v6 M18 L19)) else fX2_isAround_b141 fu k a1 a2 r86 v3 v4 v5 v6 M L)) else fX2_isAround_b141 fu k a1 a2 r86 v3 v4 v5 v6 M L))))
noncomputable def fX2_isAround_h86 (fu : Nat) (k : Nat) (a1 : Int32) (a2 : Int32) : Nat → (Int32 × Int32 × Int32 × Int32 × mwM × mwL) → Option (Int32 × mwM × mwL) := mloop (fun r86 s => fX2_isAround_i86 fu k a1 a2 r86 s.1 s.2.1 s.2.2.1 s.2.2.2.1 s.2.2.2.2.1 s.2.2.2.2.2)
noncomputable def fX2_isAround_b81 (fu : Nat) (k : Nat) (a1 : Int32) (a2 : Int32) (v3 : Int32) (v4 : Int32) (s0 : Int32) (M : mwM) (L : mwL) : Option (Int32 × mwM × mwL) :=
  fX2_isAround_h86 fu k a1 a2 fu (v3, v4, s0, 1, M, L)
noncomputable def fX2_isAround_b76 (fu : Nat) (k : Nat) (a1 : Int32) (a2 : Int32) (v3 : Int32) (v4 : Int32) (M : mwM) (L : mwL) : Option (Int32 × mwM × mwL) :=
  fX2_isAround_b81 fu k a1 a2 v3 v4 1 M L
noncomputable def fX2_isAround_b80 (fu : Nat) (k : Nat) (a1 : Int32) (a2 : Int32) (v3 : Int32) (v4 : Int32) (M : mwM) (L : mwL) : Option (Int32 × mwM × mwL) :=
  fX2_isAround_b81 fu k a1 a2 v3 v4 0 M L
noncomputable def fX2_isAround_b53 (fu : Nat) (k : Nat) (a1 : Int32) (a2 : Int32) (v3 : Int32) (v4 : Int32) (M : mwM) (L : mwL) : Option (Int32 × mwM × mwL) :=
  mck v4 201 ((if (M (k + 3) v4.toNatClampNeg) = 4 then fX2_isAround_b76 fu k a1 a2 v3 v4 M L else mb3 (DX2_isIn fu k v4 a1 M L) (fun r6 M4 L5 => (if r6 = 0 then fX2_isAround_b80 fu k a1 a2 v3 v4 M4 L5 else fX2_isAround_b76 fu k a1 a2 v3 v4 M4 L5))))
noncomputable def DX2_isAround (fu : Nat) (k : Nat) (a1 : Int32) (a2 : Int32) (M : mwM) (L : mwL) : Option (Int32 × mwM × mwL) :=
  mck a1 201 ((if (M (k + 3) a1.toNatClampNeg) = 0 then mck a2 401 (mlet (M (k + 21) a2.toNatClampNeg) (fun x46 => mck a2 401 (mlet (M (k + 22) a2.toNatClampNeg) (fun x49 => mck x46 201 ((if (M (k + 3) x46.toNatClampNeg) = 5 then fX2_isAround_b53 fu k a1 a2 x46 x49 M L else mb3 (DX2_isIn fu k x46 a1 M L) (fun r55 M53 L54 => (if r55 = 0 then fX2_isAround_b80 fu k a1 a2 x46 x49 M53 L54 else fX2_isAround_b53 fu k a1 a2 x46 x49 M53 L54)))))))) else some (0, M, L)))
noncomputable def fX2_findDomains_b101 (fu : Nat) (k : Nat) (r2 : (Int32 × mwM × mwL) → Option (mwM × mwL)) (v1 : Int32) (v2 : Int32) (M : mwM) (L : mwL) : Option (mwM × mwL) :=
  mck v1 401 (mlet (mset M (k + 25) (v1.toNatClampNeg) v2) (fun M32 => mlet (v1 + 1) (fun x33 => r2 (x33, M32, L))))
noncomputable def fX2_findDomains_i67 (fu : Nat) (k : Nat) (r2 : (Int32 × mwM × mwL) → Option (mwM × mwL)) (r67 : (Int32 × Int32 × Int32 × mwM × mwL) → Option (mwM × mwL)) (v1 : Int32) (v2 : Int32) (v3 : Int32) (M : mwM) (L : mwL) : Option (mwM × mwL) :=
  (if 40 < v3 then fX2_findDomains_b101 fu k r2 v1 v2 M L else (if v2 = 0 then fX2_findDomains_b101 fu k r2 v1 v2 M L else mb3 (DX2_isAround fu k v2 v1 M L) (fun r24 M22 L23 => (if r24 = 0 then mck v2 201 (mlet (M22 (k + 2) v2.toNatClampNeg) (fun x28 => mlet (v3 + 1) (fun x29 => r67 (v1, x28, x29, M22, L23)))) else fX2_findDomains_b101 fu k r2 v1 v2 M22 L23))))
noncomputable def fX2_findDomains_h67 (fu : Nat) (k : Nat) (r2 : (Int32 × mwM × mwL) → Option (mwM × mwL)) : Nat → (Int32 × Int32 × Int32 × mwM × mwL) → Option (mwM × mwL) := mloop (fun r67 s => fX2_findDomains_i67 fu k r2 r67 s.1 s.2.1 s.2.2.1 s.2.2.2.1 s.2.2.2.2)
noncomputable def fX2_findDomains_b65 (fu : Nat) (k : Nat) (r2 : (Int32 × mwM × mwL) → Option (mwM × mwL)) (v1 : Int32) (v2 : Int32) (M : mwM) (L : mwL) : Option (mwM × mwL) :=
  fX2_findDomains_h67 fu k r2 fu (v1, v2, 0, M, L)
noncomputable def fX2_findDomains_i2 (fu : Nat) (k : Nat) (r2 : (Int32 × mwM × mwL) → Option (mwM × mwL)) (v1 : Int32) (M : mwM) (L : mwL) : Option (mwM × mwL) :=
  (if (M k 8) < v1 then some (M, L) else mck v1 401 (mck (M (k + 21) v1.toNatClampNeg) 201 (mlet (M (k + 2) (M (k + 21) v1.toNatClampNeg).toNatClampNeg) (fun x6 => mck v1 401 (mck (M (k + 21) v1.toNatClampNeg) 201 ((if (M (k + 3) (M (k + 21) v1.toNatClampNeg).toNatClampNeg) = 5 then mck v1 401 (mb3 (DX2_firstInto fu k (M (k + 21) v1.toNatClampNeg) M L) (fun r17 M15 L16 => mck r17 201 (mlet (M15 (k + 2) r17.toNatClampNeg) (fun x19 => fX2_findDomains_b65 fu k r2 v1 x19 M15 L16)))) else fX2_findDomains_b65 fu k r2 v1 x6 M L)))))))
noncomputable def fX2_findDomains_h2 (fu : Nat) (k : Nat) : Nat → (Int32 × mwM × mwL) → Option (mwM × mwL) := mloop (fun r2 s => fX2_findDomains_i2 fu k r2 s.1 s.2.1 s.2.2)
noncomputable def DX2_findDomains (fu : Nat) (k : Nat) (M : mwM) (L : mwL) : Option (mwM × mwL) :=
  fX2_findDomains_h2 fu k fu (1, M, L)
noncomputable def DX2_queue (fu : Nat) (k : Nat) (a1 : Int32) (M : mwM) (L : mwL) : Option (Int32 × mwM × mwL) :=
  (if (M k 11) < 16 then mck (M k 11) 16 (mlet (mset M (k + 35) ((M k 11).toNatClampNeg) a1) (fun M3 => mlet (mset M3 k 11 ((M3 k 11) + 1)) (fun M4 => some (1, M4, L)))) else some (0, M, L))
noncomputable def fX2_aimAt_b218 (fu : Nat) (k : Nat) (a1 : Int32) (a2 : Int32) (M : mwM) (L : mwL) : Option (mwM × mwL) :=
  some (M, L)
noncomputable def fX2_aimAt_b216 (fu : Nat) (k : Nat) (a1 : Int32) (a2 : Int32) (s1 : Int32) (s2 : Int32) (s3 : Int32) (M : mwM) (L : mwL) : Option (mwM × mwL) :=
  mck s1 201 (mlet (mset M (k + 13) (s1.toNatClampNeg) (s2 ||| s3)) (fun M39 => fX2_aimAt_b218 fu k a1 a2 M39 L))
noncomputable def fX2_aimAt_b184 (fu : Nat) (k : Nat) (a1 : Int32) (a2 : Int32) (v3 : Int32) (v4 : Int32) (M : mwM) (L : mwL) : Option (mwM × mwL) :=
  (if v3 = 0 then fX2_aimAt_b218 fu k a1 a2 M L else mck v4 201 (mck a1 201 ((if (M (k + 3) a1.toNatClampNeg) = 3 then fX2_aimAt_b216 fu k a1 a2 v4 (M (k + 13) v4.toNatClampNeg) 2 M L else fX2_aimAt_b216 fu k a1 a2 v4 (M (k + 13) v4.toNatClampNeg) 1 M L))))
noncomputable def fX2_aimAt_i130 (fu : Nat) (k : Nat) (a1 : Int32) (a2 : Int32) (r130 : (Int32 × Int32 × Int32 × Int32 × mwM × mwL) → Option (mwM × mwL)) (v3 : Int32) (v4 : Int32) (v5 : Int32) (v6 : Int32) (M : mwM) (L : mwL) : Option (mwM × mwL) :=
  (if 40 < v6 then fX2_aimAt_b184 fu k a1 a2 v3 v4 M L else (if v5 = a2 then fX2_aimAt_b184 fu k a1 a2 v3 v4 M L else (if v5 = 0 then fX2_aimAt_b184 fu k a1 a2 v3 v4 M L else mck v5 201 (mck (M (k + 2) v5.toNatClampNeg) 201 (mlet (mset M (k + 12) ((M (k + 2) v5.toNatClampNeg).toNatClampNeg) v5) (fun M27 => mck v5 201 (mlet (M27 (k + 2) v5.toNatClampNeg) (fun x30 => mlet (v6 + 1) (fun x31 => r130 (v3, v4, x30, x31, M27, L))))))))))
noncomputable def fX2_aimAt_h130 (fu : Nat) (k : Nat) (a1 : Int32) (a2 : Int32) : Nat → (Int32 × Int32 × Int32 × Int32 × mwM × mwL) → Option (mwM × mwL) := mloop (fun r130 s => fX2_aimAt_i130 fu k a1 a2 r130 s.1 s.2.1 s.2.2.1 s.2.2.2.1 s.2.2.2.2.1 s.2.2.2.2.2)
noncomputable def fX2_aimAt_b123 (fu : Nat) (k : Nat) (a1 : Int32) (a2 : Int32) (v3 : Int32) (v4 : Int32) (M : mwM) (L : mwL) : Option (mwM × mwL) :=
  fX2_aimAt_h130 fu k a1 a2 fu (v3, v4, v4, 0, M, L)
noncomputable def fX2_aimAt_b113 (fu : Nat) (k : Nat) (a1 : Int32) (a2 : Int32) (r43 : (Int32 × Int32 × Int32 × Int32 × mwM × mwL) → Option (mwM × mwL)) (v3 : Int32) (v4 : Int32) (v6 : Int32) (v7 : Int32) (M : mwM) (L : mwL) : Option (mwM × mwL) :=
  mlet (v6 + 1) (fun x19 => r43 (v3, v4, v7, x19, M, L))
noncomputable def fX2_aimAt_i43 (fu : Nat) (k : Nat) (a1 : Int32) (a2 : Int32) (r43 : (Int32 × Int32 × Int32 × Int32 × mwM × mwL) → Option (mwM × mwL)) (v3 : Int32) (v4 : Int32) (v5 : Int32) (v6 : Int32) (M : mwM) (L : mwL) : Option (mwM × mwL) :=
  (if 40 < v6 then fX2_aimAt_b123 fu k a1 a2 v3 v4 M L else (if v5 = a2 then fX2_aimAt_b123 fu k a1 a2 v3 v4 M L else (if v5 = 0 then fX2_aimAt_b123 fu k a1 a2 v3 v4 M L else mck v5 201 (mlet (M (k + 2) v5.toNatClampNeg) (fun x9 => mck x9 201 ((if (M (k + 3) x9.toNatClampNeg) = 0 then mck x9 201 ((if (M (k + 12) x9.toNatClampNeg) = 0 then fX2_aimAt_b113 fu k a1 a2 r43 v3 v4 v6 x9 M L else mck x9 201 ((if (M (k + 12) x9.toNatClampNeg) = v5 then fX2_aimAt_b113 fu k a1 a2 r43 v3 v4 v6 x9 M L else some (M, L))))) else fX2_aimAt_b113 fu k a1 a2 r43 v3 v4 v6 x9 M L)))))))
noncomputable def fX2_aimAt_h43 (fu : Nat) (k : Nat) (a1 : Int32) (a2 : Int32) : Nat → (Int32 × Int32 × Int32 × Int32 × mwM × mwL) → Option (mwM × mwL) := mloop (fun r43 s => fX2_aimAt_i43 fu k a1 a2 r43 s.1 s.2.1 s.2.2.1 s.2.2.2.1 s.2.2.2.2.1 s.2.2.2.2.2)
noncomputable def fX2_aimAt_b34 (fu : Nat) (k : Nat) (a1 : Int32) (a2 : Int32) (v3 : Int32) (s0 : Int32) (M : mwM) (L : mwL) : Option (mwM × mwL) :=
  fX2_aimAt_h43 fu k a1 a2 fu (v3, s0, s0, 0, M, L)
noncomputable def fX2_aimAt_b17 (fu : Nat) (k : Nat) (a1 : Int32) (a2 : Int32) (s0 : Int32) (M : mwM) (L : mwL) : Option (mwM × mwL) :=
  (if s0 = 0 then fX2_aimAt_b34 fu k a1 a2 s0 a1 M L else mck a1 201 (fX2_aimAt_b34 fu k a1 a2 s0 (M (k + 2) a1.toNatClampNeg) M L))
noncomputable def DX2_aimAt (fu : Nat) (k : Nat) (a1 : Int32) (a2 : Int32) (M : mwM) (L : mwL) : Option (mwM × mwL) :=
  mck a1 201 ((if (M (k + 3) a1.toNatClampNeg) < 2 then fX2_aimAt_b17 fu k a1 a2 0 M L else fX2_aimAt_b17 fu k a1 a2 1 M L))
noncomputable def fX2_aim_b124 (fu : Nat) (k : Nat) (a1 : Int32) (a2 : Int32) (r72 : (Int32 × Int32 × mwM × mwL) → Option (mwM × mwL)) (v3 : Int32) (v4 : Int32) (M : mwM) (L : mwL) : Option (mwM × mwL) :=
  mlet (v4 + 1) (fun x32 => r72 (v3, x32, M, L))
noncomputable def fX2_aim_i72 (fu : Nat) (k : Nat) (a1 : Int32) (a2 : Int32) (r72 : (Int32 × Int32 × mwM × mwL) → Option (mwM × mwL)) (v3 : Int32) (v4 : Int32) (M : mwM) (L : mwL) : Option (mwM × mwL) :=
  (if (M k 8) < v4 then some (M, L) else mck v4 401 ((if (M (k + 21) v4.toNatClampNeg) = v3 then mck v4 401 (mb3 (DX2_isAim fu k (M (k + 22) v4.toNatClampNeg) M L) (fun r26 M24 L25 => (if r26 = 0 then fX2_aim_b124 fu k a1 a2 r72 v3 v4 M24 L25 else mck v4 401 (mb2 (DX2_aimAt fu k (M24 (k + 22) v4.toNatClampNeg) a2 M24 L25) (fun M30 L31 => fX2_aim_b124 fu k a1 a2 r72 v3 v4 M30 L31))))) else fX2_aim_b124 fu k a1 a2 r72 v3 v4 M L)))
noncomputable def fX2_aim_h72 (fu : Nat) (k : Nat) (a1 : Int32) (a2 : Int32) : Nat → (Int32 × Int32 × mwM × mwL) → Option (mwM × mwL) := mloop (fun r72 s => fX2_aim_i72 fu k a1 a2 r72 s.1 s.2.1 s.2.2.1 s.2.2.2)
noncomputable def fX2_aim_i2 (fu : Nat) (k : Nat) (a1 : Int32) (a2 : Int32) (r2 : (Int32 × mwM × mwL) → Option (mwM × mwL)) (v3 : Int32) (M : mwM) (L : mwL) : Option (mwM × mwL) :=
  (if (M k 7) < v3 then (if a1 = 0 then some (M, L) else mck a1 401 (mlet (M (k + 22) a1.toNatClampNeg) (fun x5 => mck x5 201 ((if (M (k + 3) x5.toNatClampNeg) = 4 then fX2_aim_h72 fu k a1 a2 fu (x5, 1, M, L) else mb2 (DX2_aimAt fu k x5 a2 M L) (fun M9 L10 => some (M9, L10))))))) else mck v3 201 (mlet (mset M (k + 12) (v3.toNatClampNeg) 0) (fun M13 => mck v3 201 (mlet (mset M13 (k + 13) (v3.toNatClampNeg) 0) (fun M16 => mlet (v3 + 1) (fun x17 => r2 (x17, M16, L)))))))
noncomputable def fX2_aim_h2 (fu : Nat) (k : Nat) (a1 : Int32) (a2 : Int32) : Nat → (Int32 × mwM × mwL) → Option (mwM × mwL) := mloop (fun r2 s => fX2_aim_i2 fu k a1 a2 r2 s.1 s.2.1 s.2.2)
noncomputable def DX2_aim (fu : Nat) (k : Nat) (a1 : Int32) (a2 : Int32) (M : mwM) (L : mwL) : Option (mwM × mwL) :=
  fX2_aim_h2 fu k a1 a2 fu (0, M, L)
noncomputable def fX2_pickChild_b71 (fu : Nat) (k : Nat) (a1 : Int32) (M : mwM) (L : mwL) : Option (mwM × mwL) :=
  some (M, L)
noncomputable def fX2_pickChild_b42 (fu : Nat) (k : Nat) (a1 : Int32) (M : mwM) (L : mwL) : Option (mwM × mwL) :=
  mck a1 201 ((if (M (k + 12) a1.toNatClampNeg) = 0 then mck a1 201 (mck a1 201 (mlet (mset M (k + 12) (a1.toNatClampNeg) (M (k + 6) a1.toNatClampNeg)) (fun M8 => fX2_pickChild_b71 fu k a1 M8 L))) else fX2_pickChild_b71 fu k a1 M L))
noncomputable def DX2_pickChild (fu : Nat) (k : Nat) (a1 : Int32) (M : mwM) (L : mwL) : Option (mwM × mwL) :=
  mck a1 201 ((if (M (k + 12) a1.toNatClampNeg) = 0 then mck a1 201 ((if (M (k + 13) a1.toNatClampNeg) = 0 then fX2_pickChild_b42 fu k a1 M L else mck a1 201 (mck a1 201 (mlet (mset M (k + 12) (a1.toNatClampNeg) (M (k + 9) a1.toNatClampNeg)) (fun M19 => fX2_pickChild_b42 fu k a1 M19 L))))) else fX2_pickChild_b42 fu k a1 M L))
noncomputable def fX2_doActs_b84 (fu : Nat) (k : Nat) (a1 : Int32) (a2 : Int32) (r2 : (Int32 × mwM × mwL) → Option (mwM × mwL)) (v3 : Int32) (M : mwM) (L : mwL) : Option (mwM × mwL) :=
  mlet (v3 + 1) (fun x19 => r2 (x19, M, L))
noncomputable def fX2_doActs_b73 (fu : Nat) (k : Nat) (a1 : Int32) (a2 : Int32) (r2 : (Int32 × mwM × mwL) → Option (mwM × mwL)) (v3 : Int32) (s1 : Int32) (s2 : Int64) (M : mwM) (L : mwL) : Option (mwM × mwL) :=
  mck v3 600 (mck s1 32 (mlet (mset L (k + 34) (s1.toNatClampNeg) (s2 + ((M (k + 32) v3.toNatClampNeg).toInt64))) (fun L18 => fX2_doActs_b84 fu k a1 a2 r2 v3 M L18)))
noncomputable def fX2_doActs_i2 (fu : Nat) (k : Nat) (a1 : Int32) (a2 : Int32) (r2 : (Int32 × mwM × mwL) → Option (mwM × mwL)) (v3 : Int32) (M : mwM) (L : mwL) : Option (mwM × mwL) :=
  (if (M k 9) ≤ v3 then some (M, L) else mck v3 600 ((if (M (k + 30) v3.toNatClampNeg) = a1 then mck v3 600 ((if (M (k + 29) v3.toNatClampNeg) = a2 then mck v3 600 (mlet (M (k + 31) v3.toNatClampNeg) (fun x10 => mck v3 600 ((if (M (k + 33) v3.toNatClampNeg) = 1 then mck x10 32 (fX2_doActs_b73 fu k a1 a2 r2 v3 x10 (L (k + 34) x10.toNatClampNeg) M L) else fX2_doActs_b73 fu k a1 a2 r2 v3 x10 0 M L)))) else fX2_doActs_b84 fu k a1 a2 r2 v3 M L)) else fX2_doActs_b84 fu k a1 a2 r2 v3 M L)))
noncomputable def fX2_doActs_h2 (fu : Nat) (k : Nat) (a1 : Int32) (a2 : Int32) : Nat → (Int32 × mwM × mwL) → Option (mwM × mwL) := mloop (fun r2 s => fX2_doActs_i2 fu k a1 a2 r2 s.1 s.2.1 s.2.2)
noncomputable def DX2_doActs (fu : Nat) (k : Nat) (a1 : Int32) (a2 : Int32) (M : mwM) (L : mwL) : Option (mwM × mwL) :=
  fX2_doActs_h2 fu k a1 a2 fu (0, M, L)
noncomputable def fX2_enterAll_b278 (fu : Nat) (k : Nat) (a1 : Int32) (r164 : (Int32 × mwM × mwL) → Option (mwM × mwL)) (v2 : Int32) (M : mwM) (L : mwL) : Option (mwM × mwL) :=
  mlet (v2 + 1) (fun x65 => r164 (x65, M, L))
noncomputable def fX2_enterAll_b272 (fu : Nat) (k : Nat) (a1 : Int32) (r164 : (Int32 × mwM × mwL) → Option (mwM × mwL)) (v2 : Int32) (v3 : Int32) (M : mwM) (L : mwL) : Option (mwM × mwL) :=
  mb2 (DX2_doActs fu k 0 v3 M L) (fun M63 L64 => fX2_enterAll_b278 fu k a1 r164 v2 M63 L64)
noncomputable def fX2_enterAll_i164 (fu : Nat) (k : Nat) (a1 : Int32) (r164 : (Int32 × mwM × mwL) → Option (mwM × mwL)) (v2 : Int32) (M : mwM) (L : mwL) : Option (mwM × mwL) :=
  (if (M k 7) < v2 then some (M, L) else mck v2 201 (mlet (M (k + 18) v2.toNatClampNeg) (fun x37 => mck x37 201 ((if (M (k + 14) x37.toNatClampNeg) = 1 then mck x37 201 (mlet (mset M (k + 7) (x37.toNatClampNeg) 1) (fun M43 => mck x37 201 (mlet (mset M43 (k + 17) (x37.toNatClampNeg) 1) (fun M46 => mck x37 201 (mlet (mset M46 (k + 10) (x37.toNatClampNeg) (M46 k 12)) (fun M49 => mck x37 201 (mlet (mset M49 (k + 11) (x37.toNatClampNeg) 0) (fun M52 => mck x37 201 (mck (M52 (k + 2) x37.toNatClampNeg) 201 ((if (M52 (k + 3) (M52 (k + 2) x37.toNatClampNeg).toNatClampNeg) = 0 then mck x37 201 (mck (M52 (k + 2) x37.toNatClampNeg) 201 (mlet (mset M52 (k + 8) ((M52 (k + 2) x37.toNatClampNeg).toNatClampNeg) x37) (fun M62 => fX2_enterAll_b272 fu k a1 r164 v2 x37 M62 L))) else fX2_enterAll_b272 fu k a1 r164 v2 x37 M52 L))))))))))) else fX2_enterAll_b278 fu k a1 r164 v2 M L)))))
noncomputable def fX2_enterAll_h164 (fu : Nat) (k : Nat) (a1 : Int32) : Nat → (Int32 × mwM × mwL) → Option (mwM × mwL) := mloop (fun r164 s => fX2_enterAll_i164 fu k a1 r164 s.1 s.2.1 s.2.2)
noncomputable def fX2_enterAll_b156 (fu : Nat) (k : Nat) (a1 : Int32) (r17 : (Int32 × mwM × mwL) → Option (mwM × mwL)) (v2 : Int32) (M : mwM) (L : mwL) : Option (mwM × mwL) :=
  mlet (v2 + 1) (fun x33 => r17 (x33, M, L))
noncomputable def fX2_enterAll_b122 (fu : Nat) (k : Nat) (a1 : Int32) (r17 : (Int32 × mwM × mwL) → Option (mwM × mwL)) (v2 : Int32) (v3 : Int32) (v5 : Int32) (s1 : Int32) (s2 : Int32) (M : mwM) (L : mwL) : Option (mwM × mwL) :=
  mck s1 201 (mlet (mset M (k + 14) (s1.toNatClampNeg) s2) (fun M23 => (if v5 = 0 then fX2_enterAll_b156 fu k a1 r17 v2 M23 L else mck v2 201 (mck v3 201 (mck v2 201 (mlet (mset M23 (k + 13) (v2.toNatClampNeg) ((M23 (k + 13) v2.toNatClampNeg) ||| ((M23 (k + 13) v3.toNatClampNeg) &&& 2))) (fun M30 => mb2 (DX2_pickChild fu k v2 M30 L) (fun M31 L32 => fX2_enterAll_b156 fu k a1 r17 v2 M31 L32))))))))
noncomputable def fX2_enterAll_b102 (fu : Nat) (k : Nat) (a1 : Int32) (r17 : (Int32 × mwM × mwL) → Option (mwM × mwL)) (v2 : Int32) (v3 : Int32) (s0 : Int32) (M : mwM) (L : mwL) : Option (mwM × mwL) :=
  (if s0 = 0 then fX2_enterAll_b122 fu k a1 r17 v2 v3 s0 v2 0 M L else fX2_enterAll_b122 fu k a1 r17 v2 v3 s0 v2 1 M L)
noncomputable def fX2_enterAll_b101 (fu : Nat) (k : Nat) (a1 : Int32) (r17 : (Int32 × mwM × mwL) → Option (mwM × mwL)) (v2 : Int32) (v3 : Int32) (M : mwM) (L : mwL) : Option (mwM × mwL) :=
  fX2_enterAll_b102 fu k a1 r17 v2 v3 0 M L
noncomputable def fX2_enterAll_b97 (fu : Nat) (k : Nat) (a1 : Int32) (r17 : (Int32 × mwM × mwL) → Option (mwM × mwL)) (v2 : Int32) (v3 : Int32) (M : mwM) (L : mwL) : Option (mwM × mwL) :=
  fX2_enterAll_b102 fu k a1 r17 v2 v3 1 M L
noncomputable def fX2_enterAll_b64 (fu : Nat) (k : Nat) (a1 : Int32) (r17 : (Int32 × mwM × mwL) → Option (mwM × mwL)) (v2 : Int32) (v3 : Int32) (s0 : Int32) (M : mwM) (L : mwL) : Option (mwM × mwL) :=
  mb3 (DX2_isMark fu k v2 M L) (fun r13 M11 L12 => (if r13 = 0 then (if s0 = 0 then fX2_enterAll_b101 fu k a1 r17 v2 v3 M11 L12 else (if v3 = a1 then fX2_enterAll_b97 fu k a1 r17 v2 v3 M11 L12 else mck v3 201 ((if (M11 (k + 14) v3.toNatClampNeg) = 1 then fX2_enterAll_b97 fu k a1 r17 v2 v3 M11 L12 else fX2_enterAll_b101 fu k a1 r17 v2 v3 M11 L12)))) else fX2_enterAll_b101 fu k a1 r17 v2 v3 M11 L12))
noncomputable def fX2_enterAll_b59 (fu : Nat) (k : Nat) (a1 : Int32) (r17 : (Int32 × mwM × mwL) → Option (mwM × mwL)) (v2 : Int32) (v3 : Int32) (M : mwM) (L : mwL) : Option (mwM × mwL) :=
  fX2_enterAll_b64 fu k a1 r17 v2 v3 1 M L
noncomputable def fX2_enterAll_i17 (fu : Nat) (k : Nat) (a1 : Int32) (r17 : (Int32 × mwM × mwL) → Option (mwM × mwL)) (v2 : Int32) (M : mwM) (L : mwL) : Option (mwM × mwL) :=
  (if (M k 7) < v2 then fX2_enterAll_h164 fu k a1 fu (1, M, L) else mck v2 201 (mlet (M (k + 2) v2.toNatClampNeg) (fun x4 => mck x4 201 ((if (M (k + 3) x4.toNatClampNeg) = 1 then fX2_enterAll_b59 fu k a1 r17 v2 x4 M L else mck x4 201 ((if (M (k + 12) x4.toNatClampNeg) = v2 then fX2_enterAll_b59 fu k a1 r17 v2 x4 M L else fX2_enterAll_b64 fu k a1 r17 v2 x4 0 M L)))))))
noncomputable def fX2_enterAll_h17 (fu : Nat) (k : Nat) (a1 : Int32) : Nat → (Int32 × mwM × mwL) → Option (mwM × mwL) := mloop (fun r17 s => fX2_enterAll_i17 fu k a1 r17 s.1 s.2.1 s.2.2)
noncomputable def DX2_enterAll (fu : Nat) (k : Nat) (a1 : Int32) (M : mwM) (L : mwL) : Option (mwM × mwL) :=
  mb2 (DX2_pickChild fu k a1 M L) (fun M66 L67 => mlet (mset M66 (k + 14) ((0 : Int32).toNatClampNeg) 0) (fun M70 => fX2_enterAll_h17 fu k a1 fu (1, M70, L67)))
noncomputable def fX2_isJoined_b46 (fu : Nat) (k : Nat) (a1 : Int32) (r4 : (Int32 × Int32 × mwM × mwL) → Option (Int32 × mwM × mwL)) (v2 : Int32) (v3 : Int32) (M : mwM) (L : mwL) : Option (Int32 × mwM × mwL) :=
  mlet (v3 + 1) (fun x11 => r4 (v2, x11, M, L))
noncomputable def fX2_isJoined_i4 (fu : Nat) (k : Nat) (a1 : Int32) (r4 : (Int32 × Int32 × mwM × mwL) → Option (Int32 × mwM × mwL)) (v2 : Int32) (v3 : Int32) (M : mwM) (L : mwL) : Option (Int32 × mwM × mwL) :=
  (if (M k 8) < v3 then mzz v2 (some (v2, M, L)) else mck v3 401 ((if (M (k + 22) v3.toNatClampNeg) = a1 then mck v3 401 (mck (M (k + 21) v3.toNatClampNeg) 201 ((if (M (k + 7) (M (k + 21) v3.toNatClampNeg).toNatClampNeg) = 0 then some (0, M, L) else fX2_isJoined_b46 fu k a1 r4 1 v3 M L))) else fX2_isJoined_b46 fu k a1 r4 v2 v3 M L)))
noncomputable def fX2_isJoined_h4 (fu : Nat) (k : Nat) (a1 : Int32) : Nat → (Int32 × Int32 × mwM × mwL) → Option (Int32 × mwM × mwL) := mloop (fun r4 s => fX2_isJoined_i4 fu k a1 r4 s.1 s.2.1 s.2.2.1 s.2.2.2)
noncomputable def DX2_isJoined (fu : Nat) (k : Nat) (a1 : Int32) (M : mwM) (L : mwL) : Option (Int32 × mwM × mwL) :=
  fX2_isJoined_h4 fu k a1 fu (0, 1, M, L)
noncomputable def fX2_mayGo_b40 (fu : Nat) (k : Nat) (a1 : Int32) (M : mwM) (L : mwL) : Option (Int32 × mwM × mwL) :=
  some (0, M, L)
noncomputable def fX2_mayGo_b79 (fu : Nat) (k : Nat) (a1 : Int32) (s0 : Int32) (M : mwM) (L : mwL) : Option (Int32 × mwM × mwL) :=
  mzz s0 (some (s0, M, L))
noncomputable def DX2_mayGo (fu : Nat) (k : Nat) (a1 : Int32) (M : mwM) (L : mwL) : Option (Int32 × mwM × mwL) :=
  mck a1 401 (mlet (M (k + 21) a1.toNatClampNeg) (fun x4 => mck a1 401 (mck (M (k + 22) a1.toNatClampNeg) 201 ((if (M (k + 3) (M (k + 22) a1.toNatClampNeg).toNatClampNeg) = 5 then fX2_mayGo_b40 fu k a1 M L else mck x4 201 ((if (M (k + 3) x4.toNatClampNeg) = 4 then fX2_mayGo_b40 fu k a1 M L else mck x4 201 ((if (M (k + 3) x4.toNatClampNeg) = 5 then mb3 (DX2_isJoined fu k x4 M L) (fun r21 M19 L20 => fX2_mayGo_b79 fu k a1 r21 M19 L20) else mck x4 201 ((if (M (k + 7) x4.toNatClampNeg) = 1 then fX2_mayGo_b79 fu k a1 1 M L else fX2_mayGo_b79 fu k a1 0 M L)))))))))))
noncomputable def fX2_compare_b72 (fu : Nat) (k : Nat) (a1 : Int32) (a2 : Int64) (a3 : Int64) (s0 : Int32) (M : mwM) (L : mwL) : Option (Int32 × mwM × mwL) :=
  mzz s0 (some (s0, M, L))
noncomputable def fX2_compare_b85 (fu : Nat) (k : Nat) (a1 : Int32) (a2 : Int64) (a3 : Int64) (s0 : Int32) (M : mwM) (L : mwL) : Option (Int32 × mwM × mwL) :=
  mzz s0 (some (s0, M, L))
noncomputable def fX2_compare_b98 (fu : Nat) (k : Nat) (a1 : Int32) (a2 : Int64) (a3 : Int64) (s0 : Int32) (M : mwM) (L : mwL) : Option (Int32 × mwM × mwL) :=
  mzz s0 (some (s0, M, L))
noncomputable def fX2_compare_b111 (fu : Nat) (k : Nat) (a1 : Int32) (a2 : Int64) (a3 : Int64) (s0 : Int32) (M : mwM) (L : mwL) : Option (Int32 × mwM × mwL) :=
  mzz s0 (some (s0, M, L))
noncomputable def fX2_compare_b126 (fu : Nat) (k : Nat) (a1 : Int32) (a2 : Int64) (a3 : Int64) (s0 : Int32) (M : mwM) (L : mwL) : Option (Int32 × mwM × mwL) :=
  mzz s0 (some (s0, M, L))
noncomputable def fX2_compare_b141 (fu : Nat) (k : Nat) (a1 : Int32) (a2 : Int64) (a3 : Int64) (s0 : Int32) (M : mwM) (L : mwL) : Option (Int32 × mwM × mwL) :=
  mzz s0 (some (s0, M, L))
noncomputable def fX2_compare_b24 (fu : Nat) (k : Nat) (a1 : Int32) (a2 : Int64) (a3 : Int64) (M : mwM) (L : mwL) : Option (Int32 × mwM × mwL) :=
  mlet a1 (fun x1 => (if x1 = 1 then (if (lg_cmp a2 a3) = 0 then fX2_compare_b72 fu k a1 a2 a3 1 M L else fX2_compare_b72 fu k a1 a2 a3 0 M L) else if x1 = 2 then (if (lg_cmp a2 a3) = 0 then fX2_compare_b85 fu k a1 a2 a3 0 M L else fX2_compare_b85 fu k a1 a2 a3 1 M L) else if x1 = 3 then (if 0 ≤ (lg_cmp a2 a3) then fX2_compare_b98 fu k a1 a2 a3 0 M L else fX2_compare_b98 fu k a1 a2 a3 1 M L) else if x1 = 4 then (if (lg_cmp a2 a3) < 0 then fX2_compare_b111 fu k a1 a2 a3 0 M L else fX2_compare_b111 fu k a1 a2 a3 1 M L) else if x1 = 5 then mnzL a3 ((if (lg_cmp (a2 / a3) 0) = 0 then fX2_compare_b126 fu k a1 a2 a3 0 M L else fX2_compare_b126 fu k a1 a2 a3 1 M L)) else mnzL a3 ((if (lg_cmp (a2 - a2 / a3 * a3) 0) = 0 then fX2_compare_b141 fu k a1 a2 a3 1 M L else fX2_compare_b141 fu k a1 a2 a3 0 M L))))
noncomputable def DX2_compare (fu : Nat) (k : Nat) (a1 : Int32) (a2 : Int64) (a3 : Int64) (M : mwM) (L : mwL) : Option (Int32 × mwM × mwL) :=
  (if a1 < 5 then fX2_compare_b24 fu k a1 a2 a3 M L else (if (lg_cmp a3 0) = 0 then mlet (mset M k 15 ((M k 15) + 1)) (fun M23 => some (0, M23, L)) else fX2_compare_b24 fu k a1 a2 a3 M L))
noncomputable def fX2_holds_b83 (fu : Nat) (k : Nat) (a1 : Int32) (v4 : Int32) (s2 : Int32) (s3 : Int32) (M : mwM) (L : mwL) : Option (Int32 × mwM × mwL) :=
  mck a1 401 (mlet (mset M (k + 26) (a1.toNatClampNeg) (s2 ||| s3)) (fun M8 => mzz v4 (some (v4, M8, L))))
noncomputable def fX2_holds_b59 (fu : Nat) (k : Nat) (a1 : Int32) (s1 : Int32) (s2 : Int64) (s3 : Int64) (M : mwM) (L : mwL) : Option (Int32 × mwM × mwL) :=
  mb3 (DX2_compare fu k s1 s2 s3 M L) (fun r3 M1 L2 => mck a1 401 ((if r3 = 0 then fX2_holds_b83 fu k a1 r3 (M1 (k + 26) a1.toNatClampNeg) 4 M1 L2 else fX2_holds_b83 fu k a1 r3 (M1 (k + 26) a1.toNatClampNeg) 2 M1 L2)))
noncomputable def DX2_holds (fu : Nat) (k : Nat) (a1 : Int32) (M : mwM) (L : mwL) : Option (Int32 × mwM × mwL) :=
  mck a1 401 (mlet (M (k + 24) a1.toNatClampNeg) (fun x12 => (if x12 = 0 then some (1, M, L) else mlet ((x12 / 256) - (x12 / 256) / 32 * 32) (fun x16 => mck ((x12 / 8) - (x12 / 8) / 32 * 32) 32 ((if x12 < 8192 then mck x16 32 (fX2_holds_b59 fu k a1 (x12 - x12 / 8 * 8) (L (k + 34) ((x12 / 8) - (x12 / 8) / 32 * 32).toNatClampNeg) (L (k + 34) x16.toNatClampNeg) M L) else fX2_holds_b59 fu k a1 (x12 - x12 / 8 * 8) (L (k + 34) ((x12 / 8) - (x12 / 8) / 32 * 32).toNatClampNeg) x16.toInt64 M L))))))
noncomputable def fX2_putReady_b82 (fu : Nat) (k : Nat) (a1 : Int32) (a2 : Int32) (v4 : Int32) (M : mwM) (L : mwL) : Option (Int32 × mwM × mwL) :=
  mck v4 401 (mlet (mset M (k + 27) (v4.toNatClampNeg) a1) (fun M17 => some (a2 + 1, M17, L)))
noncomputable def fX2_putReady_i19 (fu : Nat) (k : Nat) (a1 : Int32) (a2 : Int32) (r19 : (Int32 × Int32 × mwM × mwL) → Option (Int32 × mwM × mwL)) (v3 : Int32) (v4 : Int32) (M : mwM) (L : mwL) : Option (Int32 × mwM × mwL) :=
  (if v4 ≤ 0 then fX2_putReady_b82 fu k a1 a2 v4 M L else mck (v4 - 1) 401 (mck (M (k + 27) (v4 - 1).toNatClampNeg) 401 (mck (M (k + 21) (M (k + 27) (v4 - 1).toNatClampNeg).toNatClampNeg) 201 ((if v3 ≤ (M (k + 4) (M (k + 21) (M (k + 27) (v4 - 1).toNatClampNeg).toNatClampNeg).toNatClampNeg) then fX2_putReady_b82 fu k a1 a2 v4 M L else mck (v4 - 1) 401 (mck v4 401 (mlet (mset M (k + 27) (v4.toNatClampNeg) (M (k + 27) (v4 - 1).toNatClampNeg)) (fun M13 => mlet (v4 + (-1)) (fun x14 => r19 (v3, x14, M13, L))))))))))
noncomputable def fX2_putReady_h19 (fu : Nat) (k : Nat) (a1 : Int32) (a2 : Int32) : Nat → (Int32 × Int32 × mwM × mwL) → Option (Int32 × mwM × mwL) := mloop (fun r19 s => fX2_putReady_i19 fu k a1 a2 r19 s.1 s.2.1 s.2.2.1 s.2.2.2)
noncomputable def DX2_putReady (fu : Nat) (k : Nat) (a1 : Int32) (a2 : Int32) (M : mwM) (L : mwL) : Option (Int32 × mwM × mwL) :=
  mck a1 401 (mck (M (k + 21) a1.toNatClampNeg) 201 (mlet (M (k + 4) (M (k + 21) a1.toNatClampNeg).toNatClampNeg) (fun x22 => fX2_putReady_h19 fu k a1 a2 fu (x22, a2, M, L))))
noncomputable def fX2_markInside_b60 (fu : Nat) (k : Nat) (a1 : Int32) (r12 : (Int32 × mwM × mwL) → Option (mwM × mwL)) (v2 : Int32) (s1 : Int32) (s2 : Int32) (M : mwM) (L : mwL) : Option (mwM × mwL) :=
  mck s1 201 (mlet (mset M (k + 16) (s1.toNatClampNeg) s2) (fun M11 => mlet (v2 + 1) (fun x12 => r12 (x12, M11, L))))
noncomputable def fX2_markInside_b55 (fu : Nat) (k : Nat) (a1 : Int32) (r12 : (Int32 × mwM × mwL) → Option (mwM × mwL)) (v2 : Int32) (s1 : Int32) (M : mwM) (L : mwL) : Option (mwM × mwL) :=
  fX2_markInside_b60 fu k a1 r12 v2 s1 1 M L
noncomputable def fX2_markInside_i12 (fu : Nat) (k : Nat) (a1 : Int32) (r12 : (Int32 × mwM × mwL) → Option (mwM × mwL)) (v2 : Int32) (M : mwM) (L : mwL) : Option (mwM × mwL) :=
  (if (M k 7) < v2 then some (M, L) else mck v2 201 (mlet (M (k + 2) v2.toNatClampNeg) (fun x4 => (if x4 = a1 then fX2_markInside_b55 fu k a1 r12 v2 v2 M L else mck x4 201 ((if (M (k + 16) x4.toNatClampNeg) = 1 then fX2_markInside_b55 fu k a1 r12 v2 v2 M L else fX2_markInside_b60 fu k a1 r12 v2 v2 0 M L))))))
noncomputable def fX2_markInside_h12 (fu : Nat) (k : Nat) (a1 : Int32) : Nat → (Int32 × mwM × mwL) → Option (mwM × mwL) := mloop (fun r12 s => fX2_markInside_i12 fu k a1 r12 s.1 s.2.1 s.2.2)
noncomputable def DX2_markInside (fu : Nat) (k : Nat) (a1 : Int32) (M : mwM) (L : mwL) : Option (mwM × mwL) :=
  mlet (mset M (k + 16) ((0 : Int32).toNatClampNeg) 0) (fun M15 => fX2_markInside_h12 fu k a1 fu (1, M15, L))
noncomputable def fX2_claim_b106 (fu : Nat) (k : Nat) (a1 : Int32) (r63 : (Int32 × mwM × mwL) → Option (Int32 × mwM × mwL)) (v2 : Int32) (M : mwM) (L : mwL) : Option (Int32 × mwM × mwL) :=
  mlet (v2 + 1) (fun x22 => r63 (x22, M, L))
noncomputable def fX2_claim_i63 (fu : Nat) (k : Nat) (a1 : Int32) (r63 : (Int32 × mwM × mwL) → Option (Int32 × mwM × mwL)) (v2 : Int32) (M : mwM) (L : mwL) : Option (Int32 × mwM × mwL) :=
  (if (M k 7) < v2 then some (1, M, L) else mck v2 201 ((if (M (k + 16) v2.toNatClampNeg) = 1 then mck v2 201 ((if (M (k + 7) v2.toNatClampNeg) = 1 then mck v2 201 (mlet (mset M (k + 15) (v2.toNatClampNeg) 1) (fun M21 => fX2_claim_b106 fu k a1 r63 v2 M21 L)) else fX2_claim_b106 fu k a1 r63 v2 M L)) else fX2_claim_b106 fu k a1 r63 v2 M L)))
noncomputable def fX2_claim_h63 (fu : Nat) (k : Nat) (a1 : Int32) : Nat → (Int32 × mwM × mwL) → Option (Int32 × mwM × mwL) := mloop (fun r63 s => fX2_claim_i63 fu k a1 r63 s.1 s.2.1 s.2.2)
noncomputable def fX2_claim_b55 (fu : Nat) (k : Nat) (a1 : Int32) (r7 : (Int32 × mwM × mwL) → Option (Int32 × mwM × mwL)) (v2 : Int32) (M : mwM) (L : mwL) : Option (Int32 × mwM × mwL) :=
  mlet (v2 + 1) (fun x11 => r7 (x11, M, L))
noncomputable def fX2_claim_i7 (fu : Nat) (k : Nat) (a1 : Int32) (r7 : (Int32 × mwM × mwL) → Option (Int32 × mwM × mwL)) (v2 : Int32) (M : mwM) (L : mwL) : Option (Int32 × mwM × mwL) :=
  (if (M k 7) < v2 then fX2_claim_h63 fu k a1 fu (1, M, L) else mck v2 201 ((if (M (k + 16) v2.toNatClampNeg) = 1 then mck v2 201 ((if (M (k + 7) v2.toNatClampNeg) = 1 then mck v2 201 ((if (M (k + 15) v2.toNatClampNeg) = 1 then some (0, M, L) else fX2_claim_b55 fu k a1 r7 v2 M L)) else fX2_claim_b55 fu k a1 r7 v2 M L)) else fX2_claim_b55 fu k a1 r7 v2 M L)))
noncomputable def fX2_claim_h7 (fu : Nat) (k : Nat) (a1 : Int32) : Nat → (Int32 × mwM × mwL) → Option (Int32 × mwM × mwL) := mloop (fun r7 s => fX2_claim_i7 fu k a1 r7 s.1 s.2.1 s.2.2)
noncomputable def DX2_claim (fu : Nat) (k : Nat) (a1 : Int32) (M : mwM) (L : mwL) : Option (Int32 × mwM × mwL) :=
  mb2 (DX2_markInside fu k a1 M L) (fun M23 L24 => fX2_claim_h7 fu k a1 fu (1, M23, L24))
noncomputable def fX2_select_b138 (fu : Nat) (k : Nat) (a1 : Int32) (r90 : (Int32 × Int32 × Int32 × mwM × mwL) → Option (Int32 × mwM × mwL)) (v2 : Int32) (v3 : Int32) (v4 : Int32) (M : mwM) (L : mwL) : Option (Int32 × mwM × mwL) :=
  mlet (v4 + 1) (fun x37 => r90 (v2, v3, x37, M, L))
noncomputable def fX2_select_i90 (fu : Nat) (k : Nat) (a1 : Int32) (r90 : (Int32 × Int32 × Int32 × mwM × mwL) → Option (Int32 × mwM × mwL)) (v2 : Int32) (v3 : Int32) (v4 : Int32) (M : mwM) (L : mwL) : Option (Int32 × mwM × mwL) :=
  (if v2 ≤ v4 then some (v3, M, L) else mck v4 401 (mlet (M (k + 27) v4.toNatClampNeg) (fun x26 => mck x26 401 (mb3 (DX2_claim fu k (M (k + 25) x26.toNatClampNeg) M L) (fun r31 M29 L30 => (if r31 = 0 then fX2_select_b138 fu k a1 r90 v2 v3 v4 M29 L30 else mck v3 401 (mlet (mset M29 (k + 27) (v3.toNatClampNeg) x26) (fun M35 => mlet (v3 + 1) (fun x36 => fX2_select_b138 fu k a1 r90 v2 x36 v4 M35 L30)))))))))
noncomputable def fX2_select_h90 (fu : Nat) (k : Nat) (a1 : Int32) : Nat → (Int32 × Int32 × Int32 × mwM × mwL) → Option (Int32 × mwM × mwL) := mloop (fun r90 s => fX2_select_i90 fu k a1 r90 s.1 s.2.1 s.2.2.1 s.2.2.2.1 s.2.2.2.2)
noncomputable def fX2_select_i61 (fu : Nat) (k : Nat) (a1 : Int32) (r61 : (Int32 × Int32 × mwM × mwL) → Option (Int32 × mwM × mwL)) (v2 : Int32) (v3 : Int32) (M : mwM) (L : mwL) : Option (Int32 × mwM × mwL) :=
  (if (M k 7) < v3 then fX2_select_h90 fu k a1 fu (v2, 0, 0, M, L) else mck v3 201 (mlet (mset M (k + 15) (v3.toNatClampNeg) 0) (fun M21 => mlet (v3 + 1) (fun x22 => r61 (v2, x22, M21, L)))))
noncomputable def fX2_select_h61 (fu : Nat) (k : Nat) (a1 : Int32) : Nat → (Int32 × Int32 × mwM × mwL) → Option (Int32 × mwM × mwL) := mloop (fun r61 s => fX2_select_i61 fu k a1 r61 s.1 s.2.1 s.2.2.1 s.2.2.2)
noncomputable def fX2_select_b47 (fu : Nat) (k : Nat) (a1 : Int32) (r4 : (Int32 × Int32 × mwM × mwL) → Option (Int32 × mwM × mwL)) (v2 : Int32) (v3 : Int32) (M : mwM) (L : mwL) : Option (Int32 × mwM × mwL) :=
  mlet (v3 + 1) (fun x17 => r4 (v2, x17, M, L))
noncomputable def fX2_select_i4 (fu : Nat) (k : Nat) (a1 : Int32) (r4 : (Int32 × Int32 × mwM × mwL) → Option (Int32 × mwM × mwL)) (v2 : Int32) (v3 : Int32) (M : mwM) (L : mwL) : Option (Int32 × mwM × mwL) :=
  (if (M k 8) < v3 then (if v2 = 0 then some (0, M, L) else fX2_select_h61 fu k a1 fu (v2, 1, M, L)) else mck v3 401 ((if (M (k + 23) v3.toNatClampNeg) = a1 then mb3 (DX2_mayGo fu k v3 M L) (fun r8 M6 L7 => (if r8 = 0 then fX2_select_b47 fu k a1 r4 v2 v3 M6 L7 else mb3 (DX2_holds fu k v3 M6 L7) (fun r12 M10 L11 => (if r12 = 0 then fX2_select_b47 fu k a1 r4 v2 v3 M10 L11 else mb3 (DX2_putReady fu k v3 v2 M10 L11) (fun r16 M14 L15 => fX2_select_b47 fu k a1 r4 r16 v3 M14 L15))))) else fX2_select_b47 fu k a1 r4 v2 v3 M L)))
noncomputable def fX2_select_h4 (fu : Nat) (k : Nat) (a1 : Int32) : Nat → (Int32 × Int32 × mwM × mwL) → Option (Int32 × mwM × mwL) := mloop (fun r4 s => fX2_select_i4 fu k a1 r4 s.1 s.2.1 s.2.2.1 s.2.2.2)
noncomputable def DX2_select (fu : Nat) (k : Nat) (a1 : Int32) (M : mwM) (L : mwL) : Option (Int32 × mwM × mwL) :=
  fX2_select_h4 fu k a1 fu (0, 1, M, L)
noncomputable def fX2_leaveAll_b105 (fu : Nat) (k : Nat) (a1 : Int32) (r7 : (Int32 × mwM × mwL) → Option (mwM × mwL)) (v2 : Int32) (M : mwM) (L : mwL) : Option (mwM × mwL) :=
  mlet (v2 + 1) (fun x27 => r7 (x27, M, L))
noncomputable def fX2_leaveAll_b80 (fu : Nat) (k : Nat) (a1 : Int32) (r7 : (Int32 × mwM × mwL) → Option (mwM × mwL)) (v2 : Int32) (v3 : Int32) (M : mwM) (L : mwL) : Option (mwM × mwL) :=
  mck v3 201 (mlet (mset M (k + 8) (v3.toNatClampNeg) 0) (fun M21 => mck v3 201 (mlet (mset M21 (k + 7) (v3.toNatClampNeg) 0) (fun M24 => mb2 (DX2_doActs fu k 1 v3 M24 L) (fun M25 L26 => fX2_leaveAll_b105 fu k a1 r7 v2 M25 L26)))))
noncomputable def fX2_leaveAll_i7 (fu : Nat) (k : Nat) (a1 : Int32) (r7 : (Int32 × mwM × mwL) → Option (mwM × mwL)) (v2 : Int32) (M : mwM) (L : mwL) : Option (mwM × mwL) :=
  (if (M k 7) < v2 then some (M, L) else mck v2 201 (mlet (M (k + 19) v2.toNatClampNeg) (fun x4 => mck x4 201 ((if (M (k + 16) x4.toNatClampNeg) = 1 then mck x4 201 ((if (M (k + 7) x4.toNatClampNeg) = 1 then mck x4 201 ((if (M (k + 8) x4.toNatClampNeg) = 0 then fX2_leaveAll_b80 fu k a1 r7 v2 x4 M L else mck x4 201 (mck x4 201 (mlet (mset M (k + 9) (x4.toNatClampNeg) (M (k + 8) x4.toNatClampNeg)) (fun M18 => fX2_leaveAll_b80 fu k a1 r7 v2 x4 M18 L))))) else fX2_leaveAll_b105 fu k a1 r7 v2 M L)) else fX2_leaveAll_b105 fu k a1 r7 v2 M L)))))
noncomputable def fX2_leaveAll_h7 (fu : Nat) (k : Nat) (a1 : Int32) : Nat → (Int32 × mwM × mwL) → Option (mwM × mwL) := mloop (fun r7 s => fX2_leaveAll_i7 fu k a1 r7 s.1 s.2.1 s.2.2)
noncomputable def DX2_leaveAll (fu : Nat) (k : Nat) (a1 : Int32) (M : mwM) (L : mwL) : Option (mwM × mwL) :=
  mb2 (DX2_markInside fu k a1 M L) (fun M28 L29 => fX2_leaveAll_h7 fu k a1 fu (1, M28, L29))
noncomputable def fX2_goOn_i2 (fu : Nat) (k : Nat) (a1 : Int32) (r2 : (Int32 × mwM × mwL) → Option (mwM × mwL)) (v2 : Int32) (M : mwM) (L : mwL) : Option (mwM × mwL) :=
  (if a1 ≤ v2 then some (M, L) else mck v2 401 (mlet (M (k + 27) v2.toNatClampNeg) (fun x4 => mck x4 401 (mlet (M (k + 25) x4.toNatClampNeg) (fun x7 => mck x4 401 (mck x4 401 (mlet (mset M (k + 26) (x4.toNatClampNeg) ((M (k + 26) x4.toNatClampNeg) ||| 1)) (fun M11 => mb2 (DX2_leaveAll fu k x7 M11 L) (fun M12 L13 => mb2 (DX2_doActs fu k 2 x4 M12 L13) (fun M14 L15 => mb2 (DX2_aim fu k x4 x7 M14 L15) (fun M16 L17 => mb2 (DX2_enterAll fu k x7 M16 L17) (fun M18 L19 => mlet (v2 + 1) (fun x20 => r2 (x20, M18, L19))))))))))))))
noncomputable def fX2_goOn_h2 (fu : Nat) (k : Nat) (a1 : Int32) : Nat → (Int32 × mwM × mwL) → Option (mwM × mwL) := mloop (fun r2 s => fX2_goOn_i2 fu k a1 r2 s.1 s.2.1 s.2.2)
noncomputable def DX2_goOn (fu : Nat) (k : Nat) (a1 : Int32) (M : mwM) (L : mwL) : Option (mwM × mwL) :=
  fX2_goOn_h2 fu k a1 fu (0, M, L)
noncomputable def fX2_chain_b46 (fu : Nat) (k : Nat) (s0 : Int32) (M : mwM) (L : mwL) : Option (Int32 × mwM × mwL) :=
  mzz s0 (some (s0, M, L))
noncomputable def fX2_chain_i2 (fu : Nat) (k : Nat) (r2 : (Int32 × mwM × mwL) → Option (Int32 × mwM × mwL)) (v1 : Int32) (M : mwM) (L : mwL) : Option (Int32 × mwM × mwL) :=
  (if (M k 6) ≤ v1 then mb3 (DX2_select fu k 0 M L) (fun r4 M2 L3 => (if r4 = 0 then fX2_chain_b46 fu k 1 M2 L3 else fX2_chain_b46 fu k 0 M2 L3)) else mb3 (DX2_select fu k 0 M L) (fun r8 M6 L7 => (if r8 = 0 then some (1, M6, L7) else mb2 (DX2_goOn fu k r8 M6 L7) (fun M10 L11 => mlet (v1 + 1) (fun x12 => r2 (x12, M10, L11))))))
noncomputable def fX2_chain_h2 (fu : Nat) (k : Nat) : Nat → (Int32 × mwM × mwL) → Option (Int32 × mwM × mwL) := mloop (fun r2 s => fX2_chain_i2 fu k r2 s.1 s.2.1 s.2.2)
noncomputable def DX2_chain (fu : Nat) (k : Nat) (M : mwM) (L : mwL) : Option (Int32 × mwM × mwL) :=
  fX2_chain_h2 fu k fu (0, M, L)
noncomputable def fX2_nextToSpeak_b104 (fu : Nat) (k : Nat) (a1 : Int32) (r9 : (Int32 × Int32 × Int32 × mwM × mwL) → Option (Int32 × mwM × mwL)) (v2 : Int32) (v3 : Int32) (v4 : Int32) (M : mwM) (L : mwL) : Option (Int32 × mwM × mwL) :=
  mlet (v4 + 1) (fun x21 => r9 (v2, v3, x21, M, L))
noncomputable def fX2_nextToSpeak_i9 (fu : Nat) (k : Nat) (a1 : Int32) (r9 : (Int32 × Int32 × Int32 × mwM × mwL) → Option (Int32 × mwM × mwL)) (v2 : Int32) (v3 : Int32) (v4 : Int32) (M : mwM) (L : mwL) : Option (Int32 × mwM × mwL) :=
  (if (M k 7) < v4 then some (v2, M, L) else mck v4 201 ((if (M (k + 5) v4.toNatClampNeg) ≤ 0 then fX2_nextToSpeak_b104 fu k a1 r9 v2 v3 v4 M L else mck v4 201 ((if (M (k + 7) v4.toNatClampNeg) = 1 then mck v4 201 ((if (M (k + 11) v4.toNatClampNeg) = 0 then mck v4 201 (mck v4 201 ((if v3 ≤ ((M (k + 10) v4.toNatClampNeg) + (M (k + 5) v4.toNatClampNeg)) then fX2_nextToSpeak_b104 fu k a1 r9 v2 v3 v4 M L else mck v4 201 (mck v4 201 (mlet ((M (k + 10) v4.toNatClampNeg) + (M (k + 5) v4.toNatClampNeg)) (fun x20 => fX2_nextToSpeak_b104 fu k a1 r9 v4 x20 v4 M L)))))) else fX2_nextToSpeak_b104 fu k a1 r9 v2 v3 v4 M L)) else fX2_nextToSpeak_b104 fu k a1 r9 v2 v3 v4 M L)))))
noncomputable def fX2_nextToSpeak_h9 (fu : Nat) (k : Nat) (a1 : Int32) : Nat → (Int32 × Int32 × Int32 × mwM × mwL) → Option (Int32 × mwM × mwL) := mloop (fun r9 s => fX2_nextToSpeak_i9 fu k a1 r9 s.1 s.2.1 s.2.2.1 s.2.2.2.1 s.2.2.2.2)
noncomputable def DX2_nextToSpeak (fu : Nat) (k : Nat) (a1 : Int32) (M : mwM) (L : mwL) : Option (Int32 × mwM × mwL) :=
  mlet (a1 + 1) (fun x22 => fX2_nextToSpeak_h9 fu k a1 fu (0, x22, 1, M, L))
noncomputable def fX2_happen_b169 (fu : Nat) (k : Nat) (a1 : Int32) (a2 : Int32) (s1 : Int32) (s2 : Int32) (M : mwM) (L : mwL) : Option (Int32 × mwM × mwL) :=
  mlet (mset M k 14 (s1 + s2)) (fun M36 => mb3 (DX2_chain fu k M36 L) (fun r39 M37 L38 => mzz r39 (some (r39, M37, L38))))
noncomputable def fX2_happen_b124 (fu : Nat) (k : Nat) (a1 : Int32) (a2 : Int32) (v3 : Int32) (M : mwM) (L : mwL) : Option (Int32 × mwM × mwL) :=
  (if v3 = 0 then mlet (mset M k 12 a2) (fun M28 => (if a1 = 0 then some (1, M28, L) else mb3 (DX2_select fu k a1 M28 L) (fun r32 M30 L31 => mb2 (DX2_goOn fu k r32 M30 L31) (fun M33 L34 => (if r32 = 0 then fX2_happen_b169 fu k a1 a2 (M33 k 14) 1 M33 L34 else fX2_happen_b169 fu k a1 a2 (M33 k 14) 0 M33 L34))))) else some (0, M, L))
noncomputable def fX2_happen_i46 (fu : Nat) (k : Nat) (a1 : Int32) (a2 : Int32) (r46 : (Int32 × Int32 × mwM × mwL) → Option (Int32 × mwM × mwL)) (v3 : Int32) (v4 : Int32) (M : mwM) (L : mwL) : Option (Int32 × mwM × mwL) :=
  (if 1000 ≤ v4 then fX2_happen_b124 fu k a1 a2 v3 M L else (if v3 = 0 then fX2_happen_b124 fu k a1 a2 v3 M L else mck v3 201 (mlet (mset M (k + 11) (v3.toNatClampNeg) 1) (fun M8 => mck v3 201 (mck v3 201 (mlet (mset M8 k 12 ((M8 (k + 10) v3.toNatClampNeg) + (M8 (k + 5) v3.toNatClampNeg))) (fun M13 => mb3 (DX2_select fu k (1000 + v3) M13 L) (fun r16 M14 L15 => mb2 (DX2_goOn fu k r16 M14 L15) (fun M17 L18 => mb3 (DX2_chain fu k M17 L18) (fun r21 M19 L20 => (if r21 = 0 then some (0, M19, L20) else mb3 (DX2_nextToSpeak fu k a2 M19 L20) (fun r25 M23 L24 => mlet (v4 + 1) (fun x26 => r46 (r25, x26, M23, L24))))))))))))))
noncomputable def fX2_happen_h46 (fu : Nat) (k : Nat) (a1 : Int32) (a2 : Int32) : Nat → (Int32 × Int32 × mwM × mwL) → Option (Int32 × mwM × mwL) := mloop (fun r46 s => fX2_happen_i46 fu k a1 a2 r46 s.1 s.2.1 s.2.2.1 s.2.2.2)
noncomputable def fX2_happen_b37 (fu : Nat) (k : Nat) (a1 : Int32) (a2 : Int32) (M : mwM) (L : mwL) : Option (Int32 × mwM × mwL) :=
  mb3 (DX2_nextToSpeak fu k a2 M L) (fun r3 M1 L2 => fX2_happen_h46 fu k a1 a2 fu (r3, 0, M1, L2))
noncomputable def DX2_happen (fu : Nat) (k : Nat) (a1 : Int32) (a2 : Int32) (M : mwM) (L : mwL) : Option (Int32 × mwM × mwL) :=
  (if (M k 16) = 0 then mlet (mset M k 16 1) (fun M42 => mlet (mset M42 k 12 a2) (fun M43 => mb2 (DX2_aim fu k 0 0 M43 L) (fun M44 L45 => mb2 (DX2_enterAll fu k 0 M44 L45) (fun M46 L47 => mb3 (DX2_chain fu k M46 L47) (fun r50 M48 L49 => (if r50 = 0 then some (0, M48, L49) else fX2_happen_b37 fu k a1 a2 M48 L49)))))) else fX2_happen_b37 fu k a1 a2 M L)
noncomputable def fX2_workOff_b76 (fu : Nat) (k : Nat) (a1 : Int32) (r47 : (Int32 × Int32 × mwM × mwL) → Option (mwM × mwL)) (v2 : Int32) (v3 : Int32) (M : mwM) (L : mwL) : Option (mwM × mwL) :=
  mlet (v3 + 1) (fun x8 => r47 (v2, x8, M, L))
noncomputable def fX2_workOff_i47 (fu : Nat) (k : Nat) (a1 : Int32) (r47 : (Int32 × Int32 × mwM × mwL) → Option (mwM × mwL)) (v2 : Int32) (v3 : Int32) (M : mwM) (L : mwL) : Option (mwM × mwL) :=
  (if v2 ≤ v3 then some (M, L) else mck v3 16 (mb3 (DX2_happen fu k (M (k + 35) v3.toNatClampNeg) a1 M L) (fun r5 M3 L4 => (if r5 = 0 then mlet (mset M3 k 13 ((M3 k 13) + 1)) (fun M7 => fX2_workOff_b76 fu k a1 r47 v2 v3 M7 L4) else fX2_workOff_b76 fu k a1 r47 v2 v3 M3 L4))))
noncomputable def fX2_workOff_h47 (fu : Nat) (k : Nat) (a1 : Int32) : Nat → (Int32 × Int32 × mwM × mwL) → Option (mwM × mwL) := mloop (fun r47 s => fX2_workOff_i47 fu k a1 r47 s.1 s.2.1 s.2.2.1 s.2.2.2)
noncomputable def fX2_workOff_b45 (fu : Nat) (k : Nat) (a1 : Int32) (v2 : Int32) (M : mwM) (L : mwL) : Option (mwM × mwL) :=
  fX2_workOff_h47 fu k a1 fu (v2, 0, M, L)
noncomputable def DX2_workOff (fu : Nat) (k : Nat) (a1 : Int32) (M : mwM) (L : mwL) : Option (mwM × mwL) :=
  mlet (M k 11) (fun x9 => mlet (mset M k 11 0) (fun M10 => (if (M10 (k + 6) (0 : Int32).toNatClampNeg) = 0 then some (M10, L) else (if x9 = 0 then mb3 (DX2_happen fu k 0 a1 M10 L) (fun r17 M15 L16 => (if r17 = 0 then mlet (mset M15 k 13 ((M15 k 13) + 1)) (fun M19 => fX2_workOff_b45 fu k a1 x9 M19 L16) else fX2_workOff_b45 fu k a1 x9 M15 L16)) else fX2_workOff_b45 fu k a1 x9 M10 L))))
noncomputable def fX2_innermost_b55 (fu : Nat) (k : Nat) (a1 : Int32) (v2 : Int32) (M : mwM) (L : mwL) : Option (Int32 × mwM × mwL) :=
  some (v2, M, L)
noncomputable def fX2_innermost_i21 (fu : Nat) (k : Nat) (a1 : Int32) (r21 : (Int32 × Int32 × mwM × mwL) → Option (Int32 × mwM × mwL)) (v2 : Int32) (v3 : Int32) (M : mwM) (L : mwL) : Option (Int32 × mwM × mwL) :=
  (if 40 < v3 then fX2_innermost_b55 fu k a1 v2 M L else mck v2 201 ((if (M (k + 8) v2.toNatClampNeg) = 0 then fX2_innermost_b55 fu k a1 v2 M L else mck v2 201 (mlet (M (k + 8) v2.toNatClampNeg) (fun x7 => mlet (v3 + 1) (fun x8 => r21 (x7, x8, M, L)))))))
noncomputable def fX2_innermost_h21 (fu : Nat) (k : Nat) (a1 : Int32) : Nat → (Int32 × Int32 × mwM × mwL) → Option (Int32 × mwM × mwL) := mloop (fun r21 s => fX2_innermost_i21 fu k a1 r21 s.1 s.2.1 s.2.2.1 s.2.2.2)
noncomputable def fX2_innermost_b17 (fu : Nat) (k : Nat) (a1 : Int32) (M : mwM) (L : mwL) : Option (Int32 × mwM × mwL) :=
  fX2_innermost_h21 fu k a1 fu (a1, 0, M, L)
noncomputable def DX2_innermost (fu : Nat) (k : Nat) (a1 : Int32) (M : mwM) (L : mwL) : Option (Int32 × mwM × mwL) :=
  (if a1 = 0 then fX2_innermost_b17 fu k a1 M L else mck a1 201 ((if (M (k + 7) a1.toNatClampNeg) = 0 then some (0, M, L) else fX2_innermost_b17 fu k a1 M L)))
noncomputable def fX2_covered_i8 (fu : Nat) (k : Nat) (a1 : Int32) (r8 : (Int32 × Int32 × mwM × mwL) → Option (Int32 × mwM × mwL)) (v2 : Int32) (v3 : Int32) (M : mwM) (L : mwL) : Option (Int32 × mwM × mwL) :=
  (if (M k 7) < v3 then some (v2, M, L) else mck v3 201 (mlet (v2 + (M (k + 17) v3.toNatClampNeg)) (fun x4 => mlet (v3 + 1) (fun x5 => r8 (x4, x5, M, L)))))
noncomputable def fX2_covered_h8 (fu : Nat) (k : Nat) (a1 : Int32) : Nat → (Int32 × Int32 × mwM × mwL) → Option (Int32 × mwM × mwL) := mloop (fun r8 s => fX2_covered_i8 fu k a1 r8 s.1 s.2.1 s.2.2.1 s.2.2.2)
noncomputable def fX2_covered_b98 (fu : Nat) (k : Nat) (a1 : Int32) (r69 : (Int32 × Int32 × Int32 × mwM × mwL) → Option (Int32 × mwM × mwL)) (v3 : Int32) (v4 : Int32) (s0 : Int32) (s1 : Int32) (M : mwM) (L : mwL) : Option (Int32 × mwM × mwL) :=
  mlet (s0 + s1) (fun x10 => mlet (v4 + 1) (fun x11 => r69 (x10, v3, x11, M, L)))
noncomputable def fX2_covered_i69 (fu : Nat) (k : Nat) (a1 : Int32) (r69 : (Int32 × Int32 × Int32 × mwM × mwL) → Option (Int32 × mwM × mwL)) (v2 : Int32) (v3 : Int32) (v4 : Int32) (M : mwM) (L : mwL) : Option (Int32 × mwM × mwL) :=
  (if (M k 8) < v4 then some (v2, M, L) else mck v4 401 ((if ((M (k + 26) v4.toNatClampNeg) &&& v3) = 0 then fX2_covered_b98 fu k a1 r69 v3 v4 v2 0 M L else fX2_covered_b98 fu k a1 r69 v3 v4 v2 1 M L)))
noncomputable def fX2_covered_h69 (fu : Nat) (k : Nat) (a1 : Int32) : Nat → (Int32 × Int32 × Int32 × mwM × mwL) → Option (Int32 × mwM × mwL) := mloop (fun r69 s => fX2_covered_i69 fu k a1 r69 s.1 s.2.1 s.2.2.1 s.2.2.2.1 s.2.2.2.2)
noncomputable def fX2_covered_b65 (fu : Nat) (k : Nat) (a1 : Int32) (v2 : Int32) (s0 : Int32) (M : mwM) (L : mwL) : Option (Int32 × mwM × mwL) :=
  fX2_covered_h69 fu k a1 fu (v2, s0, 1, M, L)
noncomputable def DX2_covered (fu : Nat) (k : Nat) (a1 : Int32) (M : mwM) (L : mwL) : Option (Int32 × mwM × mwL) :=
  (if a1 = 0 then fX2_covered_h8 fu k a1 fu (0, 1, M, L) else (if a1 = 4 then some (M k 15, M, L) else (if a1 = 1 then fX2_covered_b65 fu k a1 0 1 M L else (if a1 = 2 then fX2_covered_b65 fu k a1 0 2 M L else fX2_covered_b65 fu k a1 0 4 M L))))
noncomputable def DX3_mixBits (fu : Nat) (a1 : Int32) (M : mwM) (L : mwL) : Option (Int32 × mwM × mwL) :=
  mlet ((a1 <<< (8 &&& 31)) ||| a1) (fun x1 => some ((((((a1 ^^^ (x1 >>> (7 &&& 31))) ^^^ (x1 >>> (6 &&& 31))) ^^^ (x1 >>> (5 &&& 31))) ^^^ (x1 >>> (4 &&& 31))) ^^^ 99) &&& 255, M, L))
noncomputable def fX3_timesInverseOfThree_b37 (fu : Nat) (a1 : Int32) (s0 : Int32) (s1 : Int32) (M : mwM) (L : mwL) : Option (Int32 × mwM × mwL) :=
  some (s0 ^^^ s1, M, L)
noncomputable def DX3_timesInverseOfThree (fu : Nat) (a1 : Int32) (M : mwM) (L : mwL) : Option (Int32 × mwM × mwL) :=
  mlet (a1 ^^^ (a1 <<< (1 &&& 31))) (fun x1 => mlet (x1 ^^^ (x1 <<< (2 &&& 31))) (fun x2 => mlet (x2 ^^^ (x2 <<< (4 &&& 31))) (fun x3 => (if (x3 &&& 128) = 0 then fX3_timesInverseOfThree_b37 fu a1 (x3 &&& 255) 0 M L else fX3_timesInverseOfThree_b37 fu a1 (x3 &&& 255) 9 M L))))
noncomputable def fX3_spreadKey_b148 (fu : Nat) (a1 : Int32) (r37 : (Nat × Int32 × Int32 × mwM × mwL) → Option (mwM × mwL)) (v2 : Nat) (v3 : Int32) (v4 : Int32) (M : mwM) (L : mwL) : Option (mwM × mwL) :=
  mlet (v4 + 4) (fun x24 => r37 (v2, v3, x24, M, L))
noncomputable def fX3_spreadKey_b120 (fu : Nat) (a1 : Int32) (r37 : (Nat × Int32 × Int32 × mwM × mwL) → Option (mwM × mwL)) (r63 : (Nat × Int32 × Int32 × Int32 × Int32 × mwM × mwL) → Option (mwM × mwL)) (v2 : Nat) (v3 : Int32) (v4 : Int32) (v5 : Int32) (v6 : Int32) (s0 : Nat) (s1 : Int32) (s2 : Int32) (s3 : Int32) (M : mwM) (L : mwL) : Option (mwM × mwL) :=
  mck s1 176 (mlet (mset M s0 (s1.toNatClampNeg) (s2 ^^^ s3)) (fun M22 => mlet (v6 + 1) (fun x23 => r63 (v2, v3, v4, v5, x23, M22, L))))
noncomputable def fX3_spreadKey_i63 (fu : Nat) (a1 : Int32) (r37 : (Nat × Int32 × Int32 × mwM × mwL) → Option (mwM × mwL)) (r63 : (Nat × Int32 × Int32 × Int32 × Int32 × mwM × mwL) → Option (mwM × mwL)) (v2 : Nat) (v3 : Int32) (v4 : Int32) (v5 : Int32) (v6 : Int32) (M : mwM) (L : mwL) : Option (mwM × mwL) :=
  (if 4 ≤ v6 then (if v5 = 0 then fX3_spreadKey_b148 fu a1 r37 v2 v3 v4 M L else mck v4 176 (mck v4 176 (mlet (mset M v2 (v4.toNatClampNeg) ((M v2 v4.toNatClampNeg) ^^^ v3)) (fun M12 => mck v3 256 (mlet (M12 99 v3.toNatClampNeg) (fun x14 => fX3_spreadKey_b148 fu a1 r37 v2 x14 v4 M12 L)))))) else mck ((v4 + v6) - 16) 176 ((if v5 = 0 then mck ((v4 - 4) + v6) 176 (fX3_spreadKey_b120 fu a1 r37 r63 v2 v3 v4 v5 v6 v2 (v4 + v6) (M v2 ((v4 + v6) - 16).toNatClampNeg) (M v2 ((v4 - 4) + v6).toNatClampNeg) M L) else mck ((v4 - 4) + ((v6 + 1) - (v6 + 1) / 4 * 4)) 176 (mck (M v2 ((v4 - 4) + ((v6 + 1) - (v6 + 1) / 4 * 4)).toNatClampNeg) 256 (fX3_spreadKey_b120 fu a1 r37 r63 v2 v3 v4 v5 v6 v2 (v4 + v6) (M v2 ((v4 + v6) - 16).toNatClampNeg) (M 98 (M v2 ((v4 - 4) + ((v6 + 1) - (v6 + 1) / 4 * 4)).toNatClampNeg).toNatClampNeg) M L)))))
noncomputable def fX3_spreadKey_h63 (fu : Nat) (a1 : Int32) (r37 : (Nat × Int32 × Int32 × mwM × mwL) → Option (mwM × mwL)) : Nat → (Nat × Int32 × Int32 × Int32 × Int32 × mwM × mwL) → Option (mwM × mwL) := mloop (fun r63 s => fX3_spreadKey_i63 fu a1 r37 r63 s.1 s.2.1 s.2.2.1 s.2.2.2.1 s.2.2.2.2.1 s.2.2.2.2.2.1 s.2.2.2.2.2.2)
noncomputable def fX3_spreadKey_b58 (fu : Nat) (a1 : Int32) (r37 : (Nat × Int32 × Int32 × mwM × mwL) → Option (mwM × mwL)) (v2 : Nat) (v3 : Int32) (v4 : Int32) (s0 : Int32) (M : mwM) (L : mwL) : Option (mwM × mwL) :=
  fX3_spreadKey_h63 fu a1 r37 fu (v2, v3, v4, s0, 0, M, L)
noncomputable def fX3_spreadKey_i37 (fu : Nat) (a1 : Int32) (r37 : (Nat × Int32 × Int32 × mwM × mwL) → Option (mwM × mwL)) (v2 : Nat) (v3 : Int32) (v4 : Int32) (M : mwM) (L : mwL) : Option (mwM × mwL) :=
  (if 176 ≤ v4 then some (M, L) else (if (v4 - v4 / 16 * 16) = 0 then fX3_spreadKey_b58 fu a1 r37 v2 v3 v4 1 M L else fX3_spreadKey_b58 fu a1 r37 v2 v3 v4 0 M L))
noncomputable def fX3_spreadKey_h37 (fu : Nat) (a1 : Int32) : Nat → (Nat × Int32 × Int32 × mwM × mwL) → Option (mwM × mwL) := mloop (fun r37 s => fX3_spreadKey_i37 fu a1 r37 s.1 s.2.1 s.2.2.1 s.2.2.2.1 s.2.2.2.2)
noncomputable def fX3_spreadKey_i12 (fu : Nat) (a1 : Int32) (r12 : (Nat × Int32 × Int32 × mwM × mwL) → Option (mwM × mwL)) (v2 : Nat) (v3 : Int32) (v4 : Int32) (M : mwM) (L : mwL) : Option (mwM × mwL) :=
  (if 16 ≤ v4 then fX3_spreadKey_h37 fu a1 fu (v2, v3, 16, M, L) else mck v4 176 (mlet (mset M v2 (v4.toNatClampNeg) (a1 + v4)) (fun M3 => mlet (v4 + 1) (fun x4 => r12 (v2, v3, x4, M3, L)))))
noncomputable def fX3_spreadKey_h12 (fu : Nat) (a1 : Int32) : Nat → (Nat × Int32 × Int32 × mwM × mwL) → Option (mwM × mwL) := mloop (fun r12 s => fX3_spreadKey_i12 fu a1 r12 s.1 s.2.1 s.2.2.1 s.2.2.2.1 s.2.2.2.2)
noncomputable def DX3_spreadKey (fu : Nat) (a1 : Int32) (M : mwM) (L : mwL) : Option (mwM × mwL) :=
  mck a1 17 (fX3_spreadKey_h12 fu a1 fu (((101 + a1.toNatClampNeg)), 1, 0, M, L))
noncomputable def fX3_encrypt_b200 (fu : Nat) (a1 : Int32) (r39 : (Nat × Int32 × mwM × mwL) → Option (mwM × mwL)) (r93 : (Nat × Int32 × Int32 × mwM × mwL) → Option (mwM × mwL)) (v2 : Nat) (v3 : Int32) (v4 : Int32) (s0 : Int32) (M : mwM) (L : mwL) : Option (mwM × mwL) :=
  mck ((16 * v3) + v4) 176 (mck v4 16 (mlet (mset M 138 (v4.toNatClampNeg) (s0 ^^^ (M v2 ((16 * v3) + v4).toNatClampNeg))) (fun M36 => mlet (v4 + 1) (fun x37 => r93 (v2, v3, x37, M36, L)))))
noncomputable def fX3_encrypt_i93 (fu : Nat) (a1 : Int32) (r39 : (Nat × Int32 × mwM × mwL) → Option (mwM × mwL)) (r93 : (Nat × Int32 × Int32 × mwM × mwL) → Option (mwM × mwL)) (v2 : Nat) (v3 : Int32) (v4 : Int32) (M : mwM) (L : mwL) : Option (mwM × mwL) :=
  (if 16 ≤ v4 then mlet (v3 + 1) (fun x17 => r39 (v2, x17, M, L)) else mlet ((v4 / 4) * 4) (fun x19 => mck v4 16 (mlet (M 137 v4.toNatClampNeg) (fun x21 => mck (x19 + ((v4 + 1) - (v4 + 1) / 4 * 4)) 16 (mlet (M 137 (x19 + ((v4 + 1) - (v4 + 1) / 4 * 4)).toNatClampNeg) (fun x24 => mck (x19 + ((v4 + 2) - (v4 + 2) / 4 * 4)) 16 (mlet (M 137 (x19 + ((v4 + 2) - (v4 + 2) / 4 * 4)).toNatClampNeg) (fun x27 => mck (x19 + ((v4 + 3) - (v4 + 3) / 4 * 4)) 16 (mlet (M 137 (x19 + ((v4 + 3) - (v4 + 3) / 4 * 4)).toNatClampNeg) (fun x30 => (if 10 ≤ v3 then fX3_encrypt_b200 fu a1 r39 r93 v2 v3 v4 x21 M L else mck x21 256 (mck x24 256 (fX3_encrypt_b200 fu a1 r39 r93 v2 v3 v4 (((((M 99 x21.toNatClampNeg) ^^^ (M 99 x24.toNatClampNeg)) ^^^ x24) ^^^ x27) ^^^ x30) M L)))))))))))))
noncomputable def fX3_encrypt_h93 (fu : Nat) (a1 : Int32) (r39 : (Nat × Int32 × mwM × mwL) → Option (mwM × mwL)) : Nat → (Nat × Int32 × Int32 × mwM × mwL) → Option (mwM × mwL) := mloop (fun r93 s => fX3_encrypt_i93 fu a1 r39 r93 s.1 s.2.1 s.2.2.1 s.2.2.2.1 s.2.2.2.2)
noncomputable def fX3_encrypt_i48 (fu : Nat) (a1 : Int32) (r39 : (Nat × Int32 × mwM × mwL) → Option (mwM × mwL)) (r48 : (Nat × Int32 × Int32 × mwM × mwL) → Option (mwM × mwL)) (v2 : Nat) (v3 : Int32) (v4 : Int32) (M : mwM) (L : mwL) : Option (mwM × mwL) :=
  (if 16 ≤ v4 then fX3_encrypt_h93 fu a1 r39 fu (v2, v3, 0, M, L) else mck ((v4 + (4 * (v4 - v4 / 4 * 4))) - (v4 + (4 * (v4 - v4 / 4 * 4))) / 16 * 16) 16 (mck (M 138 ((v4 + (4 * (v4 - v4 / 4 * 4))) - (v4 + (4 * (v4 - v4 / 4 * 4))) / 16 * 16).toNatClampNeg) 256 (mck v4 16 (mlet (mset M 137 (v4.toNatClampNeg) (M 98 (M 138 ((v4 + (4 * (v4 - v4 / 4 * 4))) - (v4 + (4 * (v4 - v4 / 4 * 4))) / 16 * 16).toNatClampNeg).toNatClampNeg)) (fun M14 => mlet (v4 + 1) (fun x15 => r48 (v2, v3, x15, M14, L)))))))
noncomputable def fX3_encrypt_h48 (fu : Nat) (a1 : Int32) (r39 : (Nat × Int32 × mwM × mwL) → Option (mwM × mwL)) : Nat → (Nat × Int32 × Int32 × mwM × mwL) → Option (mwM × mwL) := mloop (fun r48 s => fX3_encrypt_i48 fu a1 r39 r48 s.1 s.2.1 s.2.2.1 s.2.2.2.1 s.2.2.2.2)
noncomputable def fX3_encrypt_i39 (fu : Nat) (a1 : Int32) (r39 : (Nat × Int32 × mwM × mwL) → Option (mwM × mwL)) (v2 : Nat) (v3 : Int32) (M : mwM) (L : mwL) : Option (mwM × mwL) :=
  (if 10 < v3 then some (M, L) else fX3_encrypt_h48 fu a1 r39 fu (v2, v3, 0, M, L))
noncomputable def fX3_encrypt_h39 (fu : Nat) (a1 : Int32) : Nat → (Nat × Int32 × mwM × mwL) → Option (mwM × mwL) := mloop (fun r39 s => fX3_encrypt_i39 fu a1 r39 s.1 s.2.1 s.2.2.1 s.2.2.2)
noncomputable def fX3_encrypt_i9 (fu : Nat) (a1 : Int32) (r9 : (Nat × Int32 × mwM × mwL) → Option (mwM × mwL)) (v2 : Nat) (v3 : Int32) (M : mwM) (L : mwL) : Option (mwM × mwL) :=
  (if 16 ≤ v3 then fX3_encrypt_h39 fu a1 fu (v2, 1, M, L) else mck v3 16 (mck v3 176 (mck v3 16 (mlet (mset M 138 (v3.toNatClampNeg) ((M 137 v3.toNatClampNeg) ^^^ (M v2 v3.toNatClampNeg))) (fun M5 => mlet (v3 + 1) (fun x6 => r9 (v2, x6, M5, L)))))))
noncomputable def fX3_encrypt_h9 (fu : Nat) (a1 : Int32) : Nat → (Nat × Int32 × mwM × mwL) → Option (mwM × mwL) := mloop (fun r9 s => fX3_encrypt_i9 fu a1 r9 s.1 s.2.1 s.2.2.1 s.2.2.2)
noncomputable def DX3_encrypt (fu : Nat) (a1 : Int32) (M : mwM) (L : mwL) : Option (mwM × mwL) :=
  mck a1 17 (fX3_encrypt_h9 fu a1 fu (((101 + a1.toNatClampNeg)), 0, M, L))
noncomputable def fX3_makeSecond_b167 (fu : Nat) (a1 : Int32) (r56 : (Int32 × mwM × mwL) → Option (mwM × mwL)) (v2 : Int32) (s0 : Nat) (s1 : Int32) (s2 : Int32) (s3 : Int32) (M : mwM) (L : mwL) : Option (mwM × mwL) :=
  mck s1 16 (mlet (mset M s0 (s1.toNatClampNeg) (s2 ^^^ s3)) (fun M31 => mlet (v2 + 1) (fun x32 => r56 (x32, M31, L))))
noncomputable def fX3_makeSecond_b110 (fu : Nat) (a1 : Int32) (r56 : (Int32 × mwM × mwL) → Option (mwM × mwL)) (r76 : (Int32 × Int32 × Int32 × mwM × mwL) → Option (mwM × mwL)) (v2 : Int32) (v3 : Int32) (v4 : Int32) (s0 : Int32) (M : mwM) (L : mwL) : Option (mwM × mwL) :=
  mck a1 17 (mck a1 17 (mck v4 16 (mck v4 16 (mlet (mset M (119 + a1.toNatClampNeg) (v4.toNatClampNeg) ((((M (119 + a1.toNatClampNeg) v4.toNatClampNeg) <<< (1 &&& 31)) &&& 255) ||| s0)) (fun M28 => mlet (v4 + 1) (fun x29 => r76 (v2, v3, x29, M28, L)))))))
noncomputable def fX3_makeSecond_i76 (fu : Nat) (a1 : Int32) (r56 : (Int32 × mwM × mwL) → Option (mwM × mwL)) (r76 : (Int32 × Int32 × Int32 × mwM × mwL) → Option (mwM × mwL)) (v2 : Int32) (v3 : Int32) (v4 : Int32) (M : mwM) (L : mwL) : Option (mwM × mwL) :=
  (if 16 ≤ v4 then mck a1 17 ((if v3 = 1 then fX3_makeSecond_b167 fu a1 r56 v2 ((119 + a1.toNatClampNeg)) 15 (M (119 + a1.toNatClampNeg) (15 : Int32).toNatClampNeg) 135 M L else fX3_makeSecond_b167 fu a1 r56 v2 ((119 + a1.toNatClampNeg)) 15 (M (119 + a1.toNatClampNeg) (15 : Int32).toNatClampNeg) 0 M L)) else (if 16 ≤ (v4 + 1) then fX3_makeSecond_b110 fu a1 r56 r76 v2 v3 v4 0 M L else mck a1 17 (mck (v4 + 1) 16 (fX3_makeSecond_b110 fu a1 r56 r76 v2 v3 v4 ((M (119 + a1.toNatClampNeg) (v4 + 1).toNatClampNeg) >>> (7 &&& 31)) M L))))
noncomputable def fX3_makeSecond_h76 (fu : Nat) (a1 : Int32) (r56 : (Int32 × mwM × mwL) → Option (mwM × mwL)) : Nat → (Int32 × Int32 × Int32 × mwM × mwL) → Option (mwM × mwL) := mloop (fun r76 s => fX3_makeSecond_i76 fu a1 r56 r76 s.1 s.2.1 s.2.2.1 s.2.2.2.1 s.2.2.2.2)
noncomputable def fX3_makeSecond_i56 (fu : Nat) (a1 : Int32) (r56 : (Int32 × mwM × mwL) → Option (mwM × mwL)) (v2 : Int32) (M : mwM) (L : mwL) : Option (mwM × mwL) :=
  (if 2 ≤ v2 then some (M, L) else mck a1 17 (mlet ((M (119 + a1.toNatClampNeg) (0 : Int32).toNatClampNeg) >>> (7 &&& 31)) (fun x16 => fX3_makeSecond_h76 fu a1 r56 fu (v2, x16, 0, M, L))))
noncomputable def fX3_makeSecond_h56 (fu : Nat) (a1 : Int32) : Nat → (Int32 × mwM × mwL) → Option (mwM × mwL) := mloop (fun r56 s => fX3_makeSecond_i56 fu a1 r56 s.1 s.2.1 s.2.2)
noncomputable def fX3_makeSecond_i28 (fu : Nat) (a1 : Int32) (r28 : (Int32 × mwM × mwL) → Option (mwM × mwL)) (v2 : Int32) (M : mwM) (L : mwL) : Option (mwM × mwL) :=
  (if 16 ≤ v2 then fX3_makeSecond_h56 fu a1 fu (0, M, L) else mck a1 17 (mck v2 16 (mck v2 16 (mlet (mset M (119 + a1.toNatClampNeg) (v2.toNatClampNeg) (M 138 v2.toNatClampNeg)) (fun M11 => mlet (v2 + 1) (fun x12 => r28 (x12, M11, L)))))))
noncomputable def fX3_makeSecond_h28 (fu : Nat) (a1 : Int32) : Nat → (Int32 × mwM × mwL) → Option (mwM × mwL) := mloop (fun r28 s => fX3_makeSecond_i28 fu a1 r28 s.1 s.2.1 s.2.2)
noncomputable def fX3_makeSecond_i2 (fu : Nat) (a1 : Int32) (r2 : (Int32 × mwM × mwL) → Option (mwM × mwL)) (v2 : Int32) (M : mwM) (L : mwL) : Option (mwM × mwL) :=
  (if 16 ≤ v2 then mb2 (DX3_encrypt fu a1 M L) (fun M2 L3 => fX3_makeSecond_h28 fu a1 fu (0, M2, L3)) else mck v2 16 (mlet (mset M 137 (v2.toNatClampNeg) 0) (fun M5 => mlet (v2 + 1) (fun x6 => r2 (x6, M5, L)))))
noncomputable def fX3_makeSecond_h2 (fu : Nat) (a1 : Int32) : Nat → (Int32 × mwM × mwL) → Option (mwM × mwL) := mloop (fun r2 s => fX3_makeSecond_i2 fu a1 r2 s.1 s.2.1 s.2.2)
noncomputable def DX3_makeSecond (fu : Nat) (a1 : Int32) (M : mwM) (L : mwL) : Option (mwM × mwL) :=
  fX3_makeSecond_h2 fu a1 fu (0, M, L)
noncomputable def fX3_learn_b26 (fu : Nat) (a1 : Int32) (M : mwM) (L : mwL) : Option (mwM × mwL) :=
  some (M, L)
noncomputable def DX3_learn (fu : Nat) (a1 : Int32) (M : mwM) (L : mwL) : Option (mwM × mwL) :=
  mck a1 17 ((if (M 136 a1.toNatClampNeg) = 0 then mck a1 17 (mlet (mset M 136 (a1.toNatClampNeg) (vp_nar .boolean 1)) (fun M4 => mb2 (DX3_spreadKey fu a1 M4 L) (fun M5 L6 => mb2 (DX3_makeSecond fu a1 M5 L6) (fun M7 L8 => fX3_learn_b26 fu a1 M7 L8)))) else fX3_learn_b26 fu a1 M L))
noncomputable def fX3_make_b42 (fu : Nat) (a1 : Int32) (a2 : Nat) (n2 : Nat) (a3 : Int32) (r3 : (Int32 × mwM × mwL) → Option (mwM × mwL)) (v4 : Int32) (s1 : Int32) (s2 : Int32) (M : mwM) (L : mwL) : Option (mwM × mwL) :=
  mck a1 17 (mck v4 16 (mck s1 16 (mlet (mset M 137 (s1.toNatClampNeg) (s2 ^^^ (M (119 + a1.toNatClampNeg) v4.toNatClampNeg))) (fun M10 => mlet (v4 + 1) (fun x11 => r3 (x11, M10, L))))))
noncomputable def fX3_make_i3 (fu : Nat) (a1 : Int32) (a2 : Nat) (n2 : Nat) (a3 : Int32) (r3 : (Int32 × mwM × mwL) → Option (mwM × mwL)) (v4 : Int32) (M : mwM) (L : mwL) : Option (mwM × mwL) :=
  (if 16 ≤ v4 then mb2 (DX3_encrypt fu a1 M L) (fun M2 L3 => some (M2, L3)) else (if a3 ≤ v4 then (if v4 = a3 then fX3_make_b42 fu a1 a2 n2 a3 r3 v4 v4 128 M L else fX3_make_b42 fu a1 a2 n2 a3 r3 v4 v4 0 M L) else mck v4 n2 (fX3_make_b42 fu a1 a2 n2 a3 r3 v4 v4 (M a2 v4.toNatClampNeg) M L)))
noncomputable def fX3_make_h3 (fu : Nat) (a1 : Int32) (a2 : Nat) (n2 : Nat) (a3 : Int32) : Nat → (Int32 × mwM × mwL) → Option (mwM × mwL) := mloop (fun r3 s => fX3_make_i3 fu a1 a2 n2 a3 r3 s.1 s.2.1 s.2.2)
noncomputable def DX3_make (fu : Nat) (a1 : Int32) (a2 : Nat) (n2 : Nat) (a3 : Int32) (M : mwM) (L : mwL) : Option (mwM × mwL) :=
  fX3_make_h3 fu a1 a2 n2 a3 fu (0, M, L)
noncomputable def fX3_isOut_i2 (fu : Nat) (a1 : Nat) (n1 : Nat) (a2 : Int32) (r2 : (Int32 × mwM × mwL) → Option (Int32 × mwM × mwL)) (v3 : Int32) (M : mwM) (L : mwL) : Option (Int32 × mwM × mwL) :=
  (if 4 ≤ v3 then some (1, M, L) else mck (a2 + v3) n1 (mck v3 16 ((if (M a1 (a2 + v3).toNatClampNeg) = (M 138 v3.toNatClampNeg) then mlet (v3 + 1) (fun x5 => r2 (x5, M, L)) else some (0, M, L)))))
noncomputable def fX3_isOut_h2 (fu : Nat) (a1 : Nat) (n1 : Nat) (a2 : Int32) : Nat → (Int32 × mwM × mwL) → Option (Int32 × mwM × mwL) := mloop (fun r2 s => fX3_isOut_i2 fu a1 n1 a2 r2 s.1 s.2.1 s.2.2)
noncomputable def DX3_isOut (fu : Nat) (a1 : Nat) (n1 : Nat) (a2 : Int32) (M : mwM) (L : mwL) : Option (Int32 × mwM × mwL) :=
  fX3_isOut_h2 fu a1 n1 a2 fu (0, M, L)
noncomputable def fX4_clear_i22 (fu : Nat) (r22 : (Int32 × mwM × mwL) → Option (mwM × mwL)) (v1 : Int32) (M : mwM) (L : mwL) : Option (mwM × mwL) :=
  (if 6 ≤ v1 then some (M, L) else mck v1 6 (mlet (mset M 18 (v1.toNatClampNeg) ((-1))) (fun M3 => mlet (v1 + 1) (fun x4 => r22 (x4, M3, L)))))
noncomputable def fX4_clear_h22 (fu : Nat) : Nat → (Int32 × mwM × mwL) → Option (mwM × mwL) := mloop (fun r22 s => fX4_clear_i22 fu r22 s.1 s.2.1 s.2.2)
noncomputable def DX4_clear (fu : Nat) (M : mwM) (L : mwL) : Option (mwM × mwL) :=
  mlet (mset M 5 3 0) (fun M5 => mlet (mset M5 5 4 0) (fun M6 => mlet (mset M6 5 5 0) (fun M7 => mlet (mset M7 5 6 1) (fun M8 => fX4_clear_h22 fu fu (0, M8, L)))))
noncomputable def DX4_addTask (fu : Nat) (a1 : Int32) (a2 : Int32) (a3 : Int32) (a4 : Int32) (a5 : Int32) (M : mwM) (L : mwL) : Option (mwM × mwL) :=
  (if (M 5 3) < 12 then mck (M 5 3) 12 (mlet (mset M 7 ((M 5 3).toNatClampNeg) a1) (fun M4 => mck (M4 5 3) 12 (mlet (mset M4 8 ((M4 5 3).toNatClampNeg) a2) (fun M7 => mck (M7 5 3) 12 (mlet (mset M7 9 ((M7 5 3).toNatClampNeg) a3) (fun M10 => mck (M10 5 3) 12 (mlet (mset M10 10 ((M10 5 3).toNatClampNeg) a5) (fun M13 => mck (M13 5 3) 12 (mlet (mset M13 11 ((M13 5 3).toNatClampNeg) a4) (fun M16 => mck (M16 5 3) 12 (mlet (mset M16 12 ((M16 5 3).toNatClampNeg) 0) (fun M19 => mck (M19 5 3) 12 (mlet (mset M19 13 ((M19 5 3).toNatClampNeg) 0) (fun M22 => mck (M22 5 3) 12 (mlet (mset M22 14 ((M22 5 3).toNatClampNeg) 0) (fun M25 => mck (M25 5 3) 12 (mlet (mset M25 15 ((M25 5 3).toNatClampNeg) 0) (fun M28 => mck (M28 5 3) 12 (mlet (mset M28 16 ((M28 5 3).toNatClampNeg) 0) (fun M31 => mck (M31 5 3) 12 (mlet (mset M31 17 ((M31 5 3).toNatClampNeg) 0) (fun M34 => mlet (mset M34 5 3 ((M34 5 3) + 1)) (fun M35 => some (M35, L)))))))))))))))))))))))) else some (M, L))
noncomputable def DX4_whoRan (fu : Nat) (a1 : Int32) (a2 : Int32) (M : mwM) (L : mwL) : Option (Int32 × mwM × mwL) :=
  mck a2 20000 (some (((M 19 a2.toNatClampNeg) >>> ((4 * a1) &&& 31)) &&& 15, M, L))
noncomputable def DX4_makeReady (fu : Nat) (a1 : Int32) (M : mwM) (L : mwL) : Option (mwM × mwL) :=
  mlet (mset M 5 4 ((M 5 4) + 1)) (fun M1 => mck a1 12 (mlet (mset M1 12 (a1.toNatClampNeg) 1) (fun M4 => mck a1 12 (mlet (mset M4 15 (a1.toNatClampNeg) (M4 5 4)) (fun M7 => mck a1 12 (mck a1 12 (mlet (mset M7 13 (a1.toNatClampNeg) ((M7 10 a1.toNatClampNeg) + 1)) (fun M12 => some (M12, L)))))))))
noncomputable def fX4_activateAll_b93 (fu : Nat) (a1 : Int32) (r2 : (Int32 × mwM × mwL) → Option (mwM × mwL)) (v2 : Int32) (M : mwM) (L : mwL) : Option (mwM × mwL) :=
  mlet (v2 + 1) (fun x24 => r2 (x24, M, L))
noncomputable def fX4_activateAll_i2 (fu : Nat) (a1 : Int32) (r2 : (Int32 × mwM × mwL) → Option (mwM × mwL)) (v2 : Int32) (M : mwM) (L : mwL) : Option (mwM × mwL) :=
  (if (M 5 3) ≤ v2 then some (M, L) else mck v2 12 ((if (M 11 v2.toNatClampNeg) = a1 then mck v2 12 (mck v2 12 (mck v2 12 (mlet (mset M 11 (v2.toNatClampNeg) ((M 11 v2.toNatClampNeg) + (M 9 v2.toNatClampNeg))) (fun M10 => mlet (mset M10 5 6 0) (fun M11 => mck v2 12 ((if (M11 12 v2.toNatClampNeg) = 0 then mb2 (DX4_makeReady fu v2 M11 L) (fun M22 L23 => fX4_activateAll_b93 fu a1 r2 v2 M22 L23) else mck v2 12 ((if 2 ≤ ((M11 14 v2.toNatClampNeg) + 1) then fX4_activateAll_b93 fu a1 r2 v2 M11 L else mck v2 12 (mck v2 12 (mlet (mset M11 14 (v2.toNatClampNeg) ((M11 14 v2.toNatClampNeg) + 1)) (fun M21 => fX4_activateAll_b93 fu a1 r2 v2 M21 L)))))))))))) else fX4_activateAll_b93 fu a1 r2 v2 M L)))
noncomputable def fX4_activateAll_h2 (fu : Nat) (a1 : Int32) : Nat → (Int32 × mwM × mwL) → Option (mwM × mwL) := mloop (fun r2 s => fX4_activateAll_i2 fu a1 r2 s.1 s.2.1 s.2.2)
noncomputable def DX4_activateAll (fu : Nat) (a1 : Int32) (M : mwM) (L : mwL) : Option (mwM × mwL) :=
  fX4_activateAll_h2 fu a1 fu (0, M, L)
noncomputable def fX4_isBefore_b43 (fu : Nat) (a1 : Int32) (a2 : Int32) (s0 : Int32) (M : mwM) (L : mwL) : Option (Int32 × mwM × mwL) :=
  mzz s0 (some (s0, M, L))
noncomputable def fX4_isBefore_b82 (fu : Nat) (a1 : Int32) (a2 : Int32) (s0 : Int32) (M : mwM) (L : mwL) : Option (Int32 × mwM × mwL) :=
  mzz s0 (some (s0, M, L))
noncomputable def fX4_isBefore_b81 (fu : Nat) (a1 : Int32) (a2 : Int32) (M : mwM) (L : mwL) : Option (Int32 × mwM × mwL) :=
  fX4_isBefore_b82 fu a1 a2 0 M L
noncomputable def DX4_isBefore (fu : Nat) (a1 : Int32) (a2 : Int32) (M : mwM) (L : mwL) : Option (Int32 × mwM × mwL) :=
  mck a1 12 (mck a2 12 ((if (M 7 a1.toNatClampNeg) = (M 7 a2.toNatClampNeg) then mck a2 12 ((if (M 12 a2.toNatClampNeg) = 2 then fX4_isBefore_b81 fu a1 a2 M L else mck a1 12 (mck a2 12 ((if (M 15 a2.toNatClampNeg) ≤ (M 15 a1.toNatClampNeg) then fX4_isBefore_b81 fu a1 a2 M L else fX4_isBefore_b82 fu a1 a2 1 M L))))) else mck a1 12 (mck a2 12 ((if (M 7 a1.toNatClampNeg) ≤ (M 7 a2.toNatClampNeg) then fX4_isBefore_b43 fu a1 a2 0 M L else fX4_isBefore_b43 fu a1 a2 1 M L))))))
noncomputable def fX4_choose_b98 (fu : Nat) (a1 : Int32) (v2 : Int32) (M : mwM) (L : mwL) : Option (mwM × mwL) :=
  mck a1 6 (mlet (mset M 18 (a1.toNatClampNeg) v2) (fun M25 => some (M25, L)))
noncomputable def fX4_choose_b85 (fu : Nat) (a1 : Int32) (v2 : Int32) (M : mwM) (L : mwL) : Option (mwM × mwL) :=
  (if v2 < 0 then fX4_choose_b98 fu a1 v2 M L else mck v2 12 (mlet (mset M 12 (v2.toNatClampNeg) 2) (fun M23 => fX4_choose_b98 fu a1 v2 M23 L)))
noncomputable def fX4_choose_b56 (fu : Nat) (a1 : Int32) (r9 : (Int32 × Int32 × mwM × mwL) → Option (mwM × mwL)) (v2 : Int32) (v3 : Int32) (M : mwM) (L : mwL) : Option (mwM × mwL) :=
  mlet (v3 + 1) (fun x19 => r9 (v2, x19, M, L))
noncomputable def fX4_choose_b54 (fu : Nat) (a1 : Int32) (r9 : (Int32 × Int32 × mwM × mwL) → Option (mwM × mwL)) (v3 : Int32) (M : mwM) (L : mwL) : Option (mwM × mwL) :=
  fX4_choose_b56 fu a1 r9 v3 v3 M L
noncomputable def fX4_choose_i9 (fu : Nat) (a1 : Int32) (r9 : (Int32 × Int32 × mwM × mwL) → Option (mwM × mwL)) (v2 : Int32) (v3 : Int32) (M : mwM) (L : mwL) : Option (mwM × mwL) :=
  (if (M 5 3) ≤ v3 then mck a1 6 ((if (M 18 a1.toNatClampNeg) < 0 then fX4_choose_b85 fu a1 v2 M L else mck a1 6 (mck (M 18 a1.toNatClampNeg) 12 (mlet (mset M 12 ((M 18 a1.toNatClampNeg).toNatClampNeg) 1) (fun M7 => fX4_choose_b85 fu a1 v2 M7 L))))) else mck v3 12 ((if (M 8 v3.toNatClampNeg) = a1 then mck v3 12 ((if (M 12 v3.toNatClampNeg) = 1 then (if v2 < 0 then fX4_choose_b54 fu a1 r9 v3 M L else mb3 (DX4_isBefore fu v3 v2 M L) (fun r17 M15 L16 => (if r17 = 0 then fX4_choose_b56 fu a1 r9 v2 v3 M15 L16 else fX4_choose_b54 fu a1 r9 v3 M15 L16))) else fX4_choose_b56 fu a1 r9 v2 v3 M L)) else fX4_choose_b56 fu a1 r9 v2 v3 M L)))
noncomputable def fX4_choose_h9 (fu : Nat) (a1 : Int32) : Nat → (Int32 × Int32 × mwM × mwL) → Option (mwM × mwL) := mloop (fun r9 s => fX4_choose_i9 fu a1 r9 s.1 s.2.1 s.2.2.1 s.2.2.2)
noncomputable def DX4_choose (fu : Nat) (a1 : Int32) (M : mwM) (L : mwL) : Option (mwM × mwL) :=
  mck a1 6 (mlet (M 18 a1.toNatClampNeg) (fun x27 => fX4_choose_h9 fu a1 fu (x27, 0, M, L)))
noncomputable def fX4_settle_b36 (fu : Nat) (a1 : Int32) (M : mwM) (L : mwL) : Option (mwM × mwL) :=
  some (M, L)
noncomputable def fX4_settle_b83 (fu : Nat) (a1 : Int32) (r2 : (Int32 × mwM × mwL) → Option (mwM × mwL)) (v2 : Int32) (M : mwM) (L : mwL) : Option (mwM × mwL) :=
  mlet (v2 + 1) (fun x24 => r2 (x24, M, L))
noncomputable def fX4_settle_i2 (fu : Nat) (a1 : Int32) (r2 : (Int32 × mwM × mwL) → Option (mwM × mwL)) (v2 : Int32) (M : mwM) (L : mwL) : Option (mwM × mwL) :=
  (if 24 < v2 then some (M, L) else mb2 (DX4_choose fu a1 M L) (fun M2 L3 => mck a1 6 (mlet (M2 18 a1.toNatClampNeg) (fun x5 => (if x5 < 0 then fX4_settle_b36 fu a1 M2 L3 else mck x5 12 ((if (M2 13 x5.toNatClampNeg) ≤ 0 then mck x5 12 (mlet (mset M2 12 (x5.toNatClampNeg) 0) (fun M12 => mck a1 6 (mlet (mset M12 18 (a1.toNatClampNeg) ((-1))) (fun M14 => mck x5 12 ((if (M14 14 x5.toNatClampNeg) ≤ 0 then fX4_settle_b83 fu a1 r2 v2 M14 L3 else mck x5 12 (mck x5 12 (mlet (mset M14 14 (x5.toNatClampNeg) ((M14 14 x5.toNatClampNeg) - 1)) (fun M21 => mb2 (DX4_makeReady fu x5 M21 L3) (fun M22 L23 => fX4_settle_b83 fu a1 r2 v2 M22 L23)))))))))) else fX4_settle_b36 fu a1 M2 L3)))))))
noncomputable def fX4_settle_h2 (fu : Nat) (a1 : Int32) : Nat → (Int32 × mwM × mwL) → Option (mwM × mwL) := mloop (fun r2 s => fX4_settle_i2 fu a1 r2 s.1 s.2.1 s.2.2)
noncomputable def DX4_settle (fu : Nat) (a1 : Int32) (M : mwM) (L : mwL) : Option (mwM × mwL) :=
  fX4_settle_h2 fu a1 fu (0, M, L)
noncomputable def fX4_use_b68 (fu : Nat) (a1 : Int32) (M : mwM) (L : mwL) : Option (mwM × mwL) :=
  some (M, L)
noncomputable def DX4_use (fu : Nat) (a1 : Int32) (M : mwM) (L : mwL) : Option (mwM × mwL) :=
  mck a1 12 (mck a1 12 (mlet (mset M 16 (a1.toNatClampNeg) ((M 16 a1.toNatClampNeg) + 1)) (fun M4 => mck a1 12 (mck a1 12 (mlet (mset M4 13 (a1.toNatClampNeg) ((M4 13 a1.toNatClampNeg) - 1)) (fun M8 => mck a1 12 ((if (M8 13 a1.toNatClampNeg) = 0 then mck a1 12 (mck a1 12 (mlet (mset M8 17 (a1.toNatClampNeg) ((M8 17 a1.toNatClampNeg) + 1)) (fun M15 => mlet (mset M15 5 5 ((M15 5 5) ||| (1 <<< (a1 &&& 31)))) (fun M16 => mlet (mset M16 5 6 0) (fun M17 => fX4_use_b68 fu a1 M17 L))))) else fX4_use_b68 fu a1 M8 L))))))))
noncomputable def fX4_passMicrosecond_b85 (fu : Nat) (a1 : Int32) (r45 : (Int32 × Int32 × mwM × mwL) → Option (mwM × mwL)) (v2 : Int32) (v3 : Int32) (M : mwM) (L : mwL) : Option (mwM × mwL) :=
  mlet (v3 + 1) (fun x16 => r45 (v2, x16, M, L))
noncomputable def fX4_passMicrosecond_i45 (fu : Nat) (a1 : Int32) (r45 : (Int32 × Int32 × mwM × mwL) → Option (mwM × mwL)) (v2 : Int32) (v3 : Int32) (M : mwM) (L : mwL) : Option (mwM × mwL) :=
  (if 6 ≤ v3 then mck a1 20000 (mlet (mset M 19 (a1.toNatClampNeg) v2) (fun M8 => some (M8, L))) else mck v3 6 ((if (M 18 v3.toNatClampNeg) < 0 then fX4_passMicrosecond_b85 fu a1 r45 v2 v3 M L else mck v3 6 (mlet (v2 ||| (((M 18 v3.toNatClampNeg) + 1) <<< ((4 * v3) &&& 31))) (fun x12 => mck v3 6 (mb2 (DX4_use fu (M 18 v3.toNatClampNeg) M L) (fun M14 L15 => fX4_passMicrosecond_b85 fu a1 r45 x12 v3 M14 L15)))))))
noncomputable def fX4_passMicrosecond_h45 (fu : Nat) (a1 : Int32) : Nat → (Int32 × Int32 × mwM × mwL) → Option (mwM × mwL) := mloop (fun r45 s => fX4_passMicrosecond_i45 fu a1 r45 s.1 s.2.1 s.2.2.1 s.2.2.2)
noncomputable def fX4_passMicrosecond_b36 (fu : Nat) (a1 : Int32) (M : mwM) (L : mwL) : Option (mwM × mwL) :=
  mlet (mset M 5 5 0) (fun M5 => fX4_passMicrosecond_h45 fu a1 fu (0, 0, M5, L))
noncomputable def fX4_passMicrosecond_i19 (fu : Nat) (a1 : Int32) (r19 : (Int32 × mwM × mwL) → Option (mwM × mwL)) (v2 : Int32) (M : mwM) (L : mwL) : Option (mwM × mwL) :=
  (if 6 ≤ v2 then fX4_passMicrosecond_b36 fu a1 M L else mb2 (DX4_settle fu v2 M L) (fun M2 L3 => mlet (v2 + 1) (fun x4 => r19 (x4, M2, L3))))
noncomputable def fX4_passMicrosecond_h19 (fu : Nat) (a1 : Int32) : Nat → (Int32 × mwM × mwL) → Option (mwM × mwL) := mloop (fun r19 s => fX4_passMicrosecond_i19 fu a1 r19 s.1 s.2.1 s.2.2)
noncomputable def DX4_passMicrosecond (fu : Nat) (a1 : Int32) (M : mwM) (L : mwL) : Option (mwM × mwL) :=
  mb2 (DX4_activateAll fu a1 M L) (fun M17 L18 => (if (M17 5 6) = 0 then mlet (mset M17 5 6 1) (fun M20 => fX4_passMicrosecond_h19 fu a1 fu (0, M20, L18)) else fX4_passMicrosecond_b36 fu a1 M17 L18))
noncomputable def fX5_nextCheck_b31 (fu : Nat) (a1 : Int32) (a2 : Int32) (a3 : Int32) (a4 : Int32) (s0 : Int32) (M : mwM) (L : mwL) : Option (Int32 × mwM × mwL) :=
  some (s0, M, L)
noncomputable def DX5_nextCheck (fu : Nat) (a1 : Int32) (a2 : Int32) (a3 : Int32) (a4 : Int32) (M : mwM) (L : mwL) : Option (Int32 × mwM × mwL) :=
  mlet ((a1 <<< (1 &&& 31)) &&& ((1 <<< (a3 &&& 31)) - 1)) (fun x1 => (if ((a1 >>> ((a3 - 1) &&& 31)) &&& 1) = a2 then fX5_nextCheck_b31 fu a1 a2 a3 a4 x1 M L else fX5_nextCheck_b31 fu a1 a2 a3 a4 (x1 ^^^ a4) M L))
noncomputable def DX5_begin (fu : Nat) (k : Nat) (M : mwM) (L : mwL) : Option (mwM × mwL) :=
  mlet (mset M k 1 0) (fun M1 => mlet (mset M1 k 2 0) (fun M2 => mlet (mset M2 k 3 1) (fun M3 => mlet (mset M3 k 4 0) (fun M4 => mlet (mset M4 k 5 1) (fun M5 => mlet (mset M5 k 6 0) (fun M6 => mb3 (DX5_nextCheck fu 0 0 15 17817 M6 L) (fun r9 M7 L8 => mlet (mset M7 k 7 r9) (fun M10 => mb3 (DX5_nextCheck fu 65536 0 17 92251 M10 L8) (fun r13 M11 L12 => mlet (mset M11 k 8 r13) (fun M14 => mb3 (DX5_nextCheck fu 1048576 0 21 1058969 M14 L12) (fun r17 M15 L16 => mlet (mset M15 k 9 r17) (fun M18 => mlet (mset M18 k 10 0) (fun M19 => mlet (mset M19 k 11 0) (fun M20 => mlet (mset M20 k 12 0) (fun M21 => mlet (mset M21 k 13 0) (fun M22 => mlet (mset M22 k 14 0) (fun M23 => mlet (mset M23 k 15 100000) (fun M24 => mlet (mset M24 k 16 0) (fun M25 => mlet (mset M25 k 17 100000) (fun M26 => mlet (mset M26 k 18 0) (fun M27 => mlet (mset M27 k 19 0) (fun M28 => some (M28, L16)))))))))))))))))))))))
noncomputable def fX5_kind_b29 (fu : Nat) (k : Nat) (s0 : Int32) (s1 : Int32) (M : mwM) (L : mwL) : Option (Int32 × mwM × mwL) :=
  some (s0 + s1, M, L)
noncomputable def DX5_kind (fu : Nat) (k : Nat) (M : mwM) (L : mwL) : Option (Int32 × mwM × mwL) :=
  (if (M k 13) = 1 then fX5_kind_b29 fu k (M k 12) 2 M L else (if (M k 11) = 1 then fX5_kind_b29 fu k (M k 12) 4 M L else fX5_kind_b29 fu k (M k 12) 0 M L))
noncomputable def fX5_isCheckRight_b23 (fu : Nat) (k : Nat) (s0 : Int32) (M : mwM) (L : mwL) : Option (Int32 × mwM × mwL) :=
  mzz s0 (some (s0, M, L))
noncomputable def fX5_isCheckRight_b56 (fu : Nat) (k : Nat) (s0 : Int32) (M : mwM) (L : mwL) : Option (Int32 × mwM × mwL) :=
  mzz s0 (some (s0, M, L))
noncomputable def fX5_isCheckRight_b48 (fu : Nat) (k : Nat) (s0 : Int32) (s1 : Int32) (M : mwM) (L : mwL) : Option (Int32 × mwM × mwL) :=
  (if s0 = s1 then fX5_isCheckRight_b56 fu k 1 M L else fX5_isCheckRight_b56 fu k 0 M L)
noncomputable def DX5_isCheckRight (fu : Nat) (k : Nat) (M : mwM) (L : mwL) : Option (Int32 × mwM × mwL) :=
  (if (M k 13) = 0 then (if (M k 18) = (M k 7) then fX5_isCheckRight_b23 fu k 1 M L else fX5_isCheckRight_b23 fu k 0 M L) else (if 16 < (M k 16) then fX5_isCheckRight_b48 fu k (M k 18) (M k 9) M L else fX5_isCheckRight_b48 fu k (M k 18) (M k 8) M L))
noncomputable def fX5_putBit_b28 (fu : Nat) (k : Nat) (s0 : Int32) (M : mwM) (L : mwL) : Option (Int32 × mwM × mwL) :=
  some (s0, M, L)
noncomputable def fX5_putBit_b27 (fu : Nat) (k : Nat) (M : mwM) (L : mwL) : Option (Int32 × mwM × mwL) :=
  fX5_putBit_b28 fu k 1 M L
noncomputable def DX5_putBit (fu : Nat) (k : Nat) (M : mwM) (L : mwL) : Option (Int32 × mwM × mwL) :=
  (if (M k 1) = 2 then (if (M k 6) = 1 then mb3 (DX5_isCheckRight fu k M L) (fun r5 M3 L4 => (if r5 = 0 then fX5_putBit_b27 fu k M3 L4 else fX5_putBit_b28 fu k 0 M3 L4)) else fX5_putBit_b27 fu k M L) else fX5_putBit_b27 fu k M L)
noncomputable def DX6_bitCount_0f7a4 (fu : Nat) (a1 : Int32) (M : mwM) (L : mwL) : Option (Int32 × mwM × mwL) :=
  mlet (a1 - (((a1.toUInt32 >>> ((1 : Int32).toUInt32 &&& Int32.toUInt32 31)).toInt32) &&& 1431655765)) (fun x1 => mlet ((x1 &&& 858993459) + (((x1.toUInt32 >>> ((2 : Int32).toUInt32 &&& Int32.toUInt32 31)).toInt32) &&& 858993459)) (fun x2 => mlet ((x2 + ((x2.toUInt32 >>> ((4 : Int32).toUInt32 &&& Int32.toUInt32 31)).toInt32)) &&& 252645135) (fun x3 => mlet (x3 + ((x3.toUInt32 >>> ((8 : Int32).toUInt32 &&& Int32.toUInt32 31)).toInt32)) (fun x4 => mlet (x4 + ((x4.toUInt32 >>> ((16 : Int32).toUInt32 &&& Int32.toUInt32 31)).toInt32)) (fun x5 => some (x5 &&& 63, M, L))))))
noncomputable def DX5_countOfStuffs (fu : Nat) (k : Nat) (M : mwM) (L : mwL) : Option (Int32 × mwM × mwL) :=
  mlet ((M k 4) - (M k 4) / 8 * 8) (fun x2 => mlet (x2 ^^^ (x2 / 2)) (fun x4 => mb3 (DX6_bitCount_0f7a4 fu x4 M L) (fun r7 M5 L6 => some ((x4 <<< (1 &&& 31)) ||| (r7 &&& 1), M5, L6))))
noncomputable def fX5_hearFixed_b49 (fu : Nat) (k : Nat) (a1 : Int32) (s0 : Int32) (M : mwM) (L : mwL) : Option (Int32 × mwM × mwL) :=
  some (s0, M, L)
noncomputable def fX5_hearFixed_b177 (fu : Nat) (k : Nat) (a1 : Int32) (M : mwM) (L : mwL) : Option (Int32 × mwM × mwL) :=
  some ((-1), M, L)
noncomputable def fX5_hearFixed_b163 (fu : Nat) (k : Nat) (a1 : Int32) (s0 : Int32) (s1 : Int32) (s2 : Int32) (M : mwM) (L : mwL) : Option (Int32 × mwM × mwL) :=
  (if s0 = (s1 + s2) then mlet (mset M k 1 2) (fun M26 => mlet (mset M26 k 6 0) (fun M27 => fX5_hearFixed_b177 fu k a1 M27 L)) else fX5_hearFixed_b177 fu k a1 M L)
noncomputable def fX5_hearFixed_b131 (fu : Nat) (k : Nat) (a1 : Int32) (s0 : Int32) (M : mwM) (L : mwL) : Option (Int32 × mwM × mwL) :=
  some (s0, M, L)
noncomputable def fX5_hearFixed_b130 (fu : Nat) (k : Nat) (a1 : Int32) (M : mwM) (L : mwL) : Option (Int32 × mwM × mwL) :=
  fX5_hearFixed_b131 fu k a1 ((-1)) M L
noncomputable def fX5_hearFixed_b18 (fu : Nat) (k : Nat) (a1 : Int32) (v2 : Int32) (s0 : Int32) (M : mwM) (L : mwL) : Option (Int32 × mwM × mwL) :=
  mlet (mset M k 6 ((M k 6) + 1)) (fun M1 => mlet (mset M1 k 2 a1) (fun M2 => (if (v2 - v2 / 5 * 5) = 0 then (if s0 = 0 then fX5_hearFixed_b49 fu k a1 ((-1)) M2 L else fX5_hearFixed_b49 fu k a1 1 M2 L) else mlet ((v2 - (v2 / 5)) - 1) (fun x6 => (if 4 ≤ x6 then mlet (mset M2 k 18 (((M2 k 18) <<< (1 &&& 31)) ||| a1)) (fun M8 => (if 16 < (M8 k 16) then fX5_hearFixed_b163 fu k a1 x6 3 21 M8 L else fX5_hearFixed_b163 fu k a1 x6 3 17 M8 L)) else mlet (mset M2 k 19 (((M2 k 19) <<< (1 &&& 31)) ||| a1)) (fun M10 => mb3 (DX5_nextCheck fu (M10 k 8) a1 17 92251 M10 L) (fun r13 M11 L12 => mlet (mset M11 k 8 r13) (fun M14 => mb3 (DX5_nextCheck fu (M14 k 9) a1 21 1058969 M14 L12) (fun r17 M15 L16 => mlet (mset M15 k 9 r17) (fun M18 => (if x6 = 3 then mb3 (DX5_countOfStuffs fu k M18 L16) (fun r22 M20 L21 => (if (M18 k 19) = r22 then fX5_hearFixed_b130 fu k a1 M20 L21 else fX5_hearFixed_b131 fu k a1 1 M20 L21)) else fX5_hearFixed_b130 fu k a1 M18 L16)))))))))))
noncomputable def DX5_hearFixed (fu : Nat) (k : Nat) (a1 : Int32) (M : mwM) (L : mwL) : Option (Int32 × mwM × mwL) :=
  mlet (M k 6) (fun x28 => (if a1 = (M k 2) then fX5_hearFixed_b18 fu k a1 x28 1 M L else fX5_hearFixed_b18 fu k a1 x28 0 M L))
noncomputable def fX5_hearTail_b37 (fu : Nat) (k : Nat) (a1 : Int32) (s0 : Int32) (M : mwM) (L : mwL) : Option (Int32 × mwM × mwL) :=
  some (s0, M, L)
noncomputable def fX5_hearTail_b75 (fu : Nat) (k : Nat) (a1 : Int32) (s0 : Int32) (M : mwM) (L : mwL) : Option (Int32 × mwM × mwL) :=
  some (s0, M, L)
noncomputable def fX5_hearTail_b52 (fu : Nat) (k : Nat) (a1 : Int32) (v2 : Int32) (M : mwM) (L : mwL) : Option (Int32 × mwM × mwL) :=
  (if v2 = 8 then fX5_hearTail_b75 fu k a1 ((-2)) M L else (if v2 < 9 then fX5_hearTail_b75 fu k a1 ((-1)) M L else fX5_hearTail_b75 fu k a1 ((-3)) M L))
noncomputable def DX5_hearTail (fu : Nat) (k : Nat) (a1 : Int32) (M : mwM) (L : mwL) : Option (Int32 × mwM × mwL) :=
  mlet (M k 6) (fun x3 => mlet (mset M k 6 ((M k 6) + 1)) (fun M4 => (if x3 = 1 then some ((-1), M4, L) else (if a1 = 0 then (if x3 = 9 then fX5_hearTail_b37 fu k a1 5 M4 L else fX5_hearTail_b37 fu k a1 2 M4 L) else (if x3 = 2 then mb3 (DX5_isCheckRight fu k M4 L) (fun r10 M8 L9 => (if r10 = 0 then some (3, M8, L9) else fX5_hearTail_b52 fu k a1 x3 M8 L9)) else fX5_hearTail_b52 fu k a1 x3 M4 L)))))
noncomputable def fX5_stuffedEnd_b22 (fu : Nat) (k : Nat) (s0 : Int32) (M : mwM) (L : mwL) : Option (Int32 × mwM × mwL) :=
  some (s0, M, L)
noncomputable def DX5_stuffedEnd (fu : Nat) (k : Nat) (M : mwM) (L : mwL) : Option (Int32 × mwM × mwL) :=
  (if (M k 13) = 1 then fX5_stuffedEnd_b22 fu k (M k 17) M L else fX5_stuffedEnd_b22 fu k ((M k 17) + 15) M L)
noncomputable def fX5_hearStuffBit_b78 (fu : Nat) (k : Nat) (a1 : Int32) (M : mwM) (L : mwL) : Option (Int32 × mwM × mwL) :=
  some ((-1), M, L)
noncomputable def DX5_hearStuffBit (fu : Nat) (k : Nat) (a1 : Int32) (M : mwM) (L : mwL) : Option (Int32 × mwM × mwL) :=
  (if a1 = (M k 2) then some (1, M, L) else mlet (mset M k 2 a1) (fun M2 => mlet (mset M2 k 3 1) (fun M3 => mlet (mset M3 k 4 ((M3 k 4) + 1)) (fun M4 => mb3 (DX5_nextCheck fu (M4 k 8) a1 17 92251 M4 L) (fun r7 M5 L6 => mlet (mset M5 k 8 r7) (fun M8 => mb3 (DX5_nextCheck fu (M8 k 9) a1 21 1058969 M8 L6) (fun r11 M9 L10 => mlet (mset M9 k 9 r11) (fun M12 => mb3 (DX5_stuffedEnd fu k M12 L10) (fun r15 M13 L14 => (if (M12 k 5) = r15 then mlet (mset M13 k 1 2) (fun M17 => fX5_hearStuffBit_b78 fu k a1 M17 L14) else fX5_hearStuffBit_b78 fu k a1 M13 L14))))))))))
noncomputable def fX5_hearHead_b126 (fu : Nat) (k : Nat) (a1 : Int32) (a2 : Int32) (M : mwM) (L : mwL) : Option (mwM × mwL) :=
  some (M, L)
noncomputable def fX5_hearHead_b58 (fu : Nat) (k : Nat) (a1 : Int32) (a2 : Int32) (M : mwM) (L : mwL) : Option (mwM × mwL) :=
  mlet (mset M k 11 a2) (fun M11 => fX5_hearHead_b126 fu k a1 a2 M11 L)
noncomputable def fX5_hearHead_b122 (fu : Nat) (k : Nat) (a1 : Int32) (a2 : Int32) (s1 : Int32) (s2 : Int32) (M : mwM) (L : mwL) : Option (mwM × mwL) :=
  mlet (mset M k 15 (s1 + s2)) (fun M15 => fX5_hearHead_b126 fu k a1 a2 M15 L)
noncomputable def fX5_hearHead_b121 (fu : Nat) (k : Nat) (a1 : Int32) (a2 : Int32) (s1 : Int32) (M : mwM) (L : mwL) : Option (mwM × mwL) :=
  fX5_hearHead_b122 fu k a1 a2 s1 0 M L
noncomputable def fX5_hearHead_b92 (fu : Nat) (k : Nat) (a1 : Int32) (a2 : Int32) (M : mwM) (L : mwL) : Option (mwM × mwL) :=
  mlet (mset M k 13 a2) (fun M12 => (if (M12 k 12) = 1 then (if a2 = 0 then fX5_hearHead_b122 fu k a1 a2 ((a1 + 1) + (3 * a2)) 1 M12 L else fX5_hearHead_b121 fu k a1 a2 ((a1 + 1) + (3 * a2)) M12 L) else fX5_hearHead_b121 fu k a1 a2 ((a1 + 1) + (3 * a2)) M12 L))
noncomputable def fX5_hearHead_b46 (fu : Nat) (k : Nat) (a1 : Int32) (a2 : Int32) (M : mwM) (L : mwL) : Option (mwM × mwL) :=
  (if a1 = 12 then fX5_hearHead_b58 fu k a1 a2 M L else (if a1 = 32 then fX5_hearHead_b58 fu k a1 a2 M L else (if a1 = 13 then mlet (mset M k 12 a2) (fun M10 => fX5_hearHead_b126 fu k a1 a2 M10 L) else (if a1 = 14 then fX5_hearHead_b92 fu k a1 a2 M L else (if a1 = 33 then fX5_hearHead_b92 fu k a1 a2 M L else fX5_hearHead_b126 fu k a1 a2 M L)))))
noncomputable def fX5_hearHead_b31 (fu : Nat) (k : Nat) (a1 : Int32) (a2 : Int32) (M : mwM) (L : mwL) : Option (mwM × mwL) :=
  mlet (mset M k 10 (((M k 10) <<< (1 &&& 31)) ||| a2)) (fun M4 => fX5_hearHead_b126 fu k a1 a2 M4 L)
noncomputable def fX5_hearHead_b11 (fu : Nat) (k : Nat) (a1 : Int32) (a2 : Int32) (M : mwM) (L : mwL) : Option (mwM × mwL) :=
  (if (M k 12) = 1 then (if a1 < 14 then fX5_hearHead_b46 fu k a1 a2 M L else (if 31 < a1 then fX5_hearHead_b46 fu k a1 a2 M L else fX5_hearHead_b31 fu k a1 a2 M L)) else fX5_hearHead_b46 fu k a1 a2 M L)
noncomputable def DX5_hearHead (fu : Nat) (k : Nat) (a1 : Int32) (a2 : Int32) (M : mwM) (L : mwL) : Option (mwM × mwL) :=
  (if a1 < 1 then fX5_hearHead_b11 fu k a1 a2 M L else (if a1 ≤ 11 then fX5_hearHead_b31 fu k a1 a2 M L else fX5_hearHead_b11 fu k a1 a2 M L))
noncomputable def fX5_findEnds_b48 (fu : Nat) (k : Nat) (M : mwM) (L : mwL) : Option (mwM × mwL) :=
  mlet (mset M k 17 (((M k 15) + 4) + (8 * (M k 16)))) (fun M2 => some (M2, L))
noncomputable def fX5_findEnds_b45 (fu : Nat) (k : Nat) (s1 : Int32) (M : mwM) (L : mwL) : Option (mwM × mwL) :=
  mlet (mset M k 16 s1) (fun M1 => fX5_findEnds_b48 fu k M1 L)
noncomputable def DX5_findEnds (fu : Nat) (k : Nat) (M : mwM) (L : mwL) : Option (mwM × mwL) :=
  (if (M k 13) = 1 then mck (M k 14) 16 (mlet (mset M k 16 (mw_flex.getD (M k 14).toNatClampNeg 0)) (fun M6 => fX5_findEnds_b48 fu k M6 L)) else (if (M k 11) = 1 then fX5_findEnds_b45 fu k 0 M L else fX5_findEnds_b45 fu k (if 8 < (M k 14) then 8 else (M k 14)) M L))
noncomputable def fX5_hearPlain_b158 (fu : Nat) (k : Nat) (a1 : Int32) (a2 : Int32) (M : mwM) (L : mwL) : Option (mwM × mwL) :=
  some (M, L)
noncomputable def DX5_hearPlain (fu : Nat) (k : Nat) (a1 : Int32) (a2 : Int32) (M : mwM) (L : mwL) : Option (mwM × mwL) :=
  (if a1 < (M k 17) then mb3 (DX5_nextCheck fu (M k 7) a2 15 17817 M L) (fun r4 M2 L3 => mlet (mset M2 k 7 r4) (fun M5 => mb3 (DX5_nextCheck fu (M5 k 8) a2 17 92251 M5 L3) (fun r8 M6 L7 => mlet (mset M6 k 8 r8) (fun M9 => mb3 (DX5_nextCheck fu (M9 k 9) a2 21 1058969 M9 L7) (fun r12 M10 L11 => mlet (mset M10 k 9 r12) (fun M13 => (if (M13 k 15) ≤ a1 then (if ((M13 k 15) + 4) ≤ a1 then mlet (((a1 - (M13 k 15)) - 4) / 8) (fun x17 => mck x17 64 (mck x17 64 (mlet (mset M13 (k + 1) (x17.toNatClampNeg) ((((M13 (k + 1) x17.toNatClampNeg) <<< (1 &&& 31)) ||| a2) &&& 255)) (fun M20 => fX5_hearPlain_b158 fu k a1 a2 M20 L11)))) else mlet (mset M13 k 14 (((M13 k 14) <<< (1 &&& 31)) ||| a2)) (fun M21 => (if a1 = ((M21 k 15) + 3) then mb2 (DX5_findEnds fu k M21 L11) (fun M23 L24 => fX5_hearPlain_b158 fu k a1 a2 M23 L24) else fX5_hearPlain_b158 fu k a1 a2 M21 L11))) else mb2 (DX5_hearHead fu k a1 a2 M13 L11) (fun M25 L26 => fX5_hearPlain_b158 fu k a1 a2 M25 L26)))))))) else mlet (mset M k 18 (((M k 18) <<< (1 &&& 31)) ||| a2)) (fun M27 => some (M27, L)))
noncomputable def fX5_hear_b175 (fu : Nat) (k : Nat) (a1 : Int32) (M : mwM) (L : mwL) : Option (Int32 × mwM × mwL) :=
  some ((-1), M, L)
noncomputable def fX5_hear_b151 (fu : Nat) (k : Nat) (a1 : Int32) (M : mwM) (L : mwL) : Option (Int32 × mwM × mwL) :=
  mb3 (DX5_stuffedEnd fu k M L) (fun r19 M17 L18 => (if (M k 5) = r19 then (if 5 ≤ (M17 k 3) then fX5_hear_b175 fu k a1 M17 L18 else mlet (mset M17 k 1 2) (fun M22 => fX5_hear_b175 fu k a1 M22 L18)) else fX5_hear_b175 fu k a1 M17 L18))
noncomputable def fX5_hear_b124 (fu : Nat) (k : Nat) (a1 : Int32) (M : mwM) (L : mwL) : Option (Int32 × mwM × mwL) :=
  mb3 (DX5_stuffedEnd fu k M L) (fun r13 M11 L12 => (if (M k 5) = r13 then (if (M11 k 13) = 1 then mlet (mset M11 k 1 1) (fun M16 => fX5_hear_b175 fu k a1 M16 L12) else fX5_hear_b151 fu k a1 M11 L12) else fX5_hear_b151 fu k a1 M11 L12))
noncomputable def fX5_hear_b119 (fu : Nat) (k : Nat) (a1 : Int32) (s0 : Int32) (s1 : Int32) (M : mwM) (L : mwL) : Option (Int32 × mwM × mwL) :=
  (if s0 = s1 then some (2, M, L) else fX5_hear_b124 fu k a1 M L)
noncomputable def fX5_hear_b61 (fu : Nat) (k : Nat) (a1 : Int32) (s1 : Int32) (M : mwM) (L : mwL) : Option (Int32 × mwM × mwL) :=
  mlet (mset M k 3 s1) (fun M1 => mlet (mset M1 k 2 a1) (fun M2 => mlet (M2 k 5) (fun x3 => mlet (mset M2 k 5 ((M2 k 5) + 1)) (fun M4 => mb2 (DX5_hearPlain fu k x3 a1 M4 L) (fun M5 L6 => (if a1 = 1 then (if (M5 k 13) = 1 then (if (M5 k 12) = 1 then fX5_hear_b119 fu k a1 x3 34 M5 L6 else fX5_hear_b119 fu k a1 x3 15 M5 L6) else fX5_hear_b124 fu k a1 M5 L6) else fX5_hear_b124 fu k a1 M5 L6))))))
noncomputable def DX5_hear (fu : Nat) (k : Nat) (a1 : Int32) (M : mwM) (L : mwL) : Option (Int32 × mwM × mwL) :=
  (if (M k 1) = 1 then mb3 (DX5_hearFixed fu k a1 M L) (fun r35 M33 L34 => some (r35, M33, L34)) else (if (M k 1) = 2 then mb3 (DX5_hearTail fu k a1 M L) (fun r32 M30 L31 => some (r32, M30, L31)) else (if (M k 3) = 5 then mb3 (DX5_hearStuffBit fu k a1 M L) (fun r29 M27 L28 => some (r29, M27, L28)) else (if a1 = (M k 2) then fX5_hear_b61 fu k a1 ((M k 3) + 1) M L else fX5_hear_b61 fu k a1 1 M L))))
noncomputable def fX9_clear_i32 (fu : Nat) (r32 : (Int32 × mwM × mwL) → Option (mwM × mwL)) (v1 : Int32) (M : mwM) (L : mwL) : Option (mwM × mwL) :=
  (if 4 ≤ v1 then some (M, L) else mck v1 4 (mlet (mset M 264 (v1.toNatClampNeg) 0) (fun M4 => mlet (v1 + 1) (fun x5 => r32 (x5, M4, L)))))
noncomputable def fX9_clear_h32 (fu : Nat) : Nat → (Int32 × mwM × mwL) → Option (mwM × mwL) := mloop (fun r32 s => fX9_clear_i32 fu r32 s.1 s.2.1 s.2.2)
noncomputable def DX9_clear (fu : Nat) (M : mwM) (L : mwL) : Option (mwM × mwL) :=
  mlet (mset M 154 5 0) (fun M6 => mlet (mset M6 154 6 0) (fun M7 => mlet (mset M7 154 7 0) (fun M8 => mlet (mset M8 154 8 0) (fun M9 => mlet (mset M9 154 9 0) (fun M10 => mlet (mset M10 154 10 0) (fun M11 => fX9_clear_h32 fu fu (0, M11, L)))))))
noncomputable def fX9_make_b22 (fu : Nat) (a1 : Int32) (a2 : Int32) (a3 : Nat) (n3 : Nat) (a4 : Int32) (M : mwM) (L : mwL) : Option (mwM × mwL) :=
  some (M, L)
noncomputable def fX9_make_i93 (fu : Nat) (a1 : Int32) (a2 : Int32) (a3 : Nat) (n3 : Nat) (a4 : Int32) (r93 : (Int32 × mwM × mwL) → Option (mwM × mwL)) (v5 : Int32) (M : mwM) (L : mwL) : Option (mwM × mwL) :=
  (if a4 ≤ v5 then some (M, L) else mck (M 154 5) 101 (mck v5 n3 (mck v5 100 (mlet (mset M (162 + (M 154 5).toNatClampNeg) (v5.toNatClampNeg) (M a3 v5.toNatClampNeg)) (fun M13 => mlet (v5 + 1) (fun x14 => r93 (x14, M13, L)))))))
noncomputable def fX9_make_h93 (fu : Nat) (a1 : Int32) (a2 : Int32) (a3 : Nat) (n3 : Nat) (a4 : Int32) : Nat → (Int32 × mwM × mwL) → Option (mwM × mwL) := mloop (fun r93 s => fX9_make_i93 fu a1 a2 a3 n3 a4 r93 s.1 s.2.1 s.2.2)
noncomputable def fX9_make_b64 (fu : Nat) (a1 : Int32) (a2 : Int32) (a3 : Nat) (n3 : Nat) (a4 : Int32) (s1 : Int32) (s2 : Int32) (M : mwM) (L : mwL) : Option (mwM × mwL) :=
  mck s1 101 (mlet (mset M 157 (s1.toNatClampNeg) s2) (fun M2 => mck (M2 154 5) 101 (mlet (mset M2 158 ((M2 154 5).toNatClampNeg) a4) (fun M5 => mck (M5 154 5) 101 (mlet (mset M5 159 ((M5 154 5).toNatClampNeg) 0) (fun M8 => fX9_make_h93 fu a1 a2 a3 n3 a4 fu (0, M8, L)))))))
noncomputable def DX9_make (fu : Nat) (a1 : Int32) (a2 : Int32) (a3 : Nat) (n3 : Nat) (a4 : Int32) (M : mwM) (L : mwL) : Option (mwM × mwL) :=
  (if 100 ≤ (M 154 5) then fX9_make_b22 fu a1 a2 a3 n3 a4 M L else (if a4 < 1 then fX9_make_b22 fu a1 a2 a3 n3 a4 M L else (if a4 ≤ 100 then mlet (mset M 154 5 ((M 154 5) + 1)) (fun M18 => mck (M18 154 5) 101 (mlet (mset M18 156 ((M18 154 5).toNatClampNeg) a1) (fun M21 => (if a2 = 0 then fX9_make_b64 fu a1 a2 a3 n3 a4 (M21 154 5) 0 M21 L else fX9_make_b64 fu a1 a2 a3 n3 a4 (M21 154 5) 1 M21 L)))) else fX9_make_b22 fu a1 a2 a3 n3 a4 M L)))
noncomputable def fX9_isQuestion_b17 (fu : Nat) (a1 : Int32) (s0 : Int32) (M : mwM) (L : mwL) : Option (Int32 × mwM × mwL) :=
  mzz s0 (some (s0, M, L))
noncomputable def DX9_isQuestion (fu : Nat) (a1 : Int32) (M : mwM) (L : mwL) : Option (Int32 × mwM × mwL) :=
  mck a1 101 ((if (M 157 a1.toNatClampNeg) = 1 then fX9_isQuestion_b17 fu a1 1 M L else fX9_isQuestion_b17 fu a1 0 M L))
noncomputable def DX9_controllerOf (fu : Nat) (a1 : Int32) (M : mwM) (L : mwL) : Option (Int32 × mwM × mwL) :=
  mck a1 1600 (mck (M 271 a1.toNatClampNeg) 101 (some (M 156 (M 271 a1.toNatClampNeg).toNatClampNeg, M, L)))
noncomputable def fX9_isToTester_b37 (fu : Nat) (a1 : Int32) (s0 : Int32) (M : mwM) (L : mwL) : Option (Int32 × mwM × mwL) :=
  mzz s0 (some (s0, M, L))
noncomputable def fX9_isToTester_b29 (fu : Nat) (a1 : Int32) (s0 : Int32) (s1 : Int32) (M : mwM) (L : mwL) : Option (Int32 × mwM × mwL) :=
  (if s0 = s1 then fX9_isToTester_b37 fu a1 1 M L else fX9_isToTester_b37 fu a1 0 M L)
noncomputable def DX9_isToTester (fu : Nat) (a1 : Int32) (M : mwM) (L : mwL) : Option (Int32 × mwM × mwL) :=
  mck a1 1600 (mb3 (DX9_isQuestion fu (M 271 a1.toNatClampNeg) M L) (fun r7 M5 L6 => mck a1 1600 ((if (M5 270 a1.toNatClampNeg) = 3 then fX9_isToTester_b29 fu a1 r7 1 M5 L6 else fX9_isToTester_b29 fu a1 r7 0 M5 L6))))
noncomputable def DX9_lose (fu : Nat) (a1 : Int32) (M : mwM) (L : mwL) : Option (mwM × mwL) :=
  mck a1 1600 (mlet (mset M 273 (a1.toNatClampNeg) 1) (fun M3 => some (M3, L)))
noncomputable def fX9_receiveNext_b28 (fu : Nat) (a1 : Int32) (a2 : Int32) (M : mwM) (L : mwL) : Option (Int32 × mwM × mwL) :=
  some (0, M, L)
noncomputable def DX9_receiveNext (fu : Nat) (a1 : Int32) (a2 : Int32) (M : mwM) (L : mwL) : Option (Int32 × mwM × mwL) :=
  mlet (a1 - a1 / 4 * 4) (fun x2 => mck x2 4 ((if (M 264 x2.toNatClampNeg) = 1 then mck x2 4 ((if (M 265 x2.toNatClampNeg) = a1 then mck x2 4 ((if (M 267 x2.toNatClampNeg) = a2 then mck x2 4 (mck x2 4 (mlet (mset M 266 (x2.toNatClampNeg) ((M 266 x2.toNatClampNeg) + 7)) (fun M15 => mck x2 4 (mlet (mset M15 267 (x2.toNatClampNeg) ((a2 + 1) - (a2 + 1) / 16 * 16)) (fun M19 => mck x2 4 (mlet (mset M19 268 (x2.toNatClampNeg) (M19 154 9)) (fun M22 => mck x2 4 (mck a1 101 ((if (M22 158 a1.toNatClampNeg) ≤ (M22 266 x2.toNatClampNeg) then mck x2 4 (mlet (mset M22 264 (x2.toNatClampNeg) 3) (fun M30 => some (a1, M30, L))) else some (0, M22, L))))))))))) else mck x2 4 (mlet (mset M 264 (x2.toNatClampNeg) 4) (fun M33 => mlet (mset M33 154 10 1) (fun M34 => some (0, M34, L)))))) else fX9_receiveNext_b28 fu a1 a2 M L)) else fX9_receiveNext_b28 fu a1 a2 M L)))
noncomputable def DX9_makeFrame (fu : Nat) (a1 : Int32) (a2 : Int32) (a3 : Int32) (M : mwM) (L : mwL) : Option (mwM × mwL) :=
  (if (M 154 6) < 1600 then mck (M 154 6) 1600 (mlet (mset M 270 ((M 154 6).toNatClampNeg) a1) (fun M4 => mck (M4 154 6) 1600 (mlet (mset M4 271 ((M4 154 6).toNatClampNeg) a2) (fun M7 => mck (M7 154 6) 1600 (mlet (mset M7 272 ((M7 154 6).toNatClampNeg) a3) (fun M10 => mck (M10 154 6) 1600 (mlet (mset M10 273 ((M10 154 6).toNatClampNeg) 0) (fun M13 => mlet (mset M13 154 6 ((M13 154 6) + 1)) (fun M14 => some (M14, L)))))))))) else some (M, L))
noncomputable def fX9_receive_b42 (fu : Nat) (a1 : Int32) (M : mwM) (L : mwL) : Option (Int32 × mwM × mwL) :=
  some (0, M, L)
noncomputable def fX9_receive_b91 (fu : Nat) (a1 : Int32) (v2 : Int32) (v3 : Int32) (M : mwM) (L : mwL) : Option (Int32 × mwM × mwL) :=
  mck a1 1600 ((if (M 270 a1.toNatClampNeg) = 0 then mck v3 4 (mlet (mset M 264 (v3.toNatClampNeg) 3) (fun M23 => some (v2, M23, L))) else mck v3 4 (mlet (mset M 264 (v3.toNatClampNeg) 1) (fun M6 => mck v3 4 (mlet (mset M6 265 (v3.toNatClampNeg) v2) (fun M9 => mck v3 4 (mlet (mset M9 266 (v3.toNatClampNeg) 6) (fun M12 => mck v3 4 (mlet (mset M12 267 (v3.toNatClampNeg) 1) (fun M15 => mck v3 4 (mlet (mset M15 268 (v3.toNatClampNeg) (M15 154 9)) (fun M18 => mb2 (DX9_makeFrame fu 3 v2 0 M18 L) (fun M19 L20 => some (0, M19, L20))))))))))))))
noncomputable def DX9_receive (fu : Nat) (a1 : Int32) (M : mwM) (L : mwL) : Option (Int32 × mwM × mwL) :=
  mck a1 1600 (mlet (M 271 a1.toNatClampNeg) (fun x26 => mck a1 1600 ((if (M 270 a1.toNatClampNeg) = 3 then mck x26 101 ((if (M 159 x26.toNatClampNeg) = 1 then mck x26 101 (mlet (mset M 159 (x26.toNatClampNeg) 2) (fun M49 => fX9_receive_b42 fu a1 M49 L)) else fX9_receive_b42 fu a1 M L)) else mck a1 1600 ((if (M 270 a1.toNatClampNeg) = 2 then mck a1 1600 (mb3 (DX9_receiveNext fu x26 (M 272 a1.toNatClampNeg) M L) (fun r43 M41 L42 => some (r43, M41, L42))) else mlet (x26 - x26 / 4 * 4) (fun x34 => mck x34 4 ((if (M 264 x34.toNatClampNeg) = 1 then mlet (mset M 154 10 1) (fun M38 => fX9_receive_b91 fu a1 x26 x34 M38 L) else fX9_receive_b91 fu a1 x26 x34 M L)))))))))
noncomputable def fX9_reach_b54 (fu : Nat) (a1 : Int32) (a2 : Int32) (r2 : (Int32 × mwM × mwL) → Option (Int32 × mwM × mwL)) (v3 : Int32) (M : mwM) (L : mwL) : Option (Int32 × mwM × mwL) :=
  mlet (v3 + 1) (fun x19 => r2 (x19, M, L))
noncomputable def fX9_reach_i2 (fu : Nat) (a1 : Int32) (a2 : Int32) (r2 : (Int32 × mwM × mwL) → Option (Int32 × mwM × mwL)) (v3 : Int32) (M : mwM) (L : mwL) : Option (Int32 × mwM × mwL) :=
  (if (M 154 7) ≤ v3 then some (0, M, L) else mck v3 1600 ((if (M 273 v3.toNatClampNeg) = 0 then mb3 (DX9_controllerOf fu v3 M L) (fun r7 M5 L6 => (if r7 = a1 then mb3 (DX9_isToTester fu v3 M5 L6) (fun r11 M9 L10 => (if r11 = a2 then mck v3 1600 (mlet (mset M9 273 (v3.toNatClampNeg) 1) (fun M15 => mb3 (DX9_receive fu v3 M15 L10) (fun r18 M16 L17 => some (r18, M16, L17)))) else fX9_reach_b54 fu a1 a2 r2 v3 M9 L10)) else fX9_reach_b54 fu a1 a2 r2 v3 M5 L6)) else fX9_reach_b54 fu a1 a2 r2 v3 M L)))
noncomputable def fX9_reach_h2 (fu : Nat) (a1 : Int32) (a2 : Int32) : Nat → (Int32 × mwM × mwL) → Option (Int32 × mwM × mwL) := mloop (fun r2 s => fX9_reach_i2 fu a1 a2 r2 s.1 s.2.1 s.2.2)
noncomputable def DX9_reach (fu : Nat) (a1 : Int32) (a2 : Int32) (M : mwM) (L : mwL) : Option (Int32 × mwM × mwL) :=
  fX9_reach_h2 fu a1 a2 fu (0, M, L)
noncomputable def fX9_begin_b50 (fu : Nat) (a1 : Int32) (s2 : Int32) (M : mwM) (L : mwL) : Option (mwM × mwL) :=
  mck a1 101 (mlet (mset M 159 (a1.toNatClampNeg) s2) (fun M7 => mck a1 101 (mlet (mset M7 160 (a1.toNatClampNeg) (M7 154 9)) (fun M10 => some (M10, L)))))
noncomputable def fX9_begin_b29 (fu : Nat) (a1 : Int32) (v2 : Int32) (s1 : Int32) (M : mwM) (L : mwL) : Option (mwM × mwL) :=
  mb2 (DX9_makeFrame fu s1 a1 0 M L) (fun M2 L3 => (if v2 = 0 then fX9_begin_b50 fu a1 1 M2 L3 else fX9_begin_b50 fu a1 3 M2 L3))
noncomputable def fX9_begin_b18 (fu : Nat) (a1 : Int32) (s0 : Int32) (M : mwM) (L : mwL) : Option (mwM × mwL) :=
  (if s0 = 0 then fX9_begin_b29 fu a1 s0 1 M L else fX9_begin_b29 fu a1 s0 0 M L)
noncomputable def DX9_begin (fu : Nat) (a1 : Int32) (M : mwM) (L : mwL) : Option (mwM × mwL) :=
  mck a1 101 ((if 7 < (M 158 a1.toNatClampNeg) then fX9_begin_b18 fu a1 0 M L else fX9_begin_b18 fu a1 1 M L))
noncomputable def fX9_goOn_b105 (fu : Nat) (a1 : Int32) (a2 : Int32) (M : mwM) (L : mwL) : Option (mwM × mwL) :=
  some (M, L)
noncomputable def fX9_goOn_i27 (fu : Nat) (a1 : Int32) (a2 : Int32) (r27 : (Int32 × Int32 × mwM × mwL) → Option (mwM × mwL)) (v3 : Int32) (v4 : Int32) (M : mwM) (L : mwL) : Option (mwM × mwL) :=
  (if v3 ≤ 0 then mck a1 101 (mlet (mset M 159 (a1.toNatClampNeg) 3) (fun M4 => fX9_goOn_b105 fu a1 a2 M4 L)) else mb2 (DX9_makeFrame fu 2 a1 (v4 - v4 / 16 * 16) M L) (fun M6 L7 => mlet (v3 + (-7)) (fun x8 => mlet (v4 + 1) (fun x9 => r27 (x8, x9, M6, L7)))))
noncomputable def fX9_goOn_h27 (fu : Nat) (a1 : Int32) (a2 : Int32) : Nat → (Int32 × Int32 × mwM × mwL) → Option (mwM × mwL) := mloop (fun r27 s => fX9_goOn_i27 fu a1 a2 r27 s.1 s.2.1 s.2.2.1 s.2.2.2)
noncomputable def DX9_goOn (fu : Nat) (a1 : Int32) (a2 : Int32) (M : mwM) (L : mwL) : Option (mwM × mwL) :=
  mck a1 101 ((if (M 159 a1.toNatClampNeg) = 2 then mck a1 101 (mlet ((M 158 a1.toNatClampNeg) - 6) (fun x25 => fX9_goOn_h27 fu a1 a2 fu (x25, 1, M, L))) else mck a1 101 ((if (M 159 a1.toNatClampNeg) = 1 then mck a1 101 ((if (a2 - (M 160 a1.toNatClampNeg)) < 1000 then fX9_goOn_b105 fu a1 a2 M L else mck a1 101 (mlet (mset M 159 (a1.toNatClampNeg) 4) (fun M21 => mlet (mset M21 154 10 1) (fun M22 => fX9_goOn_b105 fu a1 a2 M22 L))))) else fX9_goOn_b105 fu a1 a2 M L))))
noncomputable def fX9_tick_b154 (fu : Nat) (a1 : Int32) (r107 : (Int32 × mwM × mwL) → Option (mwM × mwL)) (v2 : Int32) (M : mwM) (L : mwL) : Option (mwM × mwL) :=
  mlet (v2 + 1) (fun x30 => r107 (x30, M, L))
noncomputable def fX9_tick_i107 (fu : Nat) (a1 : Int32) (r107 : (Int32 × mwM × mwL) → Option (mwM × mwL)) (v2 : Int32) (M : mwM) (L : mwL) : Option (mwM × mwL) :=
  (if 4 ≤ v2 then mlet (mset M 154 9 a1) (fun M19 => some (M19, L)) else mck v2 4 ((if (M 264 v2.toNatClampNeg) = 1 then mck v2 4 ((if (a1 - (M 268 v2.toNatClampNeg)) < 1000 then fX9_tick_b154 fu a1 r107 v2 M L else mck v2 4 (mlet (mset M 264 (v2.toNatClampNeg) 4) (fun M28 => mlet (mset M28 154 10 1) (fun M29 => fX9_tick_b154 fu a1 r107 v2 M29 L))))) else fX9_tick_b154 fu a1 r107 v2 M L)))
noncomputable def fX9_tick_h107 (fu : Nat) (a1 : Int32) : Nat → (Int32 × mwM × mwL) → Option (mwM × mwL) := mloop (fun r107 s => fX9_tick_i107 fu a1 r107 s.1 s.2.1 s.2.2)
noncomputable def fX9_tick_b105 (fu : Nat) (a1 : Int32) (M : mwM) (L : mwL) : Option (mwM × mwL) :=
  fX9_tick_h107 fu a1 fu (0, M, L)
noncomputable def fX9_tick_i64 (fu : Nat) (a1 : Int32) (r64 : (mwM × mwL) → Option (mwM × mwL)) (M : mwM) (L : mwL) : Option (mwM × mwL) :=
  (if (M 154 5) ≤ (M 154 8) then fX9_tick_b105 fu a1 M L else mck ((M 154 8) + 1) 101 ((if (M 159 ((M 154 8) + 1).toNatClampNeg) < 3 then fX9_tick_b105 fu a1 M L else mlet (mset M 154 8 ((M 154 8) + 1)) (fun M17 => r64 (M17, L)))))
noncomputable def fX9_tick_h64 (fu : Nat) (a1 : Int32) : Nat → (mwM × mwL) → Option (mwM × mwL) := mloop (fun r64 s => fX9_tick_i64 fu a1 r64 s.1 s.2)
noncomputable def fX9_tick_i44 (fu : Nat) (a1 : Int32) (r44 : (Int32 × mwM × mwL) → Option (mwM × mwL)) (v2 : Int32) (M : mwM) (L : mwL) : Option (mwM × mwL) :=
  (if (M 154 5) < v2 then fX9_tick_h64 fu a1 fu (M, L) else mb2 (DX9_goOn fu v2 a1 M L) (fun M10 L11 => mlet (v2 + 1) (fun x12 => r44 (x12, M10, L11))))
noncomputable def fX9_tick_h44 (fu : Nat) (a1 : Int32) : Nat → (Int32 × mwM × mwL) → Option (mwM × mwL) := mloop (fun r44 s => fX9_tick_i44 fu a1 r44 s.1 s.2.1 s.2.2)
noncomputable def fX9_tick_b31 (fu : Nat) (a1 : Int32) (r7 : (Int32 × mwM × mwL) → Option (mwM × mwL)) (v2 : Int32) (M : mwM) (L : mwL) : Option (mwM × mwL) :=
  mlet (v2 + 1) (fun x8 => r7 (x8, M, L))
noncomputable def fX9_tick_i7 (fu : Nat) (a1 : Int32) (r7 : (Int32 × mwM × mwL) → Option (mwM × mwL)) (v2 : Int32) (M : mwM) (L : mwL) : Option (mwM × mwL) :=
  (if (M 154 5) < v2 then mlet ((M 154 8) + 1) (fun x2 => fX9_tick_h44 fu a1 fu (x2, M, L)) else mck v2 101 ((if (M 159 v2.toNatClampNeg) = 0 then mb2 (DX9_begin fu v2 M L) (fun M6 L7 => fX9_tick_b31 fu a1 r7 v2 M6 L7) else fX9_tick_b31 fu a1 r7 v2 M L)))
noncomputable def fX9_tick_h7 (fu : Nat) (a1 : Int32) : Nat → (Int32 × mwM × mwL) → Option (mwM × mwL) := mloop (fun r7 s => fX9_tick_i7 fu a1 r7 s.1 s.2.1 s.2.2)
noncomputable def DX9_tick (fu : Nat) (a1 : Int32) (M : mwM) (L : mwL) : Option (mwM × mwL) :=
  mlet ((M 154 8) + 1) (fun x31 => fX9_tick_h7 fu a1 fu (x31, M, L))
noncomputable def fX9_writeOctets_b184 (fu : Nat) (a1 : Int32) (r113 : (Int32 × Int32 × Int32 × Int32 × mwM × mwL) → Option (mwM × mwL)) (v2 : Int32) (v5 : Int32) (v6 : Int32) (v7 : Int32) (s1 : Int32) (s2 : Int32) (M : mwM) (L : mwL) : Option (mwM × mwL) :=
  mck s1 8 (mlet (mset M 274 (s1.toNatClampNeg) s2) (fun M18 => mlet (v7 + 1) (fun x19 => r113 (v2, v5, v6, x19, M18, L))))
noncomputable def fX9_writeOctets_b153 (fu : Nat) (a1 : Int32) (r113 : (Int32 × Int32 × Int32 × Int32 × mwM × mwL) → Option (mwM × mwL)) (v2 : Int32) (v5 : Int32) (v6 : Int32) (v7 : Int32) (s0 : Int32) (M : mwM) (L : mwL) : Option (mwM × mwL) :=
  (if s0 = 0 then fX9_writeOctets_b184 fu a1 r113 v2 v5 v6 v7 (1 + v7) 0 M L else mck v2 101 (mck (v5 + v7) 100 (fX9_writeOctets_b184 fu a1 r113 v2 v5 v6 v7 (1 + v7) (M (162 + v2.toNatClampNeg) (v5 + v7).toNatClampNeg) M L)))
noncomputable def fX9_writeOctets_b152 (fu : Nat) (a1 : Int32) (r113 : (Int32 × Int32 × Int32 × Int32 × mwM × mwL) → Option (mwM × mwL)) (v2 : Int32) (v5 : Int32) (v6 : Int32) (v7 : Int32) (M : mwM) (L : mwL) : Option (mwM × mwL) :=
  fX9_writeOctets_b153 fu a1 r113 v2 v5 v6 v7 0 M L
noncomputable def fX9_writeOctets_i113 (fu : Nat) (a1 : Int32) (r113 : (Int32 × Int32 × Int32 × Int32 × mwM × mwL) → Option (mwM × mwL)) (v2 : Int32) (v5 : Int32) (v6 : Int32) (v7 : Int32) (M : mwM) (L : mwL) : Option (mwM × mwL) :=
  (if 7 ≤ v7 then some (M, L) else (if v6 ≤ v7 then fX9_writeOctets_b152 fu a1 r113 v2 v5 v6 v7 M L else (if v5 < 0 then fX9_writeOctets_b152 fu a1 r113 v2 v5 v6 v7 M L else mck v2 101 ((if (M 158 v2.toNatClampNeg) ≤ (v5 + v7) then fX9_writeOctets_b152 fu a1 r113 v2 v5 v6 v7 M L else fX9_writeOctets_b153 fu a1 r113 v2 v5 v6 v7 1 M L)))))
noncomputable def fX9_writeOctets_h113 (fu : Nat) (a1 : Int32) : Nat → (Int32 × Int32 × Int32 × Int32 × mwM × mwL) → Option (mwM × mwL) := mloop (fun r113 s => fX9_writeOctets_i113 fu a1 r113 s.1 s.2.1 s.2.2.1 s.2.2.2.1 s.2.2.2.2.1 s.2.2.2.2.2)
noncomputable def fX9_writeOctets_b92 (fu : Nat) (a1 : Int32) (v2 : Int32) (v3 : Int32) (v4 : Int32) (v5 : Int32) (s0 : Int32) (M : mwM) (L : mwL) : Option (mwM × mwL) :=
  mlet (mset M 274 ((0 : Int32).toNatClampNeg) ((16 * v3) + (v4 &&& 15))) (fun M7 => fX9_writeOctets_h113 fu a1 fu (v2, v5, s0, 0, M7, L))
noncomputable def fX9_writeOctets_b69 (fu : Nat) (a1 : Int32) (v2 : Int32) (v3 : Int32) (v4 : Int32) (s0 : Int32) (M : mwM) (L : mwL) : Option (mwM × mwL) :=
  (if v3 = 3 then fX9_writeOctets_b92 fu a1 v2 v3 v4 s0 0 M L else (if v3 = 1 then fX9_writeOctets_b92 fu a1 v2 v3 v4 s0 6 M L else fX9_writeOctets_b92 fu a1 v2 v3 v4 s0 7 M L))
noncomputable def fX9_writeOctets_b42 (fu : Nat) (a1 : Int32) (v2 : Int32) (v3 : Int32) (s0 : Int32) (M : mwM) (L : mwL) : Option (mwM × mwL) :=
  (if v3 = 2 then mck a1 1600 (fX9_writeOctets_b69 fu a1 v2 v3 s0 (6 + (7 * ((M 272 a1.toNatClampNeg) - 1))) M L) else fX9_writeOctets_b69 fu a1 v2 v3 s0 0 M L)
noncomputable def DX9_writeOctets (fu : Nat) (a1 : Int32) (M : mwM) (L : mwL) : Option (mwM × mwL) :=
  mck a1 1600 (mlet (M 271 a1.toNatClampNeg) (fun x22 => mck a1 1600 (mlet (M 270 a1.toNatClampNeg) (fun x25 => (if x25 = 1 then mck x22 101 (fX9_writeOctets_b42 fu a1 x22 x25 (M 158 x22.toNatClampNeg) M L) else mck a1 1600 (fX9_writeOctets_b42 fu a1 x22 x25 (M 272 a1.toNatClampNeg) M L))))))
noncomputable def DX10_clear (fu : Nat) (M : mwM) (L : mwL) : Option (mwM × mwL) :=
  mlet (mset M 139 2 0) (fun M1 => mlet (mset M1 139 3 0) (fun M2 => mlet (mset M2 139 4 0) (fun M3 => mlet (mset M3 139 5 0) (fun M4 => some (M4, L)))))
noncomputable def DX10_forget (fu : Nat) (a1 : Int32) (M : mwM) (L : mwL) : Option (mwM × mwL) :=
  mck a1 30 (mlet (mset M 146 (a1.toNatClampNeg) 80) (fun M3 => mck a1 30 (mlet (mset M3 147 (a1.toNatClampNeg) 0) (fun M6 => mck a1 30 (mlet (mset M6 148 (a1.toNatClampNeg) 0) (fun M9 => mck a1 30 (mlet (mset M9 149 (a1.toNatClampNeg) 0) (fun M12 => mck a1 30 (mlet (mset M12 150 (a1.toNatClampNeg) 0) (fun M15 => some (M15, L)))))))))))
noncomputable def DX10_addWatch (fu : Nat) (a1 : Int32) (a2 : Int32) (a3 : Int32) (a4 : Int32) (M : mwM) (L : mwL) : Option (Int32 × mwM × mwL) :=
  (if (M 139 2) < 30 then mck (M 139 2) 30 (mlet (mset M 141 ((M 139 2).toNatClampNeg) a1) (fun M4 => mck (M4 139 2) 30 (mlet (mset M4 142 ((M4 139 2).toNatClampNeg) a2) (fun M7 => mck (M7 139 2) 30 (mlet (mset M7 145 ((M7 139 2).toNatClampNeg) a3) (fun M10 => mck (M10 139 2) 30 (mlet (mset M10 143 ((M10 139 2).toNatClampNeg) a4) (fun M13 => mck (M13 139 2) 30 (mlet (mset M13 144 ((M13 139 2).toNatClampNeg) 0) (fun M16 => mb2 (DX10_forget fu (M16 139 2) M16 L) (fun M17 L18 => mlet (mset M17 139 2 ((M17 139 2) + 1)) (fun M19 => some (M19 139 2, M19, L18))))))))))))) else some ((-4), M, L))
noncomputable def fX10_forgetAll_i2 (fu : Nat) (r2 : (Int32 × mwM × mwL) → Option (mwM × mwL)) (v1 : Int32) (M : mwM) (L : mwL) : Option (mwM × mwL) :=
  (if (M 139 2) ≤ v1 then mlet (mset M 139 3 0) (fun M2 => some (M2, L)) else mb2 (DX10_forget fu v1 M L) (fun M3 L4 => mlet (v1 + 1) (fun x5 => r2 (x5, M3, L4))))
noncomputable def fX10_forgetAll_h2 (fu : Nat) : Nat → (Int32 × mwM × mwL) → Option (mwM × mwL) := mloop (fun r2 s => fX10_forgetAll_i2 fu r2 s.1 s.2.1 s.2.2)
noncomputable def DX10_forgetAll (fu : Nat) (M : mwM) (L : mwL) : Option (mwM × mwL) :=
  fX10_forgetAll_h2 fu fu (0, M, L)
noncomputable def fX10_isWatching_b17 (fu : Nat) (a1 : Int32) (a2 : Int32) (s0 : Int32) (M : mwM) (L : mwL) : Option (Int32 × mwM × mwL) :=
  mzz s0 (some (s0, M, L))
noncomputable def DX10_isWatching (fu : Nat) (a1 : Int32) (a2 : Int32) (M : mwM) (L : mwL) : Option (Int32 × mwM × mwL) :=
  mck a1 30 ((if (M 142 a1.toNatClampNeg) = a2 then fX10_isWatching_b17 fu a1 a2 1 M L else fX10_isWatching_b17 fu a1 a2 0 M L))
noncomputable def DX10_signalOf (fu : Nat) (a1 : Int32) (M : mwM) (L : mwL) : Option (Int32 × mwM × mwL) :=
  mck a1 30 (some (M 141 a1.toNatClampNeg, M, L))
noncomputable def fX10_entryOf_i2 (fu : Nat) (a1 : Int32) (r2 : (Int32 × mwM × mwL) → Option (Int32 × mwM × mwL)) (v2 : Int32) (M : mwM) (L : mwL) : Option (Int32 × mwM × mwL) :=
  (if (M 139 3) ≤ v2 then some ((-1), M, L) else mck v2 8 ((if (M 153 v2.toNatClampNeg) = a1 then some (v2, M, L) else mlet (v2 + 1) (fun x4 => r2 (x4, M, L)))))
noncomputable def fX10_entryOf_h2 (fu : Nat) (a1 : Int32) : Nat → (Int32 × mwM × mwL) → Option (Int32 × mwM × mwL) := mloop (fun r2 s => fX10_entryOf_i2 fu a1 r2 s.1 s.2.1 s.2.2)
noncomputable def DX10_entryOf (fu : Nat) (a1 : Int32) (M : mwM) (L : mwL) : Option (Int32 × mwM × mwL) :=
  fX10_entryOf_h2 fu a1 fu (0, M, L)
noncomputable def DX10_weightOf (fu : Nat) (a1 : Int32) (M : mwM) (L : mwL) : Option (Int32 × mwM × mwL) :=
  mck a1 30 (mck a1 30 (some (((2 * (M 145 a1.toNatClampNeg)) + 1) - ((M 146 a1.toNatClampNeg) &&& 1), M, L)))
noncomputable def fX10_findLesser_b55 (fu : Nat) (a1 : Int32) (r16 : (Int32 × Int32 × Int32 × mwM × mwL) → Option (Int32 × mwM × mwL)) (v2 : Int32) (v3 : Int32) (v4 : Int32) (M : mwM) (L : mwL) : Option (Int32 × mwM × mwL) :=
  mlet (v4 + 1) (fun x11 => r16 (v2, v3, x11, M, L))
noncomputable def fX10_findLesser_i16 (fu : Nat) (a1 : Int32) (r16 : (Int32 × Int32 × Int32 × mwM × mwL) → Option (Int32 × mwM × mwL)) (v2 : Int32) (v3 : Int32) (v4 : Int32) (M : mwM) (L : mwL) : Option (Int32 × mwM × mwL) :=
  (if (M 139 3) ≤ v4 then some (v2, M, L) else mck v4 8 (mb3 (DX10_weightOf fu (M 153 v4.toNatClampNeg) M L) (fun r5 M3 L4 => (if r5 ≤ v3 then fX10_findLesser_b55 fu a1 r16 v2 v3 v4 M3 L4 else mck v4 8 (mb3 (DX10_weightOf fu (M3 153 v4.toNatClampNeg) M3 L4) (fun r10 M8 L9 => fX10_findLesser_b55 fu a1 r16 v4 r10 v4 M8 L9))))))
noncomputable def fX10_findLesser_h16 (fu : Nat) (a1 : Int32) : Nat → (Int32 × Int32 × Int32 × mwM × mwL) → Option (Int32 × mwM × mwL) := mloop (fun r16 s => fX10_findLesser_i16 fu a1 r16 s.1 s.2.1 s.2.2.1 s.2.2.2.1 s.2.2.2.2)
noncomputable def DX10_findLesser (fu : Nat) (a1 : Int32) (M : mwM) (L : mwL) : Option (Int32 × mwM × mwL) :=
  mck a1 30 (mlet (2 * (M 145 a1.toNatClampNeg)) (fun x14 => fX10_findLesser_h16 fu a1 fu (((-1)), x14, 0, M, L)))
noncomputable def fX10_removeEntry_i7 (fu : Nat) (a1 : Int32) (r7 : (Int32 × mwM × mwL) → Option (mwM × mwL)) (v2 : Int32) (M : mwM) (L : mwL) : Option (mwM × mwL) :=
  (if (M 139 3) ≤ (v2 + 1) then mlet (mset M 139 3 ((M 139 3) - 1)) (fun M2 => some (M2, L)) else mck (v2 + 1) 8 (mck v2 8 (mlet (mset M 153 (v2.toNatClampNeg) (M 153 (v2 + 1).toNatClampNeg)) (fun M5 => mlet (v2 + 1) (fun x6 => r7 (x6, M5, L))))))
noncomputable def fX10_removeEntry_h7 (fu : Nat) (a1 : Int32) : Nat → (Int32 × mwM × mwL) → Option (mwM × mwL) := mloop (fun r7 s => fX10_removeEntry_i7 fu a1 r7 s.1 s.2.1 s.2.2)
noncomputable def DX10_removeEntry (fu : Nat) (a1 : Int32) (M : mwM) (L : mwL) : Option (mwM × mwL) :=
  (if 0 ≤ a1 then fX10_removeEntry_h7 fu a1 fu (a1, M, L) else some (M, L))
noncomputable def fX10_store_b69 (fu : Nat) (a1 : Int32) (M : mwM) (L : mwL) : Option (mwM × mwL) :=
  mck a1 30 (mlet (mset M 152 (a1.toNatClampNeg) (M 139 5)) (fun M10 => some (M10, L)))
noncomputable def fX10_store_b26 (fu : Nat) (a1 : Int32) (M : mwM) (L : mwL) : Option (mwM × mwL) :=
  (if (M 139 3) < 8 then mck (M 139 3) 8 (mlet (mset M 153 ((M 139 3).toNatClampNeg) a1) (fun M3 => mlet (mset M3 139 3 ((M3 139 3) + 1)) (fun M4 => mck a1 30 (mlet (mset M4 151 (a1.toNatClampNeg) (M4 139 5)) (fun M7 => fX10_store_b69 fu a1 M7 L))))) else some (M, L))
noncomputable def DX10_store (fu : Nat) (a1 : Int32) (M : mwM) (L : mwL) : Option (mwM × mwL) :=
  mb3 (DX10_entryOf fu a1 M L) (fun r13 M11 L12 => (if 0 ≤ r13 then fX10_store_b69 fu a1 M11 L12 else (if (M11 139 3) < 8 then fX10_store_b26 fu a1 M11 L12 else mb3 (DX10_findLesser fu a1 M11 L12) (fun r18 M16 L17 => mb2 (DX10_removeEntry fu r18 M16 L17) (fun M19 L20 => fX10_store_b26 fu a1 M19 L20)))))
noncomputable def fX10_testFailed_b142 (fu : Nat) (a1 : Int32) (M : mwM) (L : mwL) : Option (mwM × mwL) :=
  some (M, L)
noncomputable def fX10_testFailed_b95 (fu : Nat) (a1 : Int32) (v2 : Int32) (v3 : Int32) (M : mwM) (L : mwL) : Option (mwM × mwL) :=
  mck a1 30 (mlet (mset M 146 (a1.toNatClampNeg) ((((v2 ||| 1) ||| 2) ||| 4) ||| 32)) (fun M17 => mck a1 30 (mlet (mset M17 149 (a1.toNatClampNeg) 0) (fun M20 => mck a1 30 (mlet (mset M20 150 (a1.toNatClampNeg) 0) (fun M23 => (if v3 = 0 then mb2 (DX10_store fu a1 M23 L) (fun M25 L26 => fX10_testFailed_b142 fu a1 M25 L26) else fX10_testFailed_b142 fu a1 M23 L)))))))
noncomputable def fX10_testFailed_b93 (fu : Nat) (a1 : Int32) (v3 : Int32) (s0 : Int32) (s1 : Int32) (M : mwM) (L : mwL) : Option (mwM × mwL) :=
  mlet (s0 ||| s1) (fun x14 => fX10_testFailed_b95 fu a1 x14 v3 M L)
noncomputable def fX10_testFailed_b53 (fu : Nat) (a1 : Int32) (v2 : Int32) (v3 : Int32) (M : mwM) (L : mwL) : Option (mwM × mwL) :=
  mlet (v2 &&& ((-81))) (fun x7 => mck a1 30 ((if (M 148 a1.toNatClampNeg) < 2 then fX10_testFailed_b95 fu a1 x7 v3 M L else mck a1 30 ((if 64 < (M 145 a1.toNatClampNeg) then fX10_testFailed_b93 fu a1 v3 x7 8 M L else fX10_testFailed_b93 fu a1 v3 x7 136 M L)))))
noncomputable def fX10_testFailed_b20 (fu : Nat) (a1 : Int32) (v2 : Int32) (s0 : Int32) (M : mwM) (L : mwL) : Option (mwM × mwL) :=
  (if (v2 &&& 2) = 0 then mck a1 30 (mck a1 30 (mlet (mset M 148 (a1.toNatClampNeg) (if 255 < ((M 148 a1.toNatClampNeg) + 1) then 255 else ((M 148 a1.toNatClampNeg) + 1))) (fun M6 => fX10_testFailed_b53 fu a1 v2 s0 M6 L))) else fX10_testFailed_b53 fu a1 v2 s0 M L)
noncomputable def DX10_testFailed (fu : Nat) (a1 : Int32) (M : mwM) (L : mwL) : Option (mwM × mwL) :=
  mck a1 30 (mlet (M 146 a1.toNatClampNeg) (fun x29 => (if (x29 &&& 1) = 0 then fX10_testFailed_b20 fu a1 x29 0 M L else fX10_testFailed_b20 fu a1 x29 1 M L)))
noncomputable def fX10_noteFailed_b68 (fu : Nat) (a1 : Int32) (a2 : Int32) (M : mwM) (L : mwL) : Option (mwM × mwL) :=
  some (M, L)
noncomputable def DX10_noteFailed (fu : Nat) (a1 : Int32) (a2 : Int32) (M : mwM) (L : mwL) : Option (mwM × mwL) :=
  mck a1 30 (mlet (mset M 144 (a1.toNatClampNeg) a2) (fun M3 => mlet (mset M3 139 5 ((M3 139 5) + 1)) (fun M4 => mck a1 30 (mck a1 30 (mlet (mset M4 147 (a1.toNatClampNeg) (if 127 < ((if (M4 147 a1.toNatClampNeg) < 0 then 0 else (M4 147 a1.toNatClampNeg)) + 64) then 127 else ((if (M4 147 a1.toNatClampNeg) < 0 then 0 else (M4 147 a1.toNatClampNeg)) + 64))) (fun M9 => mck a1 30 ((if (M9 147 a1.toNatClampNeg) = 127 then mb2 (DX10_testFailed fu a1 M9 L) (fun M13 L14 => fX10_noteFailed_b68 fu a1 a2 M13 L14) else fX10_noteFailed_b68 fu a1 a2 M9 L))))))))
noncomputable def fX10_lookForSilence_b37 (fu : Nat) (a1 : Int32) (r2 : (Int32 × mwM × mwL) → Option (mwM × mwL)) (v2 : Int32) (M : mwM) (L : mwL) : Option (mwM × mwL) :=
  mlet (v2 + 1) (fun x9 => r2 (x9, M, L))
noncomputable def fX10_lookForSilence_i2 (fu : Nat) (a1 : Int32) (r2 : (Int32 × mwM × mwL) → Option (mwM × mwL)) (v2 : Int32) (M : mwM) (L : mwL) : Option (mwM × mwL) :=
  (if (M 139 2) ≤ v2 then some (M, L) else mck v2 30 (mck v2 30 ((if (a1 - (M 144 v2.toNatClampNeg)) < (M 143 v2.toNatClampNeg) then fX10_lookForSilence_b37 fu a1 r2 v2 M L else mb2 (DX10_noteFailed fu v2 a1 M L) (fun M7 L8 => fX10_lookForSilence_b37 fu a1 r2 v2 M7 L8)))))
noncomputable def fX10_lookForSilence_h2 (fu : Nat) (a1 : Int32) : Nat → (Int32 × mwM × mwL) → Option (mwM × mwL) := mloop (fun r2 s => fX10_lookForSilence_i2 fu a1 r2 s.1 s.2.1 s.2.2)
noncomputable def DX10_lookForSilence (fu : Nat) (a1 : Int32) (M : mwM) (L : mwL) : Option (mwM × mwL) :=
  fX10_lookForSilence_h2 fu a1 fu (0, M, L)
noncomputable def fX10_notePassed_b76 (fu : Nat) (a1 : Int32) (a2 : Int32) (M : mwM) (L : mwL) : Option (mwM × mwL) :=
  some (M, L)
noncomputable def DX10_notePassed (fu : Nat) (a1 : Int32) (a2 : Int32) (M : mwM) (L : mwL) : Option (mwM × mwL) :=
  mck a1 30 (mlet (mset M 144 (a1.toNatClampNeg) a2) (fun M3 => mlet (mset M3 139 5 ((M3 139 5) + 1)) (fun M4 => mck a1 30 (mck a1 30 (mlet (mset M4 147 (a1.toNatClampNeg) (if ((if 0 < (M4 147 a1.toNatClampNeg) then 0 else (M4 147 a1.toNatClampNeg)) - 127) < ((-128)) then ((-128)) else ((if 0 < (M4 147 a1.toNatClampNeg) then 0 else (M4 147 a1.toNatClampNeg)) - 127))) (fun M9 => mck a1 30 ((if (M9 147 a1.toNatClampNeg) = ((-128)) then mck a1 30 (mck a1 30 (mlet (mset M9 146 (a1.toNatClampNeg) ((M9 146 a1.toNatClampNeg) &&& ((-82)))) (fun M16 => fX10_notePassed_b76 fu a1 a2 M16 L))) else fX10_notePassed_b76 fu a1 a2 M9 L))))))))
noncomputable def fX10_endGoodCycle_b110 (fu : Nat) (a1 : Int32) (a2 : Int32) (M : mwM) (L : mwL) : Option (mwM × mwL) :=
  some (M, L)
noncomputable def fX10_endGoodCycle_b190 (fu : Nat) (a1 : Int32) (a2 : Int32) (M : mwM) (L : mwL) : Option (mwM × mwL) :=
  some (M, L)
noncomputable def fX10_endGoodCycle_b90 (fu : Nat) (a1 : Int32) (a2 : Int32) (M : mwM) (L : mwL) : Option (mwM × mwL) :=
  (if a2 = 0 then fX10_endGoodCycle_b110 fu a1 a2 M L else mck a1 30 ((if ((M 146 a1.toNatClampNeg) &&& 9) = 8 then mck a1 30 (mck a1 30 (mlet (mset M 149 (a1.toNatClampNeg) ((M 149 a1.toNatClampNeg) + 1)) (fun M20 => mck a1 30 ((if (M20 149 a1.toNatClampNeg) < 40 then fX10_endGoodCycle_b190 fu a1 a2 M20 L else mck a1 30 (mck a1 30 (mlet (mset M20 146 (a1.toNatClampNeg) ((M20 146 a1.toNatClampNeg) &&& ((-9)))) (fun M27 => mck a1 30 (mlet (mset M27 148 (a1.toNatClampNeg) 0) (fun M30 => mck a1 30 (mlet (mset M30 149 (a1.toNatClampNeg) 0) (fun M33 => mck a1 30 (mlet (mset M33 150 (a1.toNatClampNeg) 0) (fun M36 => mb3 (DX10_entryOf fu a1 M36 L) (fun r39 M37 L38 => mb2 (DX10_removeEntry fu r39 M37 L38) (fun M40 L41 => fX10_endGoodCycle_b190 fu a1 a2 M40 L41)))))))))))))))) else fX10_endGoodCycle_b110 fu a1 a2 M L)))
noncomputable def fX10_endGoodCycle_b37 (fu : Nat) (a1 : Int32) (a2 : Int32) (M : mwM) (L : mwL) : Option (mwM × mwL) :=
  mck a1 30 (mck a1 30 (mlet (mset M 150 (a1.toNatClampNeg) (if 255 < ((M 150 a1.toNatClampNeg) + 1) then 255 else ((M 150 a1.toNatClampNeg) + 1))) (fun M5 => mck a1 30 ((if (M5 150 a1.toNatClampNeg) < 3 then fX10_endGoodCycle_b90 fu a1 a2 M5 L else mck a1 30 (mck a1 30 (mlet (mset M5 146 (a1.toNatClampNeg) ((M5 146 a1.toNatClampNeg) &&& ((-129)))) (fun M12 => fX10_endGoodCycle_b90 fu a1 a2 M12 L))))))))
noncomputable def DX10_endGoodCycle (fu : Nat) (a1 : Int32) (a2 : Int32) (M : mwM) (L : mwL) : Option (mwM × mwL) :=
  mck a1 30 (mck a1 30 (mlet (mset M 146 (a1.toNatClampNeg) ((M 146 a1.toNatClampNeg) &&& ((-5)))) (fun M45 => mck a1 30 ((if ((M45 146 a1.toNatClampNeg) &&& 8) = 0 then mck a1 30 (mlet (mset M45 148 (a1.toNatClampNeg) 0) (fun M51 => fX10_endGoodCycle_b37 fu a1 a2 M51 L)) else fX10_endGoodCycle_b37 fu a1 a2 M45 L)))))
noncomputable def fX10_endCycle_i38 (fu : Nat) (a1 : Int32) (r38 : (Int32 × mwM × mwL) → Option (Int32 × mwM × mwL)) (v2 : Int32) (M : mwM) (L : mwL) : Option (Int32 × mwM × mwL) :=
  (if (M 139 2) ≤ v2 then mlet (mset M 139 4 ((M 139 4) + 1)) (fun M9 => some (M9 139 4, M9, L)) else mck v2 30 (mck v2 30 (mlet (mset M 146 (v2.toNatClampNeg) (((M 146 v2.toNatClampNeg) &&& ((-3))) ||| 64)) (fun M14 => mlet (v2 + 1) (fun x15 => r38 (x15, M14, L))))))
noncomputable def fX10_endCycle_h38 (fu : Nat) (a1 : Int32) : Nat → (Int32 × mwM × mwL) → Option (Int32 × mwM × mwL) := mloop (fun r38 s => fX10_endCycle_i38 fu a1 r38 s.1 s.2.1 s.2.2)
noncomputable def fX10_endCycle_b30 (fu : Nat) (a1 : Int32) (r2 : (Int32 × mwM × mwL) → Option (Int32 × mwM × mwL)) (v2 : Int32) (M : mwM) (L : mwL) : Option (Int32 × mwM × mwL) :=
  mlet (v2 + 1) (fun x7 => r2 (x7, M, L))
noncomputable def fX10_endCycle_i2 (fu : Nat) (a1 : Int32) (r2 : (Int32 × mwM × mwL) → Option (Int32 × mwM × mwL)) (v2 : Int32) (M : mwM) (L : mwL) : Option (Int32 × mwM × mwL) :=
  (if (M 139 2) ≤ v2 then fX10_endCycle_h38 fu a1 fu (0, M, L) else mck v2 30 ((if ((M 146 v2.toNatClampNeg) &&& 66) = 0 then mb2 (DX10_endGoodCycle fu v2 a1 M L) (fun M5 L6 => fX10_endCycle_b30 fu a1 r2 v2 M5 L6) else fX10_endCycle_b30 fu a1 r2 v2 M L)))
noncomputable def fX10_endCycle_h2 (fu : Nat) (a1 : Int32) : Nat → (Int32 × mwM × mwL) → Option (Int32 × mwM × mwL) := mloop (fun r2 s => fX10_endCycle_i2 fu a1 r2 s.1 s.2.1 s.2.2)
noncomputable def DX10_endCycle (fu : Nat) (a1 : Int32) (M : mwM) (L : mwL) : Option (Int32 × mwM × mwL) :=
  fX10_endCycle_h2 fu a1 fu (0, M, L)
noncomputable def fX10_tell_b72 (fu : Nat) (a1 : Int32) (a2 : Int32) (s0 : Int32) (M : mwM) (L : mwL) : Option (Int32 × mwM × mwL) :=
  some (s0, M, L)
noncomputable def fX10_tell_b94 (fu : Nat) (a1 : Int32) (a2 : Int32) (s0 : Int32) (M : mwM) (L : mwL) : Option (Int32 × mwM × mwL) :=
  some (s0, M, L)
noncomputable def fX10_tell_b115 (fu : Nat) (a1 : Int32) (a2 : Int32) (s0 : Int32) (M : mwM) (L : mwL) : Option (Int32 × mwM × mwL) :=
  some (s0, M, L)
noncomputable def DX10_tell (fu : Nat) (a1 : Int32) (a2 : Int32) (M : mwM) (L : mwL) : Option (Int32 × mwM × mwL) :=
  mlet a2 (fun x1 => (if x1 = 0 then mck a1 30 (some (M 146 a1.toNatClampNeg, M, L)) else if x1 = 1 then mck a1 30 (some (M 149 a1.toNatClampNeg, M, L)) else if x1 = 2 then mb3 (DX10_entryOf fu a1 M L) (fun r11 M9 L10 => (if 0 ≤ r11 then mck a1 30 (fX10_tell_b72 fu a1 a2 (M9 151 a1.toNatClampNeg) M9 L10) else fX10_tell_b72 fu a1 a2 ((-1)) M9 L10)) else if x1 = 3 then mb3 (DX10_entryOf fu a1 M L) (fun r18 M16 L17 => (if 0 ≤ r18 then mck a1 30 (fX10_tell_b94 fu a1 a2 (M16 152 a1.toNatClampNeg) M16 L17) else fX10_tell_b94 fu a1 a2 ((-1)) M16 L17)) else (if (M 139 3) ≤ a1 then fX10_tell_b115 fu a1 a2 ((-1)) M L else mck a1 8 (fX10_tell_b115 fu a1 a2 ((M 153 a1.toNatClampNeg) + 1) M L))))
noncomputable def DX10_statusOf (fu : Nat) (a1 : Int32) (M : mwM) (L : mwL) : Option (Int32 × mwM × mwL) :=
  mck a1 30 (some (M 146 a1.toNatClampNeg, M, L))
noncomputable def fX0_begin_i79 (fu : Nat) (a1 : Int32) (r79 : (Int32 × mwM × mwL) → Option (mwM × mwL)) (v2 : Int32) (M : mwM) (L : mwL) : Option (mwM × mwL) :=
  (if 20000 ≤ v2 then some (M, L) else mck v2 20000 (mlet (mset M 22 (v2.toNatClampNeg) (vp_nar .byte 0)) (fun M14 => mlet (v2 + 1) (fun x15 => r79 (x15, M14, L)))))
noncomputable def fX0_begin_h79 (fu : Nat) (a1 : Int32) : Nat → (Int32 × mwM × mwL) → Option (mwM × mwL) := mloop (fun r79 s => fX0_begin_i79 fu a1 r79 s.1 s.2.1 s.2.2)
noncomputable def fX0_begin_i37 (fu : Nat) (a1 : Int32) (r37 : (Int32 × mwM × mwL) → Option (mwM × mwL)) (v2 : Int32) (M : mwM) (L : mwL) : Option (mwM × mwL) :=
  (if 7 ≤ v2 then fX0_begin_h79 fu a1 fu (0, M, L) else mck v2 7 (mlet (mset M 25 (v2.toNatClampNeg) 0) (fun M4 => mck v2 7 (mlet (mset M4 30 (v2.toNatClampNeg) 0) (fun M7 => mck v2 7 (mlet (mset M7 31 (v2.toNatClampNeg) 0) (fun M10 => mlet (v2 + 1) (fun x11 => r37 (x11, M10, L)))))))))
noncomputable def fX0_begin_h37 (fu : Nat) (a1 : Int32) : Nat → (Int32 × mwM × mwL) → Option (mwM × mwL) := mloop (fun r37 s => fX0_begin_i37 fu a1 r37 s.1 s.2.1 s.2.2)
noncomputable def DX0_begin (fu : Nat) (a1 : Int32) (M : mwM) (L : mwL) : Option (mwM × mwL) :=
  mlet (mset M 20 8 (if 7 < a1 then 7 else a1)) (fun M16 => mlet (mset M16 20 9 0) (fun M17 => mlet (mset M17 20 10 0) (fun M18 => mlet (mset M18 20 11 0) (fun M19 => mlet (mset M19 20 12 0) (fun M20 => mlet (mset M20 20 13 1) (fun M21 => fX0_begin_h37 fu a1 fu (0, M21, L)))))))
noncomputable def fX0_tellError_b36 (fu : Nat) (a1 : Int32) (a2 : Int32) (s0 : Int32) (M : mwM) (L : mwL) : Option (Int32 × mwM × mwL) :=
  some (s0, M, L)
noncomputable def DX0_tellError (fu : Nat) (a1 : Int32) (a2 : Int32) (M : mwM) (L : mwL) : Option (Int32 × mwM × mwL) :=
  mck a1 17507 (mlet (M 23 a1.toNatClampNeg) (fun x2 => (if a2 = 0 then fX0_tellError_b36 fu a1 a2 (x2 &&& 7) M L else (if a2 = 1 then fX0_tellError_b36 fu a1 a2 ((x2 >>> (3 &&& 31)) &&& 7) M L else fX0_tellError_b36 fu a1 a2 (x2 >>> (6 &&& 31)) M L))))
noncomputable def fX0_send_i51 (fu : Nat) (a1 : Int32) (a2 : Int32) (a3 : Nat) (n3 : Nat) (r51 : (Int32 × mwM × mwL) → Option (Int32 × mwM × mwL)) (v4 : Int32) (M : mwM) (L : mwL) : Option (Int32 × mwM × mwL) :=
  (if 8 ≤ v4 then mlet (mset M 20 9 ((M 20 9) + 1)) (fun M2 => mck a1 7 (mck a1 7 (mlet (mset M2 30 (a1.toNatClampNeg) ((M2 30 a1.toNatClampNeg) + 1)) (fun M6 => mlet (mset M6 20 13 0) (fun M7 => some (1, M7, L)))))) else mck v4 n3 (mck ((8 * (M 20 9)) + v4) 1600 (mlet (mset M 46 (((8 * (M 20 9)) + v4).toNatClampNeg) (M a3 v4.toNatClampNeg)) (fun M10 => mlet (v4 + 1) (fun x11 => r51 (x11, M10, L))))))
noncomputable def fX0_send_h51 (fu : Nat) (a1 : Int32) (a2 : Int32) (a3 : Nat) (n3 : Nat) : Nat → (Int32 × mwM × mwL) → Option (Int32 × mwM × mwL) := mloop (fun r51 s => fX0_send_i51 fu a1 a2 a3 n3 r51 s.1 s.2.1 s.2.2)
noncomputable def DX0_send (fu : Nat) (a1 : Int32) (a2 : Int32) (a3 : Nat) (n3 : Nat) (M : mwM) (L : mwL) : Option (Int32 × mwM × mwL) :=
  (if (M 20 9) < 200 then mck (M 20 9) 200 (mlet (mset M 43 ((M 20 9).toNatClampNeg) a1) (fun M15 => mck (M15 20 9) 200 (mlet (mset M15 44 ((M15 20 9).toNatClampNeg) a2) (fun M18 => mck (M18 20 9) 200 (mlet (mset M18 45 ((M18 20 9).toNatClampNeg) 0) (fun M21 => fX0_send_h51 fu a1 a2 a3 n3 fu (0, M21, L))))))) else some (0, M, L))
noncomputable def fX0_isBefore_b43 (fu : Nat) (a1 : Int32) (a2 : Int32) (s0 : Int32) (M : mwM) (L : mwL) : Option (Int32 × mwM × mwL) :=
  mzz s0 (some (s0, M, L))
noncomputable def fX0_isBefore_b107 (fu : Nat) (a1 : Int32) (a2 : Int32) (s0 : Int32) (M : mwM) (L : mwL) : Option (Int32 × mwM × mwL) :=
  mzz s0 (some (s0, M, L))
noncomputable def fX0_isBefore_i46 (fu : Nat) (a1 : Int32) (a2 : Int32) (r46 : (Int32 × mwM × mwL) → Option (Int32 × mwM × mwL)) (v3 : Int32) (M : mwM) (L : mwL) : Option (Int32 × mwM × mwL) :=
  (if 8 ≤ v3 then some (0, M, L) else mck ((8 * a1) + v3) 1600 (mck ((8 * a2) + v3) 1600 ((if (M 46 ((8 * a1) + v3).toNatClampNeg) = (M 46 ((8 * a2) + v3).toNatClampNeg) then mlet (v3 + 1) (fun x6 => r46 (x6, M, L)) else mck ((8 * a1) + v3) 1600 (mck ((8 * a2) + v3) 1600 ((if (M 46 ((8 * a2) + v3).toNatClampNeg) ≤ (M 46 ((8 * a1) + v3).toNatClampNeg) then fX0_isBefore_b107 fu a1 a2 0 M L else fX0_isBefore_b107 fu a1 a2 1 M L)))))))
noncomputable def fX0_isBefore_h46 (fu : Nat) (a1 : Int32) (a2 : Int32) : Nat → (Int32 × mwM × mwL) → Option (Int32 × mwM × mwL) := mloop (fun r46 s => fX0_isBefore_i46 fu a1 a2 r46 s.1 s.2.1 s.2.2)
noncomputable def DX0_isBefore (fu : Nat) (a1 : Int32) (a2 : Int32) (M : mwM) (L : mwL) : Option (Int32 × mwM × mwL) :=
  mck a1 200 (mck a2 200 ((if (M 44 a1.toNatClampNeg) = (M 44 a2.toNatClampNeg) then fX0_isBefore_h46 fu a1 a2 fu (0, M, L) else mck a1 200 (mck a2 200 ((if (M 44 a2.toNatClampNeg) ≤ (M 44 a1.toNatClampNeg) then fX0_isBefore_b43 fu a1 a2 0 M L else fX0_isBefore_b43 fu a1 a2 1 M L))))))
noncomputable def fX0_plainBit_b75 (fu : Nat) (a1 : Int32) (a2 : Int32) (s0 : Int32) (M : mwM) (L : mwL) : Option (Int32 × mwM × mwL) :=
  some (s0, M, L)
noncomputable def fX0_plainBit_b64 (fu : Nat) (a1 : Int32) (a2 : Int32) (M : mwM) (L : mwL) : Option (Int32 × mwM × mwL) :=
  (if a2 = 15 then fX0_plainBit_b75 fu a1 a2 1 M L else fX0_plainBit_b75 fu a1 a2 0 M L)
noncomputable def DX0_plainBit (fu : Nat) (a1 : Int32) (a2 : Int32) (M : mwM) (L : mwL) : Option (Int32 × mwM × mwL) :=
  (if a2 < 19 then (if a2 < 1 then fX0_plainBit_b64 fu a1 a2 M L else (if 11 < a2 then fX0_plainBit_b64 fu a1 a2 M L else mck a1 200 (some (((M 44 a1.toNatClampNeg) >>> ((11 - a2) &&& 31)) &&& 1, M, L)))) else mck ((8 * a1) + ((a2 - 19) / 8)) 1600 (some (((M 46 ((8 * a1) + ((a2 - 19) / 8)).toNatClampNeg) >>> ((7 - ((a2 - 19) - (a2 - 19) / 8 * 8)) &&& 31)) &&& 1, M, L)))
noncomputable def fX0_layOut_i158 (fu : Nat) (a1 : Int32) (a2 : Int32) (r158 : (Int32 × Int32 × mwM × mwL) → Option (mwM × mwL)) (v3 : Int32) (v7 : Int32) (M : mwM) (L : mwL) : Option (mwM × mwL) :=
  (if 10 ≤ v7 then mck a1 7 (mlet (mset M 29 (a1.toNatClampNeg) (v3 + 10)) (fun M26 => some (M26, L))) else mck a1 7 (mck (v3 + v7) 140 (mlet (mset M (34 + a1.toNatClampNeg) ((v3 + v7).toNatClampNeg) 1) (fun M29 => mlet (v7 + 1) (fun x30 => r158 (v3, x30, M29, L))))))
noncomputable def fX0_layOut_h158 (fu : Nat) (a1 : Int32) (a2 : Int32) : Nat → (Int32 × Int32 × mwM × mwL) → Option (mwM × mwL) := mloop (fun r158 s => fX0_layOut_i158 fu a1 a2 r158 s.1 s.2.1 s.2.2.1 s.2.2.2)
noncomputable def fX0_layOut_b149 (fu : Nat) (a1 : Int32) (a2 : Int32) (r14 : (Int32 × Int32 × Int32 × Int32 × Int32 × mwM × mwL) → Option (mwM × mwL)) (v3 : Int32) (v4 : Int32) (v5 : Int32) (v6 : Int32) (v7 : Int32) (M : mwM) (L : mwL) : Option (mwM × mwL) :=
  mlet (v7 + 1) (fun x22 => r14 (v3, v4, v5, v6, x22, M, L))
noncomputable def fX0_layOut_b115 (fu : Nat) (a1 : Int32) (a2 : Int32) (r14 : (Int32 × Int32 × Int32 × Int32 × Int32 × mwM × mwL) → Option (mwM × mwL)) (v3 : Int32) (v4 : Int32) (v7 : Int32) (v8 : Int32) (s0 : Int32) (M : mwM) (L : mwL) : Option (mwM × mwL) :=
  (if s0 = 5 then mlet (1 - v8) (fun x17 => mck a1 7 (mck v3 140 (mlet (mset M (34 + a1.toNatClampNeg) (v3.toNatClampNeg) x17) (fun M20 => mlet (v3 + 1) (fun x21 => fX0_layOut_b149 fu a1 a2 r14 x21 v4 1 x17 v7 M20 L))))) else fX0_layOut_b149 fu a1 a2 r14 v3 v4 s0 v8 v7 M L)
noncomputable def fX0_layOut_b95 (fu : Nat) (a1 : Int32) (a2 : Int32) (r14 : (Int32 × Int32 × Int32 × Int32 × Int32 × mwM × mwL) → Option (mwM × mwL)) (v3 : Int32) (v4 : Int32) (v5 : Int32) (v6 : Int32) (v7 : Int32) (v8 : Int32) (s0 : Nat) (s1 : Int32) (s2 : Int32) (s3 : Int32) (M : mwM) (L : mwL) : Option (mwM × mwL) :=
  mck s1 140 (mlet (mset M s0 (s1.toNatClampNeg) (s2 ||| s3)) (fun M13 => mlet (v3 + 1) (fun x14 => (if v8 = v6 then fX0_layOut_b115 fu a1 a2 r14 x14 v4 v7 v8 (v5 + 1) M13 L else fX0_layOut_b115 fu a1 a2 r14 x14 v4 v7 v8 1 M13 L))))
noncomputable def fX0_layOut_b74 (fu : Nat) (a1 : Int32) (a2 : Int32) (r14 : (Int32 × Int32 × Int32 × Int32 × Int32 × mwM × mwL) → Option (mwM × mwL)) (v3 : Int32) (v4 : Int32) (v5 : Int32) (v6 : Int32) (v7 : Int32) (v8 : Int32) (M : mwM) (L : mwL) : Option (mwM × mwL) :=
  mck a1 7 ((if 13 < v7 then fX0_layOut_b95 fu a1 a2 r14 v3 v4 v5 v6 v7 v8 ((34 + a1.toNatClampNeg)) v3 v8 0 M L else fX0_layOut_b95 fu a1 a2 r14 v3 v4 v5 v6 v7 v8 ((34 + a1.toNatClampNeg)) v3 v8 2 M L))
noncomputable def fX0_layOut_b51 (fu : Nat) (a1 : Int32) (a2 : Int32) (r14 : (Int32 × Int32 × Int32 × Int32 × Int32 × mwM × mwL) → Option (mwM × mwL)) (v3 : Int32) (v4 : Int32) (v5 : Int32) (v6 : Int32) (v7 : Int32) (s0 : Int32) (M : mwM) (L : mwL) : Option (mwM × mwL) :=
  (if 83 ≤ v7 then fX0_layOut_b74 fu a1 a2 r14 v3 v4 v5 v6 v7 s0 M L else mb3 (DX5_nextCheck fu v4 s0 15 17817 M L) (fun r9 M7 L8 => fX0_layOut_b74 fu a1 a2 r14 v3 r9 v5 v6 v7 s0 M7 L8))
noncomputable def fX0_layOut_i14 (fu : Nat) (a1 : Int32) (a2 : Int32) (r14 : (Int32 × Int32 × Int32 × Int32 × Int32 × mwM × mwL) → Option (mwM × mwL)) (v3 : Int32) (v4 : Int32) (v5 : Int32) (v6 : Int32) (v7 : Int32) (M : mwM) (L : mwL) : Option (mwM × mwL) :=
  (if 98 ≤ v7 then fX0_layOut_h158 fu a1 a2 fu (v3, 0, M, L) else (if 83 ≤ v7 then fX0_layOut_b51 fu a1 a2 r14 v3 v4 v5 v6 v7 ((v4 >>> ((14 - (v7 - 83)) &&& 31)) &&& 1) M L else mb3 (DX0_plainBit fu a2 v7 M L) (fun r5 M3 L4 => fX0_layOut_b51 fu a1 a2 r14 v3 v4 v5 v6 v7 r5 M3 L4)))
noncomputable def fX0_layOut_h14 (fu : Nat) (a1 : Int32) (a2 : Int32) : Nat → (Int32 × Int32 × Int32 × Int32 × Int32 × mwM × mwL) → Option (mwM × mwL) := mloop (fun r14 s => fX0_layOut_i14 fu a1 a2 r14 s.1 s.2.1 s.2.2.1 s.2.2.2.1 s.2.2.2.2.1 s.2.2.2.2.2.1 s.2.2.2.2.2.2)
noncomputable def DX0_layOut (fu : Nat) (a1 : Int32) (a2 : Int32) (M : mwM) (L : mwL) : Option (mwM × mwL) :=
  fX0_layOut_h14 fu a1 a2 fu (0, 0, 0, 1, 0, M, L)
noncomputable def fX0_beginSending_b50 (fu : Nat) (a1 : Int32) (r4 : (Int32 × Int32 × mwM × mwL) → Option (mwM × mwL)) (v2 : Int32) (v3 : Int32) (M : mwM) (L : mwL) : Option (mwM × mwL) :=
  mlet (v3 + 1) (fun x26 => r4 (v2, x26, M, L))
noncomputable def fX0_beginSending_b48 (fu : Nat) (a1 : Int32) (r4 : (Int32 × Int32 × mwM × mwL) → Option (mwM × mwL)) (v3 : Int32) (M : mwM) (L : mwL) : Option (mwM × mwL) :=
  fX0_beginSending_b50 fu a1 r4 v3 v3 M L
noncomputable def fX0_beginSending_i4 (fu : Nat) (a1 : Int32) (r4 : (Int32 × Int32 × mwM × mwL) → Option (mwM × mwL)) (v2 : Int32) (v3 : Int32) (M : mwM) (L : mwL) : Option (mwM × mwL) :=
  (if (M 20 9) ≤ v3 then mck a1 7 (mlet (mset M 25 (a1.toNatClampNeg) 1) (fun M4 => mck a1 7 (mlet (mset M4 27 (a1.toNatClampNeg) (if v2 < 0 then 0 else v2)) (fun M7 => mck a1 7 (mlet (mset M7 28 (a1.toNatClampNeg) 0) (fun M10 => mck a1 7 (mb2 (DX0_layOut fu a1 (M10 27 a1.toNatClampNeg) M10 L) (fun M13 L14 => some (M13, L14))))))))) else mck v3 200 ((if (M 43 v3.toNatClampNeg) = a1 then mck v3 200 ((if (M 45 v3.toNatClampNeg) = 0 then (if v2 < 0 then fX0_beginSending_b48 fu a1 r4 v3 M L else mb3 (DX0_isBefore fu v3 v2 M L) (fun r24 M22 L23 => (if r24 = 0 then fX0_beginSending_b50 fu a1 r4 v2 v3 M22 L23 else fX0_beginSending_b48 fu a1 r4 v3 M22 L23))) else fX0_beginSending_b50 fu a1 r4 v2 v3 M L)) else fX0_beginSending_b50 fu a1 r4 v2 v3 M L)))
noncomputable def fX0_beginSending_h4 (fu : Nat) (a1 : Int32) : Nat → (Int32 × Int32 × mwM × mwL) → Option (mwM × mwL) := mloop (fun r4 s => fX0_beginSending_i4 fu a1 r4 s.1 s.2.1 s.2.2.1 s.2.2.2)
noncomputable def DX0_beginSending (fu : Nat) (a1 : Int32) (M : mwM) (L : mwL) : Option (mwM × mwL) :=
  fX0_beginSending_h4 fu a1 fu (((-1)), 0, M, L)
noncomputable def DX0_putOf (fu : Nat) (a1 : Int32) (M : mwM) (L : mwL) : Option (Int32 × mwM × mwL) :=
  mck a1 7 (mlet (M 25 a1.toNatClampNeg) (fun x3 => (if x3 = 0 then mck a1 7 ((if (M 30 a1.toNatClampNeg) = 0 then some (1, M, L) else mb2 (DX0_beginSending fu a1 M L) (fun M8 L9 => some (0, M8, L9)))) else if x3 = 1 then mck a1 7 (mck a1 7 (mck (M 28 a1.toNatClampNeg) 140 (some ((M (34 + a1.toNatClampNeg) (M 28 a1.toNatClampNeg).toNatClampNeg) &&& 1, M, L)))) else if x3 = 2 then mck a1 7 (mb3 (DX5_putBit fu ((47 + 2 * a1.toNatClampNeg)) M L) (fun r19 M17 L18 => some (r19, M17, L18))) else if x3 = 3 then some (0, M, L) else some (1, M, L))))
noncomputable def DX0_beginListening (fu : Nat) (a1 : Int32) (M : mwM) (L : mwL) : Option (mwM × mwL) :=
  mck a1 7 (mlet (mset M 25 (a1.toNatClampNeg) 2) (fun M3 => mck a1 7 (mb2 (DX5_begin fu ((47 + 2 * a1.toNatClampNeg)) M3 L) (fun M5 L6 => some (M5, L6)))))
noncomputable def fX0_isLosing_b38 (fu : Nat) (a1 : Int32) (a2 : Int32) (s0 : Int32) (M : mwM) (L : mwL) : Option (Int32 × mwM × mwL) :=
  mzz s0 (some (s0, M, L))
noncomputable def fX0_isLosing_b37 (fu : Nat) (a1 : Int32) (a2 : Int32) (M : mwM) (L : mwL) : Option (Int32 × mwM × mwL) :=
  fX0_isLosing_b38 fu a1 a2 0 M L
noncomputable def DX0_isLosing (fu : Nat) (a1 : Int32) (a2 : Int32) (M : mwM) (L : mwL) : Option (Int32 × mwM × mwL) :=
  mck a1 7 ((if (M 32 a1.toNatClampNeg) ≤ a2 then fX0_isLosing_b37 fu a1 a2 M L else mck a1 7 (mck a1 7 (mck (M 28 a1.toNatClampNeg) 140 ((if ((M (34 + a1.toNatClampNeg) (M 28 a1.toNatClampNeg).toNatClampNeg) &&& 2) = 0 then fX0_isLosing_b37 fu a1 a2 M L else fX0_isLosing_b38 fu a1 a2 1 M L))))))
noncomputable def fX0_loseArbitration_i7 (fu : Nat) (a1 : Int32) (r7 : (Int32 × mwM × mwL) → Option (mwM × mwL)) (v2 : Int32) (M : mwM) (L : mwL) : Option (mwM × mwL) :=
  mck a1 7 ((if (M 28 a1.toNatClampNeg) ≤ v2 then mck a1 7 (mb3 (DX5_hear fu ((47 + 2 * a1.toNatClampNeg)) 0 M L) (fun r8 M5 L6 => some (M5, L6))) else mck a1 7 (mck a1 7 (mck v2 140 (mb3 (DX5_hear fu ((47 + 2 * a1.toNatClampNeg)) ((M (34 + a1.toNatClampNeg) v2.toNatClampNeg) &&& 1) M L) (fun r14 M12 L13 => mlet (v2 + 1) (fun x15 => r7 (x15, M12, L13))))))))
noncomputable def fX0_loseArbitration_h7 (fu : Nat) (a1 : Int32) : Nat → (Int32 × mwM × mwL) → Option (mwM × mwL) := mloop (fun r7 s => fX0_loseArbitration_i7 fu a1 r7 s.1 s.2.1 s.2.2)
noncomputable def DX0_loseArbitration (fu : Nat) (a1 : Int32) (M : mwM) (L : mwL) : Option (mwM × mwL) :=
  mb2 (DX0_beginListening fu a1 M L) (fun M16 L17 => fX0_loseArbitration_h7 fu a1 fu (1, M16, L17))
noncomputable def DX0_become (fu : Nat) (a1 : Int32) (a2 : Int32) (a3 : Int32) (M : mwM) (L : mwL) : Option (mwM × mwL) :=
  mck a1 7 (mlet (mset M 25 (a1.toNatClampNeg) a2) (fun M3 => mck a1 7 (mlet (mset M3 26 (a1.toNatClampNeg) a3) (fun M6 => some (M6, L)))))
noncomputable def fX0_tellFault_b39 (fu : Nat) (a1 : Int32) (a2 : Int32) (a3 : Int32) (M : mwM) (L : mwL) : Option (mwM × mwL) :=
  mb2 (DX0_become fu a1 3 6 M L) (fun M1 L2 => some (M1, L2))
noncomputable def DX0_tellFault (fu : Nat) (a1 : Int32) (a2 : Int32) (a3 : Int32) (M : mwM) (L : mwL) : Option (mwM × mwL) :=
  (if 17507 ≤ (M 20 10) then fX0_tellFault_b39 fu a1 a2 a3 M L else mck (M 20 10) 17507 (mlet (mset M 23 ((M 20 10).toNatClampNeg) ((a2 ||| (a1 <<< (3 &&& 31))) ||| (a3 <<< (6 &&& 31)))) (fun M5 => mlet (mset M5 20 10 ((M5 20 10) + 1)) (fun M6 => fX0_tellFault_b39 fu a1 a2 a3 M6 L))))
noncomputable def DX0_endSending (fu : Nat) (a1 : Int32) (M : mwM) (L : mwL) : Option (mwM × mwL) :=
  mck a1 7 (mck (M 27 a1.toNatClampNeg) 200 (mlet (mset M 45 ((M 27 a1.toNatClampNeg).toNatClampNeg) 1) (fun M5 => mck a1 7 (mck a1 7 (mlet (mset M5 30 (a1.toNatClampNeg) ((M5 30 a1.toNatClampNeg) - 1)) (fun M9 => mlet (mset M9 20 11 ((M9 20 11) + 1)) (fun M10 => mb2 (DX0_become fu a1 6 3 M10 L) (fun M11 L12 => some (M11, L12)))))))))
noncomputable def fX0_seeSending_b115 (fu : Nat) (a1 : Int32) (a2 : Int32) (a3 : Int32) (M : mwM) (L : mwL) : Option (mwM × mwL) :=
  some (M, L)
noncomputable def fX0_seeSending_b79 (fu : Nat) (a1 : Int32) (a2 : Int32) (a3 : Int32) (M : mwM) (L : mwL) : Option (mwM × mwL) :=
  mck a1 7 (mck a1 7 (mlet (mset M 28 (a1.toNatClampNeg) ((M 28 a1.toNatClampNeg) + 1)) (fun M14 => mck a1 7 (mck a1 7 ((if (M14 28 a1.toNatClampNeg) < (M14 29 a1.toNatClampNeg) then fX0_seeSending_b115 fu a1 a2 a3 M14 L else mb2 (DX0_endSending fu a1 M14 L) (fun M20 L21 => fX0_seeSending_b115 fu a1 a2 a3 M20 L21)))))))
noncomputable def fX0_seeSending_b51 (fu : Nat) (a1 : Int32) (a2 : Int32) (a3 : Int32) (v4 : Int32) (M : mwM) (L : mwL) : Option (mwM × mwL) :=
  (if v4 = 0 then mck a1 7 ((if a2 = (M 32 a1.toNatClampNeg) then fX0_seeSending_b79 fu a1 a2 a3 M L else mb2 (DX0_tellFault fu a1 0 a3 M L) (fun M9 L10 => fX0_seeSending_b115 fu a1 a2 a3 M9 L10))) else fX0_seeSending_b79 fu a1 a2 a3 M L)
noncomputable def fX0_seeSending_b29 (fu : Nat) (a1 : Int32) (a2 : Int32) (a3 : Int32) (s0 : Int32) (M : mwM) (L : mwL) : Option (mwM × mwL) :=
  (if s0 = 0 then fX0_seeSending_b51 fu a1 a2 a3 s0 M L else (if a2 = 1 then mb2 (DX0_tellFault fu a1 4 a3 M L) (fun M3 L4 => fX0_seeSending_b115 fu a1 a2 a3 M3 L4) else fX0_seeSending_b51 fu a1 a2 a3 s0 M L))
noncomputable def DX0_seeSending (fu : Nat) (a1 : Int32) (a2 : Int32) (a3 : Int32) (M : mwM) (L : mwL) : Option (mwM × mwL) :=
  mck a1 7 (mck a1 7 ((if (M 28 a1.toNatClampNeg) = (((M 29 a1.toNatClampNeg) - 10) + 1) then fX0_seeSending_b29 fu a1 a2 a3 1 M L else fX0_seeSending_b29 fu a1 a2 a3 0 M L)))
