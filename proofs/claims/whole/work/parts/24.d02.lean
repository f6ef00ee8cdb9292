noncomputable def fX0_seeListening_b79 (fu : Nat) (a1 : Int32) (a2 : Int32) (a3 : Int32) (M : mwM) (L : mwL) : Option (mwM × mwL) :=
  some (M, L)
noncomputable def DX0_seeListening (fu : Nat) (a1 : Int32) (a2 : Int32) (a3 : Int32) (M : mwM) (L : mwL) : Option (mwM × mwL) :=
  mck a1 7 (mb3 (DX5_hear fu ((47 + 2 * a1.toNatClampNeg)) a2 M L) (fun r4 M2 L3 => (if r4 = ((-2)) then mck a1 7 (mck a1 7 (mlet (mset M2 31 (a1.toNatClampNeg) ((M2 31 a1.toNatClampNeg) + 1)) (fun M15 => mlet (mset M15 20 12 ((M15 20 12) ||| (1 <<< (a1 &&& 31)))) (fun M16 => fX0_seeListening_b79 fu a1 a2 a3 M16 L3)))) else (if r4 = ((-3)) then mb2 (DX0_become fu a1 6 3 M2 L3) (fun M10 L11 => fX0_seeListening_b79 fu a1 a2 a3 M10 L11) else (if r4 = ((-1)) then fX0_seeListening_b79 fu a1 a2 a3 M2 L3 else mb2 (DX0_tellFault fu a1 r4 a3 M2 L3) (fun M8 L9 => fX0_seeListening_b79 fu a1 a2 a3 M8 L9))))))
noncomputable def fX0_seeClearing_b60 (fu : Nat) (a1 : Int32) (a2 : Int32) (a3 : Int32) (M : mwM) (L : mwL) : Option (mwM × mwL) :=
  some (M, L)
noncomputable def fX0_seeClearing_b34 (fu : Nat) (a1 : Int32) (a2 : Int32) (a3 : Int32) (s2 : Int32) (M : mwM) (L : mwL) : Option (mwM × mwL) :=
  mb2 (DX0_tellFault fu a1 s2 a3 M L) (fun M1 L2 => fX0_seeClearing_b60 fu a1 a2 a3 M1 L2)
noncomputable def DX0_seeClearing (fu : Nat) (a1 : Int32) (a2 : Int32) (a3 : Int32) (M : mwM) (L : mwL) : Option (mwM × mwL) :=
  mck a1 7 (mck a1 7 (mlet (mset M 26 (a1.toNatClampNeg) ((M 26 a1.toNatClampNeg) - 1)) (fun M6 => (if a2 = 0 then mck a1 7 ((if (M6 26 a1.toNatClampNeg) = 0 then fX0_seeClearing_b34 fu a1 a2 a3 5 M6 L else fX0_seeClearing_b34 fu a1 a2 a3 2 M6 L)) else mck a1 7 ((if (M6 26 a1.toNatClampNeg) = 0 then mb2 (DX0_become fu a1 6 3 M6 L) (fun M11 L12 => fX0_seeClearing_b60 fu a1 a2 a3 M11 L12) else fX0_seeClearing_b60 fu a1 a2 a3 M6 L))))))
noncomputable def fX0_seePausing_b101 (fu : Nat) (a1 : Int32) (a2 : Int32) (a3 : Int32) (M : mwM) (L : mwL) : Option (mwM × mwL) :=
  some (M, L)
noncomputable def fX0_seePausing_b69 (fu : Nat) (a1 : Int32) (a2 : Int32) (a3 : Int32) (M : mwM) (L : mwL) : Option (mwM × mwL) :=
  (if a2 = 0 then mb2 (DX0_beginListening fu a1 M L) (fun M17 L18 => fX0_seePausing_b101 fu a1 a2 a3 M17 L18) else mck a1 7 ((if (M 26 a1.toNatClampNeg) = 0 then mck a1 7 (mlet (mset M 25 (a1.toNatClampNeg) 0) (fun M16 => fX0_seePausing_b101 fu a1 a2 a3 M16 L)) else fX0_seePausing_b101 fu a1 a2 a3 M L)))
noncomputable def fX0_seePausing_b37 (fu : Nat) (a1 : Int32) (a2 : Int32) (a3 : Int32) (M : mwM) (L : mwL) : Option (mwM × mwL) :=
  (if a2 = 0 then mck a1 7 ((if (M 30 a1.toNatClampNeg) ≤ 0 then fX0_seePausing_b69 fu a1 a2 a3 M L else mb2 (DX0_beginSending fu a1 M L) (fun M5 L6 => mck a1 7 (mlet (mset M5 28 (a1.toNatClampNeg) 1) (fun M9 => fX0_seePausing_b101 fu a1 a2 a3 M9 L6))))) else fX0_seePausing_b69 fu a1 a2 a3 M L)
noncomputable def DX0_seePausing (fu : Nat) (a1 : Int32) (a2 : Int32) (a3 : Int32) (M : mwM) (L : mwL) : Option (mwM × mwL) :=
  mck a1 7 (mck a1 7 (mlet (mset M 26 (a1.toNatClampNeg) ((M 26 a1.toNatClampNeg) - 1)) (fun M22 => (if a2 = 0 then mck a1 7 ((if (M22 26 a1.toNatClampNeg) ≤ 0 then fX0_seePausing_b37 fu a1 a2 a3 M22 L else mb2 (DX0_tellFault fu a1 5 a3 M22 L) (fun M27 L28 => fX0_seePausing_b101 fu a1 a2 a3 M27 L28))) else fX0_seePausing_b37 fu a1 a2 a3 M22 L))))
noncomputable def fX0_see_b165 (fu : Nat) (a1 : Int32) (a2 : Int32) (a3 : Int32) (M : mwM) (L : mwL) : Option (mwM × mwL) :=
  some (M, L)
noncomputable def DX0_see (fu : Nat) (a1 : Int32) (a2 : Int32) (a3 : Int32) (M : mwM) (L : mwL) : Option (mwM × mwL) :=
  mck a1 7 (mlet (M 25 a1.toNatClampNeg) (fun x3 => (if x3 = 0 then (if a2 = 0 then mb2 (DX0_beginListening fu a1 M L) (fun M6 L7 => fX0_see_b165 fu a1 a2 a3 M6 L7) else fX0_see_b165 fu a1 a2 a3 M L) else if x3 = 1 then mb3 (DX0_isLosing fu a1 a2 M L) (fun r11 M9 L10 => (if r11 = 0 then mb2 (DX0_seeSending fu a1 a2 a3 M9 L10) (fun M13 L14 => fX0_see_b165 fu a1 a2 a3 M13 L14) else mb2 (DX0_loseArbitration fu a1 M9 L10) (fun M15 L16 => fX0_see_b165 fu a1 a2 a3 M15 L16))) else if x3 = 2 then mb2 (DX0_seeListening fu a1 a2 a3 M L) (fun M18 L19 => fX0_see_b165 fu a1 a2 a3 M18 L19) else if x3 = 3 then mck a1 7 (mck a1 7 (mlet (mset M 26 (a1.toNatClampNeg) ((M 26 a1.toNatClampNeg) - 1)) (fun M24 => mck a1 7 ((if (M24 26 a1.toNatClampNeg) = 0 then mck a1 7 (mlet (mset M24 25 (a1.toNatClampNeg) 4) (fun M30 => fX0_see_b165 fu a1 a2 a3 M30 L)) else fX0_see_b165 fu a1 a2 a3 M24 L))))) else if x3 = 4 then (if a2 = 1 then mb2 (DX0_become fu a1 5 7 M L) (fun M33 L34 => fX0_see_b165 fu a1 a2 a3 M33 L34) else fX0_see_b165 fu a1 a2 a3 M L) else if x3 = 5 then mb2 (DX0_seeClearing fu a1 a2 a3 M L) (fun M36 L37 => fX0_see_b165 fu a1 a2 a3 M36 L37) else mb2 (DX0_seePausing fu a1 a2 a3 M L) (fun M38 L39 => fX0_see_b165 fu a1 a2 a3 M38 L39))))
noncomputable def fX0_passBit_b146 (fu : Nat) (a1 : Int32) (r88 : (Int32 × Int32 × mwM × mwL) → Option (mwM × mwL)) (v2 : Int32) (v3 : Int32) (s1 : Int32) (s2 : Int32) (M : mwM) (L : mwL) : Option (mwM × mwL) :=
  mzz (s1 &&& s2) (mlet (mset M 20 13 (s1 &&& s2)) (fun M26 => mlet (v3 + 1) (fun x27 => r88 (v2, x27, M26, L))))
noncomputable def fX0_passBit_b145 (fu : Nat) (a1 : Int32) (r88 : (Int32 × Int32 × mwM × mwL) → Option (mwM × mwL)) (v2 : Int32) (v3 : Int32) (s1 : Int32) (M : mwM) (L : mwL) : Option (mwM × mwL) :=
  fX0_passBit_b146 fu a1 r88 v2 v3 s1 0 M L
noncomputable def fX0_passBit_i88 (fu : Nat) (a1 : Int32) (r88 : (Int32 × Int32 × mwM × mwL) → Option (mwM × mwL)) (v2 : Int32) (v3 : Int32) (M : mwM) (L : mwL) : Option (mwM × mwL) :=
  (if (M 20 8) ≤ v3 then some (M, L) else mck a1 20000 (mb2 (DX0_see fu v3 (v2 ^^^ (((M 22 a1.toNatClampNeg) >>> (v3 &&& 31)) &&& 1)) a1 M L) (fun M17 L18 => mck v3 7 ((if (M17 25 v3.toNatClampNeg) = 0 then mck v3 7 ((if (M17 30 v3.toNatClampNeg) = 0 then fX0_passBit_b146 fu a1 r88 v2 v3 (M17 20 13) 1 M17 L18 else fX0_passBit_b145 fu a1 r88 v2 v3 (M17 20 13) M17 L18)) else fX0_passBit_b145 fu a1 r88 v2 v3 (M17 20 13) M17 L18)))))
noncomputable def fX0_passBit_h88 (fu : Nat) (a1 : Int32) : Nat → (Int32 × Int32 × mwM × mwL) → Option (mwM × mwL) := mloop (fun r88 s => fX0_passBit_i88 fu a1 r88 s.1 s.2.1 s.2.2.1 s.2.2.2)
noncomputable def fX0_passBit_i33 (fu : Nat) (a1 : Int32) (r33 : (Int32 × Int32 × mwM × mwL) → Option (mwM × mwL)) (v2 : Int32) (v3 : Int32) (M : mwM) (L : mwL) : Option (mwM × mwL) :=
  (if (M 20 8) ≤ v3 then mck a1 20000 (mlet (mset M 21 (a1.toNatClampNeg) (vp_nar .byte v2.toInt8.toInt32)) (fun M3 => mlet (mset M3 20 13 1) (fun M4 => fX0_passBit_h88 fu a1 fu (v2, 0, M4, L)))) else mb3 (DX0_putOf fu v3 M L) (fun r8 M6 L7 => mck v3 7 (mlet (mset M6 32 (v3.toNatClampNeg) r8) (fun M10 => mck v3 7 (mlet (v2 &&& (M10 32 v3.toNatClampNeg)) (fun x13 => mlet (v3 + 1) (fun x14 => r33 (x13, x14, M10, L7))))))))
noncomputable def fX0_passBit_h33 (fu : Nat) (a1 : Int32) : Nat → (Int32 × Int32 × mwM × mwL) → Option (mwM × mwL) := mloop (fun r33 s => fX0_passBit_i33 fu a1 r33 s.1 s.2.1 s.2.2.1 s.2.2.2)
noncomputable def fX0_passBit_b29 (fu : Nat) (a1 : Int32) (M : mwM) (L : mwL) : Option (mwM × mwL) :=
  fX0_passBit_h33 fu a1 fu (1, 0, M, L)
noncomputable def DX0_passBit (fu : Nat) (a1 : Int32) (M : mwM) (L : mwL) : Option (mwM × mwL) :=
  mlet (mset M 20 12 0) (fun M28 => mck a1 20000 (mlet (mset M28 21 (a1.toNatClampNeg) (vp_nar .byte 1)) (fun M30 => (if (M30 20 13) = 0 then fX0_passBit_b29 fu a1 M30 L else mck a1 20000 ((if (M30 22 a1.toNatClampNeg) = 0 then some (M30, L) else fX0_passBit_b29 fu a1 M30 L))))))
noncomputable def DX6_clear (fu : Nat) (M : mwM) (L : mwL) : Option (mwM × mwL) :=
  mlet (mset M 61 10 0) (fun M1 => mlet (mset M1 61 11 0) (fun M2 => mlet (mset M2 61 12 0) (fun M3 => mlet (mset M3 61 14 1000000) (fun M4 => some (M4, L)))))
noncomputable def fX6_addSignal_b93 (fu : Nat) (a1 : Int32) (a2 : Int32) (a3 : Int32) (a4 : Int32) (a5 : Int32) (a6 : Int32) (a7 : Int32) (s1 : Int32) (s2 : Int32) (M : mwM) (L : mwL) : Option (mwM × mwL) :=
  mck s1 40 (mlet (mset M 67 (s1.toNatClampNeg) s2) (fun M2 => mck (M2 61 10) 40 (mlet (mset M2 68 ((M2 61 10).toNatClampNeg) a7) (fun M5 => mlet (mset M5 61 10 ((M5 61 10) + 1)) (fun M6 => some (M6, L))))))
noncomputable def DX6_addSignal (fu : Nat) (a1 : Int32) (a2 : Int32) (a3 : Int32) (a4 : Int32) (a5 : Int32) (a6 : Int32) (a7 : Int32) (M : mwM) (L : mwL) : Option (mwM × mwL) :=
  (if (M 61 10) < 40 then mck (M 61 10) 40 (mlet (mset M 69 ((M 61 10).toNatClampNeg) a1) (fun M10 => mck (M10 61 10) 40 (mlet (mset M10 63 ((M10 61 10).toNatClampNeg) a2) (fun M13 => mck (M13 61 10) 40 (mlet (mset M13 64 ((M13 61 10).toNatClampNeg) a3) (fun M16 => mck (M16 61 10) 40 (mlet (mset M16 65 ((M16 61 10).toNatClampNeg) a4) (fun M19 => mck (M19 61 10) 40 (mlet (mset M19 66 ((M19 61 10).toNatClampNeg) a5) (fun M22 => (if a6 = 0 then fX6_addSignal_b93 fu a1 a2 a3 a4 a5 a6 a7 (M22 61 10) 0 M22 L else fX6_addSignal_b93 fu a1 a2 a3 a4 a5 a6 a7 (M22 61 10) 1 M22 L))))))))))) else some (M, L))
noncomputable def DX6_addKey (fu : Nat) (a1 : Int32) (a2 : Int32) (a3 : Int32) (M : mwM) (L : mwL) : Option (mwM × mwL) :=
  (if (M 61 12) < 400 then mck (M 61 12) 400 (mlet (mset M 82 ((M 61 12).toNatClampNeg) a1) (fun M4 => mck (M4 61 12) 400 (mlet (mset M4 83 ((M4 61 12).toNatClampNeg) a2) (fun M7 => mck (M7 61 12) 400 (mlet (mset M7 84 ((M7 61 12).toNatClampNeg) a3) (fun M10 => mlet (mset M10 61 12 ((M10 61 12) + 1)) (fun M11 => some (M11, L)))))))) else some (M, L))
noncomputable def fX6_keyOf_b43 (fu : Nat) (a1 : Int32) (a2 : Int32) (r2 : (Int32 × mwM × mwL) → Option (Int32 × mwM × mwL)) (v3 : Int32) (M : mwM) (L : mwL) : Option (Int32 × mwM × mwL) :=
  mlet (v3 + 1) (fun x10 => r2 (x10, M, L))
noncomputable def fX6_keyOf_i2 (fu : Nat) (a1 : Int32) (a2 : Int32) (r2 : (Int32 × mwM × mwL) → Option (Int32 × mwM × mwL)) (v3 : Int32) (M : mwM) (L : mwL) : Option (Int32 × mwM × mwL) :=
  (if (M 61 12) ≤ v3 then some (0, M, L) else mck v3 400 ((if (M 82 v3.toNatClampNeg) = a1 then mck v3 400 ((if (M 83 v3.toNatClampNeg) = a2 then mck v3 400 (some (M 84 v3.toNatClampNeg, M, L)) else fX6_keyOf_b43 fu a1 a2 r2 v3 M L)) else fX6_keyOf_b43 fu a1 a2 r2 v3 M L)))
noncomputable def fX6_keyOf_h2 (fu : Nat) (a1 : Int32) (a2 : Int32) : Nat → (Int32 × mwM × mwL) → Option (Int32 × mwM × mwL) := mloop (fun r2 s => fX6_keyOf_i2 fu a1 a2 r2 s.1 s.2.1 s.2.2)
noncomputable def DX6_keyOf (fu : Nat) (a1 : Int32) (a2 : Int32) (M : mwM) (L : mwL) : Option (Int32 × mwM × mwL) :=
  fX6_keyOf_h2 fu a1 a2 fu (0, M, L)
noncomputable def DX6_octetsOf (fu : Nat) (a1 : Int32) (M : mwM) (L : mwL) : Option (Int32 × mwM × mwL) :=
  mck a1 40 (some (((M 63 a1.toNatClampNeg) + 7) / 8, M, L))
noncomputable def fX6_findTooLarge_b68 (fu : Nat) (a1 : Int32) (r2 : (Int32 × mwM × mwL) → Option (Int32 × mwM × mwL)) (r9 : (Int32 × Int32 × mwM × mwL) → Option (Int32 × mwM × mwL)) (v2 : Int32) (v3 : Int32) (M : mwM) (L : mwL) : Option (Int32 × mwM × mwL) :=
  mlet (v3 + 1) (fun x18 => r9 (v2, x18, M, L))
noncomputable def fX6_findTooLarge_b50 (fu : Nat) (a1 : Int32) (r2 : (Int32 × mwM × mwL) → Option (Int32 × mwM × mwL)) (r9 : (Int32 × Int32 × mwM × mwL) → Option (Int32 × mwM × mwL)) (v2 : Int32) (v3 : Int32) (s0 : Int32) (M : mwM) (L : mwL) : Option (Int32 × mwM × mwL) :=
  (if s0 = 0 then fX6_findTooLarge_b68 fu a1 r2 r9 v2 v3 M L else mb3 (DX6_octetsOf fu v3 M L) (fun r16 M14 L15 => (if r16 ≤ 3 then fX6_findTooLarge_b68 fu a1 r2 r9 v2 v3 M14 L15 else some (v3, M14, L15))))
noncomputable def fX6_findTooLarge_b49 (fu : Nat) (a1 : Int32) (r2 : (Int32 × mwM × mwL) → Option (Int32 × mwM × mwL)) (r9 : (Int32 × Int32 × mwM × mwL) → Option (Int32 × mwM × mwL)) (v2 : Int32) (v3 : Int32) (M : mwM) (L : mwL) : Option (Int32 × mwM × mwL) :=
  fX6_findTooLarge_b50 fu a1 r2 r9 v2 v3 0 M L
noncomputable def fX6_findTooLarge_i9 (fu : Nat) (a1 : Int32) (r2 : (Int32 × mwM × mwL) → Option (Int32 × mwM × mwL)) (r9 : (Int32 × Int32 × mwM × mwL) → Option (Int32 × mwM × mwL)) (v2 : Int32) (v3 : Int32) (M : mwM) (L : mwL) : Option (Int32 × mwM × mwL) :=
  (if (M 61 10) ≤ v3 then mlet (v2 + 1) (fun x3 => r2 (x3, M, L)) else mck v3 40 ((if (M 68 v3.toNatClampNeg) = v2 then mck v3 40 (mb3 (DX6_keyOf fu v2 (M 66 v3.toNatClampNeg) M L) (fun r11 M9 L10 => (if r11 = 0 then fX6_findTooLarge_b49 fu a1 r2 r9 v2 v3 M9 L10 else fX6_findTooLarge_b50 fu a1 r2 r9 v2 v3 1 M9 L10))) else fX6_findTooLarge_b49 fu a1 r2 r9 v2 v3 M L)))
noncomputable def fX6_findTooLarge_h9 (fu : Nat) (a1 : Int32) (r2 : (Int32 × mwM × mwL) → Option (Int32 × mwM × mwL)) : Nat → (Int32 × Int32 × mwM × mwL) → Option (Int32 × mwM × mwL) := mloop (fun r9 s => fX6_findTooLarge_i9 fu a1 r2 r9 s.1 s.2.1 s.2.2.1 s.2.2.2)
noncomputable def fX6_findTooLarge_i2 (fu : Nat) (a1 : Int32) (r2 : (Int32 × mwM × mwL) → Option (Int32 × mwM × mwL)) (v2 : Int32) (M : mwM) (L : mwL) : Option (Int32 × mwM × mwL) :=
  (if a1 ≤ v2 then some ((-1), M, L) else fX6_findTooLarge_h9 fu a1 r2 fu (v2, 0, M, L))
noncomputable def fX6_findTooLarge_h2 (fu : Nat) (a1 : Int32) : Nat → (Int32 × mwM × mwL) → Option (Int32 × mwM × mwL) := mloop (fun r2 s => fX6_findTooLarge_i2 fu a1 r2 s.1 s.2.1 s.2.2)
noncomputable def DX6_findTooLarge (fu : Nat) (a1 : Int32) (M : mwM) (L : mwL) : Option (Int32 × mwM × mwL) :=
  fX6_findTooLarge_h2 fu a1 fu (0, M, L)
noncomputable def fX6_isOf_b38 (fu : Nat) (a1 : Int32) (a2 : Int32) (a3 : Int32) (s0 : Int32) (M : mwM) (L : mwL) : Option (Int32 × mwM × mwL) :=
  mzz s0 (some (s0, M, L))
noncomputable def fX6_isOf_b37 (fu : Nat) (a1 : Int32) (a2 : Int32) (a3 : Int32) (M : mwM) (L : mwL) : Option (Int32 × mwM × mwL) :=
  fX6_isOf_b38 fu a1 a2 a3 0 M L
noncomputable def fX6_isOf_b29 (fu : Nat) (a1 : Int32) (a2 : Int32) (a3 : Int32) (s0 : Int32) (M : mwM) (L : mwL) : Option (Int32 × mwM × mwL) :=
  (if s0 = a3 then fX6_isOf_b38 fu a1 a2 a3 1 M L else fX6_isOf_b37 fu a1 a2 a3 M L)
noncomputable def DX6_isOf (fu : Nat) (a1 : Int32) (a2 : Int32) (a3 : Int32) (M : mwM) (L : mwL) : Option (Int32 × mwM × mwL) :=
  mck a1 40 ((if (M 68 a1.toNatClampNeg) = a2 then mck a1 40 ((if (M 70 a1.toNatClampNeg) = 0 then fX6_isOf_b29 fu a1 a2 a3 0 M L else fX6_isOf_b29 fu a1 a2 a3 1 M L)) else fX6_isOf_b37 fu a1 a2 a3 M L))
noncomputable def fX6_nextPeriod_b56 (fu : Nat) (a1 : Int32) (a2 : Int32) (a3 : Int32) (r7 : (Int32 × Int32 × mwM × mwL) → Option (Int32 × mwM × mwL)) (v4 : Int32) (v5 : Int32) (M : mwM) (L : mwL) : Option (Int32 × mwM × mwL) :=
  mlet (v5 + 1) (fun x12 => r7 (v4, x12, M, L))
noncomputable def fX6_nextPeriod_i7 (fu : Nat) (a1 : Int32) (a2 : Int32) (a3 : Int32) (r7 : (Int32 × Int32 × mwM × mwL) → Option (Int32 × mwM × mwL)) (v4 : Int32) (v5 : Int32) (M : mwM) (L : mwL) : Option (Int32 × mwM × mwL) :=
  (if (M 61 10) ≤ v5 then some (v4, M, L) else mb3 (DX6_isOf fu v5 a1 a2 M L) (fun r4 M2 L3 => (if r4 = 0 then fX6_nextPeriod_b56 fu a1 a2 a3 r7 v4 v5 M2 L3 else mck v5 40 ((if (M2 66 v5.toNatClampNeg) ≤ a3 then fX6_nextPeriod_b56 fu a1 a2 a3 r7 v4 v5 M2 L3 else mck v5 40 (mlet (if (M2 66 v5.toNatClampNeg) < v4 then (M2 66 v5.toNatClampNeg) else v4) (fun x11 => fX6_nextPeriod_b56 fu a1 a2 a3 r7 x11 v5 M2 L3)))))))
noncomputable def fX6_nextPeriod_h7 (fu : Nat) (a1 : Int32) (a2 : Int32) (a3 : Int32) : Nat → (Int32 × Int32 × mwM × mwL) → Option (Int32 × mwM × mwL) := mloop (fun r7 s => fX6_nextPeriod_i7 fu a1 a2 a3 r7 s.1 s.2.1 s.2.2.1 s.2.2.2)
noncomputable def DX6_nextPeriod (fu : Nat) (a1 : Int32) (a2 : Int32) (a3 : Int32) (M : mwM) (L : mwL) : Option (Int32 × mwM × mwL) :=
  fX6_nextPeriod_h7 fu a1 a2 a3 fu (1000000, 0, M, L)
noncomputable def fX6_collectGroups_b115 (fu : Nat) (a1 : Int32) (a2 : Int32) (a3 : Int32) (r8 : (Int32 × mwM × mwL) → Option (mwM × mwL)) (v4 : Int32) (M : mwM) (L : mwL) : Option (mwM × mwL) :=
  mlet (v4 + 1) (fun x26 => r8 (x26, M, L))
noncomputable def fX6_collectGroups_b96 (fu : Nat) (a1 : Int32) (a2 : Int32) (a3 : Int32) (r8 : (Int32 × mwM × mwL) → Option (mwM × mwL)) (v4 : Int32) (v5 : Int32) (M : mwM) (L : mwL) : Option (mwM × mwL) :=
  mck v5 40 (mlet (mset M 92 (v5.toNatClampNeg) v4) (fun M24 => mlet (mset M24 61 13 ((M24 61 13) + 1)) (fun M25 => fX6_collectGroups_b115 fu a1 a2 a3 r8 v4 M25 L)))
noncomputable def fX6_collectGroups_i47 (fu : Nat) (a1 : Int32) (a2 : Int32) (a3 : Int32) (r8 : (Int32 × mwM × mwL) → Option (mwM × mwL)) (r47 : (Int32 × Int32 × mwM × mwL) → Option (mwM × mwL)) (v4 : Int32) (v5 : Int32) (M : mwM) (L : mwL) : Option (mwM × mwL) :=
  (if v5 ≤ 0 then fX6_collectGroups_b96 fu a1 a2 a3 r8 v4 v5 M L else mck (v5 - 1) 40 (mb3 (DX6_octetsOf fu (M 92 (v5 - 1).toNatClampNeg) M L) (fun r14 M12 L13 => mb3 (DX6_octetsOf fu v4 M12 L13) (fun r17 M15 L16 => (if r17 ≤ r14 then fX6_collectGroups_b96 fu a1 a2 a3 r8 v4 v5 M15 L16 else mck (v5 - 1) 40 (mck v5 40 (mlet (mset M15 92 (v5.toNatClampNeg) (M15 92 (v5 - 1).toNatClampNeg)) (fun M21 => mlet (v5 + (-1)) (fun x22 => r47 (v4, x22, M21, L16))))))))))
noncomputable def fX6_collectGroups_h47 (fu : Nat) (a1 : Int32) (a2 : Int32) (a3 : Int32) (r8 : (Int32 × mwM × mwL) → Option (mwM × mwL)) : Nat → (Int32 × Int32 × mwM × mwL) → Option (mwM × mwL) := mloop (fun r47 s => fX6_collectGroups_i47 fu a1 a2 a3 r8 r47 s.1 s.2.1 s.2.2.1 s.2.2.2)
noncomputable def fX6_collectGroups_i8 (fu : Nat) (a1 : Int32) (a2 : Int32) (a3 : Int32) (r8 : (Int32 × mwM × mwL) → Option (mwM × mwL)) (v4 : Int32) (M : mwM) (L : mwL) : Option (mwM × mwL) :=
  (if (M 61 10) ≤ v4 then some (M, L) else mb3 (DX6_isOf fu v4 a1 a2 M L) (fun r4 M2 L3 => (if r4 = 0 then fX6_collectGroups_b115 fu a1 a2 a3 r8 v4 M2 L3 else mck v4 40 ((if (M2 66 v4.toNatClampNeg) = a3 then mlet (M2 61 13) (fun x9 => fX6_collectGroups_h47 fu a1 a2 a3 r8 fu (v4, x9, M2, L3)) else fX6_collectGroups_b115 fu a1 a2 a3 r8 v4 M2 L3)))))
noncomputable def fX6_collectGroups_h8 (fu : Nat) (a1 : Int32) (a2 : Int32) (a3 : Int32) : Nat → (Int32 × mwM × mwL) → Option (mwM × mwL) := mloop (fun r8 s => fX6_collectGroups_i8 fu a1 a2 a3 r8 s.1 s.2.1 s.2.2)
noncomputable def DX6_collectGroups (fu : Nat) (a1 : Int32) (a2 : Int32) (a3 : Int32) (M : mwM) (L : mwL) : Option (mwM × mwL) :=
  mlet (mset M 61 13 0) (fun M27 => fX6_collectGroups_h8 fu a1 a2 a3 fu (0, M27, L))
noncomputable def fX6_emptyFrames_i2 (fu : Nat) (r2 : (Int32 × mwM × mwL) → Option (mwM × mwL)) (v1 : Int32) (M : mwM) (L : mwL) : Option (mwM × mwL) :=
  (if (M 61 13) ≤ v1 then some (M, L) else mck v1 40 (mlet (mset M 94 (v1.toNatClampNeg) 0) (fun M3 => mlet (v1 + 1) (fun x4 => r2 (x4, M3, L)))))
noncomputable def fX6_emptyFrames_h2 (fu : Nat) : Nat → (Int32 × mwM × mwL) → Option (mwM × mwL) := mloop (fun r2 s => fX6_emptyFrames_i2 fu r2 s.1 s.2.1 s.2.2)
noncomputable def DX6_emptyFrames (fu : Nat) (M : mwM) (L : mwL) : Option (mwM × mwL) :=
  fX6_emptyFrames_h2 fu fu (0, M, L)
noncomputable def fX6_fits_b121 (fu : Nat) (rs : Int32 → Int32 → Int32 → Int32 → mwM → mwL → Option (Int32 × mwM × mwL)) (a1 : Int32) (a2 : Int32) (a3 : Int32) (a4 : Int32) (M : mwM) (L : mwL) : Option (Int32 × mwM × mwL) :=
  some (0, M, L)
noncomputable def fX6_fits_b115 (fu : Nat) (rs : Int32 → Int32 → Int32 → Int32 → mwM → mwL → Option (Int32 × mwM × mwL)) (a1 : Int32) (a2 : Int32) (a3 : Int32) (a4 : Int32) (r33 : (Int32 × Int32 × mwM × mwL) → Option (Int32 × mwM × mwL)) (v5 : Int32) (v6 : Int32) (M : mwM) (L : mwL) : Option (Int32 × mwM × mwL) :=
  mlet (v6 + 1) (fun x22 => r33 (v5, x22, M, L))
noncomputable def fX6_fits_i33 (fu : Nat) (rs : Int32 → Int32 → Int32 → Int32 → mwM → mwL → Option (Int32 × mwM × mwL)) (a1 : Int32) (a2 : Int32) (a3 : Int32) (a4 : Int32) (r33 : (Int32 × Int32 × mwM × mwL) → Option (Int32 × mwM × mwL)) (v5 : Int32) (v6 : Int32) (M : mwM) (L : mwL) : Option (Int32 × mwM × mwL) :=
  (if a2 < v6 then fX6_fits_b121 fu rs a1 a2 a3 a4 M L else (if a3 ≤ v6 then fX6_fits_b121 fu rs a1 a2 a3 a4 M L else mck v6 40 ((if a4 < ((M 94 v6.toNatClampNeg) + v5) then fX6_fits_b115 fu rs a1 a2 a3 a4 r33 v5 v6 M L else mck v6 40 (mck v6 40 (mlet (mset M 94 (v6.toNatClampNeg) ((M 94 v6.toNatClampNeg) + v5)) (fun M12 => mck a1 40 (mlet (mset M12 93 (a1.toNatClampNeg) v6) (fun M14 => mb3 (rs (a1 + 1) (if a2 < (v6 + 1) then (v6 + 1) else a2) a3 a4 M14 L) (fun r17 M15 L16 => (if r17 = 0 then mck v6 40 (mck v6 40 (mlet (mset M15 94 (v6.toNatClampNeg) ((M15 94 v6.toNatClampNeg) - v5)) (fun M21 => fX6_fits_b115 fu rs a1 a2 a3 a4 r33 v5 v6 M21 L16))) else some (1, M15, L16))))))))))))
noncomputable def fX6_fits_h33 (fu : Nat) (rs : Int32 → Int32 → Int32 → Int32 → mwM → mwL → Option (Int32 × mwM × mwL)) (a1 : Int32) (a2 : Int32) (a3 : Int32) (a4 : Int32) : Nat → (Int32 × Int32 × mwM × mwL) → Option (Int32 × mwM × mwL) := mloop (fun r33 s => fX6_fits_i33 fu rs a1 a2 a3 a4 r33 s.1 s.2.1 s.2.2.1 s.2.2.2)
noncomputable def fX6_fits_b8 (fu : Nat) (rs : Int32 → Int32 → Int32 → Int32 → mwM → mwL → Option (Int32 × mwM × mwL)) (a1 : Int32) (a2 : Int32) (a3 : Int32) (a4 : Int32) (M : mwM) (L : mwL) : Option (Int32 × mwM × mwL) :=
  (if a1 < (M 61 13) then mck a1 40 (mb3 (DX6_octetsOf fu (M 92 a1.toNatClampNeg) M L) (fun r5 M3 L4 => fX6_fits_h33 fu rs a1 a2 a3 a4 fu (r5, 0, M3, L4))) else some (1, M, L))
noncomputable def BX6_fits (fu : Nat) (rs : Int32 → Int32 → Int32 → Int32 → mwM → mwL → Option (Int32 × mwM × mwL)) (a1 : Int32) (a2 : Int32) (a3 : Int32) (a4 : Int32) (M : mwM) (L : mwL) : Option (Int32 × mwM × mwL) :=
  (if a1 = 0 then mb2 (DX6_emptyFrames fu M L) (fun M24 L25 => fX6_fits_b8 fu rs a1 a2 a3 a4 M24 L25) else fX6_fits_b8 fu rs a1 a2 a3 a4 M L)
noncomputable def DX6_fits (fu : Nat) : Nat → Int32 → Int32 → Int32 → Int32 → mwM → mwL → Option (Int32 × mwM × mwL)
  | 0 => fun _ _ _ _ _ _ => none
  | dp + 1 => BX6_fits fu (DX6_fits fu dp)
noncomputable def fX6_packBest_i2 (fu : Nat) (a1 : Int32) (r2 : (Int32 × mwM × mwL) → Option (Int32 × mwM × mwL)) (v2 : Int32) (M : mwM) (L : mwL) : Option (Int32 × mwM × mwL) :=
  (if (M 61 13) ≤ v2 then mb3 (DX6_fits fu 42 0 0 (M 61 13) a1 M L) (fun r4 M2 L3 => some (M2 61 13, M2, L3)) else mb3 (DX6_fits fu 42 0 0 v2 a1 M L) (fun r7 M5 L6 => (if r7 = 0 then mlet (v2 + 1) (fun x9 => r2 (x9, M5, L6)) else some (v2, M5, L6))))
noncomputable def fX6_packBest_h2 (fu : Nat) (a1 : Int32) : Nat → (Int32 × mwM × mwL) → Option (Int32 × mwM × mwL) := mloop (fun r2 s => fX6_packBest_i2 fu a1 r2 s.1 s.2.1 s.2.2)
noncomputable def DX6_packBest (fu : Nat) (a1 : Int32) (M : mwM) (L : mwL) : Option (Int32 × mwM × mwL) :=
  fX6_packBest_h2 fu a1 fu (1, M, L)
noncomputable def fX6_packFirstFit_b57 (fu : Nat) (a1 : Int32) (r8 : (Int32 × Int32 × mwM × mwL) → Option (Int32 × mwM × mwL)) (v2 : Int32) (v3 : Int32) (v4 : Int32) (v5 : Int32) (M : mwM) (L : mwL) : Option (Int32 × mwM × mwL) :=
  mck v5 40 (mck v5 40 (mlet (mset M 94 (v5.toNatClampNeg) ((M 94 v5.toNatClampNeg) + v4)) (fun M12 => mck v3 40 (mlet (mset M12 93 (v3.toNatClampNeg) v5) (fun M14 => mlet (if v2 < (v5 + 1) then (v5 + 1) else v2) (fun x15 => mlet (v3 + 1) (fun x16 => r8 (x15, x16, M14, L))))))))
noncomputable def fX6_packFirstFit_i31 (fu : Nat) (a1 : Int32) (r8 : (Int32 × Int32 × mwM × mwL) → Option (Int32 × mwM × mwL)) (r31 : (Int32 × Int32 × Int32 × Int32 × mwM × mwL) → Option (Int32 × mwM × mwL)) (v2 : Int32) (v3 : Int32) (v4 : Int32) (v5 : Int32) (M : mwM) (L : mwL) : Option (Int32 × mwM × mwL) :=
  (if v2 ≤ v5 then fX6_packFirstFit_b57 fu a1 r8 v2 v3 v4 v5 M L else mck v5 40 ((if ((M 94 v5.toNatClampNeg) + v4) ≤ a1 then fX6_packFirstFit_b57 fu a1 r8 v2 v3 v4 v5 M L else mlet (v5 + 1) (fun x9 => r31 (v2, v3, v4, x9, M, L)))))
noncomputable def fX6_packFirstFit_h31 (fu : Nat) (a1 : Int32) (r8 : (Int32 × Int32 × mwM × mwL) → Option (Int32 × mwM × mwL)) : Nat → (Int32 × Int32 × Int32 × Int32 × mwM × mwL) → Option (Int32 × mwM × mwL) := mloop (fun r31 s => fX6_packFirstFit_i31 fu a1 r8 r31 s.1 s.2.1 s.2.2.1 s.2.2.2.1 s.2.2.2.2.1 s.2.2.2.2.2)
noncomputable def fX6_packFirstFit_i8 (fu : Nat) (a1 : Int32) (r8 : (Int32 × Int32 × mwM × mwL) → Option (Int32 × mwM × mwL)) (v2 : Int32) (v3 : Int32) (M : mwM) (L : mwL) : Option (Int32 × mwM × mwL) :=
  (if (M 61 13) ≤ v3 then some (v2, M, L) else mck v3 40 (mb3 (DX6_octetsOf fu (M 92 v3.toNatClampNeg) M L) (fun r5 M3 L4 => fX6_packFirstFit_h31 fu a1 r8 fu (v2, v3, r5, 0, M3, L4))))
noncomputable def fX6_packFirstFit_h8 (fu : Nat) (a1 : Int32) : Nat → (Int32 × Int32 × mwM × mwL) → Option (Int32 × mwM × mwL) := mloop (fun r8 s => fX6_packFirstFit_i8 fu a1 r8 s.1 s.2.1 s.2.2.1 s.2.2.2)
noncomputable def DX6_packFirstFit (fu : Nat) (a1 : Int32) (M : mwM) (L : mwL) : Option (Int32 × mwM × mwL) :=
  mb2 (DX6_emptyFrames fu M L) (fun M17 L18 => fX6_packFirstFit_h8 fu a1 fu (0, 0, M17, L18))
noncomputable def fX6_openFrame_i91 (fu : Nat) (a1 : Int32) (r91 : (Int32 × mwM × mwL) → Option (mwM × mwL)) (v2 : Int32) (M : mwM) (L : mwL) : Option (mwM × mwL) :=
  (if 6 ≤ v2 then mlet (mset M 61 11 ((M 61 11) + 1)) (fun M2 => some (M2, L)) else mck v2 6 (mck (M 61 11) 40 (mlet (mset M (86 + v2.toNatClampNeg) ((M 61 11).toNatClampNeg) 0) (fun M5 => mlet (v2 + 1) (fun x6 => r91 (x6, M5, L))))))
noncomputable def fX6_openFrame_h91 (fu : Nat) (a1 : Int32) : Nat → (Int32 × mwM × mwL) → Option (mwM × mwL) := mloop (fun r91 s => fX6_openFrame_i91 fu a1 r91 s.1 s.2.1 s.2.2)
noncomputable def DX6_openFrame (fu : Nat) (a1 : Int32) (M : mwM) (L : mwL) : Option (mwM × mwL) :=
  mck a1 40 (mck (M 61 11) 40 (mlet (mset M 74 ((M 61 11).toNatClampNeg) (M 68 a1.toNatClampNeg)) (fun M11 => mck a1 40 (mck (M11 61 11) 40 (mlet (mset M11 75 ((M11 61 11).toNatClampNeg) (M11 66 a1.toNatClampNeg)) (fun M16 => mck a1 40 (mck (M16 61 11) 40 (mlet (mset M16 76 ((M16 61 11).toNatClampNeg) (M16 70 a1.toNatClampNeg)) (fun M21 => mck a1 40 (mck (M21 61 11) 40 (mlet (mset M21 79 ((M21 61 11).toNatClampNeg) (M21 66 a1.toNatClampNeg)) (fun M26 => mck (M26 61 11) 40 (mlet (mset M26 77 ((M26 61 11).toNatClampNeg) 0) (fun M29 => fX6_openFrame_h91 fu a1 fu (0, M29, L)))))))))))))))
noncomputable def fX6_placeGroups_i88 (fu : Nat) (a1 : Int32) (r88 : (Int32 × mwM × mwL) → Option (mwM × mwL)) (v2 : Int32) (M : mwM) (L : mwL) : Option (mwM × mwL) :=
  (if a1 ≤ v2 then some (M, L) else mb2 (DX6_openFrame fu (M 92 (0 : Int32).toNatClampNeg) M L) (fun M23 L24 => mlet (v2 + 1) (fun x25 => r88 (x25, M23, L24))))
noncomputable def fX6_placeGroups_h88 (fu : Nat) (a1 : Int32) : Nat → (Int32 × mwM × mwL) → Option (mwM × mwL) := mloop (fun r88 s => fX6_placeGroups_i88 fu a1 r88 s.1 s.2.1 s.2.2)
noncomputable def fX6_placeGroups_i6 (fu : Nat) (a1 : Int32) (r6 : (Int32 × mwM × mwL) → Option (mwM × mwL)) (v2 : Int32) (M : mwM) (L : mwL) : Option (mwM × mwL) :=
  (if (M 61 13) ≤ v2 then fX6_placeGroups_h88 fu a1 fu (0, M, L) else mck v2 40 (mlet (M 92 v2.toNatClampNeg) (fun x3 => mck v2 40 (mck x3 40 (mlet (mset M 71 (x3.toNatClampNeg) ((M 61 11) + (M 93 v2.toNatClampNeg))) (fun M7 => mck v2 40 (mck (M7 93 v2.toNatClampNeg) 40 (mck x3 40 (mlet (mset M7 72 (x3.toNatClampNeg) (M7 94 (M7 93 v2.toNatClampNeg).toNatClampNeg)) (fun M12 => mck v2 40 (mck (M12 93 v2.toNatClampNeg) 40 (mb3 (DX6_octetsOf fu x3 M12 L) (fun r17 M15 L16 => mck (M12 93 v2.toNatClampNeg) 40 (mlet (mset M15 94 ((M12 93 v2.toNatClampNeg).toNatClampNeg) ((M12 94 (M12 93 v2.toNatClampNeg).toNatClampNeg) + r17)) (fun M19 => mlet (v2 + 1) (fun x20 => r6 (x20, M19, L16)))))))))))))))))
noncomputable def fX6_placeGroups_h6 (fu : Nat) (a1 : Int32) : Nat → (Int32 × mwM × mwL) → Option (mwM × mwL) := mloop (fun r6 s => fX6_placeGroups_i6 fu a1 r6 s.1 s.2.1 s.2.2)
noncomputable def DX6_placeGroups (fu : Nat) (a1 : Int32) (M : mwM) (L : mwL) : Option (mwM × mwL) :=
  mb2 (DX6_emptyFrames fu M L) (fun M26 L27 => fX6_placeGroups_h6 fu a1 fu (0, M26, L27))
noncomputable def fX6_packGroups_b23 (fu : Nat) (a1 : Int32) (s1 : Int32) (M : mwM) (L : mwL) : Option (mwM × mwL) :=
  mb2 (DX6_placeGroups fu s1 M L) (fun M1 L2 => some (M1, L2))
noncomputable def DX6_packGroups (fu : Nat) (a1 : Int32) (M : mwM) (L : mwL) : Option (mwM × mwL) :=
  (if 7 < (M 61 13) then mb3 (DX6_packFirstFit fu a1 M L) (fun r6 M4 L5 => fX6_packGroups_b23 fu a1 r6 M4 L5) else mb3 (DX6_packBest fu a1 M L) (fun r9 M7 L8 => fX6_packGroups_b23 fu a1 r9 M7 L8))
noncomputable def fX6_packOf_b59 (fu : Nat) (a1 : Int32) (a2 : Int32) (M : mwM) (L : mwL) : Option (mwM × mwL) :=
  some (M, L)
noncomputable def fX6_packOf_b42 (fu : Nat) (a1 : Int32) (a2 : Int32) (r11 : (Int32 × Int32 × mwM × mwL) → Option (mwM × mwL)) (v3 : Int32) (v4 : Int32) (s1 : Int32) (M : mwM) (L : mwL) : Option (mwM × mwL) :=
  mb2 (DX6_packGroups fu s1 M L) (fun M6 L7 => mb3 (DX6_nextPeriod fu a1 a2 v3 M6 L7) (fun r10 M8 L9 => mlet (v4 + 1) (fun x11 => r11 (r10, x11, M8, L9))))
noncomputable def fX6_packOf_i11 (fu : Nat) (a1 : Int32) (a2 : Int32) (r11 : (Int32 × Int32 × mwM × mwL) → Option (mwM × mwL)) (v3 : Int32) (v4 : Int32) (M : mwM) (L : mwL) : Option (mwM × mwL) :=
  (if 40 ≤ v4 then fX6_packOf_b59 fu a1 a2 M L else (if 1000000 ≤ v3 then fX6_packOf_b59 fu a1 a2 M L else mb2 (DX6_collectGroups fu a1 a2 v3 M L) (fun M3 L4 => (if a2 = 0 then fX6_packOf_b42 fu a1 a2 r11 v3 v4 8 M3 L4 else fX6_packOf_b42 fu a1 a2 r11 v3 v4 3 M3 L4))))
noncomputable def fX6_packOf_h11 (fu : Nat) (a1 : Int32) (a2 : Int32) : Nat → (Int32 × Int32 × mwM × mwL) → Option (mwM × mwL) := mloop (fun r11 s => fX6_packOf_i11 fu a1 a2 r11 s.1 s.2.1 s.2.2.1 s.2.2.2)
noncomputable def DX6_packOf (fu : Nat) (a1 : Int32) (a2 : Int32) (M : mwM) (L : mwL) : Option (mwM × mwL) :=
  mb3 (DX6_nextPeriod fu a1 a2 0 M L) (fun r14 M12 L13 => fX6_packOf_h11 fu a1 a2 fu (r14, 0, M12, L13))
noncomputable def fX6_findPositions_b83 (fu : Nat) (r2 : (Int32 × mwM × mwL) → Option (mwM × mwL)) (r14 : (Int32 × Int32 × Int32 × mwM × mwL) → Option (mwM × mwL)) (v1 : Int32) (v3 : Int32) (s0 : Int32) (s1 : Int32) (M : mwM) (L : mwL) : Option (mwM × mwL) :=
  mlet (s0 + s1) (fun x21 => mlet (v3 + 1) (fun x22 => r14 (v1, x21, x22, M, L)))
noncomputable def fX6_findPositions_b78 (fu : Nat) (r2 : (Int32 × mwM × mwL) → Option (mwM × mwL)) (r14 : (Int32 × Int32 × Int32 × mwM × mwL) → Option (mwM × mwL)) (v1 : Int32) (v3 : Int32) (s0 : Int32) (M : mwM) (L : mwL) : Option (mwM × mwL) :=
  fX6_findPositions_b83 fu r2 r14 v1 v3 s0 1 M L
noncomputable def fX6_findPositions_b51 (fu : Nat) (r2 : (Int32 × mwM × mwL) → Option (mwM × mwL)) (r14 : (Int32 × Int32 × Int32 × mwM × mwL) → Option (mwM × mwL)) (v1 : Int32) (v2 : Int32) (v3 : Int32) (s0 : Int32) (M : mwM) (L : mwL) : Option (mwM × mwL) :=
  (if s0 = 0 then mck v3 40 (mck v1 40 ((if (M 75 v1.toNatClampNeg) ≤ (M 75 v3.toNatClampNeg) then fX6_findPositions_b83 fu r2 r14 v1 v3 v2 0 M L else fX6_findPositions_b78 fu r2 r14 v1 v3 v2 M L))) else fX6_findPositions_b78 fu r2 r14 v1 v3 v2 M L)
noncomputable def fX6_findPositions_b50 (fu : Nat) (r2 : (Int32 × mwM × mwL) → Option (mwM × mwL)) (r14 : (Int32 × Int32 × Int32 × mwM × mwL) → Option (mwM × mwL)) (v1 : Int32) (v2 : Int32) (v3 : Int32) (M : mwM) (L : mwL) : Option (mwM × mwL) :=
  fX6_findPositions_b51 fu r2 r14 v1 v2 v3 0 M L
noncomputable def fX6_findPositions_i14 (fu : Nat) (r2 : (Int32 × mwM × mwL) → Option (mwM × mwL)) (r14 : (Int32 × Int32 × Int32 × mwM × mwL) → Option (mwM × mwL)) (v1 : Int32) (v2 : Int32) (v3 : Int32) (M : mwM) (L : mwL) : Option (mwM × mwL) :=
  (if (M 61 11) ≤ v3 then mck v1 40 (mlet (mset M 78 (v1.toNatClampNeg) v2) (fun M5 => mck v2 40 (mlet (mset M5 80 (v2.toNatClampNeg) v1) (fun M7 => mlet (v1 + 1) (fun x8 => r2 (x8, M7, L)))))) else mck v3 40 (mck v1 40 ((if (M 75 v3.toNatClampNeg) = (M 75 v1.toNatClampNeg) then (if v1 ≤ v3 then fX6_findPositions_b50 fu r2 r14 v1 v2 v3 M L else fX6_findPositions_b51 fu r2 r14 v1 v2 v3 1 M L) else fX6_findPositions_b50 fu r2 r14 v1 v2 v3 M L))))
noncomputable def fX6_findPositions_h14 (fu : Nat) (r2 : (Int32 × mwM × mwL) → Option (mwM × mwL)) : Nat → (Int32 × Int32 × Int32 × mwM × mwL) → Option (mwM × mwL) := mloop (fun r14 s => fX6_findPositions_i14 fu r2 r14 s.1 s.2.1 s.2.2.1 s.2.2.2.1 s.2.2.2.2)
noncomputable def fX6_findPositions_i2 (fu : Nat) (r2 : (Int32 × mwM × mwL) → Option (mwM × mwL)) (v1 : Int32) (M : mwM) (L : mwL) : Option (mwM × mwL) :=
  (if (M 61 11) ≤ v1 then some (M, L) else fX6_findPositions_h14 fu r2 fu (v1, 0, 0, M, L))
noncomputable def fX6_findPositions_h2 (fu : Nat) : Nat → (Int32 × mwM × mwL) → Option (mwM × mwL) := mloop (fun r2 s => fX6_findPositions_i2 fu r2 s.1 s.2.1 s.2.2)
noncomputable def DX6_findPositions (fu : Nat) (M : mwM) (L : mwL) : Option (mwM × mwL) :=
  fX6_findPositions_h2 fu fu (0, M, L)
noncomputable def fX6_findSoonest_i8 (fu : Nat) (r8 : (Int32 × mwM × mwL) → Option (mwM × mwL)) (v1 : Int32) (M : mwM) (L : mwL) : Option (mwM × mwL) :=
  (if (M 61 11) ≤ v1 then some (M, L) else mck v1 40 (mlet (mset M 61 14 (if (M 79 v1.toNatClampNeg) < (M 61 14) then (M 79 v1.toNatClampNeg) else (M 61 14))) (fun M4 => mlet (v1 + 1) (fun x5 => r8 (x5, M4, L)))))
noncomputable def fX6_findSoonest_h8 (fu : Nat) : Nat → (Int32 × mwM × mwL) → Option (mwM × mwL) := mloop (fun r8 s => fX6_findSoonest_i8 fu r8 s.1 s.2.1 s.2.2)
noncomputable def DX6_findSoonest (fu : Nat) (M : mwM) (L : mwL) : Option (mwM × mwL) :=
  mlet (mset M 61 14 1000000) (fun M6 => fX6_findSoonest_h8 fu fu (0, M6, L))
noncomputable def fX6_pack_i47 (fu : Nat) (a1 : Int32) (r47 : (Int32 × mwM × mwL) → Option (mwM × mwL)) (v2 : Int32) (M : mwM) (L : mwL) : Option (mwM × mwL) :=
  (if a1 ≤ v2 then mb2 (DX6_findPositions fu M L) (fun M14 L15 => mb2 (DX6_findSoonest fu M14 L15) (fun M16 L17 => some (M16, L17))) else mb2 (DX6_packOf fu v2 0 M L) (fun M18 L19 => mb2 (DX6_packOf fu v2 1 M18 L19) (fun M20 L21 => mlet (v2 + 1) (fun x22 => r47 (x22, M20, L21)))))
noncomputable def fX6_pack_h47 (fu : Nat) (a1 : Int32) : Nat → (Int32 × mwM × mwL) → Option (mwM × mwL) := mloop (fun r47 s => fX6_pack_i47 fu a1 r47 s.1 s.2.1 s.2.2)
noncomputable def fX6_pack_i2 (fu : Nat) (a1 : Int32) (r2 : (Int32 × mwM × mwL) → Option (mwM × mwL)) (v2 : Int32) (M : mwM) (L : mwL) : Option (mwM × mwL) :=
  (if (M 61 10) ≤ v2 then fX6_pack_h47 fu a1 fu (0, M, L) else mck v2 40 (mck v2 40 (mb3 (DX6_keyOf fu (M 68 v2.toNatClampNeg) (M 66 v2.toNatClampNeg) M L) (fun r9 M7 L8 => mck v2 40 (mlet (mset M7 70 (v2.toNatClampNeg) r9) (fun M11 => mlet (v2 + 1) (fun x12 => r2 (x12, M11, L8))))))))
noncomputable def fX6_pack_h2 (fu : Nat) (a1 : Int32) : Nat → (Int32 × mwM × mwL) → Option (mwM × mwL) := mloop (fun r2 s => fX6_pack_i2 fu a1 r2 s.1 s.2.1 s.2.2)
noncomputable def DX6_pack (fu : Nat) (a1 : Int32) (M : mwM) (L : mwL) : Option (mwM × mwL) :=
  fX6_pack_h2 fu a1 fu (0, M, L)
noncomputable def DX6_identifierOf (fu : Nat) (a1 : Int32) (M : mwM) (L : mwL) : Option (Int32 × mwM × mwL) :=
  mck a1 40 (some (64 + (8 * (M 78 a1.toNatClampNeg)), M, L))
noncomputable def fX6_frameOf_b29 (fu : Nat) (a1 : Int32) (M : mwM) (L : mwL) : Option (Int32 × mwM × mwL) :=
  some ((-1), M, L)
noncomputable def DX6_frameOf (fu : Nat) (a1 : Int32) (M : mwM) (L : mwL) : Option (Int32 × mwM × mwL) :=
  mlet ((a1 - 64) / 8) (fun x2 => (if a1 < 64 then fX6_frameOf_b29 fu a1 M L else (if (a1 - a1 / 8 * 8) = 0 then (if x2 < (M 61 11) then mck x2 40 (some (M 80 x2.toNatClampNeg, M, L)) else fX6_frameOf_b29 fu a1 M L) else fX6_frameOf_b29 fu a1 M L)))
noncomputable def fX6_isIn_b18 (fu : Nat) (a1 : Int32) (a2 : Int32) (s0 : Int32) (M : mwM) (L : mwL) : Option (Int32 × mwM × mwL) :=
  mzz s0 (some (s0, M, L))
noncomputable def DX6_isIn (fu : Nat) (a1 : Int32) (a2 : Int32) (M : mwM) (L : mwL) : Option (Int32 × mwM × mwL) :=
  mck a1 40 ((if (M 71 a1.toNatClampNeg) = a2 then fX6_isIn_b18 fu a1 a2 1 M L else fX6_isIn_b18 fu a1 a2 0 M L))
noncomputable def DX6_takeTurn (fu : Nat) (a1 : Int32) (a2 : Int32) (M : mwM) (L : mwL) : Option (Int32 × mwM × mwL) :=
  mck a1 40 ((if (M 79 a1.toNatClampNeg) = a2 then mck a1 40 (mck a1 40 (mck a1 40 (mlet (mset M 79 (a1.toNatClampNeg) ((M 79 a1.toNatClampNeg) + (M 75 a1.toNatClampNeg))) (fun M9 => some (1, M9, L))))) else some (0, M, L)))
noncomputable def fX6_placeOf_b34 (fu : Nat) (a1 : Int32) (a2 : Int32) (s0 : Int32) (s1 : Int32) (M : mwM) (L : mwL) : Option (Int32 × mwM × mwL) :=
  some (s0 + s1, M, L)
noncomputable def DX6_placeOf (fu : Nat) (a1 : Int32) (a2 : Int32) (M : mwM) (L : mwL) : Option (Int32 × mwM × mwL) :=
  mck a1 40 (mck a1 40 ((if (M 67 a1.toNatClampNeg) = 1 then mb3 (DX6_octetsOf fu a1 M L) (fun r8 M6 L7 => fX6_placeOf_b34 fu a1 a2 (M 72 a1.toNatClampNeg) ((r8 - 1) - a2) M6 L7) else fX6_placeOf_b34 fu a1 a2 (M 72 a1.toNatClampNeg) a2 M L)))
noncomputable def fX6_cutTo_b17 (fu : Nat) (a1 : Int32) (a2 : Int64) (s0 : Int64) (M : mwM) (L : mwL) : Option (Int64 × mwM × mwL) :=
  some (s0, M, L)
noncomputable def DX6_cutTo (fu : Nat) (a1 : Int32) (a2 : Int64) (M : mwM) (L : mwL) : Option (Int64 × mwM × mwL) :=
  (if 64 ≤ a1 then fX6_cutTo_b17 fu a1 a2 a2 M L else fX6_cutTo_b17 fu a1 a2 (a2 &&& ((1 <<< (a1.toInt64 &&& 63)) - 1)) M L)
noncomputable def fX6_fill_b139 (fu : Nat) (a1 : Int32) (r38 : (Int32 × mwM × mwL) → Option (mwM × mwL)) (v3 : Int32) (M : mwM) (L : mwL) : Option (mwM × mwL) :=
  mlet (v3 + 1) (fun x30 => r38 (x30, M, L))
noncomputable def fX6_fill_i98 (fu : Nat) (a1 : Int32) (r38 : (Int32 × mwM × mwL) → Option (mwM × mwL)) (r98 : (Int32 × Int64 × Int32 × mwM × mwL) → Option (mwM × mwL)) (v3 : Int32) (v4 : Int64) (v6 : Int32) (M : mwM) (L : mwL) : Option (mwM × mwL) :=
  mb3 (DX6_octetsOf fu v3 M L) (fun r22 M20 L21 => (if r22 ≤ v6 then fX6_fill_b139 fu a1 r38 v3 M20 L21 else mb3 (DX6_placeOf fu v3 v6 M20 L21) (fun r26 M24 L25 => mck r26 8 (mlet (mset M24 95 (r26.toNatClampNeg) ((((v4.toUInt64 >>> ((8 * v6).toInt64.toUInt64 &&& Int64.toUInt64 63)).toInt64).toInt32) &&& 255)) (fun M28 => mlet (v6 + 1) (fun x29 => r98 (v3, v4, x29, M28, L25)))))))
noncomputable def fX6_fill_h98 (fu : Nat) (a1 : Int32) (r38 : (Int32 × mwM × mwL) → Option (mwM × mwL)) : Nat → (Int32 × Int64 × Int32 × mwM × mwL) → Option (mwM × mwL) := mloop (fun r98 s => fX6_fill_i98 fu a1 r38 r98 s.1 s.2.1 s.2.2.1 s.2.2.2.1 s.2.2.2.2)
noncomputable def fX6_fill_i38 (fu : Nat) (a1 : Int32) (r38 : (Int32 × mwM × mwL) → Option (mwM × mwL)) (v3 : Int32) (M : mwM) (L : mwL) : Option (mwM × mwL) :=
  (if (M 61 10) ≤ v3 then some (M, L) else mck v3 40 ((if (M 71 v3.toNatClampNeg) = a1 then mck v3 40 (mck v3 40 (mck (M 64 v3.toNatClampNeg) 12 (mck v3 40 (mck (M 65 v3.toNatClampNeg) 32 (mb3 (DX6_cutTo fu (M 63 v3.toNatClampNeg) (L ((293 + 36 * (M 64 v3.toNatClampNeg).toNatClampNeg) + 34) (M 65 v3.toNatClampNeg).toNatClampNeg) M L) (fun r19 M17 L18 => fX6_fill_h98 fu a1 r38 fu (v3, r19, 0, M17, L18))))))) else fX6_fill_b139 fu a1 r38 v3 M L)))
noncomputable def fX6_fill_h38 (fu : Nat) (a1 : Int32) : Nat → (Int32 × mwM × mwL) → Option (mwM × mwL) := mloop (fun r38 s => fX6_fill_i38 fu a1 r38 s.1 s.2.1 s.2.2)
noncomputable def fX6_fill_i14 (fu : Nat) (a1 : Int32) (r14 : (Int32 × mwM × mwL) → Option (mwM × mwL)) (v3 : Int32) (M : mwM) (L : mwL) : Option (mwM × mwL) :=
  (if 8 ≤ v3 then fX6_fill_h38 fu a1 fu (0, M, L) else mck v3 8 (mlet (mset M 95 (v3.toNatClampNeg) 0) (fun M3 => mlet (v3 + 1) (fun x4 => r14 (x4, M3, L)))))
noncomputable def fX6_fill_h14 (fu : Nat) (a1 : Int32) : Nat → (Int32 × mwM × mwL) → Option (mwM × mwL) := mloop (fun r14 s => fX6_fill_i14 fu a1 r14 s.1 s.2.1 s.2.2)
noncomputable def DX6_fill (fu : Nat) (a1 : Int32) (M : mwM) (L : mwL) : Option (mwM × mwL) :=
  mck a1 40 (mck a1 40 (mlet (mset M 77 (a1.toNatClampNeg) ((M 77 a1.toNatClampNeg) + 1)) (fun M34 => fX6_fill_h14 fu a1 fu (0, M34, L))))
noncomputable def fX6_valueIn_i11 (fu : Nat) (a1 : Int32) (a2 : Nat) (n2 : Nat) (r11 : (Int64 × Int32 × mwM × mwL) → Option (Int64 × mwM × mwL)) (v3 : Int64) (v5 : Int32) (M : mwM) (L : mwL) : Option (Int64 × mwM × mwL) :=
  (if v5 < 0 then mck a1 40 (mb3 (DX6_cutTo fu (M 63 a1.toNatClampNeg) v3 M L) (fun r6 M4 L5 => some (r6, M4, L5))) else mb3 (DX6_placeOf fu a1 v5 M L) (fun r9 M7 L8 => mck r9 n2 (mlet ((v3 <<< ((8 : Int32).toInt64 &&& 63)) ||| ((M7 a2 r9.toNatClampNeg).toInt64)) (fun x11 => mlet (v5 + (-1)) (fun x12 => r11 (x11, x12, M7, L8))))))
noncomputable def fX6_valueIn_h11 (fu : Nat) (a1 : Int32) (a2 : Nat) (n2 : Nat) : Nat → (Int64 × Int32 × mwM × mwL) → Option (Int64 × mwM × mwL) := mloop (fun r11 s => fX6_valueIn_i11 fu a1 a2 n2 r11 s.1 s.2.1 s.2.2.1 s.2.2.2)
noncomputable def DX6_valueIn (fu : Nat) (a1 : Int32) (a2 : Nat) (n2 : Nat) (M : mwM) (L : mwL) : Option (Int64 × mwM × mwL) :=
  mb3 (DX6_octetsOf fu a1 M L) (fun r15 M13 L14 => mlet (r15 - 1) (fun x16 => fX6_valueIn_h11 fu a1 a2 n2 fu (0, x16, M13, L14)))
noncomputable def fX6_makeCode_i65 (fu : Nat) (a1 : Int32) (a2 : Int32) (a3 : Nat) (n3 : Nat) (r65 : (Int32 × mwM × mwL) → Option (mwM × mwL)) (v5 : Int32) (M : mwM) (L : mwL) : Option (mwM × mwL) :=
  (if 3 ≤ v5 then mck a1 40 (mb2 (DX3_make fu (M 76 a1.toNatClampNeg) 96 12 12 M L) (fun M10 L11 => some (M10, L11))) else mck v5 n3 (mck (9 + v5) 12 (mlet (mset M 96 ((9 + v5).toNatClampNeg) (M a3 v5.toNatClampNeg)) (fun M14 => mlet (v5 + 1) (fun x15 => r65 (x15, M14, L))))))
noncomputable def fX6_makeCode_h65 (fu : Nat) (a1 : Int32) (a2 : Int32) (a3 : Nat) (n3 : Nat) : Nat → (Int32 × mwM × mwL) → Option (mwM × mwL) := mloop (fun r65 s => fX6_makeCode_i65 fu a1 a2 a3 n3 r65 s.1 s.2.1 s.2.2)
noncomputable def fX6_makeCode_i17 (fu : Nat) (a1 : Int32) (a2 : Int32) (a3 : Nat) (n3 : Nat) (r17 : (Int32 × mwM × mwL) → Option (mwM × mwL)) (v5 : Int32) (M : mwM) (L : mwL) : Option (mwM × mwL) :=
  (if 4 ≤ v5 then fX6_makeCode_h65 fu a1 a2 a3 n3 fu (0, M, L) else mck (1 + v5) 12 (mlet (mset M 96 ((1 + v5).toNatClampNeg) 0) (fun M3 => mck (5 + v5) 12 (mlet (mset M3 96 ((5 + v5).toNatClampNeg) (((a2.toUInt32 >>> ((24 - (8 * v5)).toUInt32 &&& Int32.toUInt32 31)).toInt32) &&& 255)) (fun M5 => mlet (v5 + 1) (fun x6 => r17 (x6, M5, L)))))))
noncomputable def fX6_makeCode_h17 (fu : Nat) (a1 : Int32) (a2 : Int32) (a3 : Nat) (n3 : Nat) : Nat → (Int32 × mwM × mwL) → Option (mwM × mwL) := mloop (fun r17 s => fX6_makeCode_i17 fu a1 a2 a3 n3 r17 s.1 s.2.1 s.2.2)
noncomputable def DX6_makeCode (fu : Nat) (a1 : Int32) (a2 : Int32) (a3 : Nat) (n3 : Nat) (M : mwM) (L : mwL) : Option (mwM × mwL) :=
  mck a1 40 (mlet (mset M 96 ((0 : Int32).toNatClampNeg) (M 78 a1.toNatClampNeg)) (fun M19 => fX6_makeCode_h17 fu a1 a2 a3 n3 fu (0, M19, L)))
noncomputable def fX6_seal_i38 (fu : Nat) (a1 : Int32) (r38 : (Int32 × mwM × mwL) → Option (mwM × mwL)) (v3 : Int32) (M : mwM) (L : mwL) : Option (mwM × mwL) :=
  (if 4 ≤ v3 then some (M, L) else mck v3 16 (mck (4 + v3) 8 (mlet (mset M 95 ((4 + v3).toNatClampNeg) (M 138 v3.toNatClampNeg)) (fun M4 => mlet (v3 + 1) (fun x5 => r38 (x5, M4, L))))))
noncomputable def fX6_seal_h38 (fu : Nat) (a1 : Int32) : Nat → (Int32 × mwM × mwL) → Option (mwM × mwL) := mloop (fun r38 s => fX6_seal_i38 fu a1 r38 s.1 s.2.1 s.2.2)
noncomputable def DX6_seal (fu : Nat) (a1 : Int32) (M : mwM) (L : mwL) : Option (mwM × mwL) :=
  mck a1 40 (mlet (mset M 95 ((3 : Int32).toNatClampNeg) ((M 77 a1.toNatClampNeg) &&& 255)) (fun M9 => mck a1 40 (mb2 (DX6_makeCode fu a1 (M9 77 a1.toNatClampNeg) 95 8 M9 L) (fun M12 L13 => fX6_seal_h38 fu a1 fu (0, M12, L13)))))
noncomputable def fX6_accept_b30 (fu : Nat) (a1 : Int32) (a2 : Int32) (a3 : Nat) (n3 : Nat) (M : mwM) (L : mwL) : Option (Int32 × mwM × mwL) :=
  some (0, M, L)
noncomputable def DX6_accept (fu : Nat) (a1 : Int32) (a2 : Int32) (a3 : Nat) (n3 : Nat) (M : mwM) (L : mwL) : Option (Int32 × mwM × mwL) :=
  mck 3 n3 (mck a1 6 (mck a2 40 (mlet (((M a3 (3 : Int32).toNatClampNeg) - (M (86 + a1.toNatClampNeg) a2.toNatClampNeg)) &&& 255) (fun x4 => (if x4 = 0 then fX6_accept_b30 fu a1 a2 a3 n3 M L else (if x4 ≤ 64 then mck a1 6 (mck a2 40 (mb2 (DX6_makeCode fu a2 ((M (86 + a1.toNatClampNeg) a2.toNatClampNeg) + x4) a3 n3 M L) (fun M9 L10 => mb3 (DX3_isOut fu a3 n3 4 M9 L10) (fun r13 M11 L12 => (if r13 = 0 then some (0, M11, L12) else mck a1 6 (mck a2 40 (mck a2 40 (mlet (mset M11 (86 + a1.toNatClampNeg) (a2.toNatClampNeg) ((M11 (86 + a1.toNatClampNeg) a2.toNatClampNeg) + x4)) (fun M18 => some (1, M18, L12)))))))))) else fX6_accept_b30 fu a1 a2 a3 n3 M L))))))
noncomputable def fX7_clear_i7 (fu : Nat) (r7 : (Int32 × mwM × mwL) → Option (mwM × mwL)) (v1 : Int32) (M : mwM) (L : mwL) : Option (mwM × mwL) :=
  (if 6 ≤ v1 then some (M, L) else mck v1 6 (mlet (mset M 276 (v1.toNatClampNeg) 1) (fun M3 => mck v1 6 (mlet (mset M3 277 (v1.toNatClampNeg) (vp_nar .boolean 0)) (fun M5 => mck v1 6 (mlet (mset M5 278 (v1.toNatClampNeg) (vp_nar .boolean 0)) (fun M7 => mck v1 6 (mlet (mset M7 280 (v1.toNatClampNeg) 0) (fun M9 => mlet (v1 + 1) (fun x10 => r7 (x10, M9, L)))))))))))
noncomputable def fX7_clear_h7 (fu : Nat) : Nat → (Int32 × mwM × mwL) → Option (mwM × mwL) := mloop (fun r7 s => fX7_clear_i7 fu r7 s.1 s.2.1 s.2.2)
noncomputable def DX7_clear (fu : Nat) (M : mwM) (L : mwL) : Option (mwM × mwL) :=
  mlet (mset M 275 8 0) (fun M11 => fX7_clear_h7 fu fu (0, M11, L))
noncomputable def fX7_isKnown_b41 (fu : Nat) (a1 : Int32) (s0 : Int32) (M : mwM) (L : mwL) : Option (Int32 × mwM × mwL) :=
  mzz s0 (some (s0, M, L))
noncomputable def fX7_isKnown_b36 (fu : Nat) (a1 : Int32) (M : mwM) (L : mwL) : Option (Int32 × mwM × mwL) :=
  fX7_isKnown_b41 fu a1 1 M L
noncomputable def DX7_isKnown (fu : Nat) (a1 : Int32) (M : mwM) (L : mwL) : Option (Int32 × mwM × mwL) :=
  (if a1 = 16 then fX7_isKnown_b36 fu a1 M L else (if a1 = 20 then fX7_isKnown_b36 fu a1 M L else (if a1 = 25 then fX7_isKnown_b36 fu a1 M L else (if a1 = 34 then fX7_isKnown_b36 fu a1 M L else (if a1 = 39 then fX7_isKnown_b36 fu a1 M L else (if a1 = 46 then fX7_isKnown_b36 fu a1 M L else fX7_isKnown_b41 fu a1 0 M L))))))
noncomputable def fX7_put_b29 (fu : Nat) (a1 : Int32) (M : mwM) (L : mwL) : Option (mwM × mwL) :=
  some (M, L)
noncomputable def DX7_put (fu : Nat) (a1 : Int32) (M : mwM) (L : mwL) : Option (mwM × mwL) :=
  (if 20 ≤ (M 275 7) then fX7_put_b29 fu a1 M L else mck (M 275 7) 20 (mlet (mset M 282 ((M 275 7).toNatClampNeg) a1) (fun M3 => mlet (mset M3 275 7 ((M3 275 7) + 1)) (fun M4 => fX7_put_b29 fu a1 M4 L))))
noncomputable def DX7_refuse (fu : Nat) (a1 : Int32) (a2 : Int32) (M : mwM) (L : mwL) : Option (mwM × mwL) :=
  mb2 (DX7_put fu 127 M L) (fun M1 L2 => mb2 (DX7_put fu a1 M1 L2) (fun M3 L4 => mb2 (DX7_put fu a2 M3 L4) (fun M5 L6 => some (M5, L6))))
noncomputable def fX7_isRightLength_b54 (fu : Nat) (a1 : Nat) (n1 : Nat) (a2 : Int32) (s0 : Int32) (M : mwM) (L : mwL) : Option (Int32 × mwM × mwL) :=
  mzz s0 (some (s0, M, L))
noncomputable def fX7_isRightLength_b65 (fu : Nat) (a1 : Nat) (n1 : Nat) (a2 : Int32) (s0 : Int32) (M : mwM) (L : mwL) : Option (Int32 × mwM × mwL) :=
  mzz s0 (some (s0, M, L))
noncomputable def fX7_isRightLength_b77 (fu : Nat) (a1 : Nat) (n1 : Nat) (a2 : Int32) (s0 : Int32) (M : mwM) (L : mwL) : Option (Int32 × mwM × mwL) :=
  mzz s0 (some (s0, M, L))
noncomputable def fX7_isRightLength_b108 (fu : Nat) (a1 : Nat) (n1 : Nat) (a2 : Int32) (s0 : Int32) (M : mwM) (L : mwL) : Option (Int32 × mwM × mwL) :=
  mzz s0 (some (s0, M, L))
noncomputable def fX7_isRightLength_b103 (fu : Nat) (a1 : Nat) (n1 : Nat) (a2 : Int32) (M : mwM) (L : mwL) : Option (Int32 × mwM × mwL) :=
  fX7_isRightLength_b108 fu a1 n1 a2 1 M L
noncomputable def fX7_isRightLength_b107 (fu : Nat) (a1 : Nat) (n1 : Nat) (a2 : Int32) (M : mwM) (L : mwL) : Option (Int32 × mwM × mwL) :=
  fX7_isRightLength_b108 fu a1 n1 a2 0 M L
noncomputable def fX7_isRightLength_b90 (fu : Nat) (a1 : Nat) (n1 : Nat) (a2 : Int32) (M : mwM) (L : mwL) : Option (Int32 × mwM × mwL) :=
  (if a2 = 6 then mck 1 n1 ((if (M a1 (1 : Int32).toNatClampNeg) = 2 then fX7_isRightLength_b103 fu a1 n1 a2 M L else fX7_isRightLength_b107 fu a1 n1 a2 M L)) else fX7_isRightLength_b107 fu a1 n1 a2 M L)
noncomputable def fX7_isRightLength_b119 (fu : Nat) (a1 : Nat) (n1 : Nat) (a2 : Int32) (s0 : Int32) (M : mwM) (L : mwL) : Option (Int32 × mwM × mwL) :=
  mzz s0 (some (s0, M, L))
noncomputable def DX7_isRightLength (fu : Nat) (a1 : Nat) (n1 : Nat) (a2 : Int32) (M : mwM) (L : mwL) : Option (Int32 × mwM × mwL) :=
  mck 0 n1 (mlet (M a1 (0 : Int32).toNatClampNeg) (fun x10 => (if x10 = 16 then (if a2 = 2 then fX7_isRightLength_b54 fu a1 n1 a2 1 M L else fX7_isRightLength_b54 fu a1 n1 a2 0 M L) else if x10 = 34 then (if a2 = 3 then fX7_isRightLength_b65 fu a1 n1 a2 1 M L else fX7_isRightLength_b65 fu a1 n1 a2 0 M L) else if x10 = 39 then (if a2 = 2 then mck 1 n1 ((if (M a1 (1 : Int32).toNatClampNeg) = 1 then fX7_isRightLength_b103 fu a1 n1 a2 M L else fX7_isRightLength_b90 fu a1 n1 a2 M L)) else fX7_isRightLength_b90 fu a1 n1 a2 M L) else if x10 = 46 then (if a2 = 11 then fX7_isRightLength_b77 fu a1 n1 a2 1 M L else fX7_isRightLength_b77 fu a1 n1 a2 0 M L) else (if a2 = 1 then fX7_isRightLength_b119 fu a1 n1 a2 1 M L else fX7_isRightLength_b119 fu a1 n1 a2 0 M L))))
noncomputable def fX7_openSession_b10 (fu : Nat) (a1 : Int32) (a2 : Int32) (M : mwM) (L : mwL) : Option (mwM × mwL) :=
  mb2 (DX7_refuse fu 16 18 M L) (fun M1 L2 => some (M1, L2))
noncomputable def DX7_openSession (fu : Nat) (a1 : Int32) (a2 : Int32) (M : mwM) (L : mwL) : Option (mwM × mwL) :=
  (if a2 < 1 then fX7_openSession_b10 fu a1 a2 M L else (if a2 ≤ 3 then mck a1 6 (mlet (mset M 276 (a1.toNatClampNeg) a2) (fun M6 => mck a1 6 (mlet (mset M6 277 (a1.toNatClampNeg) (vp_nar .boolean 0)) (fun M8 => mck a1 6 (mlet (mset M8 278 (a1.toNatClampNeg) (vp_nar .boolean 0)) (fun M10 => mb2 (DX7_put fu 80 M10 L) (fun M11 L12 => mb2 (DX7_put fu a2 M11 L12) (fun M13 L14 => some (M13, L14))))))))) else fX7_openSession_b10 fu a1 a2 M L))
noncomputable def fX7_hasDatum_b34 (fu : Nat) (a2 : Int32) (a3 : Int32) (a4 : Int32) (s0 : Int32) (M : mwM) (L : mwL) : Option (Int32 × mwM × mwL) :=
  mzz s0 (some (s0, M, L))
noncomputable def fX7_hasDatum_b33 (fu : Nat) (a2 : Int32) (a3 : Int32) (a4 : Int32) (M : mwM) (L : mwL) : Option (Int32 × mwM × mwL) :=
  fX7_hasDatum_b34 fu a2 a3 a4 0 M L
noncomputable def DX7_hasDatum (fu : Nat) (a2 : Int32) (a3 : Int32) (a4 : Int32) (M : mwM) (L : mwL) : Option (Int32 × mwM × mwL) :=
  (if a3 < 1 then fX7_hasDatum_b33 fu a2 a3 a4 M L else (if 12 < a3 then fX7_hasDatum_b33 fu a2 a3 a4 M L else mck (a3 - 1) 12 ((if (M ((293 + 36 * (a3 - 1).toNatClampNeg) + 0) 5) = a2 then (if 32 ≤ a4 then fX7_hasDatum_b33 fu a2 a3 a4 M L else fX7_hasDatum_b34 fu a2 a3 a4 1 M L) else fX7_hasDatum_b33 fu a2 a3 a4 M L))))
noncomputable def fX7_readDatum_i41 (fu : Nat) (a2 : Int32) (a3 : Int32) (a4 : Int32) (r41 : (Int32 × mwM × mwL) → Option (mwM × mwL)) (v5 : Int32) (M : mwM) (L : mwL) : Option (mwM × mwL) :=
  (if v5 < 0 then some (M, L) else mck (a3 - 1) 12 (mck a4 32 (mb2 (DX7_put fu (((((L ((293 + 36 * (a3 - 1).toNatClampNeg) + 34) a4.toNatClampNeg).toUInt64 >>> (v5.toInt64.toUInt64 &&& Int64.toUInt64 63)).toInt64).toInt32) &&& 255) M L) (fun M4 L5 => mlet (v5 + (-8)) (fun x6 => r41 (x6, M4, L5))))))
noncomputable def fX7_readDatum_h41 (fu : Nat) (a2 : Int32) (a3 : Int32) (a4 : Int32) : Nat → (Int32 × mwM × mwL) → Option (mwM × mwL) := mloop (fun r41 s => fX7_readDatum_i41 fu a2 a3 a4 r41 s.1 s.2.1 s.2.2)
noncomputable def DX7_readDatum (fu : Nat) (a2 : Int32) (a3 : Int32) (a4 : Int32) (M : mwM) (L : mwL) : Option (mwM × mwL) :=
  mb3 (DX7_hasDatum fu a2 a3 a4 M L) (fun r9 M7 L8 => (if r9 = 0 then mb2 (DX7_refuse fu 34 49 M7 L8) (fun M17 L18 => some (M17, L18)) else mb2 (DX7_put fu 98 M7 L8) (fun M11 L12 => mb2 (DX7_put fu a3 M11 L12) (fun M13 L14 => mb2 (DX7_put fu a4 M13 L14) (fun M15 L16 => fX7_readDatum_h41 fu a2 a3 a4 fu (56, M15, L16))))))
noncomputable def fX7_writeDatum_i47 (fu : Nat) (a2 : Int32) (a3 : Nat) (n3 : Nat) (r47 : (Int64 × Int32 × mwM × mwL) → Option (mwM × mwL)) (v4 : Int64) (v6 : Int32) (M : mwM) (L : mwL) : Option (mwM × mwL) :=
  (if 8 ≤ v6 then mck 1 n3 (mck ((M a3 (1 : Int32).toNatClampNeg) - 1) 12 (mck 2 n3 (mck (M a3 (2 : Int32).toNatClampNeg) 32 (mlet (mset L ((293 + 36 * ((M a3 (1 : Int32).toNatClampNeg) - 1).toNatClampNeg) + 34) ((M a3 (2 : Int32).toNatClampNeg).toNatClampNeg) v4) (fun L6 => mb2 (DX7_put fu 110 M L6) (fun M7 L8 => mck 1 n3 (mb2 (DX7_put fu (M7 a3 (1 : Int32).toNatClampNeg) M7 L8) (fun M10 L11 => mck 2 n3 (mb2 (DX7_put fu (M10 a3 (2 : Int32).toNatClampNeg) M10 L11) (fun M13 L14 => some (M13, L14))))))))))) else mck (3 + v6) n3 (mlet ((v4 <<< ((8 : Int32).toInt64 &&& 63)) ||| ((M a3 (3 + v6).toNatClampNeg).toInt64)) (fun x16 => mlet (v6 + 1) (fun x17 => r47 (x16, x17, M, L)))))
noncomputable def fX7_writeDatum_h47 (fu : Nat) (a2 : Int32) (a3 : Nat) (n3 : Nat) : Nat → (Int64 × Int32 × mwM × mwL) → Option (mwM × mwL) := mloop (fun r47 s => fX7_writeDatum_i47 fu a2 a3 n3 r47 s.1 s.2.1 s.2.2.1 s.2.2.2)
noncomputable def DX7_writeDatum (fu : Nat) (a2 : Int32) (a3 : Nat) (n3 : Nat) (M : mwM) (L : mwL) : Option (mwM × mwL) :=
  mck a2 6 ((if (M 277 a2.toNatClampNeg) = 0 then mb2 (DX7_refuse fu 46 51 M L) (fun M28 L29 => some (M28, L29)) else mck 1 n3 (mck 2 n3 (mb3 (DX7_hasDatum fu a2 (M a3 (1 : Int32).toNatClampNeg) (M a3 (2 : Int32).toNatClampNeg) M L) (fun r24 M22 L23 => (if r24 = 0 then mb2 (DX7_refuse fu 46 49 M22 L23) (fun M26 L27 => some (M26, L27)) else fX7_writeDatum_h47 fu a2 a3 n3 fu (0, 0, M22, L23)))))))
noncomputable def fX7_listTroubles_i16 (fu : Nat) (r16 : (Int32 × mwM × mwL) → Option (mwM × mwL)) (v2 : Int32) (M : mwM) (L : mwL) : Option (mwM × mwL) :=
  (if (M 139 3) ≤ v2 then some (M, L) else mck v2 8 (mb2 (DX7_put fu ((M 153 v2.toNatClampNeg) + 1) M L) (fun M3 L4 => mck v2 8 (mb3 (DX10_statusOf fu (M3 153 v2.toNatClampNeg) M3 L4) (fun r8 M6 L7 => mb2 (DX7_put fu r8 M6 L7) (fun M9 L10 => mlet (v2 + 1) (fun x11 => r16 (x11, M9, L10))))))))
noncomputable def fX7_listTroubles_h16 (fu : Nat) : Nat → (Int32 × mwM × mwL) → Option (mwM × mwL) := mloop (fun r16 s => fX7_listTroubles_i16 fu r16 s.1 s.2.1 s.2.2)
noncomputable def DX7_listTroubles (fu : Nat) (M : mwM) (L : mwL) : Option (mwM × mwL) :=
  mb2 (DX7_put fu 89 M L) (fun M12 L13 => mb2 (DX7_put fu (M12 139 3) M12 L13) (fun M14 L15 => fX7_listTroubles_h16 fu fu (0, M14, L15)))
noncomputable def fX7_openSeed_i82 (fu : Nat) (a1 : Int32) (r82 : (Int32 × mwM × mwL) → Option (mwM × mwL)) (v2 : Int32) (M : mwM) (L : mwL) : Option (mwM × mwL) :=
  (if v2 < 0 then some (M, L) else mck a1 6 (mb2 (DX7_put fu ((((M 279 a1.toNatClampNeg).toUInt32 >>> (v2.toUInt32 &&& Int32.toUInt32 31)).toInt32) &&& 255) M L) (fun M3 L4 => mlet (v2 + (-8)) (fun x5 => r82 (x5, M3, L4)))))
noncomputable def fX7_openSeed_h82 (fu : Nat) (a1 : Int32) : Nat → (Int32 × mwM × mwL) → Option (mwM × mwL) := mloop (fun r82 s => fX7_openSeed_i82 fu a1 r82 s.1 s.2.1 s.2.2)
noncomputable def DX7_openSeed (fu : Nat) (a1 : Int32) (M : mwM) (L : mwL) : Option (mwM × mwL) :=
  mck a1 6 ((if (M 276 a1.toNatClampNeg) = 1 then mb2 (DX7_refuse fu 39 34 M L) (fun M21 L22 => some (M21, L22)) else mck a1 6 ((if (M 280 a1.toNatClampNeg) < 3 then mlet (mset M 275 8 ((M 275 8) + 1)) (fun M10 => mck a1 6 (mlet (mset M10 279 (a1.toNatClampNeg) (((-1640531535)) * (M10 275 8))) (fun M12 => mck a1 6 (mlet (mset M12 278 (a1.toNatClampNeg) (vp_nar .boolean 1)) (fun M14 => mb2 (DX7_put fu 103 M14 L) (fun M15 L16 => mb2 (DX7_put fu 1 M15 L16) (fun M17 L18 => fX7_openSeed_h82 fu a1 fu (24, M17, L18)))))))) else mb2 (DX7_refuse fu 39 54 M L) (fun M19 L20 => some (M19, L20))))))
noncomputable def fX7_tryKey_b159 (fu : Nat) (a2 : Int32) (a3 : Nat) (n3 : Nat) (s1 : Int32) (s2 : Int32) (M : mwM) (L : mwL) : Option (mwM × mwL) :=
  mb2 (DX7_refuse fu s1 s2 M L) (fun M24 L25 => some (M24, L25))
noncomputable def fX7_tryKey_i47 (fu : Nat) (a2 : Int32) (a3 : Nat) (n3 : Nat) (r47 : (Int32 × mwM × mwL) → Option (mwM × mwL)) (v4 : Int32) (M : mwM) (L : mwL) : Option (mwM × mwL) :=
  (if 4 ≤ v4 then mb2 (DX3_make fu 16 281 4 4 M L) (fun M2 L3 => mb3 (DX3_isOut fu a3 n3 2 M2 L3) (fun r6 M4 L5 => mck a2 6 (mlet (mset M4 277 (a2.toNatClampNeg) (vp_nar .boolean r6)) (fun M8 => mck a2 6 ((if (M8 277 a2.toNatClampNeg) = 0 then mck a2 6 (mck a2 6 (mlet (mset M8 280 (a2.toNatClampNeg) ((M8 280 a2.toNatClampNeg) + 1)) (fun M13 => mck a2 6 ((if (M13 280 a2.toNatClampNeg) < 3 then fX7_tryKey_b159 fu a2 a3 n3 39 53 M13 L5 else fX7_tryKey_b159 fu a2 a3 n3 39 54 M13 L5))))) else mb2 (DX7_put fu 103 M8 L5) (fun M16 L17 => mb2 (DX7_put fu 2 M16 L17) (fun M18 L19 => some (M18, L19))))))))) else mck a2 6 (mck v4 4 (mlet (mset M 281 (v4.toNatClampNeg) ((((M 279 a2.toNatClampNeg).toUInt32 >>> ((24 - (8 * v4)).toUInt32 &&& Int32.toUInt32 31)).toInt32) &&& 255)) (fun M22 => mlet (v4 + 1) (fun x23 => r47 (x23, M22, L))))))
noncomputable def fX7_tryKey_h47 (fu : Nat) (a2 : Int32) (a3 : Nat) (n3 : Nat) : Nat → (Int32 × mwM × mwL) → Option (mwM × mwL) := mloop (fun r47 s => fX7_tryKey_i47 fu a2 a3 n3 r47 s.1 s.2.1 s.2.2)
noncomputable def DX7_tryKey (fu : Nat) (a2 : Int32) (a3 : Nat) (n3 : Nat) (M : mwM) (L : mwL) : Option (mwM × mwL) :=
  mck a2 6 ((if (M 280 a2.toNatClampNeg) < 3 then mck a2 6 ((if (M 278 a2.toNatClampNeg) = 0 then mb2 (DX7_refuse fu 39 36 M L) (fun M32 L33 => some (M32, L33)) else mck a2 6 (mlet (mset M 278 (a2.toNatClampNeg) (vp_nar .boolean 0)) (fun M31 => fX7_tryKey_h47 fu a2 a3 n3 fu (0, M31, L))))) else mb2 (DX7_refuse fu 39 54 M L) (fun M34 L35 => some (M34, L35))))
noncomputable def fX7_makeReply_b189 (fu : Nat) (a2 : Int32) (a3 : Nat) (n3 : Nat) (a4 : Int32) (M : mwM) (L : mwL) : Option (mwM × mwL) :=
  some (M, L)
noncomputable def fX7_makeReply_b155 (fu : Nat) (a2 : Int32) (a3 : Nat) (n3 : Nat) (a4 : Int32) (M : mwM) (L : mwL) : Option (mwM × mwL) :=
  mck 0 n3 ((if (M a3 (0 : Int32).toNatClampNeg) = 39 then mb2 (DX7_tryKey fu a2 a3 n3 M L) (fun M7 L8 => fX7_makeReply_b189 fu a2 a3 n3 a4 M7 L8) else mb2 (DX10_forgetAll fu M L) (fun M3 L4 => mb2 (DX7_put fu 84 M3 L4) (fun M5 L6 => fX7_makeReply_b189 fu a2 a3 n3 a4 M5 L6))))
noncomputable def DX7_makeReply (fu : Nat) (a2 : Int32) (a3 : Nat) (n3 : Nat) (a4 : Int32) (M : mwM) (L : mwL) : Option (mwM × mwL) :=
  mlet (mset M 275 7 0) (fun M9 => mck 0 n3 (mb3 (DX7_isKnown fu (M9 a3 (0 : Int32).toNatClampNeg) M9 L) (fun r13 M11 L12 => (if r13 = 0 then mck 0 n3 (mb2 (DX7_refuse fu (M11 a3 (0 : Int32).toNatClampNeg) 17 M11 L12) (fun M48 L49 => fX7_makeReply_b189 fu a2 a3 n3 a4 M48 L49)) else mb3 (DX7_isRightLength fu a3 n3 a4 M11 L12) (fun r17 M15 L16 => (if r17 = 0 then mck 0 n3 (mb2 (DX7_refuse fu (M15 a3 (0 : Int32).toNatClampNeg) 19 M15 L16) (fun M45 L46 => fX7_makeReply_b189 fu a2 a3 n3 a4 M45 L46)) else mck 0 n3 ((if (M15 a3 (0 : Int32).toNatClampNeg) = 16 then mck 1 n3 (mb2 (DX7_openSession fu a2 (M15 a3 (1 : Int32).toNatClampNeg) M15 L16) (fun M42 L43 => fX7_makeReply_b189 fu a2 a3 n3 a4 M42 L43)) else mck 0 n3 ((if (M15 a3 (0 : Int32).toNatClampNeg) = 34 then mck 1 n3 (mck 2 n3 (mb2 (DX7_readDatum fu a2 (M15 a3 (1 : Int32).toNatClampNeg) (M15 a3 (2 : Int32).toNatClampNeg) M15 L16) (fun M39 L40 => fX7_makeReply_b189 fu a2 a3 n3 a4 M39 L40))) else mck 0 n3 ((if (M15 a3 (0 : Int32).toNatClampNeg) = 46 then mb2 (DX7_writeDatum fu a2 a3 n3 M15 L16) (fun M35 L36 => fX7_makeReply_b189 fu a2 a3 n3 a4 M35 L36) else mck 0 n3 ((if (M15 a3 (0 : Int32).toNatClampNeg) = 25 then mb2 (DX7_listTroubles fu M15 L16) (fun M33 L34 => fX7_makeReply_b189 fu a2 a3 n3 a4 M33 L34) else mck 0 n3 ((if (M15 a3 (0 : Int32).toNatClampNeg) = 39 then mck 1 n3 ((if (M15 a3 (1 : Int32).toNatClampNeg) = 1 then mb2 (DX7_openSeed fu a2 M15 L16) (fun M31 L32 => fX7_makeReply_b189 fu a2 a3 n3 a4 M31 L32) else fX7_makeReply_b155 fu a2 a3 n3 a4 M15 L16)) else fX7_makeReply_b155 fu a2 a3 n3 a4 M15 L16))))))))))))))))
noncomputable def fX1_clear_i68 (fu : Nat) (r68 : (Int32 × mwM × mwL) → Option (mwM × mwL)) (v1 : Int32) (M : mwM) (L : mwL) : Option (mwM × mwL) :=
  (if 5 ≤ v1 then mlet (mset M 3 13 0) (fun M14 => mlet (mset M14 3 14 0) (fun M15 => mlet (mset M15 3 15 0) (fun M16 => mlet (mset M16 3 16 0) (fun M17 => mlet (mset M17 3 17 ((-1))) (fun M18 => mlet (mset M18 3 18 0) (fun M19 => mb2 (DX4_clear fu M19 L) (fun M20 L21 => mb2 (DX6_clear fu M20 L21) (fun M22 L23 => mb2 (DX10_clear fu M22 L23) (fun M24 L25 => mb2 (DX9_clear fu M24 L25) (fun M26 L27 => mb2 (DX7_clear fu M26 L27) (fun M28 L29 => some (M28, L29)))))))))))) else mck v1 5 (mlet (mset M 292 (v1.toNatClampNeg) 0) (fun M31 => mlet (v1 + 1) (fun x32 => r68 (x32, M31, L)))))
noncomputable def fX1_clear_h68 (fu : Nat) : Nat → (Int32 × mwM × mwL) → Option (mwM × mwL) := mloop (fun r68 s => fX1_clear_i68 fu r68 s.1 s.2.1 s.2.2)
noncomputable def fX1_clear_i47 (fu : Nat) (r47 : (Int32 × mwM × mwL) → Option (mwM × mwL)) (v1 : Int32) (M : mwM) (L : mwL) : Option (mwM × mwL) :=
  (if 6 ≤ v1 then fX1_clear_h68 fu fu (0, M, L) else mck v1 6 (mlet (mset M 284 (v1.toNatClampNeg) (vp_nar .boolean 0)) (fun M11 => mlet (v1 + 1) (fun x12 => r47 (x12, M11, L)))))
noncomputable def fX1_clear_h47 (fu : Nat) : Nat → (Int32 × mwM × mwL) → Option (mwM × mwL) := mloop (fun r47 s => fX1_clear_i47 fu r47 s.1 s.2.1 s.2.2)
noncomputable def fX1_clear_i23 (fu : Nat) (r23 : (Int32 × mwM × mwL) → Option (mwM × mwL)) (v1 : Int32) (M : mwM) (L : mwL) : Option (mwM × mwL) :=
  (if 12 ≤ v1 then fX1_clear_h47 fu fu (0, M, L) else mck v1 12 (mlet (mset M ((293 + 36 * v1.toNatClampNeg) + 0) 5 ((-1))) (fun M7 => mlet (v1 + 1) (fun x8 => r23 (x8, M7, L)))))
noncomputable def fX1_clear_h23 (fu : Nat) : Nat → (Int32 × mwM × mwL) → Option (mwM × mwL) := mloop (fun r23 s => fX1_clear_i23 fu r23 s.1 s.2.1 s.2.2)
noncomputable def fX1_clear_i2 (fu : Nat) (r2 : (Int32 × mwM × mwL) → Option (mwM × mwL)) (v1 : Int32) (M : mwM) (L : mwL) : Option (mwM × mwL) :=
  (if 12 ≤ v1 then fX1_clear_h23 fu fu (0, M, L) else mck v1 12 (mlet (mset M 283 (v1.toNatClampNeg) ((-1))) (fun M3 => mlet (v1 + 1) (fun x4 => r2 (x4, M3, L)))))
noncomputable def fX1_clear_h2 (fu : Nat) : Nat → (Int32 × mwM × mwL) → Option (mwM × mwL) := mloop (fun r2 s => fX1_clear_i2 fu r2 s.1 s.2.1 s.2.2)
noncomputable def DX1_clear (fu : Nat) (M : mwM) (L : mwL) : Option (mwM × mwL) :=
  fX1_clear_h2 fu fu (0, M, L)
noncomputable def DX1_addChart (fu : Nat) (a1 : Int32) (a2 : Int32) (M : mwM) (L : mwL) : Option (mwM × mwL) :=
  mck (M 3 14) 12 (mck a1 12 (mb2 (DX2_begin fu ((293 + 36 * (M 3 14).toNatClampNeg)) (M 8 a1.toNatClampNeg) a2 M L) (fun M4 L5 => mck a1 12 (mlet (mset M4 283 (a1.toNatClampNeg) (M4 3 14)) (fun M7 => mlet (mset M7 3 14 ((M7 3 14) + 1)) (fun M8 => some (M8, L5)))))))
noncomputable def DX1_addRead (fu : Nat) (a1 : Int32) (a2 : Int32) (a3 : Int32) (a4 : Int32) (M : mwM) (L : mwL) : Option (Int32 × mwM × mwL) :=
  (if (M 3 15) < 60 then mck (M 3 15) 60 (mlet (mset M 286 ((M 3 15).toNatClampNeg) a1) (fun M4 => mck (M4 3 15) 60 (mlet (mset M4 287 ((M4 3 15).toNatClampNeg) a2) (fun M7 => mck (M7 3 15) 60 (mlet (mset M7 288 ((M7 3 15).toNatClampNeg) a3) (fun M10 => mck (M10 3 15) 60 (mlet (mset M10 289 ((M10 3 15).toNatClampNeg) a4) (fun M13 => mck (M13 3 15) 60 (mlet (mset M13 290 ((M13 3 15).toNatClampNeg) 0) (fun M16 => mlet (mset M16 3 15 ((M16 3 15) + 1)) (fun M17 => some (M17 3 15, M17, L)))))))))))) else some ((-4), M, L))
noncomputable def fX1_join_i86 (fu : Nat) (r86 : (Int32 × mwM × mwL) → Option (mwM × mwL)) (v1 : Int32) (M : mwM) (L : mwL) : Option (mwM × mwL) :=
  (if (M 3 14) ≤ v1 then some (M, L) else mck v1 12 (mb2 (DX2_findDomains fu ((293 + 36 * v1.toNatClampNeg)) M L) (fun M12 L13 => mlet (v1 + 1) (fun x14 => r86 (x14, M12, L13)))))
noncomputable def fX1_join_h86 (fu : Nat) : Nat → (Int32 × mwM × mwL) → Option (mwM × mwL) := mloop (fun r86 s => fX1_join_i86 fu r86 s.1 s.2.1 s.2.2)
noncomputable def fX1_join_b78 (fu : Nat) (r35 : (Int32 × mwM × mwL) → Option (mwM × mwL)) (v1 : Int32) (M : mwM) (L : mwL) : Option (mwM × mwL) :=
  mlet (v1 + 1) (fun x9 => r35 (x9, M, L))
noncomputable def fX1_join_i35 (fu : Nat) (r35 : (Int32 × mwM × mwL) → Option (mwM × mwL)) (v1 : Int32) (M : mwM) (L : mwL) : Option (mwM × mwL) :=
  (if (M 61 11) ≤ v1 then fX1_join_h86 fu fu (0, M, L) else mck v1 40 ((if (M 76 v1.toNatClampNeg) = 0 then fX1_join_b78 fu r35 v1 M L else mck v1 40 (mb2 (DX3_learn fu (M 76 v1.toNatClampNeg) M L) (fun M7 L8 => fX1_join_b78 fu r35 v1 M7 L8)))))
noncomputable def fX1_join_h35 (fu : Nat) : Nat → (Int32 × mwM × mwL) → Option (mwM × mwL) := mloop (fun r35 s => fX1_join_i35 fu r35 s.1 s.2.1 s.2.2)
noncomputable def DX1_join (fu : Nat) (M : mwM) (L : mwL) : Option (mwM × mwL) :=
  mb2 (DX6_pack fu (M 3 13) M L) (fun M15 L16 => mb2 (DX0_begin fu ((M15 3 13) + 1) M15 L16) (fun M17 L18 => mb2 (DX3_learn fu 16 M17 L18) (fun M19 L20 => fX1_join_h35 fu fu (0, M19, L20))))
noncomputable def fX1_sendFrame_b84 (fu : Nat) (a1 : Int32) (M : mwM) (L : mwL) : Option (mwM × mwL) :=
  some (M, L)
noncomputable def fX1_sendFrame_b38 (fu : Nat) (a1 : Int32) (M : mwM) (L : mwL) : Option (mwM × mwL) :=
  mck a1 40 (mb3 (DX6_identifierOf fu a1 M L) (fun r5 M3 L4 => mb3 (DX0_send fu (M 74 a1.toNatClampNeg) r5 95 8 M3 L4) (fun r8 M6 L7 => (if r8 = 0 then mlet (mset M6 292 ((0 : Int32).toNatClampNeg) ((M6 292 (0 : Int32).toNatClampNeg) + 1)) (fun M12 => fX1_sendFrame_b84 fu a1 M12 L7) else fX1_sendFrame_b84 fu a1 M6 L7))))
noncomputable def DX1_sendFrame (fu : Nat) (a1 : Int32) (M : mwM) (L : mwL) : Option (mwM × mwL) :=
  mb2 (DX6_fill fu a1 M L) (fun M13 L14 => mck a1 40 ((if (M13 76 a1.toNatClampNeg) = 0 then fX1_sendFrame_b38 fu a1 M13 L14 else mb2 (DX6_seal fu a1 M13 L14) (fun M18 L19 => fX1_sendFrame_b38 fu a1 M18 L19))))
noncomputable def fX1_sendFrames_b61 (fu : Nat) (a1 : Int32) (r14 : (Int32 × mwM × mwL) → Option (mwM × mwL)) (v2 : Int32) (M : mwM) (L : mwL) : Option (mwM × mwL) :=
  mlet (v2 + 1) (fun x14 => r14 (x14, M, L))
noncomputable def fX1_sendFrames_i14 (fu : Nat) (a1 : Int32) (r14 : (Int32 × mwM × mwL) → Option (mwM × mwL)) (v2 : Int32) (M : mwM) (L : mwL) : Option (mwM × mwL) :=
  (if (M 61 11) ≤ v2 then mb2 (DX6_findSoonest fu M L) (fun M2 L3 => some (M2, L3)) else mb3 (DX6_takeTurn fu v2 a1 M L) (fun r6 M4 L5 => (if r6 = 0 then fX1_sendFrames_b61 fu a1 r14 v2 M4 L5 else mck v2 40 (mck (M4 74 v2.toNatClampNeg) 6 ((if (M4 284 (M4 74 v2.toNatClampNeg).toNatClampNeg) = 0 then mb2 (DX1_sendFrame fu v2 M4 L5) (fun M12 L13 => fX1_sendFrames_b61 fu a1 r14 v2 M12 L13) else fX1_sendFrames_b61 fu a1 r14 v2 M4 L5))))))
noncomputable def fX1_sendFrames_h14 (fu : Nat) (a1 : Int32) : Nat → (Int32 × mwM × mwL) → Option (mwM × mwL) := mloop (fun r14 s => fX1_sendFrames_i14 fu a1 r14 s.1 s.2.1 s.2.2)
noncomputable def DX1_sendFrames (fu : Nat) (a1 : Int32) (M : mwM) (L : mwL) : Option (mwM × mwL) :=
  (if (M 61 14) ≤ a1 then fX1_sendFrames_h14 fu a1 fu (0, M, L) else some (M, L))
noncomputable def fX1_takeOfTransfer_b43 (fu : Nat) (a1 : Int32) (a2 : Int32) (M : mwM) (L : mwL) : Option (mwM × mwL) :=
  some (M, L)
noncomputable def fX1_takeOfTransfer_b160 (fu : Nat) (a1 : Int32) (a2 : Int32) (M : mwM) (L : mwL) : Option (mwM × mwL) :=
  some (M, L)
noncomputable def fX1_takeOfTransfer_b40 (fu : Nat) (a1 : Int32) (a2 : Int32) (v3 : Int32) (v4 : Int32) (s1 : Int32) (M : mwM) (L : mwL) : Option (mwM × mwL) :=
  (if a1 = s1 then mb3 (DX9_reach fu v3 v4 M L) (fun r6 M4 L5 => (if r6 = 0 then some (M4, L5) else mb3 (DX9_isQuestion fu r6 M4 L5) (fun r10 M8 L9 => (if r10 = 0 then (if v3 = (M8 3 17) then mlet (mset M8 3 18 r6) (fun M13 => mlet (mset M13 3 17 ((-1))) (fun M14 => mlet (mset M14 292 ((3 : Int32).toNatClampNeg) ((M14 292 (3 : Int32).toNatClampNeg) + 1)) (fun M17 => fX1_takeOfTransfer_b160 fu a1 a2 M17 L9))) else fX1_takeOfTransfer_b160 fu a1 a2 M8 L9) else mck r6 101 (mck r6 101 (mb2 (DX7_makeReply fu v3 ((162 + r6.toNatClampNeg)) 100 (M8 158 r6.toNatClampNeg) M8 L9) (fun M21 L22 => mb2 (DX9_make fu v3 0 282 20 (M21 275 7) M21 L22) (fun M23 L24 => fX1_takeOfTransfer_b160 fu a1 a2 M23 L24)))))))) else fX1_takeOfTransfer_b43 fu a1 a2 M L)
noncomputable def fX1_takeOfTransfer_b16 (fu : Nat) (a1 : Int32) (a2 : Int32) (v3 : Int32) (s0 : Int32) (M : mwM) (L : mwL) : Option (mwM × mwL) :=
  (if (M 3 13) ≤ v3 then fX1_takeOfTransfer_b43 fu a1 a2 M L else (if s0 = 0 then fX1_takeOfTransfer_b40 fu a1 a2 v3 s0 v3 M L else fX1_takeOfTransfer_b40 fu a1 a2 v3 s0 (M 3 13) M L))
noncomputable def DX1_takeOfTransfer (fu : Nat) (a1 : Int32) (a2 : Int32) (M : mwM) (L : mwL) : Option (mwM × mwL) :=
  mlet (a2 / 2) (fun x26 => (if (a2 - a2 / 2 * 2) = 1 then fX1_takeOfTransfer_b16 fu a1 a2 x26 1 M L else fX1_takeOfTransfer_b16 fu a1 a2 x26 0 M L))
noncomputable def fX1_takeRead_b107 (fu : Nat) (a1 : Int32) (a2 : Int64) (M : mwM) (L : mwL) : Option (mwM × mwL) :=
  some (M, L)
noncomputable def fX1_takeRead_b24 (fu : Nat) (a1 : Int32) (a2 : Int64) (M : mwM) (L : mwL) : Option (mwM × mwL) :=
  mck a1 60 (mlet (mset M 290 (a1.toNatClampNeg) 1) (fun M3 => mck a1 60 (mlet (mset L 291 (a1.toNatClampNeg) a2) (fun L5 => mck a1 60 (mck (M3 287 a1.toNatClampNeg) 12 (mck a1 60 (mck (M3 288 a1.toNatClampNeg) 32 (mlet (mset L5 ((293 + 36 * (M3 287 a1.toNatClampNeg).toNatClampNeg) + 34) ((M3 288 a1.toNatClampNeg).toNatClampNeg) a2) (fun L12 => mck a1 60 ((if (M3 289 a1.toNatClampNeg) = 0 then fX1_takeRead_b107 fu a1 a2 M3 L12 else mck a1 60 (mb3 (DX2_queue fu ((293 + 36 * (M3 287 a1.toNatClampNeg).toNatClampNeg)) (M3 289 a1.toNatClampNeg) M3 L12) (fun r20 M18 L19 => (if r20 = 0 then mlet (mset M18 292 ((2 : Int32).toNatClampNeg) ((M18 292 (2 : Int32).toNatClampNeg) + 1)) (fun M24 => fX1_takeRead_b107 fu a1 a2 M24 L19) else fX1_takeRead_b107 fu a1 a2 M18 L19))))))))))))))
noncomputable def DX1_takeRead (fu : Nat) (a1 : Int32) (a2 : Int64) (M : mwM) (L : mwL) : Option (mwM × mwL) :=
  mck a1 60 ((if (M 290 a1.toNatClampNeg) = 1 then mck a1 60 ((if (lg_cmp (L 291 a1.toNatClampNeg) a2) = 0 then some (M, L) else fX1_takeRead_b24 fu a1 a2 M L)) else fX1_takeRead_b24 fu a1 a2 M L))
noncomputable def fX1_takeSignals_b190 (fu : Nat) (a1 : Int32) (a2 : Int32) (a3 : Nat) (n3 : Nat) (r117 : (Int32 × mwM × mwL) → Option (mwM × mwL)) (v4 : Int32) (M : mwM) (L : mwL) : Option (mwM × mwL) :=
  mlet (v4 + 1) (fun x34 => r117 (x34, M, L))
noncomputable def fX1_takeSignals_i117 (fu : Nat) (a1 : Int32) (a2 : Int32) (a3 : Nat) (n3 : Nat) (r117 : (Int32 × mwM × mwL) → Option (mwM × mwL)) (v4 : Int32) (M : mwM) (L : mwL) : Option (mwM × mwL) :=
  (if (M 3 15) ≤ v4 then some (M, L) else mck v4 60 (mck (M 287 v4.toNatClampNeg) 12 ((if (M ((293 + 36 * (M 287 v4.toNatClampNeg).toNatClampNeg) + 0) 5) = a1 then mck v4 60 (mb3 (DX6_isIn fu (M 286 v4.toNatClampNeg) a2 M L) (fun r25 M23 L24 => (if r25 = 0 then fX1_takeSignals_b190 fu a1 a2 a3 n3 r117 v4 M23 L24 else mck v4 60 (mb3 (DX6_valueIn fu (M23 286 v4.toNatClampNeg) a3 n3 M23 L24) (fun r31 M29 L30 => mb2 (DX1_takeRead fu v4 r31 M29 L30) (fun M32 L33 => fX1_takeSignals_b190 fu a1 a2 a3 n3 r117 v4 M32 L33)))))) else fX1_takeSignals_b190 fu a1 a2 a3 n3 r117 v4 M L))))
noncomputable def fX1_takeSignals_h117 (fu : Nat) (a1 : Int32) (a2 : Int32) (a3 : Nat) (n3 : Nat) : Nat → (Int32 × mwM × mwL) → Option (mwM × mwL) := mloop (fun r117 s => fX1_takeSignals_i117 fu a1 a2 a3 n3 r117 s.1 s.2.1 s.2.2)
noncomputable def fX1_takeSignals_b108 (fu : Nat) (a1 : Int32) (a2 : Int32) (a3 : Nat) (n3 : Nat) (r50 : (Int32 × mwM × mwL) → Option (mwM × mwL)) (v4 : Int32) (M : mwM) (L : mwL) : Option (mwM × mwL) :=
  mlet (v4 + 1) (fun x15 => r50 (x15, M, L))
noncomputable def fX1_takeSignals_i50 (fu : Nat) (a1 : Int32) (a2 : Int32) (a3 : Nat) (n3 : Nat) (r50 : (Int32 × mwM × mwL) → Option (mwM × mwL)) (v4 : Int32) (M : mwM) (L : mwL) : Option (mwM × mwL) :=
  (if (M 139 2) ≤ v4 then fX1_takeSignals_h117 fu a1 a2 a3 n3 fu (0, M, L) else mb3 (DX10_isWatching fu v4 a1 M L) (fun r4 M2 L3 => (if r4 = 0 then fX1_takeSignals_b108 fu a1 a2 a3 n3 r50 v4 M2 L3 else mb3 (DX10_signalOf fu v4 M2 L3) (fun r8 M6 L7 => mb3 (DX6_isIn fu r8 a2 M6 L7) (fun r11 M9 L10 => (if r11 = 0 then fX1_takeSignals_b108 fu a1 a2 a3 n3 r50 v4 M9 L10 else mb2 (DX10_notePassed fu v4 (M9 3 16) M9 L10) (fun M13 L14 => fX1_takeSignals_b108 fu a1 a2 a3 n3 r50 v4 M13 L14)))))))
noncomputable def fX1_takeSignals_h50 (fu : Nat) (a1 : Int32) (a2 : Int32) (a3 : Nat) (n3 : Nat) : Nat → (Int32 × mwM × mwL) → Option (mwM × mwL) := mloop (fun r50 s => fX1_takeSignals_i50 fu a1 a2 a3 n3 r50 s.1 s.2.1 s.2.2)
noncomputable def fX1_takeSignals_b47 (fu : Nat) (a1 : Int32) (a2 : Int32) (a3 : Nat) (n3 : Nat) (M : mwM) (L : mwL) : Option (mwM × mwL) :=
  fX1_takeSignals_h50 fu a1 a2 a3 n3 fu (0, M, L)
noncomputable def DX1_takeSignals (fu : Nat) (a1 : Int32) (a2 : Int32) (a3 : Nat) (n3 : Nat) (M : mwM) (L : mwL) : Option (mwM × mwL) :=
  (if 0 ≤ a2 then mck a2 40 ((if (M 76 a2.toNatClampNeg) = 0 then fX1_takeSignals_b47 fu a1 a2 a3 n3 M L else mb3 (DX6_accept fu a1 a2 a3 n3 M L) (fun r41 M39 L40 => (if r41 = 0 then mlet (mset M39 292 ((1 : Int32).toNatClampNeg) ((M39 292 (1 : Int32).toNatClampNeg) + 1)) (fun M45 => some (M45, L40)) else fX1_takeSignals_b47 fu a1 a2 a3 n3 M39 L40)))) else some (M, L))
noncomputable def fX1_takeFrames_b107 (fu : Nat) (r2 : (Int32 × mwM × mwL) → Option (mwM × mwL)) (v1 : Int32) (M : mwM) (L : mwL) : Option (mwM × mwL) :=
  mlet (v1 + 1) (fun x18 => r2 (x18, M, L))
noncomputable def fX1_takeFrames_i2 (fu : Nat) (r2 : (Int32 × mwM × mwL) → Option (mwM × mwL)) (v1 : Int32) (M : mwM) (L : mwL) : Option (mwM × mwL) :=
  (if (M 3 13) < v1 then some (M, L) else mck v1 7 ((if (((M 20 12) >>> (v1 &&& 31)) &&& 1) = 0 then fX1_takeFrames_b107 fu r2 v1 M L else mb3 (DX5_kind fu ((47 + 2 * v1.toNatClampNeg)) M L) (fun r6 M4 L5 => (if r6 = 0 then (if (M4 ((47 + 2 * v1.toNatClampNeg) + 0) 16) = 8 then (if (M4 ((47 + 2 * v1.toNatClampNeg) + 0) 10) < 1536 then (if (M4 3 13) ≤ v1 then fX1_takeFrames_b107 fu r2 v1 M4 L5 else mb3 (DX6_frameOf fu (M4 ((47 + 2 * v1.toNatClampNeg) + 0) 10) M4 L5) (fun r13 M11 L12 => mb2 (DX1_takeSignals fu v1 r13 (((47 + 2 * v1.toNatClampNeg) + 1)) 64 M11 L12) (fun M14 L15 => fX1_takeFrames_b107 fu r2 v1 M14 L15))) else mb2 (DX1_takeOfTransfer fu v1 ((M4 ((47 + 2 * v1.toNatClampNeg) + 0) 10) - 1536) M4 L5) (fun M16 L17 => fX1_takeFrames_b107 fu r2 v1 M16 L17)) else fX1_takeFrames_b107 fu r2 v1 M4 L5) else fX1_takeFrames_b107 fu r2 v1 M4 L5)))))
noncomputable def fX1_takeFrames_h2 (fu : Nat) : Nat → (Int32 × mwM × mwL) → Option (mwM × mwL) := mloop (fun r2 s => fX1_takeFrames_i2 fu r2 s.1 s.2.1 s.2.2)
noncomputable def DX1_takeFrames (fu : Nat) (M : mwM) (L : mwL) : Option (mwM × mwL) :=
  fX1_takeFrames_h2 fu fu (0, M, L)
noncomputable def fX1_putOnBus_b102 (fu : Nat) (a1 : Int32) (M : mwM) (L : mwL) : Option (mwM × mwL) :=
  some (M, L)
noncomputable def fX1_putOnBus_b69 (fu : Nat) (a1 : Int32) (v4 : Int32) (s1 : Int32) (M : mwM) (L : mwL) : Option (mwM × mwL) :=
  mb3 (DX0_send fu s1 v4 274 8 M L) (fun r11 M9 L10 => (if r11 = 0 then mlet (mset M9 292 ((0 : Int32).toNatClampNeg) ((M9 292 (0 : Int32).toNatClampNeg) + 1)) (fun M15 => mb2 (DX9_lose fu a1 M15 L10) (fun M16 L17 => fX1_putOnBus_b102 fu a1 M16 L17)) else fX1_putOnBus_b102 fu a1 M9 L10))
noncomputable def fX1_putOnBus_b42 (fu : Nat) (a1 : Int32) (v2 : Int32) (v3 : Int32) (s0 : Int32) (s1 : Int32) (M : mwM) (L : mwL) : Option (mwM × mwL) :=
  mlet (s0 + s1) (fun x5 => mb2 (DX9_writeOctets fu a1 M L) (fun M6 L7 => (if v2 = 0 then fX1_putOnBus_b69 fu a1 x5 v3 M6 L7 else fX1_putOnBus_b69 fu a1 x5 (M6 3 13) M6 L7)))
noncomputable def fX1_putOnBus_b16 (fu : Nat) (a1 : Int32) (s0 : Int32) (M : mwM) (L : mwL) : Option (mwM × mwL) :=
  mb3 (DX9_controllerOf fu a1 M L) (fun r3 M1 L2 => (if s0 = 0 then fX1_putOnBus_b42 fu a1 s0 r3 (1536 + (2 * r3)) 1 M1 L2 else fX1_putOnBus_b42 fu a1 s0 r3 (1536 + (2 * r3)) 0 M1 L2))
noncomputable def DX1_putOnBus (fu : Nat) (a1 : Int32) (M : mwM) (L : mwL) : Option (mwM × mwL) :=
  mb3 (DX9_isToTester fu a1 M L) (fun r20 M18 L19 => (if r20 = 0 then fX1_putOnBus_b16 fu a1 1 M18 L19 else fX1_putOnBus_b16 fu a1 0 M18 L19))
noncomputable def fX1_passTransfer_b87 (fu : Nat) (M : mwM) (L : mwL) : Option (mwM × mwL) :=
  mlet (mset M 154 10 0) (fun M12 => some (M12, L))
noncomputable def fX1_passTransfer_i19 (fu : Nat) (r19 : (Int32 × mwM × mwL) → Option (mwM × mwL)) (v1 : Int32) (M : mwM) (L : mwL) : Option (mwM × mwL) :=
  (if (M 154 6) ≤ v1 then mlet (mset M 154 7 (M 154 6)) (fun M2 => (if (M2 154 10) = 0 then fX1_passTransfer_b87 fu M2 L else (if (M2 3 17) < 0 then fX1_passTransfer_b87 fu M2 L else mlet (mset M2 3 17 ((-1))) (fun M5 => mlet (mset M5 292 ((4 : Int32).toNatClampNeg) ((M5 292 (4 : Int32).toNatClampNeg) + 1)) (fun M8 => fX1_passTransfer_b87 fu M8 L))))) else mb2 (DX1_putOnBus fu v1 M L) (fun M9 L10 => mlet (v1 + 1) (fun x11 => r19 (x11, M9, L10))))
noncomputable def fX1_passTransfer_h19 (fu : Nat) : Nat → (Int32 × mwM × mwL) → Option (mwM × mwL) := mloop (fun r19 s => fX1_passTransfer_i19 fu r19 s.1 s.2.1 s.2.2)
noncomputable def DX1_passTransfer (fu : Nat) (M : mwM) (L : mwL) : Option (mwM × mwL) :=
  mb2 (DX9_tick fu (M 3 16) M L) (fun M13 L14 => mlet (M13 154 7) (fun x15 => fX1_passTransfer_h19 fu fu (x15, M13, L14)))
noncomputable def fX1_passMicrosecond_b122 (fu : Nat) (M : mwM) (L : mwL) : Option (mwM × mwL) :=
  mb2 (DX10_lookForSilence fu (M 3 16) M L) (fun M11 L12 => mb2 (DX1_passTransfer fu M11 L12) (fun M13 L14 => some (M13, L14)))
noncomputable def fX1_passMicrosecond_b116 (fu : Nat) (r56 : (Int32 × mwM × mwL) → Option (mwM × mwL)) (v1 : Int32) (M : mwM) (L : mwL) : Option (mwM × mwL) :=
  mlet (v1 + 1) (fun x10 => r56 (x10, M, L))
noncomputable def fX1_passMicrosecond_i56 (fu : Nat) (r56 : (Int32 × mwM × mwL) → Option (mwM × mwL)) (v1 : Int32) (M : mwM) (L : mwL) : Option (mwM × mwL) :=
  (if 12 ≤ v1 then fX1_passMicrosecond_b122 fu M L else (if ((M 5 5) >>> (v1 &&& 31)) = 0 then fX1_passMicrosecond_b122 fu M L else (if (((M 5 5) >>> (v1 &&& 31)) &&& 1) = 1 then mck v1 12 ((if (M 283 v1.toNatClampNeg) < 0 then fX1_passMicrosecond_b116 fu r56 v1 M L else mck v1 12 (mck (M 283 v1.toNatClampNeg) 12 (mb2 (DX2_workOff fu ((293 + 36 * (M 283 v1.toNatClampNeg).toNatClampNeg)) (M 3 16) M L) (fun M8 L9 => fX1_passMicrosecond_b116 fu r56 v1 M8 L9))))) else fX1_passMicrosecond_b116 fu r56 v1 M L)))
noncomputable def fX1_passMicrosecond_h56 (fu : Nat) : Nat → (Int32 × mwM × mwL) → Option (mwM × mwL) := mloop (fun r56 s => fX1_passMicrosecond_i56 fu r56 s.1 s.2.1 s.2.2)
noncomputable def fX1_passMicrosecond_b54 (fu : Nat) (M : mwM) (L : mwL) : Option (mwM × mwL) :=
  fX1_passMicrosecond_h56 fu fu (0, M, L)
noncomputable def DX1_passMicrosecond (fu : Nat) (M : mwM) (L : mwL) : Option (mwM × mwL) :=
  mb2 (DX1_sendFrames fu (M 3 16) M L) (fun M15 L16 => mb2 (DX0_passBit fu (M15 3 16) M15 L16) (fun M17 L18 => mb2 (DX4_passMicrosecond fu (M17 3 16) M17 L18) (fun M19 L20 => mlet (mset M19 3 16 ((M19 3 16) + 1)) (fun M21 => (if (M21 20 12) = 0 then fX1_passMicrosecond_b54 fu M21 L20 else mb2 (DX1_takeFrames fu M21 L20) (fun M23 L24 => fX1_passMicrosecond_b54 fu M23 L24))))))
noncomputable def fX8_append_b50 (fu : Nat) (a1 : Int32) (r3 : (Int32 × mwM × mwL) → Option (mwM × mwL)) (v2 : Int32) (M : mwM) (L : mwL) : Option (mwM × mwL) :=
  mlet (v2 + (-8)) (fun x8 => r3 (x8, M, L))
noncomputable def fX8_append_i3 (fu : Nat) (a1 : Int32) (r3 : (Int32 × mwM × mwL) → Option (mwM × mwL)) (v2 : Int32) (M : mwM) (L : mwL) : Option (mwM × mwL) :=
  (if v2 < 0 then some (M, L) else mlet (((a1.toUInt32 >>> (v2.toUInt32 &&& Int32.toUInt32 31)).toInt32) &&& 255) (fun x2 => (if x2 = 0 then fX8_append_b50 fu a1 r3 v2 M L else (if 6000 ≤ (M 1 4) then fX8_append_b50 fu a1 r3 v2 M L else mck (M 1 4) 6000 (mlet (mset M 2 ((M 1 4).toNatClampNeg) (vp_nar .char ((x2.toUInt32 % 65536).toInt32))) (fun M6 => mlet (mset M6 1 4 ((M6 1 4) + 1)) (fun M7 => fX8_append_b50 fu a1 r3 v2 M7 L)))))))
noncomputable def fX8_append_h3 (fu : Nat) (a1 : Int32) : Nat → (Int32 × mwM × mwL) → Option (mwM × mwL) := mloop (fun r3 s => fX8_append_i3 fu a1 r3 s.1 s.2.1 s.2.2)
noncomputable def DX8_append (fu : Nat) (a1 : Int32) (M : mwM) (L : mwL) : Option (mwM × mwL) :=
  fX8_append_h3 fu a1 fu (24, M, L)
noncomputable def fX8_findLineEnd_b43 (fu : Nat) (a1 : Int32) (M : mwM) (L : mwL) : Option (mwM × mwL) :=
  some (M, L)
noncomputable def fX8_findLineEnd_i5 (fu : Nat) (a1 : Int32) (r5 : (mwM × mwL) → Option (mwM × mwL)) (M : mwM) (L : mwL) : Option (mwM × mwL) :=
  (if (M 1 4) ≤ (M 1 6) then fX8_findLineEnd_b43 fu a1 M L else mck (M 1 6) 6000 ((if (M 2 (M 1 6).toNatClampNeg) = 10 then fX8_findLineEnd_b43 fu a1 M L else mlet (mset M 1 6 ((M 1 6) + 1)) (fun M4 => r5 (M4, L)))))
noncomputable def fX8_findLineEnd_h5 (fu : Nat) (a1 : Int32) : Nat → (mwM × mwL) → Option (mwM × mwL) := mloop (fun r5 s => fX8_findLineEnd_i5 fu a1 r5 s.1 s.2)
noncomputable def DX8_findLineEnd (fu : Nat) (a1 : Int32) (M : mwM) (L : mwL) : Option (mwM × mwL) :=
  mlet (mset M 1 6 a1) (fun M5 => fX8_findLineEnd_h5 fu a1 fu (M5, L))
noncomputable def fX8_nextWord_b63 (fu : Nat) (M : mwM) (L : mwL) : Option (mwM × mwL) :=
  mlet (mset M 1 8 (M 1 6)) (fun M9 => mlet (mset M9 1 9 0) (fun M10 => some (M10, L)))
noncomputable def fX8_nextWord_b123 (fu : Nat) (M : mwM) (L : mwL) : Option (mwM × mwL) :=
  mlet (mset M 1 9 ((M 1 5) - (M 1 8))) (fun M15 => some (M15, L))
noncomputable def fX8_nextWord_i85 (fu : Nat) (r85 : (mwM × mwL) → Option (mwM × mwL)) (M : mwM) (L : mwL) : Option (mwM × mwL) :=
  (if (M 1 6) ≤ (M 1 5) then fX8_nextWord_b123 fu M L else mck (M 1 5) 6000 ((if (M 2 (M 1 5).toNatClampNeg) = 32 then fX8_nextWord_b123 fu M L else mlet (mset M 1 5 ((M 1 5) + 1)) (fun M14 => r85 (M14, L)))))
noncomputable def fX8_nextWord_h85 (fu : Nat) : Nat → (mwM × mwL) → Option (mwM × mwL) := mloop (fun r85 s => fX8_nextWord_i85 fu r85 s.1 s.2)
noncomputable def fX8_nextWord_b38 (fu : Nat) (M : mwM) (L : mwL) : Option (mwM × mwL) :=
  (if (M 1 6) ≤ (M 1 5) then fX8_nextWord_b63 fu M L else mck (M 1 5) 6000 ((if (M 2 (M 1 5).toNatClampNeg) = 35 then fX8_nextWord_b63 fu M L else mlet (mset M 1 8 (M 1 5)) (fun M8 => fX8_nextWord_h85 fu fu (M8, L)))))
noncomputable def fX8_nextWord_i0 (fu : Nat) (r0 : (mwM × mwL) → Option (mwM × mwL)) (M : mwM) (L : mwL) : Option (mwM × mwL) :=
  (if (M 1 6) ≤ (M 1 5) then fX8_nextWord_b38 fu M L else mck (M 1 5) 6000 ((if (M 2 (M 1 5).toNatClampNeg) = 32 then mlet (mset M 1 5 ((M 1 5) + 1)) (fun M4 => r0 (M4, L)) else fX8_nextWord_b38 fu M L)))
noncomputable def fX8_nextWord_h0 (fu : Nat) : Nat → (mwM × mwL) → Option (mwM × mwL) := mloop (fun r0 s => fX8_nextWord_i0 fu r0 s.1 s.2)
noncomputable def DX8_nextWord (fu : Nat) (M : mwM) (L : mwL) : Option (mwM × mwL) :=
  fX8_nextWord_h0 fu fu (M, L)
noncomputable def fX8_standsAt_b41 (fu : Nat) (a1 : Nat) (a2 : Int32) (M : mwM) (L : mwL) : Option (Int32 × mwM × mwL) :=
  some (0, M, L)
noncomputable def fX8_standsAt_i2 (fu : Nat) (a1 : Nat) (a2 : Int32) (r2 : (Int32 × mwM × mwL) → Option (Int32 × mwM × mwL)) (v3 : Int32) (M : mwM) (L : mwL) : Option (Int32 × mwM × mwL) :=
  (if (M 1 9) ≤ v3 then some (1, M, L) else (if (Int32.ofNat (mw_slen.getD a1 0)) ≤ (a2 + v3) then fX8_standsAt_b41 fu a1 a2 M L else mck (a2 + v3) (mw_slen.getD a1 0) (mck ((M 1 8) + v3) 6000 ((if (mw_sch a1 (a2 + v3)) = (M 2 ((M 1 8) + v3).toNatClampNeg) then mlet (v3 + 1) (fun x6 => r2 (x6, M, L)) else fX8_standsAt_b41 fu a1 a2 M L)))))
noncomputable def fX8_standsAt_h2 (fu : Nat) (a1 : Nat) (a2 : Int32) : Nat → (Int32 × mwM × mwL) → Option (Int32 × mwM × mwL) := mloop (fun r2 s => fX8_standsAt_i2 fu a1 a2 r2 s.1 s.2.1 s.2.2)
noncomputable def DX8_standsAt (fu : Nat) (a1 : Nat) (a2 : Int32) (M : mwM) (L : mwL) : Option (Int32 × mwM × mwL) :=
  fX8_standsAt_h2 fu a1 a2 fu (0, M, L)
noncomputable def fX8_indexIn_b66 (fu : Nat) (a1 : Nat) (r7 : (Int32 × Int32 × Int32 × mwM × mwL) → Option (Int32 × mwM × mwL)) (v2 : Int32) (v3 : Int32) (v4 : Int32) (M : mwM) (L : mwL) : Option (Int32 × mwM × mwL) :=
  mlet (v4 + 1) (fun x12 => r7 (v2, v3, x12, M, L))
noncomputable def fX8_indexIn_b58 (fu : Nat) (a1 : Nat) (r7 : (Int32 × Int32 × Int32 × mwM × mwL) → Option (Int32 × mwM × mwL)) (v2 : Int32) (v4 : Int32) (M : mwM) (L : mwL) : Option (Int32 × mwM × mwL) :=
  mlet (v2 + 1) (fun x10 => mlet (v4 + 1) (fun x11 => fX8_indexIn_b66 fu a1 r7 x10 x11 v4 M L))
noncomputable def fX8_indexIn_b36 (fu : Nat) (a1 : Nat) (r7 : (Int32 × Int32 × Int32 × mwM × mwL) → Option (Int32 × mwM × mwL)) (v2 : Int32) (v3 : Int32) (v4 : Int32) (M : mwM) (L : mwL) : Option (Int32 × mwM × mwL) :=
  (if (v4 - v3) = (M 1 9) then mb3 (DX8_standsAt fu a1 v3 M L) (fun r8 M6 L7 => (if r8 = 0 then fX8_indexIn_b58 fu a1 r7 v2 v4 M6 L7 else some (v2, M6, L7))) else fX8_indexIn_b58 fu a1 r7 v2 v4 M L)
noncomputable def fX8_indexIn_i7 (fu : Nat) (a1 : Nat) (r7 : (Int32 × Int32 × Int32 × mwM × mwL) → Option (Int32 × mwM × mwL)) (v2 : Int32) (v3 : Int32) (v4 : Int32) (M : mwM) (L : mwL) : Option (Int32 × mwM × mwL) :=
  (if (Int32.ofNat (mw_slen.getD a1 0)) < v4 then some ((-1), M, L) else (if v4 = (Int32.ofNat (mw_slen.getD a1 0)) then fX8_indexIn_b36 fu a1 r7 v2 v3 v4 M L else mck v4 (mw_slen.getD a1 0) ((if (mw_sch a1 v4) = 32 then fX8_indexIn_b36 fu a1 r7 v2 v3 v4 M L else fX8_indexIn_b66 fu a1 r7 v2 v3 v4 M L))))
noncomputable def fX8_indexIn_h7 (fu : Nat) (a1 : Nat) : Nat → (Int32 × Int32 × Int32 × mwM × mwL) → Option (Int32 × mwM × mwL) := mloop (fun r7 s => fX8_indexIn_i7 fu a1 r7 s.1 s.2.1 s.2.2.1 s.2.2.2.1 s.2.2.2.2)
noncomputable def DX8_indexIn (fu : Nat) (a1 : Nat) (M : mwM) (L : mwL) : Option (Int32 × mwM × mwL) :=
  fX8_indexIn_h7 fu a1 fu (0, 0, 0, M, L)
noncomputable def fX8_isLetter_b17 (fu : Nat) (a1 : Int32) (s0 : Int32) (M : mwM) (L : mwL) : Option (Int32 × mwM × mwL) :=
  mzz s0 (some (s0, M, L))
noncomputable def fX8_isLetter_b16 (fu : Nat) (a1 : Int32) (M : mwM) (L : mwL) : Option (Int32 × mwM × mwL) :=
  fX8_isLetter_b17 fu a1 0 M L
noncomputable def DX8_isLetter (fu : Nat) (a1 : Int32) (M : mwM) (L : mwL) : Option (Int32 × mwM × mwL) :=
  (if a1 < 97 then fX8_isLetter_b16 fu a1 M L else (if 122 < a1 then fX8_isLetter_b16 fu a1 M L else fX8_isLetter_b17 fu a1 1 M L))
noncomputable def fX8_isDigit_b17 (fu : Nat) (a1 : Int32) (s0 : Int32) (M : mwM) (L : mwL) : Option (Int32 × mwM × mwL) :=
  mzz s0 (some (s0, M, L))
noncomputable def fX8_isDigit_b16 (fu : Nat) (a1 : Int32) (M : mwM) (L : mwL) : Option (Int32 × mwM × mwL) :=
  fX8_isDigit_b17 fu a1 0 M L
noncomputable def DX8_isDigit (fu : Nat) (a1 : Int32) (M : mwM) (L : mwL) : Option (Int32 × mwM × mwL) :=
  (if a1 < 48 then fX8_isDigit_b16 fu a1 M L else (if 57 < a1 then fX8_isDigit_b16 fu a1 M L else fX8_isDigit_b17 fu a1 1 M L))
noncomputable def fX8_isName_b32 (fu : Nat) (M : mwM) (L : mwL) : Option (Int32 × mwM × mwL) :=
  some (0, M, L)
noncomputable def fX8_isName_b80 (fu : Nat) (r36 : (Int32 × mwM × mwL) → Option (Int32 × mwM × mwL)) (v1 : Int32) (M : mwM) (L : mwL) : Option (Int32 × mwM × mwL) :=
  mlet (v1 + 1) (fun x12 => r36 (x12, M, L))
noncomputable def fX8_isName_i36 (fu : Nat) (r36 : (Int32 × mwM × mwL) → Option (Int32 × mwM × mwL)) (v1 : Int32) (M : mwM) (L : mwL) : Option (Int32 × mwM × mwL) :=
  (if (M 1 9) ≤ v1 then some (1, M, L) else mck ((M 1 8) + v1) 6000 (mb3 (DX8_isLetter fu (M 2 ((M 1 8) + v1).toNatClampNeg) M L) (fun r5 M3 L4 => (if r5 = 0 then mck ((M3 1 8) + v1) 6000 (mb3 (DX8_isDigit fu (M3 2 ((M3 1 8) + v1).toNatClampNeg) M3 L4) (fun r10 M8 L9 => (if r10 = 0 then some (0, M8, L9) else fX8_isName_b80 fu r36 v1 M8 L9))) else fX8_isName_b80 fu r36 v1 M3 L4))))
noncomputable def fX8_isName_h36 (fu : Nat) : Nat → (Int32 × mwM × mwL) → Option (Int32 × mwM × mwL) := mloop (fun r36 s => fX8_isName_i36 fu r36 s.1 s.2.1 s.2.2)
noncomputable def DX8_isName (fu : Nat) (M : mwM) (L : mwL) : Option (Int32 × mwM × mwL) :=
  (if (M 1 9) < 1 then fX8_isName_b32 fu M L else (if 10 < (M 1 9) then fX8_isName_b32 fu M L else mck (M 1 8) 6000 (mb3 (DX8_isLetter fu (M 2 (M 1 8).toNatClampNeg) M L) (fun r18 M16 L17 => (if r18 = 0 then fX8_isName_b32 fu M16 L17 else fX8_isName_h36 fu fu (1, M16, L17))))))
noncomputable def fX8_isWord_b25 (fu : Nat) (a1 : Nat) (s0 : Int32) (M : mwM) (L : mwL) : Option (Int32 × mwM × mwL) :=
  mzz s0 (some (s0, M, L))
noncomputable def fX8_isWord_b24 (fu : Nat) (a1 : Nat) (M : mwM) (L : mwL) : Option (Int32 × mwM × mwL) :=
  fX8_isWord_b25 fu a1 0 M L
noncomputable def DX8_isWord (fu : Nat) (a1 : Nat) (M : mwM) (L : mwL) : Option (Int32 × mwM × mwL) :=
  (if (Int32.ofNat (mw_slen.getD a1 0)) = (M 1 9) then mb3 (DX8_standsAt fu a1 0 M L) (fun r5 M3 L4 => (if r5 = 0 then fX8_isWord_b24 fu a1 M3 L4 else fX8_isWord_b25 fu a1 1 M3 L4)) else fX8_isWord_b24 fu a1 M L)
noncomputable def fX8_fail_b17 (fu : Nat) (a1 : Int32) (a2 : Int32) (M : mwM) (L : mwL) : Option (mwM × mwL) :=
  some (M, L)
noncomputable def DX8_fail (fu : Nat) (a1 : Int32) (a2 : Int32) (M : mwM) (L : mwL) : Option (mwM × mwL) :=
  (if (M 1 12) = 0 then mlet (mset M 1 12 a1) (fun M2 => mlet (mset M2 1 13 a2) (fun M3 => fX8_fail_b17 fu a1 a2 M3 L)) else fX8_fail_b17 fu a1 a2 M L)
noncomputable def fX8_isSame_i2 (fu : Nat) (a1 : Int32) (r2 : (Int32 × mwM × mwL) → Option (Int32 × mwM × mwL)) (v2 : Int32) (M : mwM) (L : mwL) : Option (Int32 × mwM × mwL) :=
  (if (M 1 9) ≤ v2 then some (1, M, L) else mck (a1 + v2) 6000 (mck ((M 1 8) + v2) 6000 ((if (M 2 (a1 + v2).toNatClampNeg) = (M 2 ((M 1 8) + v2).toNatClampNeg) then mlet (v2 + 1) (fun x5 => r2 (x5, M, L)) else some (0, M, L)))))
noncomputable def fX8_isSame_h2 (fu : Nat) (a1 : Int32) : Nat → (Int32 × mwM × mwL) → Option (Int32 × mwM × mwL) := mloop (fun r2 s => fX8_isSame_i2 fu a1 r2 s.1 s.2.1 s.2.2)
noncomputable def DX8_isSame (fu : Nat) (a1 : Int32) (M : mwM) (L : mwL) : Option (Int32 × mwM × mwL) :=
  fX8_isSame_h2 fu a1 fu (0, M, L)
noncomputable def fX8_findName_b54 (fu : Nat) (a1 : Int32) (r2 : (Int32 × mwM × mwL) → Option (Int32 × mwM × mwL)) (v2 : Int32) (M : mwM) (L : mwL) : Option (Int32 × mwM × mwL) :=
  mlet (v2 + 1) (fun x14 => r2 (x14, M, L))
noncomputable def fX8_findName_i2 (fu : Nat) (a1 : Int32) (r2 : (Int32 × mwM × mwL) → Option (Int32 × mwM × mwL)) (v2 : Int32) (M : mwM) (L : mwL) : Option (Int32 × mwM × mwL) :=
  (if (M 1 3) ≤ v2 then some ((-1), M, L) else mck v2 600 ((if (M 726 v2.toNatClampNeg) = a1 then mck v2 600 ((if (M 728 v2.toNatClampNeg) = (M 1 9) then mck v2 600 (mb3 (DX8_isSame fu (M 727 v2.toNatClampNeg) M L) (fun r12 M10 L11 => (if r12 = 0 then fX8_findName_b54 fu a1 r2 v2 M10 L11 else some (v2, M10, L11)))) else fX8_findName_b54 fu a1 r2 v2 M L)) else fX8_findName_b54 fu a1 r2 v2 M L)))
noncomputable def fX8_findName_h2 (fu : Nat) (a1 : Int32) : Nat → (Int32 × mwM × mwL) → Option (Int32 × mwM × mwL) := mloop (fun r2 s => fX8_findName_i2 fu a1 r2 s.1 s.2.1 s.2.2)
noncomputable def DX8_findName (fu : Nat) (a1 : Int32) (M : mwM) (L : mwL) : Option (Int32 × mwM × mwL) :=
  fX8_findName_h2 fu a1 fu (0, M, L)
noncomputable def fX8_newName_b96 (fu : Nat) (a1 : Int32) (a2 : Int32) (a3 : Int32) (M : mwM) (L : mwL) : Option (mwM × mwL) :=
  some (M, L)
noncomputable def fX8_newName_b49 (fu : Nat) (a1 : Int32) (a2 : Int32) (a3 : Int32) (M : mwM) (L : mwL) : Option (mwM × mwL) :=
  mb2 (DX8_fail fu 2 (M 1 8) M L) (fun M1 L2 => fX8_newName_b96 fu a1 a2 a3 M1 L2)
noncomputable def fX8_newName_b61 (fu : Nat) (a1 : Int32) (a2 : Int32) (a3 : Int32) (M : mwM) (L : mwL) : Option (mwM × mwL) :=
  mb3 (DX8_findName fu a1 M L) (fun r5 M3 L4 => (if r5 < 0 then (if a2 < a3 then fX8_newName_b96 fu a1 a2 a3 M3 L4 else mb2 (DX8_fail fu 6 (M3 1 8) M3 L4) (fun M8 L9 => fX8_newName_b96 fu a1 a2 a3 M8 L9)) else mb2 (DX8_fail fu 3 (M3 1 8) M3 L4) (fun M10 L11 => fX8_newName_b96 fu a1 a2 a3 M10 L11)))
noncomputable def DX8_newName (fu : Nat) (a1 : Int32) (a2 : Int32) (a3 : Int32) (M : mwM) (L : mwL) : Option (mwM × mwL) :=
  (if (M 1 12) = 0 then mb2 (DX8_nextWord fu M L) (fun M13 L14 => mlet (mset M13 1 10 (M13 1 8)) (fun M15 => mlet (mset M15 1 11 (M15 1 9)) (fun M16 => mb3 (DX8_isName fu M16 L14) (fun r19 M17 L18 => (if r19 = 0 then fX8_newName_b49 fu a1 a2 a3 M17 L18 else (if a1 = 0 then fX8_newName_b61 fu a1 a2 a3 M17 L18 else mb3 (DX8_isWord fu 6 M17 L18) (fun r24 M22 L23 => (if r24 = 0 then fX8_newName_b61 fu a1 a2 a3 M22 L23 else fX8_newName_b49 fu a1 a2 a3 M22 L23)))))))) else some (M, L))
noncomputable def fX8_endLine_b28 (fu : Nat) (M : mwM) (L : mwL) : Option (mwM × mwL) :=
  some (M, L)
noncomputable def DX8_endLine (fu : Nat) (M : mwM) (L : mwL) : Option (mwM × mwL) :=
  (if (M 1 12) = 0 then mb2 (DX8_nextWord fu M L) (fun M2 L3 => (if (M2 1 9) ≤ 0 then fX8_endLine_b28 fu M2 L3 else mb2 (DX8_fail fu 2 (M2 1 8) M2 L3) (fun M5 L6 => fX8_endLine_b28 fu M5 L6))) else some (M, L))
noncomputable def fX8_keepName_b17 (fu : Nat) (a1 : Int32) (a2 : Int32) (a3 : Int32) (M : mwM) (L : mwL) : Option (mwM × mwL) :=
  some (M, L)
noncomputable def DX8_keepName (fu : Nat) (a1 : Int32) (a2 : Int32) (a3 : Int32) (M : mwM) (L : mwL) : Option (mwM × mwL) :=
  (if (M 1 12) = 0 then (if (M 1 3) < 600 then mck (M 1 3) 600 (mlet (mset M 726 ((M 1 3).toNatClampNeg) a1) (fun M5 => mck (M5 1 3) 600 (mlet (mset M5 727 ((M5 1 3).toNatClampNeg) (M5 1 10)) (fun M8 => mck (M8 1 3) 600 (mlet (mset M8 728 ((M8 1 3).toNatClampNeg) (M8 1 11)) (fun M11 => mck (M11 1 3) 600 (mlet (mset M11 729 ((M11 1 3).toNatClampNeg) a2) (fun M14 => mck (M14 1 3) 600 (mlet (mset M14 730 ((M14 1 3).toNatClampNeg) a3) (fun M17 => mlet (mset M17 1 3 ((M17 1 3) + 1)) (fun M18 => some (M18, L)))))))))))) else fX8_keepName_b17 fu a1 a2 a3 M L) else fX8_keepName_b17 fu a1 a2 a3 M L)
noncomputable def fX8_readController_b51 (fu : Nat) (M : mwM) (L : mwL) : Option (mwM × mwL) :=
  some (M, L)
noncomputable def DX8_readController (fu : Nat) (M : mwM) (L : mwL) : Option (mwM × mwL) :=
  mb2 (DX8_newName fu 0 (M 3 13) 6 M L) (fun M1 L2 => mb2 (DX8_endLine fu M1 L2) (fun M3 L4 => (if (M3 1 12) = 0 then mb2 (DX8_keepName fu 0 0 (M3 3 13) M3 L4) (fun M6 L7 => mlet (mset M6 3 13 ((M6 3 13) + 1)) (fun M8 => fX8_readController_b51 fu M8 L7)) else fX8_readController_b51 fu M3 L4)))
noncomputable def fX8_fetchWord_b41 (fu : Nat) (s0 : Int32) (M : mwM) (L : mwL) : Option (Int32 × mwM × mwL) :=
  mzz s0 (some (s0, M, L))
noncomputable def fX8_fetchWord_b29 (fu : Nat) (M : mwM) (L : mwL) : Option (Int32 × mwM × mwL) :=
  (if (M 1 9) ≤ 0 then fX8_fetchWord_b41 fu 0 M L else fX8_fetchWord_b41 fu 1 M L)
noncomputable def DX8_fetchWord (fu : Nat) (M : mwM) (L : mwL) : Option (Int32 × mwM × mwL) :=
  (if (M 1 12) = 0 then mb2 (DX8_nextWord fu M L) (fun M4 L5 => (if (M4 1 9) = 0 then mb2 (DX8_fail fu 2 (M4 1 8) M4 L5) (fun M7 L8 => fX8_fetchWord_b29 fu M7 L8) else fX8_fetchWord_b29 fu M4 L5)) else some (0, M, L))
noncomputable def fX8_toldName_b31 (fu : Nat) (a1 : Int32) (a2 : Int32) (M : mwM) (L : mwL) : Option (Int32 × mwM × mwL) :=
  mb2 (DX8_fail fu 4 (M 1 8) M L) (fun M1 L2 => some (0, M1, L2))
noncomputable def DX8_toldName (fu : Nat) (a1 : Int32) (a2 : Int32) (M : mwM) (L : mwL) : Option (Int32 × mwM × mwL) :=
  mb3 (DX8_fetchWord fu M L) (fun r5 M3 L4 => (if r5 = 0 then some (0, M3, L4) else mb3 (DX8_findName fu a1 M3 L4) (fun r9 M7 L8 => (if r9 < 0 then fX8_toldName_b31 fu a1 a2 M7 L8 else mck r9 600 ((if (M7 729 r9.toNatClampNeg) = a2 then mck r9 600 (some (M7 730 r9.toNatClampNeg, M7, L8)) else fX8_toldName_b31 fu a1 a2 M7 L8))))))
noncomputable def fX8_isNumber_b48 (fu : Nat) (M : mwM) (L : mwL) : Option (Int32 × mwM × mwL) :=
  some (0, M, L)
noncomputable def fX8_isNumber_i52 (fu : Nat) (r52 : (Int32 × mwM × mwL) → Option (Int32 × mwM × mwL)) (v2 : Int32) (M : mwM) (L : mwL) : Option (Int32 × mwM × mwL) :=
  (if (M 1 9) ≤ v2 then some (1, M, L) else mck ((M 1 8) + v2) 6000 (mb3 (DX8_isDigit fu (M 2 ((M 1 8) + v2).toNatClampNeg) M L) (fun r7 M5 L6 => (if r7 = 0 then some (0, M5, L6) else mlet (v2 + 1) (fun x9 => r52 (x9, M5, L6))))))
noncomputable def fX8_isNumber_h52 (fu : Nat) : Nat → (Int32 × mwM × mwL) → Option (Int32 × mwM × mwL) := mloop (fun r52 s => fX8_isNumber_i52 fu r52 s.1 s.2.1 s.2.2)
noncomputable def fX8_isNumber_b26 (fu : Nat) (s0 : Int32) (M : mwM) (L : mwL) : Option (Int32 × mwM × mwL) :=
  (if ((M 1 9) - s0) < 1 then fX8_isNumber_b48 fu M L else (if ((M 1 9) - s0) ≤ 9 then fX8_isNumber_h52 fu fu (s0, M, L) else fX8_isNumber_b48 fu M L))
noncomputable def fX8_isNumber_b25 (fu : Nat) (M : mwM) (L : mwL) : Option (Int32 × mwM × mwL) :=
  fX8_isNumber_b26 fu 0 M L
noncomputable def DX8_isNumber (fu : Nat) (M : mwM) (L : mwL) : Option (Int32 × mwM × mwL) :=
  (if (M 1 9) ≤ 0 then fX8_isNumber_b25 fu M L else mck (M 1 8) 6000 ((if (M 2 (M 1 8).toNatClampNeg) = 45 then fX8_isNumber_b26 fu 1 M L else fX8_isNumber_b25 fu M L)))
noncomputable def fX8_numberAtHand_b69 (fu : Nat) (s0 : Int32) (M : mwM) (L : mwL) : Option (Int32 × mwM × mwL) :=
  some (s0, M, L)
noncomputable def fX8_numberAtHand_i24 (fu : Nat) (r24 : (Int32 × Int32 × Int32 × mwM × mwL) → Option (Int32 × mwM × mwL)) (v1 : Int32) (v2 : Int32) (v3 : Int32) (M : mwM) (L : mwL) : Option (Int32 × mwM × mwL) :=
  (if (M 1 9) ≤ v3 then (if v1 = 1 then fX8_numberAtHand_b69 fu (-v2) M L else fX8_numberAtHand_b69 fu v2 M L) else mck ((M 1 8) + v3) 6000 (mlet ((10 * v2) + ((M 2 ((M 1 8) + v3).toNatClampNeg) - 48)) (fun x4 => mlet (v3 + 1) (fun x5 => r24 (v1, x4, x5, M, L)))))
noncomputable def fX8_numberAtHand_h24 (fu : Nat) : Nat → (Int32 × Int32 × Int32 × mwM × mwL) → Option (Int32 × mwM × mwL) := mloop (fun r24 s => fX8_numberAtHand_i24 fu r24 s.1 s.2.1 s.2.2.1 s.2.2.2.1 s.2.2.2.2)
noncomputable def fX8_numberAtHand_b19 (fu : Nat) (s0 : Int32) (M : mwM) (L : mwL) : Option (Int32 × mwM × mwL) :=
  fX8_numberAtHand_h24 fu fu (s0, 0, s0, M, L)
noncomputable def DX8_numberAtHand (fu : Nat) (M : mwM) (L : mwL) : Option (Int32 × mwM × mwL) :=
  mck (M 1 8) 6000 ((if (M 2 (M 1 8).toNatClampNeg) = 45 then fX8_numberAtHand_b19 fu 1 M L else fX8_numberAtHand_b19 fu 0 M L))
noncomputable def fX8_boundedNumber_b33 (fu : Nat) (a1 : Int32) (a2 : Int32) (M : mwM) (L : mwL) : Option (Int32 × mwM × mwL) :=
  mb2 (DX8_fail fu 5 (M 1 8) M L) (fun M7 L8 => some (0, M7, L8))
noncomputable def fX8_boundedNumber_b15 (fu : Nat) (a1 : Int32) (a2 : Int32) (s0 : Int32) (M : mwM) (L : mwL) : Option (Int32 × mwM × mwL) :=
  mb3 (DX8_isNumber fu M L) (fun r3 M1 L2 => (if r3 = 0 then fX8_boundedNumber_b33 fu a1 a2 M1 L2 else (if s0 < a1 then fX8_boundedNumber_b33 fu a1 a2 M1 L2 else (if s0 ≤ a2 then some (s0, M1, L2) else fX8_boundedNumber_b33 fu a1 a2 M1 L2))))
noncomputable def DX8_boundedNumber (fu : Nat) (a1 : Int32) (a2 : Int32) (M : mwM) (L : mwL) : Option (Int32 × mwM × mwL) :=
  mb3 (DX8_isNumber fu M L) (fun r11 M9 L10 => (if r11 = 0 then fX8_boundedNumber_b15 fu a1 a2 0 M9 L10 else mb3 (DX8_numberAtHand fu M9 L10) (fun r15 M13 L14 => fX8_boundedNumber_b15 fu a1 a2 r15 M13 L14)))
noncomputable def fX8_number_b17 (fu : Nat) (a1 : Int32) (a2 : Int32) (s0 : Int32) (M : mwM) (L : mwL) : Option (Int32 × mwM × mwL) :=
  some (s0, M, L)
noncomputable def DX8_number (fu : Nat) (a1 : Int32) (a2 : Int32) (M : mwM) (L : mwL) : Option (Int32 × mwM × mwL) :=
  mb3 (DX8_fetchWord fu M L) (fun r3 M1 L2 => (if r3 = 0 then fX8_number_b17 fu a1 a2 0 M1 L2 else mb3 (DX8_boundedNumber fu a1 a2 M1 L2) (fun r7 M5 L6 => fX8_number_b17 fu a1 a2 r7 M5 L6)))
noncomputable def fX8_readTask_b108 (fu : Nat) (M : mwM) (L : mwL) : Option (mwM × mwL) :=
  some (M, L)
noncomputable def DX8_readTask (fu : Nat) (M : mwM) (L : mwL) : Option (mwM × mwL) :=
  mb2 (DX8_newName fu 0 (M 5 3) 12 M L) (fun M1 L2 => mb3 (DX8_toldName fu 0 0 M1 L2) (fun r5 M3 L4 => mb3 (DX8_number fu 0 255 M3 L4) (fun r8 M6 L7 => mb3 (DX8_number fu 500 20000 M6 L7) (fun r11 M9 L10 => mb3 (DX8_number fu 0 (r11 - 1) M9 L10) (fun r14 M12 L13 => mb3 (DX8_number fu 1 1000 M12 L13) (fun r17 M15 L16 => mb2 (DX8_endLine fu M15 L16) (fun M18 L19 => (if (M18 1 12) = 0 then mb2 (DX8_keepName fu 0 1 (M18 5 3) M18 L19) (fun M21 L22 => mb2 (DX4_addTask fu r8 r5 r11 r14 r17 M21 L22) (fun M23 L24 => fX8_readTask_b108 fu M23 L24)) else fX8_readTask_b108 fu M18 L19))))))))
noncomputable def fX8_readChart_b93 (fu : Nat) (M : mwM) (L : mwL) : Option (mwM × mwL) :=
  some (M, L)
noncomputable def fX8_readChart_b64 (fu : Nat) (v1 : Int32) (v3 : Int32) (M : mwM) (L : mwL) : Option (mwM × mwL) :=
  (if (M 1 12) = 0 then mb2 (DX8_keepName fu 0 2 (M 3 14) M L) (fun M2 L3 => mb2 (DX1_addChart fu v1 v3 M2 L3) (fun M4 L5 => fX8_readChart_b93 fu M4 L5)) else fX8_readChart_b93 fu M L)
noncomputable def DX8_readChart (fu : Nat) (M : mwM) (L : mwL) : Option (mwM × mwL) :=
  mb2 (DX8_newName fu 0 (M 3 14) 12 M L) (fun M6 L7 => mb3 (DX8_toldName fu 0 1 M6 L7) (fun r10 M8 L9 => mlet (M8 1 8) (fun x11 => mb3 (DX8_number fu 0 50 M8 L9) (fun r14 M12 L13 => mb2 (DX8_endLine fu M12 L13) (fun M15 L16 => (if (M15 1 12) = 0 then mck r10 12 ((if (M15 283 r10.toNatClampNeg) < 0 then fX8_readChart_b64 fu r10 r14 M15 L16 else mb2 (DX8_fail fu 7 x11 M15 L16) (fun M20 L21 => fX8_readChart_b64 fu r10 r14 M20 L21))) else fX8_readChart_b64 fu r10 r14 M15 L16))))))
noncomputable def DX8_statesOf (fu : Nat) (a1 : Int32) (M : mwM) (L : mwL) : Option (Int32 × mwM × mwL) :=
  some (1 + (2 * a1), M, L)
noncomputable def fX8_parentState_b17 (fu : Nat) (a1 : Int32) (M : mwM) (L : mwL) : Option (Int32 × mwM × mwL) :=
  some (0, M, L)
noncomputable def DX8_parentState (fu : Nat) (a1 : Int32) (M : mwM) (L : mwL) : Option (Int32 × mwM × mwL) :=
  mb3 (DX8_fetchWord fu M L) (fun r3 M1 L2 => (if r3 = 0 then fX8_parentState_b17 fu a1 M1 L2 else mb3 (DX8_isWord fu 6 M1 L2) (fun r7 M5 L6 => (if r7 = 0 then mb3 (DX8_statesOf fu a1 M5 L6) (fun r11 M9 L10 => mb3 (DX8_findName fu r11 M9 L10) (fun r14 M12 L13 => (if 0 ≤ r14 then mck r14 600 (some (M12 730 r14.toNatClampNeg, M12, L13)) else mb2 (DX8_fail fu 4 (M12 1 8) M12 L13) (fun M18 L19 => some (0, M18, L19))))) else fX8_parentState_b17 fu a1 M5 L6))))
noncomputable def DX8_oneOf (fu : Nat) (a1 : Nat) (M : mwM) (L : mwL) : Option (Int32 × mwM × mwL) :=
  mb3 (DX8_fetchWord fu M L) (fun r3 M1 L2 => (if r3 = 0 then some (0, M1, L2) else mb3 (DX8_indexIn fu a1 M1 L2) (fun r7 M5 L6 => (if 0 ≤ r7 then some (r7, M5, L6) else mb2 (DX8_fail fu 1 (M5 1 8) M5 L6) (fun M9 L10 => some (0, M9, L10))))))
noncomputable def fX8_heed_b25 (fu : Nat) (a1 : Int32) (M : mwM) (L : mwL) : Option (mwM × mwL) :=
  some (M, L)
noncomputable def fX8_heed_b18 (fu : Nat) (a1 : Int32) (s1 : Int32) (M : mwM) (L : mwL) : Option (mwM × mwL) :=
  mb2 (DX8_fail fu s1 (M 1 7) M L) (fun M1 L2 => fX8_heed_b25 fu a1 M1 L2)
noncomputable def DX8_heed (fu : Nat) (a1 : Int32) (M : mwM) (L : mwL) : Option (mwM × mwL) :=
  (if 0 ≤ a1 then fX8_heed_b25 fu a1 M L else (if a1 = ((-4)) then fX8_heed_b18 fu a1 6 M L else fX8_heed_b18 fu a1 7 M L))
noncomputable def fX8_readState_b74 (fu : Nat) (M : mwM) (L : mwL) : Option (mwM × mwL) :=
  some (M, L)
noncomputable def DX8_readState (fu : Nat) (M : mwM) (L : mwL) : Option (mwM × mwL) :=
  mb3 (DX8_toldName fu 0 2 M L) (fun r3 M1 L2 => mb3 (DX8_statesOf fu r3 M1 L2) (fun r6 M4 L5 => mb2 (DX8_newName fu r6 0 1 M4 L5) (fun M7 L8 => mb3 (DX8_parentState fu r3 M7 L8) (fun r11 M9 L10 => mb3 (DX8_oneOf fu 1 M9 L10) (fun r14 M12 L13 => mb2 (DX8_endLine fu M12 L13) (fun M15 L16 => (if (M15 1 12) = 0 then mck r3 12 (mb3 (DX2_addState fu ((293 + 36 * r3.toNatClampNeg)) r11 r14 M15 L16) (fun r21 M19 L20 => mb2 (DX8_heed fu r21 M19 L20) (fun M22 L23 => mb3 (DX8_statesOf fu r3 M22 L23) (fun r26 M24 L25 => mb2 (DX8_keepName fu r26 4 r21 M24 L25) (fun M27 L28 => fX8_readState_b74 fu M27 L28))))) else fX8_readState_b74 fu M15 L16)))))))
noncomputable def fX8_eventOrTime_b34 (fu : Nat) (a1 : Int32) (s0 : Int32) (M : mwM) (L : mwL) : Option (Int32 × mwM × mwL) :=
  some (s0, M, L)
noncomputable def DX8_eventOrTime (fu : Nat) (a1 : Int32) (M : mwM) (L : mwL) : Option (Int32 × mwM × mwL) :=
  mb3 (DX8_fetchWord fu M L) (fun r3 M1 L2 => (if r3 = 0 then some (0, M1, L2) else mb3 (DX8_isWord fu 7 M1 L2) (fun r7 M5 L6 => (if r7 = 0 then mb3 (DX8_boundedNumber fu 0 99 M5 L6) (fun r11 M9 L10 => fX8_eventOrTime_b34 fu a1 r11 M9 L10) else fX8_eventOrTime_b34 fu a1 (1000 + a1) M5 L6))))
noncomputable def fX8_optional_b56 (fu : Nat) (a1 : Nat) (s0 : Int32) (M : mwM) (L : mwL) : Option (Int32 × mwM × mwL) :=
  mzz s0 (some (s0, M, L))
noncomputable def fX8_optional_b55 (fu : Nat) (a1 : Nat) (M : mwM) (L : mwL) : Option (Int32 × mwM × mwL) :=
  fX8_optional_b56 fu a1 0 M L
noncomputable def fX8_optional_b37 (fu : Nat) (a1 : Nat) (M : mwM) (L : mwL) : Option (Int32 × mwM × mwL) :=
  (if (M 1 9) ≤ 0 then fX8_optional_b55 fu a1 M L else (if (M 1 12) = 0 then fX8_optional_b56 fu a1 1 M L else fX8_optional_b55 fu a1 M L))
noncomputable def DX8_optional (fu : Nat) (a1 : Nat) (M : mwM) (L : mwL) : Option (Int32 × mwM × mwL) :=
  (if (M 1 12) = 0 then mb2 (DX8_nextWord fu M L) (fun M5 L6 => (if (M5 1 9) ≤ 0 then fX8_optional_b37 fu a1 M5 L6 else mb3 (DX8_isWord fu a1 M5 L6) (fun r10 M8 L9 => (if r10 = 0 then mb2 (DX8_fail fu 2 (M8 1 8) M8 L9) (fun M12 L13 => fX8_optional_b37 fu a1 M12 L13) else fX8_optional_b37 fu a1 M8 L9)))) else some (0, M, L))
noncomputable def DX8_dataOf (fu : Nat) (a1 : Int32) (M : mwM) (L : mwL) : Option (Int32 × mwM × mwL) :=
  some (2 + (2 * a1), M, L)
noncomputable def DX8_otherOperand (fu : Nat) (a1 : Int32) (M : mwM) (L : mwL) : Option (Int32 × mwM × mwL) :=
  mb3 (DX8_fetchWord fu M L) (fun r3 M1 L2 => (if r3 = 0 then some (0, M1, L2) else mb3 (DX8_dataOf fu a1 M1 L2) (fun r7 M5 L6 => mb3 (DX8_findName fu r7 M5 L6) (fun r10 M8 L9 => (if r10 < 0 then mb3 (DX8_isNumber fu M8 L9) (fun r14 M12 L13 => (if r14 = 0 then mb2 (DX8_fail fu 4 (M12 1 8) M12 L13) (fun M19 L20 => some (0, M19, L20)) else mb3 (DX8_boundedNumber fu 0 31 M12 L13) (fun r18 M16 L17 => some (8192 + (256 * r18), M16, L17)))) else mck r10 600 (some (256 * (M8 730 r10.toNatClampNeg), M8, L9)))))))
noncomputable def fX8_readEdge_b116 (fu : Nat) (M : mwM) (L : mwL) : Option (mwM × mwL) :=
  some (M, L)
noncomputable def fX8_readEdge_b83 (fu : Nat) (v1 : Int32) (v2 : Int32) (v3 : Int32) (v4 : Int32) (v5 : Int32) (M : mwM) (L : mwL) : Option (mwM × mwL) :=
  mb2 (DX8_endLine fu M L) (fun M1 L2 => (if (M1 1 12) = 0 then mck v1 12 (mb3 (DX2_addEdge fu ((293 + 36 * v1.toNatClampNeg)) v2 v3 v4 v5 M1 L2) (fun r7 M5 L6 => mb2 (DX8_heed fu r7 M5 L6) (fun M8 L9 => fX8_readEdge_b116 fu M8 L9))) else fX8_readEdge_b116 fu M1 L2))
noncomputable def DX8_readEdge (fu : Nat) (M : mwM) (L : mwL) : Option (mwM × mwL) :=
  mb3 (DX8_toldName fu 0 2 M L) (fun r12 M10 L11 => mb3 (DX8_statesOf fu r12 M10 L11) (fun r15 M13 L14 => mb3 (DX8_toldName fu r15 4 M13 L14) (fun r18 M16 L17 => mb3 (DX8_statesOf fu r12 M16 L17) (fun r21 M19 L20 => mb3 (DX8_toldName fu r21 4 M19 L20) (fun r24 M22 L23 => mb3 (DX8_eventOrTime fu r18 M22 L23) (fun r27 M25 L26 => mb3 (DX8_optional fu 2 M25 L26) (fun r30 M28 L29 => (if r30 = 0 then fX8_readEdge_b83 fu r12 r18 r24 r27 0 M28 L29 else mb3 (DX8_dataOf fu r12 M28 L29) (fun r34 M32 L33 => mb3 (DX8_toldName fu r34 5 M32 L33) (fun r37 M35 L36 => mb3 (DX8_oneOf fu 3 M35 L36) (fun r40 M38 L39 => mlet (r40 + 1) (fun x41 => mb3 (DX8_otherOperand fu r12 M38 L39) (fun r44 M42 L43 => mlet ((x41 + (8 * r37)) + r44) (fun x45 => fX8_readEdge_b83 fu r12 r18 r24 r27 x45 M42 L43))))))))))))))
noncomputable def fX8_readAfter_b55 (fu : Nat) (M : mwM) (L : mwL) : Option (mwM × mwL) :=
  some (M, L)
noncomputable def DX8_readAfter (fu : Nat) (M : mwM) (L : mwL) : Option (mwM × mwL) :=
  mb3 (DX8_toldName fu 0 2 M L) (fun r3 M1 L2 => mb3 (DX8_statesOf fu r3 M1 L2) (fun r6 M4 L5 => mb3 (DX8_toldName fu r6 4 M4 L5) (fun r9 M7 L8 => mb3 (DX8_number fu 1 20000 M7 L8) (fun r12 M10 L11 => mb2 (DX8_endLine fu M10 L11) (fun M13 L14 => (if (M13 1 12) = 0 then mck r3 12 (mb3 (DX2_setTicks fu ((293 + 36 * r3.toNatClampNeg)) r9 r12 M13 L14) (fun r19 M17 L18 => mb2 (DX8_heed fu r19 M17 L18) (fun M20 L21 => fX8_readAfter_b55 fu M20 L21))) else fX8_readAfter_b55 fu M13 L14))))))
noncomputable def fX8_readDatum_b66 (fu : Nat) (M : mwM) (L : mwL) : Option (mwM × mwL) :=
  some (M, L)
noncomputable def DX8_readDatum (fu : Nat) (M : mwM) (L : mwL) : Option (mwM × mwL) :=
  mb3 (DX8_toldName fu 0 2 M L) (fun r3 M1 L2 => mb3 (DX8_dataOf fu r3 M1 L2) (fun r6 M4 L5 => mb2 (DX8_newName fu r6 0 1 M4 L5) (fun M7 L8 => mb3 (DX8_number fu ((-999999999)) 999999999 M7 L8) (fun r11 M9 L10 => mb2 (DX8_endLine fu M9 L10) (fun M12 L13 => (if (M12 1 12) = 0 then mck r3 12 (mb3 (DX2_addDatum fu ((293 + 36 * r3.toNatClampNeg)) r11 M12 L13) (fun r18 M16 L17 => mb2 (DX8_heed fu r18 M16 L17) (fun M19 L20 => mb3 (DX8_dataOf fu r3 M19 L20) (fun r23 M21 L22 => mb2 (DX8_keepName fu r23 5 r18 M21 L22) (fun M24 L25 => fX8_readDatum_b66 fu M24 L25))))) else fX8_readDatum_b66 fu M12 L13))))))
noncomputable def fX8_readAct_b101 (fu : Nat) (a1 : Int32) (M : mwM) (L : mwL) : Option (mwM × mwL) :=
  some (M, L)
noncomputable def fX8_readAct_b36 (fu : Nat) (a1 : Int32) (v2 : Int32) (s0 : Int32) (M : mwM) (L : mwL) : Option (mwM × mwL) :=
  mb3 (DX8_dataOf fu v2 M L) (fun r3 M1 L2 => mb3 (DX8_toldName fu r3 5 M1 L2) (fun r6 M4 L5 => mb3 (DX8_number fu ((-999999999)) 999999999 M4 L5) (fun r9 M7 L8 => mb3 (DX8_optional fu 4 M7 L8) (fun r12 M10 L11 => mb2 (DX8_endLine fu M10 L11) (fun M13 L14 => (if (M13 1 12) = 0 then mck v2 12 (mb3 (DX2_addAct fu ((293 + 36 * v2.toNatClampNeg)) s0 a1 r6 r9 r12 M13 L14) (fun r19 M17 L18 => mb2 (DX8_heed fu r19 M17 L18) (fun M20 L21 => fX8_readAct_b101 fu a1 M20 L21))) else fX8_readAct_b101 fu a1 M13 L14))))))
noncomputable def DX8_readAct (fu : Nat) (a1 : Int32) (M : mwM) (L : mwL) : Option (mwM × mwL) :=
  mb3 (DX8_toldName fu 0 2 M L) (fun r24 M22 L23 => (if a1 = 2 then mck r24 12 (fX8_readAct_b36 fu a1 r24 (M22 ((293 + 36 * r24.toNatClampNeg) + 0) 8) M22 L23) else mb3 (DX8_statesOf fu r24 M22 L23) (fun r28 M26 L27 => mb3 (DX8_toldName fu r28 4 M26 L27) (fun r31 M29 L30 => fX8_readAct_b36 fu a1 r24 r31 M29 L30))))
noncomputable def fX8_readSignal_b122 (fu : Nat) (M : mwM) (L : mwL) : Option (mwM × mwL) :=
  some (M, L)
noncomputable def DX8_readSignal (fu : Nat) (M : mwM) (L : mwL) : Option (mwM × mwL) :=
  mb2 (DX8_newName fu 0 (M 61 10) 40 M L) (fun M1 L2 => mb3 (DX8_number fu 1 64 M1 L2) (fun r5 M3 L4 => mb3 (DX8_toldName fu 0 2 M3 L4) (fun r8 M6 L7 => mb3 (DX8_dataOf fu r8 M6 L7) (fun r11 M9 L10 => mb3 (DX8_toldName fu r11 5 M9 L10) (fun r14 M12 L13 => mb3 (DX8_number fu 500 20000 M12 L13) (fun r17 M15 L16 => mb3 (DX8_optional fu 5 M15 L16) (fun r20 M18 L19 => mb2 (DX8_endLine fu M18 L19) (fun M21 L22 => (if (M21 1 12) = 0 then mb2 (DX8_keepName fu 0 3 (M21 61 10) M21 L22) (fun M24 L25 => mck r8 12 (mb2 (DX6_addSignal fu (M24 1 10) r5 r8 r14 r17 r20 (M24 ((293 + 36 * r8.toNatClampNeg) + 0) 5) M24 L25) (fun M27 L28 => fX8_readSignal_b122 fu M27 L28))) else fX8_readSignal_b122 fu M21 L22)))))))))
noncomputable def fX8_readProtect_b85 (fu : Nat) (M : mwM) (L : mwL) : Option (mwM × mwL) :=
  some (M, L)
noncomputable def fX8_readProtect_b64 (fu : Nat) (v1 : Int32) (v2 : Int32) (v4 : Int32) (M : mwM) (L : mwL) : Option (mwM × mwL) :=
  (if (M 1 12) = 0 then mb2 (DX6_addKey fu v1 v2 v4 M L) (fun M2 L3 => fX8_readProtect_b85 fu M2 L3) else fX8_readProtect_b85 fu M L)
noncomputable def DX8_readProtect (fu : Nat) (M : mwM) (L : mwL) : Option (mwM × mwL) :=
  mb3 (DX8_toldName fu 0 0 M L) (fun r6 M4 L5 => mb3 (DX8_number fu 500 20000 M4 L5) (fun r9 M7 L8 => mlet (M7 1 8) (fun x10 => mb3 (DX8_number fu 1 16 M7 L8) (fun r13 M11 L12 => mb2 (DX8_endLine fu M11 L12) (fun M14 L15 => (if (M14 1 12) = 0 then mb3 (DX6_keyOf fu r6 r9 M14 L15) (fun r19 M17 L18 => (if r19 = 0 then fX8_readProtect_b64 fu r6 r9 r13 M17 L18 else mb2 (DX8_fail fu 3 x10 M17 L18) (fun M21 L22 => fX8_readProtect_b64 fu r6 r9 r13 M21 L22))) else fX8_readProtect_b64 fu r6 r9 r13 M14 L15))))))
noncomputable def fX8_refuseOwn_b35 (fu : Nat) (a1 : Int32) (a2 : Int32) (M : mwM) (L : mwL) : Option (mwM × mwL) :=
  some (M, L)
noncomputable def DX8_refuseOwn (fu : Nat) (a1 : Int32) (a2 : Int32) (M : mwM) (L : mwL) : Option (mwM × mwL) :=
  (if (M 1 12) = 0 then mck a1 40 ((if (M 68 a1.toNatClampNeg) = a2 then mb2 (DX8_fail fu 7 (M 1 7) M L) (fun M5 L6 => fX8_refuseOwn_b35 fu a1 a2 M5 L6) else fX8_refuseOwn_b35 fu a1 a2 M L)) else fX8_refuseOwn_b35 fu a1 a2 M L)
noncomputable def fX8_readRead_b77 (fu : Nat) (M : mwM) (L : mwL) : Option (mwM × mwL) :=
  some (M, L)
noncomputable def DX8_readRead (fu : Nat) (M : mwM) (L : mwL) : Option (mwM × mwL) :=
  mb3 (DX8_toldName fu 0 3 M L) (fun r3 M1 L2 => mb3 (DX8_toldName fu 0 2 M1 L2) (fun r6 M4 L5 => mb3 (DX8_dataOf fu r6 M4 L5) (fun r9 M7 L8 => mb3 (DX8_toldName fu r9 5 M7 L8) (fun r12 M10 L11 => mb3 (DX8_number fu 0 99 M10 L11) (fun r15 M13 L14 => mb2 (DX8_endLine fu M13 L14) (fun M16 L17 => mck r6 12 (mb2 (DX8_refuseOwn fu r3 (M16 ((293 + 36 * r6.toNatClampNeg) + 0) 5) M16 L17) (fun M19 L20 => (if (M19 1 12) = 0 then mb3 (DX1_addRead fu r3 r6 r12 r15 M19 L20) (fun r24 M22 L23 => mb2 (DX8_heed fu r24 M22 L23) (fun M25 L26 => fX8_readRead_b77 fu M25 L26)) else fX8_readRead_b77 fu M19 L20)))))))))
noncomputable def fX8_readWatch_b77 (fu : Nat) (M : mwM) (L : mwL) : Option (mwM × mwL) :=
  some (M, L)
noncomputable def DX8_readWatch (fu : Nat) (M : mwM) (L : mwL) : Option (mwM × mwL) :=
  mb3 (DX8_toldName fu 0 3 M L) (fun r3 M1 L2 => mb3 (DX8_toldName fu 0 0 M1 L2) (fun r6 M4 L5 => mb3 (DX8_number fu 1 255 M4 L5) (fun r9 M7 L8 => mb2 (DX8_endLine fu M7 L8) (fun M10 L11 => mb2 (DX8_refuseOwn fu r3 r6 M10 L11) (fun M12 L13 => (if (M12 1 12) = 0 then mck r3 40 (mlet (M12 66 r3.toNatClampNeg) (fun x17 => mb3 (DX10_addWatch fu r3 r6 r9 (3 * x17) M12 L13) (fun r20 M18 L19 => mb2 (DX8_heed fu r20 M18 L19) (fun M21 L22 => fX8_readWatch_b77 fu M21 L22)))) else fX8_readWatch_b77 fu M12 L13))))))
noncomputable def fX8_readLine_b186 (fu : Nat) (M : mwM) (L : mwL) : Option (mwM × mwL) :=
  some (M, L)
noncomputable def DX8_readLine (fu : Nat) (M : mwM) (L : mwL) : Option (mwM × mwL) :=
  mb3 (DX8_indexIn fu 0 M L) (fun r3 M1 L2 => mlet r3 (fun x4 => (if x4 = 0 then mb2 (DX8_readController fu M1 L2) (fun M6 L7 => fX8_readLine_b186 fu M6 L7) else if x4 = 1 then mb2 (DX8_readTask fu M1 L2) (fun M9 L10 => fX8_readLine_b186 fu M9 L10) else if x4 = 2 then mb2 (DX8_readChart fu M1 L2) (fun M12 L13 => fX8_readLine_b186 fu M12 L13) else if x4 = 3 then mb2 (DX8_readState fu M1 L2) (fun M15 L16 => fX8_readLine_b186 fu M15 L16) else if x4 = 4 then mb2 (DX8_readEdge fu M1 L2) (fun M18 L19 => fX8_readLine_b186 fu M18 L19) else if x4 = 5 then mb2 (DX8_readAfter fu M1 L2) (fun M21 L22 => fX8_readLine_b186 fu M21 L22) else if x4 = 6 then mb2 (DX8_readDatum fu M1 L2) (fun M24 L25 => fX8_readLine_b186 fu M24 L25) else if x4 = 7 then mb2 (DX8_readAct fu 0 M1 L2) (fun M27 L28 => fX8_readLine_b186 fu M27 L28) else if x4 = 8 then mb2 (DX8_readAct fu 1 M1 L2) (fun M30 L31 => fX8_readLine_b186 fu M30 L31) else if x4 = 9 then mb2 (DX8_readAct fu 2 M1 L2) (fun M33 L34 => fX8_readLine_b186 fu M33 L34) else if x4 = 10 then mb2 (DX8_readSignal fu M1 L2) (fun M36 L37 => fX8_readLine_b186 fu M36 L37) else if x4 = 11 then mb2 (DX8_readProtect fu M1 L2) (fun M39 L40 => fX8_readLine_b186 fu M39 L40) else if x4 = 12 then mb2 (DX8_readRead fu M1 L2) (fun M42 L43 => fX8_readLine_b186 fu M42 L43) else if x4 = 13 then mb2 (DX8_readWatch fu M1 L2) (fun M45 L46 => fX8_readLine_b186 fu M45 L46) else mb2 (DX8_fail fu 1 (M1 1 8) M1 L2) (fun M47 L48 => fX8_readLine_b186 fu M47 L48))))
noncomputable def fX8_judgeWhole_b63 (fu : Nat) (M : mwM) (L : mwL) : Option (mwM × mwL) :=
  some (M, L)
noncomputable def DX8_judgeWhole (fu : Nat) (M : mwM) (L : mwL) : Option (mwM × mwL) :=
  (if (M 3 13) = 0 then mb2 (DX8_fail fu 4 (M 1 4) M L) (fun M10 L11 => some (M10, L11)) else mb3 (DX6_findTooLarge fu (M 3 13) M L) (fun r4 M2 L3 => (if r4 < 0 then fX8_judgeWhole_b63 fu M2 L3 else mck r4 40 (mb2 (DX8_fail fu 8 (M2 69 r4.toNatClampNeg) M2 L3) (fun M8 L9 => fX8_judgeWhole_b63 fu M8 L9)))))
noncomputable def fX8_readText_b98 (fu : Nat) (M : mwM) (L : mwL) : Option (mwM × mwL) :=
  some (M, L)
noncomputable def fX8_readText_b87 (fu : Nat) (M : mwM) (L : mwL) : Option (mwM × mwL) :=
  (if (M 1 12) = 0 then mb2 (DX8_judgeWhole fu M L) (fun M16 L17 => fX8_readText_b98 fu M16 L17) else fX8_readText_b98 fu M L)
noncomputable def fX8_readText_b74 (fu : Nat) (r19 : (Int32 × Int32 × mwM × mwL) → Option (mwM × mwL)) (v2 : Int32) (M : mwM) (L : mwL) : Option (mwM × mwL) :=
  mlet ((M 1 6) + 1) (fun x13 => mlet (v2 + 1) (fun x14 => r19 (x13, x14, M, L)))
noncomputable def fX8_readText_i19 (fu : Nat) (r19 : (Int32 × Int32 × mwM × mwL) → Option (mwM × mwL)) (v1 : Int32) (v2 : Int32) (M : mwM) (L : mwL) : Option (mwM × mwL) :=
  (if 6000 ≤ v2 then fX8_readText_b87 fu M L else (if (M 1 4) ≤ v1 then fX8_readText_b87 fu M L else (if (M 1 12) = 0 then mb2 (DX8_findLineEnd fu v1 M L) (fun M4 L5 => mlet (mset M4 1 5 v1) (fun M6 => mb2 (DX8_nextWord fu M6 L5) (fun M7 L8 => mlet (mset M7 1 7 (M7 1 8)) (fun M9 => (if (M9 1 9) ≤ 0 then fX8_readText_b74 fu r19 v2 M9 L8 else mb2 (DX8_readLine fu M9 L8) (fun M11 L12 => fX8_readText_b74 fu r19 v2 M11 L12)))))) else fX8_readText_b87 fu M L)))
noncomputable def fX8_readText_h19 (fu : Nat) : Nat → (Int32 × Int32 × mwM × mwL) → Option (mwM × mwL) := mloop (fun r19 s => fX8_readText_i19 fu r19 s.1 s.2.1 s.2.2.1 s.2.2.2)
noncomputable def DX8_readText (fu : Nat) (M : mwM) (L : mwL) : Option (mwM × mwL) :=
  mlet (mset M 1 3 0) (fun M18 => mlet (mset M18 1 12 0) (fun M19 => mlet (mset M19 1 13 0) (fun M20 => fX8_readText_h19 fu fu (0, 0, M20, L))))
noncomputable def fX11_lettersIn_b25 (fu : Nat) (a1 : Int32) (r5 : (Int32 × Int32 × mwM × mwL) → Option (Int32 × mwM × mwL)) (v2 : Int32) (s0 : Int32) (s1 : Int32) (M : mwM) (L : mwL) : Option (Int32 × mwM × mwL) :=
  mlet (s0 + s1) (fun x3 => mlet (v2 + (-8)) (fun x4 => r5 (x3, x4, M, L)))
noncomputable def fX11_lettersIn_i5 (fu : Nat) (a1 : Int32) (r5 : (Int32 × Int32 × mwM × mwL) → Option (Int32 × mwM × mwL)) (v1 : Int32) (v2 : Int32) (M : mwM) (L : mwL) : Option (Int32 × mwM × mwL) :=
  (if v2 < 0 then some (v1, M, L) else (if (((a1.toUInt32 >>> (v2.toUInt32 &&& Int32.toUInt32 31)).toInt32) &&& 255) = 0 then fX11_lettersIn_b25 fu a1 r5 v2 v1 0 M L else fX11_lettersIn_b25 fu a1 r5 v2 v1 1 M L))
noncomputable def fX11_lettersIn_h5 (fu : Nat) (a1 : Int32) : Nat → (Int32 × Int32 × mwM × mwL) → Option (Int32 × mwM × mwL) := mloop (fun r5 s => fX11_lettersIn_i5 fu a1 r5 s.1 s.2.1 s.2.2.1 s.2.2.2)
noncomputable def DX11_lettersIn (fu : Nat) (a1 : Int32) (M : mwM) (L : mwL) : Option (Int32 × mwM × mwL) :=
  fX11_lettersIn_h5 fu a1 fu (0, 24, M, L)
noncomputable def DX11_text (fu : Nat) (a1 : Int32) (a2 : Int32) (a3 : Int32) (a4 : Int32) (M : mwM) (L : mwL) : Option (Nat × mwM × mwL) :=
  mb3 (DX11_lettersIn fu a1 M L) (fun r3 M1 L2 => mb3 (DX11_lettersIn fu a2 M1 L2) (fun r6 M4 L5 => mb3 (DX11_lettersIn fu a3 M4 L5) (fun r9 M7 L8 => mb3 (DX11_lettersIn fu a4 M7 L8) (fun r12 M10 L11 => (if (((((M 1 4) + r3) + r6) + r9) + r12) ≤ 6000 then mb2 (DX8_append fu a1 M10 L11) (fun M14 L15 => mb2 (DX8_append fu a2 M14 L15) (fun M16 L17 => mb2 (DX8_append fu a3 M16 L17) (fun M18 L19 => mb2 (DX8_append fu a4 M18 L19) (fun M20 L21 => some (0, M20, L21))))) else some (1, M10, L11))))))
noncomputable def fX11_cut_b15 (fu : Nat) (a1 : Int32) (M : mwM) (L : mwL) : Option ((Nat × Int32) × mwM × mwL) :=
  some ((2, 0), M, L)
noncomputable def DX11_cut (fu : Nat) (a1 : Int32) (M : mwM) (L : mwL) : Option ((Nat × Int32) × mwM × mwL) :=
  (if a1 < 0 then fX11_cut_b15 fu a1 M L else (if a1 ≤ (M 1 4) then mlet (mset M 1 4 a1) (fun M3 => some ((0, a1), M3, L)) else fX11_cut_b15 fu a1 M L))
noncomputable def fX11_system_b76 (fu : Nat) (M : mwM) (L : mwL) : Option ((Nat × Int32) × mwM × mwL) :=
  some ((0, M 1 12), M, L)
noncomputable def fX11_system_b59 (fu : Nat) (s1 : Int32) (M : mwM) (L : mwL) : Option ((Nat × Int32) × mwM × mwL) :=
  mzz s1 (mlet (mset M 0 5 s1) (fun M2 => (if (M2 0 5) = 0 then fX11_system_b76 fu M2 L else mb2 (DX1_join fu M2 L) (fun M4 L5 => fX11_system_b76 fu M4 L5))))
noncomputable def DX11_system (fu : Nat) (M : mwM) (L : mwL) : Option ((Nat × Int32) × mwM × mwL) :=
  (if (M 0 4) < 16 then mlet (mset M 0 4 ((M 0 4) + 1)) (fun M7 => mb2 (DX1_clear fu M7 L) (fun M8 L9 => mb2 (DX8_readText fu M8 L9) (fun M10 L11 => (if (M10 1 12) = 0 then fX11_system_b59 fu 1 M10 L11 else fX11_system_b59 fu 0 M10 L11)))) else some ((1, 0), M, L))
noncomputable def DX11_place (fu : Nat) (M : mwM) (L : mwL) : Option (Int32 × mwM × mwL) :=
  some (M 1 13, M, L)
noncomputable def fX11_count_b10 (fu : Nat) (a1 : Int32) (M : mwM) (L : mwL) : Option ((Nat × Int32) × mwM × mwL) :=
  some ((2, 0), M, L)
noncomputable def DX11_count (fu : Nat) (a1 : Int32) (M : mwM) (L : mwL) : Option ((Nat × Int32) × mwM × mwL) :=
  (if a1 < 0 then fX11_count_b10 fu a1 M L else (if a1 ≤ 6 then (if (M 0 5) = 0 then some ((1, 0), M, L) else mlet a1 (fun x4 => (if x4 = 0 then some ((0, M 3 13), M, L) else if x4 = 1 then some ((0, M 5 3), M, L) else if x4 = 2 then some ((0, M 3 14), M, L) else if x4 = 3 then some ((0, M 61 10), M, L) else if x4 = 4 then some ((0, M 61 11), M, L) else if x4 = 5 then some ((0, M 3 15), M, L) else some ((0, M 139 2), M, L)))) else fX11_count_b10 fu a1 M L))
noncomputable def fX11_frame_b25 (fu : Nat) (a1 : Int32) (a2 : Int32) (M : mwM) (L : mwL) : Option ((Nat × Int32) × mwM × mwL) :=
  some ((3, 0), M, L)
noncomputable def fX11_frame_b44 (fu : Nat) (a1 : Int32) (a2 : Int32) (M : mwM) (L : mwL) : Option ((Nat × Int32) × mwM × mwL) :=
  some ((2, 0), M, L)
noncomputable def DX11_frame (fu : Nat) (a1 : Int32) (a2 : Int32) (M : mwM) (L : mwL) : Option ((Nat × Int32) × mwM × mwL) :=
  (if (M 0 5) = 0 then fX11_frame_b25 fu a1 a2 M L else (if a1 < 0 then fX11_frame_b25 fu a1 a2 M L else (if a1 < (M 61 11) then (if a2 < 0 then fX11_frame_b44 fu a1 a2 M L else (if a2 ≤ 4 then mlet a2 (fun x6 => (if x6 = 0 then mb3 (DX6_identifierOf fu a1 M L) (fun r10 M8 L9 => some ((0, r10), M8, L9)) else if x6 = 1 then mck a1 40 (some ((0, M 74 a1.toNatClampNeg), M, L)) else if x6 = 2 then mck a1 40 (some ((0, M 75 a1.toNatClampNeg), M, L)) else if x6 = 3 then mck a1 40 (some ((0, M 76 a1.toNatClampNeg), M, L)) else mck a1 40 (some ((0, M 77 a1.toNatClampNeg), M, L)))) else fX11_frame_b44 fu a1 a2 M L)) else fX11_frame_b25 fu a1 a2 M L)))
noncomputable def fX11_signal_b25 (fu : Nat) (a1 : Int32) (a2 : Int32) (M : mwM) (L : mwL) : Option ((Nat × Int32) × mwM × mwL) :=
  some ((3, 0), M, L)
noncomputable def fX11_signal_b75 (fu : Nat) (a1 : Int32) (a2 : Int32) (s0 : Int32) (M : mwM) (L : mwL) : Option ((Nat × Int32) × mwM × mwL) :=
  some ((0, s0), M, L)
noncomputable def DX11_signal (fu : Nat) (a1 : Int32) (a2 : Int32) (M : mwM) (L : mwL) : Option ((Nat × Int32) × mwM × mwL) :=
  (if (M 0 5) = 0 then fX11_signal_b25 fu a1 a2 M L else (if a1 < 0 then fX11_signal_b25 fu a1 a2 M L else (if a1 < (M 61 10) then (if a2 = 0 then mck a1 40 (fX11_signal_b75 fu a1 a2 (M 71 a1.toNatClampNeg) M L) else mck a1 40 (fX11_signal_b75 fu a1 a2 (8 * (M 72 a1.toNatClampNeg)) M L)) else fX11_signal_b25 fu a1 a2 M L)))
noncomputable def fX11_run_b36 (fu : Nat) (a1 : Int32) (M : mwM) (L : mwL) : Option ((Nat × Int32) × mwM × mwL) :=
  some ((1, 0), M, L)
noncomputable def fX11_run_i59 (fu : Nat) (a1 : Int32) (r59 : (Int32 × Int32 × mwM × mwL) → Option ((Nat × Int32) × mwM × mwL)) (v2 : Int32) (v3 : Int32) (M : mwM) (L : mwL) : Option ((Nat × Int32) × mwM × mwL) :=
  (if a1 ≤ v3 then some ((0, (M 20 11) - v2), M, L) else mb2 (DX1_passMicrosecond fu M L) (fun M2 L3 => mlet (v3 + 1) (fun x4 => r59 (v2, x4, M2, L3))))
noncomputable def fX11_run_h59 (fu : Nat) (a1 : Int32) : Nat → (Int32 × Int32 × mwM × mwL) → Option ((Nat × Int32) × mwM × mwL) := mloop (fun r59 s => fX11_run_i59 fu a1 r59 s.1 s.2.1 s.2.2.1 s.2.2.2)
noncomputable def DX11_run (fu : Nat) (a1 : Int32) (M : mwM) (L : mwL) : Option ((Nat × Int32) × mwM × mwL) :=
  (if 0 ≤ a1 then (if (M 0 5) = 0 then fX11_run_b36 fu a1 M L else (if a1 ≤ (20000 - (M 3 16)) then mlet (M 20 11) (fun x8 => fX11_run_h59 fu a1 fu (x8, 0, M, L)) else fX11_run_b36 fu a1 M L)) else some ((2, 0), M, L))
noncomputable def fX11_time_b18 (fu : Nat) (s0 : Int32) (M : mwM) (L : mwL) : Option (Int32 × mwM × mwL) :=
  some (s0, M, L)
noncomputable def DX11_time (fu : Nat) (M : mwM) (L : mwL) : Option (Int32 × mwM × mwL) :=
  (if (M 0 5) = 0 then fX11_time_b18 fu 0 M L else fX11_time_b18 fu (M 3 16) M L)
noncomputable def fX11_bit_b22 (fu : Nat) (a1 : Int32) (M : mwM) (L : mwL) : Option ((Nat × Int32) × mwM × mwL) :=
  some ((3, 0), M, L)
noncomputable def DX11_bit (fu : Nat) (a1 : Int32) (M : mwM) (L : mwL) : Option ((Nat × Int32) × mwM × mwL) :=
  (if (M 0 5) = 0 then fX11_bit_b22 fu a1 M L else (if a1 < 0 then fX11_bit_b22 fu a1 M L else (if a1 < (M 3 16) then mck a1 20000 (some ((0, M 21 a1.toNatClampNeg), M, L)) else fX11_bit_b22 fu a1 M L)))
noncomputable def fX11_node_b22 (fu : Nat) (a1 : Int32) (a2 : Int32) (M : mwM) (L : mwL) : Option ((Nat × Int32) × mwM × mwL) :=
  some ((3, 0), M, L)
noncomputable def fX11_node_b41 (fu : Nat) (a1 : Int32) (a2 : Int32) (M : mwM) (L : mwL) : Option ((Nat × Int32) × mwM × mwL) :=
  some ((2, 0), M, L)
noncomputable def fX11_node_b70 (fu : Nat) (a1 : Int32) (a2 : Int32) (s0 : Int32) (M : mwM) (L : mwL) : Option ((Nat × Int32) × mwM × mwL) :=
  mck s0 8 (mck a1 7 (some ((0, M (25 + s0.toNatClampNeg) a1.toNatClampNeg), M, L)))
noncomputable def DX11_node (fu : Nat) (a1 : Int32) (a2 : Int32) (M : mwM) (L : mwL) : Option ((Nat × Int32) × mwM × mwL) :=
  (if (M 0 5) = 0 then fX11_node_b22 fu a1 a2 M L else (if a1 < 0 then fX11_node_b22 fu a1 a2 M L else (if a1 ≤ (M 3 13) then (if a2 < 0 then fX11_node_b41 fu a1 a2 M L else (if a2 ≤ 2 then (if a2 = 0 then fX11_node_b70 fu a1 a2 0 M L else (if a2 = 1 then fX11_node_b70 fu a1 a2 5 M L else fX11_node_b70 fu a1 a2 6 M L)) else fX11_node_b41 fu a1 a2 M L)) else fX11_node_b22 fu a1 a2 M L)))
noncomputable def fX11_error_b44 (fu : Nat) (a1 : Int32) (a2 : Int32) (M : mwM) (L : mwL) : Option ((Nat × Int32) × mwM × mwL) :=
  some ((3, 0), M, L)
noncomputable def fX11_error_b63 (fu : Nat) (a1 : Int32) (a2 : Int32) (M : mwM) (L : mwL) : Option ((Nat × Int32) × mwM × mwL) :=
  some ((2, 0), M, L)
noncomputable def fX11_error_b102 (fu : Nat) (a1 : Int32) (a2 : Int32) (s0 : Int32) (M : mwM) (L : mwL) : Option ((Nat × Int32) × mwM × mwL) :=
  some ((0, s0), M, L)
noncomputable def fX11_error_b54 (fu : Nat) (a1 : Int32) (a2 : Int32) (v3 : Int32) (M : mwM) (L : mwL) : Option ((Nat × Int32) × mwM × mwL) :=
  (if a2 < 0 then fX11_error_b63 fu a1 a2 M L else (if a2 ≤ 2 then (if v3 = 0 then mb3 (DX0_tellError fu a1 a2 M L) (fun r10 M8 L9 => fX11_error_b102 fu a1 a2 r10 M8 L9) else fX11_error_b102 fu a1 a2 (M 20 10) M L) else fX11_error_b63 fu a1 a2 M L))
noncomputable def fX11_error_b14 (fu : Nat) (a1 : Int32) (a2 : Int32) (s0 : Int32) (M : mwM) (L : mwL) : Option ((Nat × Int32) × mwM × mwL) :=
  (if (M 0 5) = 0 then fX11_error_b44 fu a1 a2 M L else (if s0 = 0 then (if a1 < 0 then fX11_error_b44 fu a1 a2 M L else (if a1 < (M 20 10) then fX11_error_b54 fu a1 a2 s0 M L else fX11_error_b44 fu a1 a2 M L)) else fX11_error_b54 fu a1 a2 s0 M L))
noncomputable def fX11_error_b13 (fu : Nat) (a1 : Int32) (a2 : Int32) (M : mwM) (L : mwL) : Option ((Nat × Int32) × mwM × mwL) :=
  fX11_error_b14 fu a1 a2 0 M L
noncomputable def DX11_error (fu : Nat) (a1 : Int32) (a2 : Int32) (M : mwM) (L : mwL) : Option ((Nat × Int32) × mwM × mwL) :=
  (if a1 = ((-1)) then (if a2 = 0 then fX11_error_b14 fu a1 a2 1 M L else fX11_error_b13 fu a1 a2 M L) else fX11_error_b13 fu a1 a2 M L)
noncomputable def fX11_flip_b22 (fu : Nat) (a1 : Int32) (a2 : Int32) (M : mwM) (L : mwL) : Option (Nat × mwM × mwL) :=
  some (3, M, L)
noncomputable def fX11_flip_b50 (fu : Nat) (a1 : Int32) (a2 : Int32) (M : mwM) (L : mwL) : Option (Nat × mwM × mwL) :=
  some (2, M, L)
noncomputable def DX11_flip (fu : Nat) (a1 : Int32) (a2 : Int32) (M : mwM) (L : mwL) : Option (Nat × mwM × mwL) :=
  (if (M 0 5) = 0 then fX11_flip_b22 fu a1 a2 M L else (if a1 < 0 then fX11_flip_b22 fu a1 a2 M L else (if a1 ≤ (M 3 13) then (if a2 < (M 3 16) then fX11_flip_b50 fu a1 a2 M L else (if a2 < 20000 then mck a2 20000 (mck a2 20000 (mlet (mset M 22 (a2.toNatClampNeg) (vp_nar .byte (((M 22 a2.toNatClampNeg) ||| (1 <<< (a1 &&& 31))).toInt8.toInt32))) (fun M8 => some (0, M8, L)))) else fX11_flip_b50 fu a1 a2 M L)) else fX11_flip_b22 fu a1 a2 M L)))
noncomputable def fX11_silence_b22 (fu : Nat) (a1 : Int32) (a2 : Int32) (M : mwM) (L : mwL) : Option ((Nat × Int32) × mwM × mwL) :=
  some ((3, 0), M, L)
noncomputable def fX11_silence_b78 (fu : Nat) (a1 : Int32) (a2 : Int32) (r47 : (Int32 × Int32 × mwM × mwL) → Option ((Nat × Int32) × mwM × mwL)) (v4 : Int32) (s0 : Int32) (s1 : Int32) (M : mwM) (L : mwL) : Option ((Nat × Int32) × mwM × mwL) :=
  mlet (s0 + s1) (fun x4 => mlet (v4 + 1) (fun x5 => r47 (x4, x5, M, L)))
noncomputable def fX11_silence_i47 (fu : Nat) (a1 : Int32) (a2 : Int32) (r47 : (Int32 × Int32 × mwM × mwL) → Option ((Nat × Int32) × mwM × mwL)) (v3 : Int32) (v4 : Int32) (M : mwM) (L : mwL) : Option ((Nat × Int32) × mwM × mwL) :=
  (if (M 3 13) ≤ v4 then some ((0, v3), M, L) else mck v4 6 ((if (M 284 v4.toNatClampNeg) = 0 then fX11_silence_b78 fu a1 a2 r47 v4 v3 0 M L else fX11_silence_b78 fu a1 a2 r47 v4 v3 1 M L)))
noncomputable def fX11_silence_h47 (fu : Nat) (a1 : Int32) (a2 : Int32) : Nat → (Int32 × Int32 × mwM × mwL) → Option ((Nat × Int32) × mwM × mwL) := mloop (fun r47 s => fX11_silence_i47 fu a1 a2 r47 s.1 s.2.1 s.2.2.1 s.2.2.2)
noncomputable def DX11_silence (fu : Nat) (a1 : Int32) (a2 : Int32) (M : mwM) (L : mwL) : Option ((Nat × Int32) × mwM × mwL) :=
  (if (M 0 5) = 0 then fX11_silence_b22 fu a1 a2 M L else (if a1 < 0 then fX11_silence_b22 fu a1 a2 M L else (if a1 < (M 3 13) then mck a1 6 (mlet (mset M 284 (a1.toNatClampNeg) (vp_nar .boolean a2)) (fun M10 => fX11_silence_h47 fu a1 a2 fu (0, 0, M10, L))) else fX11_silence_b22 fu a1 a2 M L)))
noncomputable def fX11_running_b37 (fu : Nat) (a1 : Int32) (a2 : Int32) (M : mwM) (L : mwL) : Option ((Nat × Int32) × mwM × mwL) :=
  some ((3, 0), M, L)
noncomputable def DX11_running (fu : Nat) (a1 : Int32) (a2 : Int32) (M : mwM) (L : mwL) : Option ((Nat × Int32) × mwM × mwL) :=
  (if (M 0 5) = 0 then fX11_running_b37 fu a1 a2 M L else (if a1 < 0 then fX11_running_b37 fu a1 a2 M L else (if (M 3 13) ≤ a1 then fX11_running_b37 fu a1 a2 M L else (if a2 < 0 then fX11_running_b37 fu a1 a2 M L else (if a2 < (M 3 16) then mb3 (DX4_whoRan fu a1 a2 M L) (fun r8 M6 L7 => some ((0, r8), M6, L7)) else fX11_running_b37 fu a1 a2 M L)))))
noncomputable def fX11_task_b25 (fu : Nat) (a1 : Int32) (a2 : Int32) (M : mwM) (L : mwL) : Option ((Nat × Int32) × mwM × mwL) :=
  some ((3, 0), M, L)
noncomputable def fX11_task_b44 (fu : Nat) (a1 : Int32) (a2 : Int32) (M : mwM) (L : mwL) : Option ((Nat × Int32) × mwM × mwL) :=
  some ((2, 0), M, L)
noncomputable def fX11_task_b74 (fu : Nat) (a1 : Int32) (a2 : Int32) (s0 : Int32) (M : mwM) (L : mwL) : Option ((Nat × Int32) × mwM × mwL) :=
  mck s0 11 (mck a1 12 (some ((0, M (7 + s0.toNatClampNeg) a1.toNatClampNeg), M, L)))
noncomputable def DX11_task (fu : Nat) (a1 : Int32) (a2 : Int32) (M : mwM) (L : mwL) : Option ((Nat × Int32) × mwM × mwL) :=
  (if (M 0 5) = 0 then fX11_task_b25 fu a1 a2 M L else (if a1 < 0 then fX11_task_b25 fu a1 a2 M L else (if a1 < (M 5 3) then (if a2 < 0 then fX11_task_b44 fu a1 a2 M L else (if a2 ≤ 2 then (if a2 = 0 then fX11_task_b74 fu a1 a2 5 M L else (if a2 = 1 then fX11_task_b74 fu a1 a2 9 M L else fX11_task_b74 fu a1 a2 10 M L)) else fX11_task_b44 fu a1 a2 M L)) else fX11_task_b25 fu a1 a2 M L)))
noncomputable def fX11_hasChart_b27 (fu : Nat) (a1 : Int32) (s0 : Int32) (M : mwM) (L : mwL) : Option (Int32 × mwM × mwL) :=
  mzz s0 (some (s0, M, L))
noncomputable def fX11_hasChart_b26 (fu : Nat) (a1 : Int32) (M : mwM) (L : mwL) : Option (Int32 × mwM × mwL) :=
  fX11_hasChart_b27 fu a1 0 M L
noncomputable def DX11_hasChart (fu : Nat) (a1 : Int32) (M : mwM) (L : mwL) : Option (Int32 × mwM × mwL) :=
  (if (M 0 5) = 0 then fX11_hasChart_b26 fu a1 M L else (if a1 < 0 then fX11_hasChart_b26 fu a1 M L else (if (M 3 14) ≤ a1 then fX11_hasChart_b26 fu a1 M L else fX11_hasChart_b27 fu a1 1 M L)))
noncomputable def fX11_active_b28 (fu : Nat) (a1 : Int32) (a2 : Int32) (M : mwM) (L : mwL) : Option ((Nat × Int32) × mwM × mwL) :=
  some ((3, 0), M, L)
noncomputable def fX11_active_b71 (fu : Nat) (a1 : Int32) (a2 : Int32) (s0 : Int32) (M : mwM) (L : mwL) : Option ((Nat × Int32) × mwM × mwL) :=
  some ((0, s0), M, L)
noncomputable def DX11_active (fu : Nat) (a1 : Int32) (a2 : Int32) (M : mwM) (L : mwL) : Option ((Nat × Int32) × mwM × mwL) :=
  mb3 (DX11_hasChart fu a1 M L) (fun r3 M1 L2 => (if r3 = 0 then fX11_active_b28 fu a1 a2 M1 L2 else (if a2 < 0 then fX11_active_b28 fu a1 a2 M1 L2 else mck a1 12 ((if a2 ≤ (M1 ((293 + 36 * a1.toNatClampNeg) + 0) 7) then mck a1 12 ((if (M1 ((293 + 36 * a1.toNatClampNeg) + 0) 16) = 0 then fX11_active_b71 fu a1 a2 ((-3)) M1 L2 else mck a1 12 (mb3 (DX2_innermost fu ((293 + 36 * a1.toNatClampNeg)) a2 M1 L2) (fun r13 M11 L12 => fX11_active_b71 fu a1 a2 r13 M11 L12)))) else fX11_active_b28 fu a1 a2 M1 L2)))))
noncomputable def fX11_value_b18 (fu : Nat) (a1 : Int32) (a2 : Int32) (M : mwM) (L : mwL) : Option ((Nat × Int64) × mwM × mwL) :=
  some ((3, 0), M, L)
noncomputable def DX11_value (fu : Nat) (a1 : Int32) (a2 : Int32) (M : mwM) (L : mwL) : Option ((Nat × Int64) × mwM × mwL) :=
  mb3 (DX11_hasChart fu a1 M L) (fun r3 M1 L2 => (if r3 = 0 then fX11_value_b18 fu a1 a2 M1 L2 else (if a2 < 0 then fX11_value_b18 fu a1 a2 M1 L2 else (if a2 < 32 then mck a1 12 (mck a2 32 (some ((0, L2 ((293 + 36 * a1.toNatClampNeg) + 34) a2.toNatClampNeg), M1, L2))) else fX11_value_b18 fu a1 a2 M1 L2))))
noncomputable def fX11_chart_b28 (fu : Nat) (a1 : Int32) (a2 : Int32) (M : mwM) (L : mwL) : Option ((Nat × Int32) × mwM × mwL) :=
  some ((2, 0), M, L)
noncomputable def DX11_chart (fu : Nat) (a1 : Int32) (a2 : Int32) (M : mwM) (L : mwL) : Option ((Nat × Int32) × mwM × mwL) :=
  mb3 (DX11_hasChart fu a1 M L) (fun r3 M1 L2 => (if r3 = 0 then some ((3, 0), M1, L2) else (if a2 < 0 then fX11_chart_b28 fu a1 a2 M1 L2 else (if a2 ≤ 7 then mlet a2 (fun x7 => (if x7 = 0 then mck a1 12 (some ((0, M1 ((293 + 36 * a1.toNatClampNeg) + 0) 14), M1, L2)) else if x7 = 1 then mck a1 12 (some ((0, M1 ((293 + 36 * a1.toNatClampNeg) + 0) 11), M1, L2)) else if x7 = 2 then mck a1 12 (some ((0, M1 ((293 + 36 * a1.toNatClampNeg) + 0) 13), M1, L2)) else mck a1 12 (mb3 (DX2_covered fu ((293 + 36 * a1.toNatClampNeg)) (a2 - 3) M1 L2) (fun r17 M15 L16 => some ((0, r17), M15, L16))))) else fX11_chart_b28 fu a1 a2 M1 L2))))
noncomputable def fX11_trouble_b25 (fu : Nat) (a1 : Int32) (a2 : Int32) (M : mwM) (L : mwL) : Option ((Nat × Int32) × mwM × mwL) :=
  some ((3, 0), M, L)
noncomputable def fX11_trouble_b44 (fu : Nat) (a1 : Int32) (a2 : Int32) (M : mwM) (L : mwL) : Option ((Nat × Int32) × mwM × mwL) :=
  some ((2, 0), M, L)
noncomputable def DX11_trouble (fu : Nat) (a1 : Int32) (a2 : Int32) (M : mwM) (L : mwL) : Option ((Nat × Int32) × mwM × mwL) :=
  (if (M 0 5) = 0 then fX11_trouble_b25 fu a1 a2 M L else (if a1 < 0 then fX11_trouble_b25 fu a1 a2 M L else (if a1 < (M 139 2) then (if a2 < 0 then fX11_trouble_b44 fu a1 a2 M L else (if a2 ≤ 4 then mb3 (DX10_tell fu a1 a2 M L) (fun r8 M6 L7 => some ((0, r8), M6, L7)) else fX11_trouble_b44 fu a1 a2 M L)) else fX11_trouble_b25 fu a1 a2 M L)))
noncomputable def DX11_cycle (fu : Nat) (a1 : Int32) (M : mwM) (L : mwL) : Option ((Nat × Int32) × mwM × mwL) :=
  (if (M 0 5) = 0 then some ((1, 0), M, L) else mb3 (DX10_endCycle fu a1 M L) (fun r4 M2 L3 => some ((0, r4), M2, L3)))
noncomputable def fX11_counted_b9 (fu : Nat) (a1 : Int32) (M : mwM) (L : mwL) : Option ((Nat × Int32) × mwM × mwL) :=
  some ((2, 0), M, L)
noncomputable def fX11_counted_b40 (fu : Nat) (a1 : Int32) (s0 : Int32) (M : mwM) (L : mwL) : Option ((Nat × Int32) × mwM × mwL) :=
  some ((0, s0), M, L)
noncomputable def DX11_counted (fu : Nat) (a1 : Int32) (M : mwM) (L : mwL) : Option ((Nat × Int32) × mwM × mwL) :=
  (if a1 < 0 then fX11_counted_b9 fu a1 M L else (if a1 ≤ 4 then (if (M 0 5) = 0 then fX11_counted_b40 fu a1 0 M L else mck a1 5 (fX11_counted_b40 fu a1 (M 292 a1.toNatClampNeg) M L)) else fX11_counted_b9 fu a1 M L))
noncomputable def fX11_say_b33 (fu : Nat) (a1 : Int32) (M : mwM) (L : mwL) : Option (Int32 × mwM × mwL) :=
  some (M 0 3, M, L)
noncomputable def DX11_say (fu : Nat) (a1 : Int32) (M : mwM) (L : mwL) : Option (Int32 × mwM × mwL) :=
  (if 100 ≤ (M 0 3) then fX11_say_b33 fu a1 M L else mck (M 0 3) 100 (mlet (mset M 731 ((M 0 3).toNatClampNeg) (a1 &&& 255)) (fun M3 => mlet (mset M3 0 3 ((M3 0 3) + 1)) (fun M4 => fX11_say_b33 fu a1 M4 L))))
noncomputable def fX11_ask_b22 (fu : Nat) (a1 : Int32) (M : mwM) (L : mwL) : Option ((Nat × Int32) × mwM × mwL) :=
  some ((3, 0), M, L)
noncomputable def fX11_ask_b64 (fu : Nat) (a1 : Int32) (M : mwM) (L : mwL) : Option ((Nat × Int32) × mwM × mwL) :=
  some ((1, 0), M, L)
noncomputable def DX11_ask (fu : Nat) (a1 : Int32) (M : mwM) (L : mwL) : Option ((Nat × Int32) × mwM × mwL) :=
  (if (M 0 5) = 0 then fX11_ask_b22 fu a1 M L else (if a1 < 0 then fX11_ask_b22 fu a1 M L else (if a1 < (M 3 13) then (if (M 0 3) = 0 then fX11_ask_b64 fu a1 M L else (if 0 ≤ (M 3 17) then fX11_ask_b64 fu a1 M L else (if (M 154 5) < 99 then mb2 (DX9_make fu a1 1 731 100 (M 0 3) M L) (fun M7 L8 => mlet (mset M7 3 17 a1) (fun M9 => mlet (mset M9 3 18 0) (fun M10 => mlet (M10 0 3) (fun x11 => mlet (mset M10 0 3 0) (fun M12 => some ((0, x11), M12, L8)))))) else fX11_ask_b64 fu a1 M L))) else fX11_ask_b22 fu a1 M L)))
noncomputable def fX11_asking_b18 (fu : Nat) (s0 : Int32) (M : mwM) (L : mwL) : Option (Int32 × mwM × mwL) :=
  some (s0, M, L)
noncomputable def DX11_asking (fu : Nat) (M : mwM) (L : mwL) : Option (Int32 × mwM × mwL) :=
  (if (M 0 5) = 0 then fX11_asking_b18 fu ((-1)) M L else fX11_asking_b18 fu (M 3 17) M L)
noncomputable def fX11_answerLength_b41 (fu : Nat) (s0 : Int32) (M : mwM) (L : mwL) : Option (Int32 × mwM × mwL) :=
  some (s0, M, L)
noncomputable def fX11_answerLength_b40 (fu : Nat) (M : mwM) (L : mwL) : Option (Int32 × mwM × mwL) :=
  fX11_answerLength_b41 fu 0 M L
noncomputable def DX11_answerLength (fu : Nat) (M : mwM) (L : mwL) : Option (Int32 × mwM × mwL) :=
  (if (M 0 5) = 0 then fX11_answerLength_b40 fu M L else (if (M 3 18) ≤ 0 then fX11_answerLength_b40 fu M L else mck (M 3 18) 101 (fX11_answerLength_b41 fu (M 158 (M 3 18).toNatClampNeg) M L)))
noncomputable def fX11_answer_b12 (fu : Nat) (a1 : Int32) (M : mwM) (L : mwL) : Option ((Nat × Int32) × mwM × mwL) :=
  some ((3, 0), M, L)
noncomputable def DX11_answer (fu : Nat) (a1 : Int32) (M : mwM) (L : mwL) : Option ((Nat × Int32) × mwM × mwL) :=
  (if a1 < 0 then fX11_answer_b12 fu a1 M L else mb3 (DX11_answerLength fu M L) (fun r4 M2 L3 => (if a1 < r4 then mck (M2 3 18) 101 (mck a1 100 (some ((0, M2 (162 + (M2 3 18).toNatClampNeg) a1.toNatClampNeg), M2, L3))) else fX11_answer_b12 fu a1 M2 L3)))
noncomputable def DX11_answers (fu : Nat) (M : mwM) (L : mwL) : Option (Int32 × mwM × mwL) :=
  mb3 (DX11_answerLength fu M L) (fun r3 M1 L2 => some (r3, M1, L2))
noncomputable def DX12_thrown (fu : Nat) (M : mwM) (L : mwL) : Option (Int32 × mwM × mwL) :=
  some (M 821 0, M, L)
noncomputable def fX12_nodes_i108 (fu : Nat) (a1 : Int32) (r108 : (Int32 × mwM × mwL) → Option (mwM × mwL)) (v2 : Int32) (M : mwM) (L : mwL) : Option (mwM × mwL) :=
  (if 140000 ≤ v2 then some (M, L) else mck v2 140000 (mlet (mset M 838 (v2.toNatClampNeg) (vp_nar .boolean 0)) (fun M19 => mlet (v2 + 1) (fun x20 => r108 (x20, M19, L)))))
noncomputable def fX12_nodes_h108 (fu : Nat) (a1 : Int32) : Nat → (Int32 × mwM × mwL) → Option (mwM × mwL) := mloop (fun r108 s => fX12_nodes_i108 fu a1 r108 s.1 s.2.1 s.2.2)
noncomputable def fX12_nodes_i73 (fu : Nat) (a1 : Int32) (r73 : (Int32 × mwM × mwL) → Option (mwM × mwL)) (v2 : Int32) (M : mwM) (L : mwL) : Option (mwM × mwL) :=
  (if 32 ≤ v2 then fX12_nodes_h108 fu a1 fu (0, M, L) else mck v2 32 (mlet (mset M 831 (v2.toNatClampNeg) 0) (fun M11 => mck v2 32 (mlet (mset M11 834 (v2.toNatClampNeg) 0) (fun M13 => mck v2 32 (mlet (mset M13 835 (v2.toNatClampNeg) 0) (fun M15 => mlet (v2 + 1) (fun x16 => r73 (x16, M15, L)))))))))
noncomputable def fX12_nodes_h73 (fu : Nat) (a1 : Int32) : Nat → (Int32 × mwM × mwL) → Option (mwM × mwL) := mloop (fun r73 s => fX12_nodes_i73 fu a1 r73 s.1 s.2.1 s.2.2)
noncomputable def fX12_nodes_b30 (fu : Nat) (a1 : Int32) (s1 : Int32) (M : mwM) (L : mwL) : Option (mwM × mwL) :=
  mlet (mset M 821 0 s1) (fun M1 => (if (M1 821 0) ≤ 0 then mlet (mset M1 821 1 a1) (fun M3 => mlet (mset M3 821 2 0) (fun M4 => mlet (mset M4 821 4 0) (fun M5 => mlet (mset M5 821 11 0) (fun M6 => mlet (mset M6 821 22 0) (fun M7 => mlet (mset M7 821 29 0) (fun M8 => fX12_nodes_h73 fu a1 fu (0, M8, L))))))) else some (M1, L)))
noncomputable def DX12_nodes (fu : Nat) (a1 : Int32) (M : mwM) (L : mwL) : Option (mwM × mwL) :=
  mlet (mset M 821 50 ((-1))) (fun M21 => mlet (mset M21 821 48 ((-1))) (fun M22 => (if a1 ≤ 32 then (if 0 ≤ a1 then fX12_nodes_b30 fu a1 0 M22 L else fX12_nodes_b30 fu a1 2 M22 L) else fX12_nodes_b30 fu a1 1 M22 L)))
noncomputable def fX12_octetsOf_b24 (fu : Nat) (a1 : Int32) (a2 : Int32) (s0 : Int32) (M : mwM) (L : mwL) : Option (Int32 × mwM × mwL) :=
  some (s0, M, L)
noncomputable def fX12_octetsOf_b103 (fu : Nat) (a1 : Int32) (a2 : Int32) (s0 : Int32) (M : mwM) (L : mwL) : Option (Int32 × mwM × mwL) :=
  some (s0, M, L)
noncomputable def DX12_octetsOf (fu : Nat) (a1 : Int32) (a2 : Int32) (M : mwM) (L : mwL) : Option (Int32 × mwM × mwL) :=
  (if a1 ≤ 3 then (if 2 ≤ a1 then (if 9 ≤ a2 then (if a2 = 9 then fX12_octetsOf_b103 fu a1 a2 12 M L else (if a2 = 10 then fX12_octetsOf_b103 fu a1 a2 16 M L else (if a2 = 11 then fX12_octetsOf_b103 fu a1 a2 20 M L else (if a2 = 12 then fX12_octetsOf_b103 fu a1 a2 24 M L else (if a2 = 13 then fX12_octetsOf_b103 fu a1 a2 32 M L else (if a2 = 14 then fX12_octetsOf_b103 fu a1 a2 48 M L else fX12_octetsOf_b103 fu a1 a2 64 M L)))))) else fX12_octetsOf_b103 fu a1 a2 a2 M L) else (if a2 ≤ 8 then fX12_octetsOf_b24 fu a1 a2 a2 M L else fX12_octetsOf_b24 fu a1 a2 8 M L)) else some (0, M, L))
noncomputable def fX12_noNode_b17 (fu : Nat) (a1 : Int32) (s0 : Int32) (M : mwM) (L : mwL) : Option (Int32 × mwM × mwL) :=
  mzz s0 (some (s0, M, L))
noncomputable def fX12_noNode_b12 (fu : Nat) (a1 : Int32) (M : mwM) (L : mwL) : Option (Int32 × mwM × mwL) :=
  fX12_noNode_b17 fu a1 1 M L
noncomputable def DX12_noNode (fu : Nat) (a1 : Int32) (M : mwM) (L : mwL) : Option (Int32 × mwM × mwL) :=
  (if a1 < 0 then fX12_noNode_b12 fu a1 M L else (if a1 < (M 821 1) then fX12_noNode_b17 fu a1 0 M L else fX12_noNode_b12 fu a1 M L))
noncomputable def fX12_send_i154 (fu : Nat) (a1 : Int32) (a2 : Int32) (a3 : Int32) (a4 : Int32) (r154 : (Int32 × mwM × mwL) → Option (Int32 × mwM × mwL)) (v6 : Int32) (M : mwM) (L : mwL) : Option (Int32 × mwM × mwL) :=
  (if 64 ≤ v6 then mlet (mset M 821 4 ((M 821 4) + 1)) (fun M21 => some ((M21 821 4) - 1, M21, L)) else mck ((64 * (M 821 4)) + v6) 12800 (mlet (mset M 827 (((64 * (M 821 4)) + v6).toNatClampNeg) 0) (fun M23 => mlet (v6 + 1) (fun x24 => r154 (x24, M23, L)))))
noncomputable def fX12_send_h154 (fu : Nat) (a1 : Int32) (a2 : Int32) (a3 : Int32) (a4 : Int32) : Nat → (Int32 × mwM × mwL) → Option (Int32 × mwM × mwL) := mloop (fun r154 s => fX12_send_i154 fu a1 a2 a3 a4 r154 s.1 s.2.1 s.2.2)
noncomputable def fX12_send_b88 (fu : Nat) (a1 : Int32) (a2 : Int32) (a3 : Int32) (a4 : Int32) (s1 : Int32) (M : mwM) (L : mwL) : Option (Int32 × mwM × mwL) :=
  mlet (mset M 821 0 s1) (fun M8 => (if (M8 821 0) ≤ 0 then mck (M8 821 4) 200 (mlet (mset M8 823 ((M8 821 4).toNatClampNeg) a1) (fun M11 => mck (M11 821 4) 200 (mlet (mset M11 824 ((M11 821 4).toNatClampNeg) a2) (fun M13 => mck (M13 821 4) 200 (mlet (mset M13 825 ((M13 821 4).toNatClampNeg) a3) (fun M15 => mck (M15 821 4) 200 (mlet (mset M15 826 ((M15 821 4).toNatClampNeg) a4) (fun M17 => mck (M17 821 4) 200 (mlet (mset M17 828 ((M17 821 4).toNatClampNeg) (vp_nar .boolean 0)) (fun M19 => fX12_send_h154 fu a1 a2 a3 a4 fu (0, M19, L))))))))))) else some (0, M8, L)))
noncomputable def fX12_send_b49 (fu : Nat) (a1 : Int32) (a2 : Int32) (a3 : Int32) (a4 : Int32) (s0 : Int32) (M : mwM) (L : mwL) : Option (Int32 × mwM × mwL) :=
  mb3 (DX12_noNode fu a1 M L) (fun r4 M2 L3 => (if r4 = 0 then (if s0 = 0 then fX12_send_b88 fu a1 a2 a3 a4 2 M2 L3 else (if (M2 821 4) = 200 then fX12_send_b88 fu a1 a2 a3 a4 3 M2 L3 else fX12_send_b88 fu a1 a2 a3 a4 0 M2 L3)) else fX12_send_b88 fu a1 a2 a3 a4 1 M2 L3))
noncomputable def fX12_send_b48 (fu : Nat) (a1 : Int32) (a2 : Int32) (a3 : Int32) (a4 : Int32) (M : mwM) (L : mwL) : Option (Int32 × mwM × mwL) :=
  fX12_send_b49 fu a1 a2 a3 a4 0 M L
noncomputable def fX12_send_b41 (fu : Nat) (a1 : Int32) (a2 : Int32) (a3 : Int32) (a4 : Int32) (s1 : Int32) (M : mwM) (L : mwL) : Option (Int32 × mwM × mwL) :=
  (if s1 ≤ a2 then fX12_send_b48 fu a1 a2 a3 a4 M L else fX12_send_b49 fu a1 a2 a3 a4 1 M L)
noncomputable def DX12_send (fu : Nat) (a1 : Int32) (a2 : Int32) (a3 : Int32) (a4 : Int32) (M : mwM) (L : mwL) : Option (Int32 × mwM × mwL) :=
  (if a3 < 0 then fX12_send_b48 fu a1 a2 a3 a4 M L else (if 5 < a3 then fX12_send_b48 fu a1 a2 a3 a4 M L else (if a4 < 0 then fX12_send_b48 fu a1 a2 a3 a4 M L else (if 15 < a4 then fX12_send_b48 fu a1 a2 a3 a4 M L else (if a2 < 0 then fX12_send_b48 fu a1 a2 a3 a4 M L else (if (a3 - a3 / 2 * 2) = 1 then fX12_send_b41 fu a1 a2 a3 a4 536870912 M L else fX12_send_b41 fu a1 a2 a3 a4 2048 M L))))))
noncomputable def fX12_noFrame_b17 (fu : Nat) (a1 : Int32) (s0 : Int32) (M : mwM) (L : mwL) : Option (Int32 × mwM × mwL) :=
  mzz s0 (some (s0, M, L))
noncomputable def fX12_noFrame_b12 (fu : Nat) (a1 : Int32) (M : mwM) (L : mwL) : Option (Int32 × mwM × mwL) :=
  fX12_noFrame_b17 fu a1 1 M L
noncomputable def DX12_noFrame (fu : Nat) (a1 : Int32) (M : mwM) (L : mwL) : Option (Int32 × mwM × mwL) :=
  (if a1 < 0 then fX12_noFrame_b12 fu a1 M L else (if a1 < (M 821 4) then fX12_noFrame_b17 fu a1 0 M L else fX12_noFrame_b12 fu a1 M L))
noncomputable def fX12_octet_b126 (fu : Nat) (a1 : Int32) (a2 : Int32) (a3 : Int32) (M : mwM) (L : mwL) : Option (mwM × mwL) :=
  some (M, L)
noncomputable def fX12_octet_b104 (fu : Nat) (a1 : Int32) (a2 : Int32) (a3 : Int32) (s1 : Int32) (M : mwM) (L : mwL) : Option (mwM × mwL) :=
  mlet (mset M 821 0 s1) (fun M1 => (if (M1 821 0) = 0 then mck ((64 * a1) + a2) 12800 (mlet (mset M1 827 (((64 * a1) + a2).toNatClampNeg) a3) (fun M4 => fX12_octet_b126 fu a1 a2 a3 M4 L)) else fX12_octet_b126 fu a1 a2 a3 M1 L))
noncomputable def fX12_octet_b18 (fu : Nat) (a1 : Int32) (a2 : Int32) (a3 : Int32) (M : mwM) (L : mwL) : Option (mwM × mwL) :=
  fX12_octet_b104 fu a1 a2 a3 1 M L
noncomputable def fX12_octet_b56 (fu : Nat) (a1 : Int32) (a2 : Int32) (a3 : Int32) (M : mwM) (L : mwL) : Option (mwM × mwL) :=
  fX12_octet_b104 fu a1 a2 a3 2 M L
noncomputable def fX12_octet_b99 (fu : Nat) (a1 : Int32) (a2 : Int32) (a3 : Int32) (M : mwM) (L : mwL) : Option (mwM × mwL) :=
  fX12_octet_b104 fu a1 a2 a3 3 M L
noncomputable def fX12_octet_b103 (fu : Nat) (a1 : Int32) (a2 : Int32) (a3 : Int32) (M : mwM) (L : mwL) : Option (mwM × mwL) :=
  fX12_octet_b104 fu a1 a2 a3 0 M L
noncomputable def DX12_octet (fu : Nat) (a1 : Int32) (a2 : Int32) (a3 : Int32) (M : mwM) (L : mwL) : Option (mwM × mwL) :=
  mlet (mset M 821 50 ((-1))) (fun M5 => mb3 (DX12_noFrame fu a1 M5 L) (fun r8 M6 L7 => (if r8 = 0 then (if 0 ≤ a2 then mck a1 200 (mck a1 200 (mb3 (DX12_octetsOf fu (M6 825 a1.toNatClampNeg) (M6 826 a1.toNatClampNeg) M6 L7) (fun r15 M13 L14 => (if a2 < r15 then (if a3 < 0 then fX12_octet_b56 fu a1 a2 a3 M13 L14 else (if a3 ≤ 255 then mck a1 200 ((if (M13 828 a1.toNatClampNeg) = 0 then mck a1 200 (mck (M13 823 a1.toNatClampNeg) 32 ((if (M13 831 (M13 823 a1.toNatClampNeg).toNatClampNeg) = 1 then mck a1 200 (mck (M13 823 a1.toNatClampNeg) 32 ((if (M13 833 (M13 823 a1.toNatClampNeg).toNatClampNeg) = a1 then fX12_octet_b99 fu a1 a2 a3 M13 L14 else fX12_octet_b103 fu a1 a2 a3 M13 L14))) else fX12_octet_b103 fu a1 a2 a3 M13 L14))) else fX12_octet_b99 fu a1 a2 a3 M13 L14)) else fX12_octet_b56 fu a1 a2 a3 M13 L14)) else fX12_octet_b104 fu a1 a2 a3 1 M13 L14)))) else fX12_octet_b18 fu a1 a2 a3 M6 L7) else fX12_octet_b18 fu a1 a2 a3 M6 L7)))
noncomputable def fX12_bits_i4 (fu : Nat) (a1 : Int32) (a2 : Int32) (r4 : (Int32 × mwM × mwL) → Option (mwM × mwL)) (v3 : Int32) (M : mwM) (L : mwL) : Option (mwM × mwL) :=
  (if v3 < 0 then some (M, L) else mck (M 821 34) 700 (mlet (mset M 848 ((M 821 34).toNatClampNeg) (vp_nar .byte (((a1 >>> (v3 &&& 31)) &&& 1).toInt8.toInt32))) (fun M3 => mlet (mset M3 821 34 ((M3 821 34) + 1)) (fun M4 => mlet (v3 + (-1)) (fun x5 => r4 (x5, M4, L))))))
noncomputable def fX12_bits_h4 (fu : Nat) (a1 : Int32) (a2 : Int32) : Nat → (Int32 × mwM × mwL) → Option (mwM × mwL) := mloop (fun r4 s => fX12_bits_i4 fu a1 a2 r4 s.1 s.2.1 s.2.2)
noncomputable def DX12_bits (fu : Nat) (a1 : Int32) (a2 : Int32) (M : mwM) (L : mwL) : Option (mwM × mwL) :=
  mlet (a2 - 1) (fun x6 => fX12_bits_h4 fu a1 a2 fu (x6, M, L))
noncomputable def fX12_writePlain_i201 (fu : Nat) (a1 : Int32) (r201 : (Int32 × mwM × mwL) → Option (mwM × mwL)) (v5 : Int32) (M : mwM) (L : mwL) : Option (mwM × mwL) :=
  mck a1 200 (mck a1 200 (mb3 (DX12_octetsOf fu (M 825 a1.toNatClampNeg) (M 826 a1.toNatClampNeg) M L) (fun r42 M40 L41 => (if r42 ≤ v5 then some (M40, L41) else mck ((64 * a1) + v5) 12800 (mb2 (DX12_bits fu (M40 827 ((64 * a1) + v5).toNatClampNeg) 8 M40 L41) (fun M45 L46 => mlet (v5 + 1) (fun x47 => r201 (x47, M45, L46))))))))
noncomputable def fX12_writePlain_h201 (fu : Nat) (a1 : Int32) : Nat → (Int32 × mwM × mwL) → Option (mwM × mwL) := mloop (fun r201 s => fX12_writePlain_i201 fu a1 r201 s.1 s.2.1 s.2.2)
noncomputable def fX12_writePlain_b187 (fu : Nat) (a1 : Int32) (M : mwM) (L : mwL) : Option (mwM × mwL) :=
  mck a1 200 (mb2 (DX12_bits fu (M 826 a1.toNatClampNeg) 4 M L) (fun M36 L37 => fX12_writePlain_h201 fu a1 fu (0, M36, L37)))
noncomputable def fX12_writePlain_b184 (fu : Nat) (a1 : Int32) (s1 : Int32) (s2 : Int32) (M : mwM) (L : mwL) : Option (mwM × mwL) :=
  mb2 (DX12_bits fu s1 s2 M L) (fun M33 L34 => fX12_writePlain_b187 fu a1 M33 L34)
noncomputable def fX12_writePlain_b159 (fu : Nat) (a1 : Int32) (v2 : Int32) (v3 : Int32) (M : mwM) (L : mwL) : Option (mwM × mwL) :=
  (if v3 = 0 then (if v2 = 0 then fX12_writePlain_b184 fu a1 0 1 M L else fX12_writePlain_b184 fu a1 0 2 M L) else mb2 (DX12_bits fu 8 4 M L) (fun M31 L32 => fX12_writePlain_b187 fu a1 M31 L32))
noncomputable def fX12_writePlain_b100 (fu : Nat) (a1 : Int32) (v2 : Int32) (v3 : Int32) (v4 : Int32) (s1 : Int32) (M : mwM) (L : mwL) : Option (mwM × mwL) :=
  mb2 (DX12_bits fu s1 11 M L) (fun M13 L14 => (if v2 = 0 then mb2 (DX12_bits fu v4 1 M13 L14) (fun M16 L17 => mb2 (DX12_bits fu 0 1 M16 L17) (fun M18 L19 => fX12_writePlain_b159 fu a1 v2 v3 M18 L19)) else mb2 (DX12_bits fu 1 1 M13 L14) (fun M20 L21 => mb2 (DX12_bits fu 1 1 M20 L21) (fun M22 L23 => mck a1 200 (mb2 (DX12_bits fu ((M22 824 a1.toNatClampNeg) &&& 262143) 18 M22 L23) (fun M25 L26 => mb2 (DX12_bits fu v4 1 M25 L26) (fun M27 L28 => fX12_writePlain_b159 fu a1 v2 v3 M27 L28)))))))
noncomputable def fX12_writePlain_b64 (fu : Nat) (a1 : Int32) (v2 : Int32) (v3 : Int32) (s0 : Int32) (M : mwM) (L : mwL) : Option (mwM × mwL) :=
  mlet (mset M 821 34 0) (fun M7 => mb2 (DX12_bits fu 0 1 M7 L) (fun M8 L9 => (if v2 = 0 then mck a1 200 (fX12_writePlain_b100 fu a1 v2 v3 s0 (M8 824 a1.toNatClampNeg) M8 L9) else mck a1 200 (fX12_writePlain_b100 fu a1 v2 v3 s0 ((M8 824 a1.toNatClampNeg) >>> (18 &&& 31)) M8 L9))))
noncomputable def fX12_writePlain_b48 (fu : Nat) (a1 : Int32) (v2 : Int32) (s0 : Int32) (M : mwM) (L : mwL) : Option (mwM × mwL) :=
  mck a1 200 ((if (M 825 a1.toNatClampNeg) ≤ 3 then fX12_writePlain_b64 fu a1 v2 s0 0 M L else fX12_writePlain_b64 fu a1 v2 s0 1 M L))
noncomputable def fX12_writePlain_b43 (fu : Nat) (a1 : Int32) (v2 : Int32) (M : mwM) (L : mwL) : Option (mwM × mwL) :=
  fX12_writePlain_b48 fu a1 v2 1 M L
noncomputable def fX12_writePlain_b22 (fu : Nat) (a1 : Int32) (s0 : Int32) (M : mwM) (L : mwL) : Option (mwM × mwL) :=
  mck a1 200 ((if (M 825 a1.toNatClampNeg) = 2 then fX12_writePlain_b43 fu a1 s0 M L else mck a1 200 ((if (M 825 a1.toNatClampNeg) = 3 then fX12_writePlain_b43 fu a1 s0 M L else fX12_writePlain_b48 fu a1 s0 0 M L))))
noncomputable def DX12_writePlain (fu : Nat) (a1 : Int32) (M : mwM) (L : mwL) : Option (mwM × mwL) :=
  mlet (mset M 821 48 ((-1))) (fun M48 => mck a1 200 ((if ((M48 825 a1.toNatClampNeg) - (M48 825 a1.toNatClampNeg) / 2 * 2) = 1 then fX12_writePlain_b22 fu a1 1 M48 L else fX12_writePlain_b22 fu a1 0 M48 L)))
