noncomputable def fX17_sum_i4 (fu : Nat) (r4 : (Int32 × Int32 × mwM × mwL) → Option (Int32 × mwM × mwL)) (v1 : Int32) (v2 : Int32) (M : mwM) (L : mwL) : Option (Int32 × mwM × mwL) :=
  (if 8 ≤ v2 then some (v1, M, L) else mck v2 8 (mlet (v1 + (M 901 v2.toNatClampNeg)) (fun x3 => mlet (v2 + 1) (fun x4 => r4 (x3, x4, M, L)))))
noncomputable def fX17_sum_h4 (fu : Nat) : Nat → (Int32 × Int32 × mwM × mwL) → Option (Int32 × mwM × mwL) := mloop (fun r4 s => fX17_sum_i4 fu r4 s.1 s.2.1 s.2.2.1 s.2.2.2)
noncomputable def DX17_sum (fu : Nat) (M : mwM) (L : mwL) : Option (Int32 × mwM × mwL) :=
  fX17_sum_h4 fu fu (0, 1, M, L)
noncomputable def fX17_tick_b27 (fu : Nat) (a1 : Int64) (M : mwM) (L : mwL) : Option (Int32 × mwM × mwL) :=
  some ((-2), M, L)
noncomputable def fX17_tick_i73 (fu : Nat) (a1 : Int64) (r73 : (Int32 × mwM × mwL) → Option (Int32 × mwM × mwL)) (v3 : Int32) (M : mwM) (L : mwL) : Option (Int32 × mwM × mwL) :=
  (if 0 ≤ (lg_cmp (L 869 2) a1) then mb3 (DX17_sum fu M L) (fun r12 M10 L11 => some (r12 - v3, M10, L11)) else mlet (mset L 869 2 ((L 869 2) + 1)) (fun L13 => mb2 (DX17_moment fu M L13) (fun M14 L15 => r73 (v3, M14, L15))))
noncomputable def fX17_tick_h73 (fu : Nat) (a1 : Int64) : Nat → (Int32 × mwM × mwL) → Option (Int32 × mwM × mwL) := mloop (fun r73 s => fX17_tick_i73 fu a1 r73 s.1 s.2.1 s.2.2)
noncomputable def fX17_tick_b63 (fu : Nat) (a1 : Int64) (r38 : (Int32 × Int32 × mwM × mwL) → Option (Int32 × mwM × mwL)) (v3 : Int32) (v4 : Int32) (M : mwM) (L : mwL) : Option (Int32 × mwM × mwL) :=
  mlet (v4 + 1) (fun x8 => r38 (v3, x8, M, L))
noncomputable def fX17_tick_i38 (fu : Nat) (a1 : Int64) (r38 : (Int32 × Int32 × mwM × mwL) → Option (Int32 × mwM × mwL)) (v3 : Int32) (v4 : Int32) (M : mwM) (L : mwL) : Option (Int32 × mwM × mwL) :=
  (if (M 869 3) < v4 then mb2 (DX17_moment fu M L) (fun M2 L3 => fX17_tick_h73 fu a1 fu (v3, M2, L3)) else mck v4 101 ((if (M 872 v4.toNatClampNeg) = 0 then mb2 (DX17_start fu v4 M L) (fun M6 L7 => fX17_tick_b63 fu a1 r38 v3 v4 M6 L7) else fX17_tick_b63 fu a1 r38 v3 v4 M L)))
noncomputable def fX17_tick_h38 (fu : Nat) (a1 : Int64) : Nat → (Int32 × Int32 × mwM × mwL) → Option (Int32 × mwM × mwL) := mloop (fun r38 s => fX17_tick_i38 fu a1 r38 s.1 s.2.1 s.2.2.1 s.2.2.2)
noncomputable def DX17_tick (fu : Nat) (a1 : Int64) (M : mwM) (L : mwL) : Option (Int32 × mwM × mwL) :=
  mlet (mset M 869 0 0) (fun M16 => (if (lg_cmp a1 (L 869 2)) < 0 then fX17_tick_b27 fu a1 M16 L else (if (lg_cmp (a1 - (L 869 2)) 5000) ≤ 0 then mb3 (DX17_sum fu M16 L) (fun r21 M19 L20 => fX17_tick_h38 fu a1 fu (r21, 1, M19, L20)) else fX17_tick_b27 fu a1 M16 L)))
noncomputable def fX17_receive_b18 (fu : Nat) (a1 : Int32) (M : mwM) (L : mwL) : Option (Int32 × mwM × mwL) :=
  some ((-1), M, L)
noncomputable def fX17_receive_b62 (fu : Nat) (a1 : Int32) (s0 : Int32) (M : mwM) (L : mwL) : Option (Int32 × mwM × mwL) :=
  some (s0, M, L)
noncomputable def DX17_receive (fu : Nat) (a1 : Int32) (M : mwM) (L : mwL) : Option (Int32 × mwM × mwL) :=
  mlet (mset M 869 0 0) (fun M1 => (if a1 < 1 then fX17_receive_b18 fu a1 M1 L else (if a1 ≤ (M1 869 26) then mck a1 6001 ((if (M1 898 a1.toNatClampNeg) = 0 then mck a1 6001 (mlet (mset M1 898 (a1.toNatClampNeg) (vp_nar .boolean 1)) (fun M7 => mck a1 6001 ((if (M7 892 a1.toNatClampNeg) = 3 then mb3 (DX17_takeFlow fu a1 M7 L) (fun r15 M13 L14 => fX17_receive_b62 fu a1 r15 M13 L14) else mb3 (DX17_take fu a1 M7 L) (fun r12 M10 L11 => fX17_receive_b62 fu a1 r12 M10 L11))))) else some ((-3), M1, L))) else fX17_receive_b18 fu a1 M1 L)))
noncomputable def fX17_lose_b44 (fu : Nat) (a1 : Int32) (v2 : Int32) (M : mwM) (L : mwL) : Option (Int32 × mwM × mwL) :=
  mzz v2 (some (v2, M, L))
noncomputable def fX17_lose_b32 (fu : Nat) (a1 : Int32) (s0 : Int32) (M : mwM) (L : mwL) : Option (Int32 × mwM × mwL) :=
  (if s0 = 0 then fX17_lose_b44 fu a1 s0 M L else mck a1 6001 (mlet (mset M 898 (a1.toNatClampNeg) (vp_nar .boolean 1)) (fun M3 => fX17_lose_b44 fu a1 s0 M3 L)))
noncomputable def fX17_lose_b31 (fu : Nat) (a1 : Int32) (M : mwM) (L : mwL) : Option (Int32 × mwM × mwL) :=
  fX17_lose_b32 fu a1 0 M L
noncomputable def DX17_lose (fu : Nat) (a1 : Int32) (M : mwM) (L : mwL) : Option (Int32 × mwM × mwL) :=
  mlet (mset M 869 0 0) (fun M5 => (if a1 < 1 then fX17_lose_b31 fu a1 M5 L else (if (M5 869 26) < a1 then fX17_lose_b31 fu a1 M5 L else mck a1 6001 ((if (M5 898 a1.toNatClampNeg) = 0 then fX17_lose_b32 fu a1 1 M5 L else fX17_lose_b31 fu a1 M5 L)))))
noncomputable def fX17_frame_b31 (fu : Nat) (a1 : Int32) (a2 : Int32) (M : mwM) (L : mwL) : Option (Int32 × mwM × mwL) :=
  some ((-1), M, L)
noncomputable def fX17_frame_b167 (fu : Nat) (a1 : Int32) (a2 : Int32) (s0 : Int32) (M : mwM) (L : mwL) : Option (Int32 × mwM × mwL) :=
  some (s0, M, L)
noncomputable def fX17_frame_b91 (fu : Nat) (a1 : Int32) (a2 : Int32) (M : mwM) (L : mwL) : Option (Int32 × mwM × mwL) :=
  (if a2 = 0 then mck a1 6001 (some (M 892 a1.toNatClampNeg, M, L)) else (if a2 = 1 then mck a1 6001 (some (M 893 a1.toNatClampNeg, M, L)) else (if a2 = 2 then mck a1 6001 (some (M 894 a1.toNatClampNeg, M, L)) else (if a2 = 3 then mck a1 6001 (some (M 895 a1.toNatClampNeg, M, L)) else (if a2 = 4 then mck a1 6001 (some ((L 897 a1.toNatClampNeg).toInt32, M, L)) else (if a2 = 5 then mck a1 6001 (fX17_frame_b167 fu a1 a2 (M 896 a1.toNatClampNeg) M L) else fX17_frame_b167 fu a1 a2 ((-2)) M L))))))
noncomputable def fX17_frame_b90 (fu : Nat) (a1 : Int32) (a2 : Int32) (s0 : Int32) (M : mwM) (L : mwL) : Option (Int32 × mwM × mwL) :=
  some (s0, M, L)
noncomputable def fX17_frame_b89 (fu : Nat) (a1 : Int32) (a2 : Int32) (M : mwM) (L : mwL) : Option (Int32 × mwM × mwL) :=
  fX17_frame_b90 fu a1 a2 0 M L
noncomputable def fX17_frame_b18 (fu : Nat) (a1 : Int32) (a2 : Int32) (M : mwM) (L : mwL) : Option (Int32 × mwM × mwL) :=
  (if a1 < 1 then fX17_frame_b31 fu a1 a2 M L else (if a1 ≤ (M 869 26) then (if a2 < 8 then fX17_frame_b91 fu a1 a2 M L else (if 15 ≤ a2 then fX17_frame_b91 fu a1 a2 M L else mck a1 6001 ((if 3 ≤ (M 892 a1.toNatClampNeg) then fX17_frame_b89 fu a1 a2 M L else mck a1 6001 ((if (M 895 a1.toNatClampNeg) ≤ (a2 - 8) then fX17_frame_b89 fu a1 a2 M L else mck (((7 * a1) + a2) - 8) 42007 (fX17_frame_b90 fu a1 a2 ((M 899 (((7 * a1) + a2) - 8).toNatClampNeg) &&& 255) M L))))))) else fX17_frame_b31 fu a1 a2 M L))
noncomputable def DX17_frame (fu : Nat) (a1 : Int32) (a2 : Int32) (M : mwM) (L : mwL) : Option (Int32 × mwM × mwL) :=
  mlet (mset M 869 0 0) (fun M22 => (if a1 = 0 then (if a2 = 0 then some (M22 869 26, M22, L) else fX17_frame_b18 fu a1 a2 M22 L) else fX17_frame_b18 fu a1 a2 M22 L))
noncomputable def fX17_got_b38 (fu : Nat) (a1 : Int32) (s0 : Int32) (M : mwM) (L : mwL) : Option (Int32 × mwM × mwL) :=
  mbb s0 (some (s0, M, L))
noncomputable def fX17_got_b18 (fu : Nat) (a1 : Int32) (s1 : Int32) (M : mwM) (L : mwL) : Option (Int32 × mwM × mwL) :=
  mlet (mset M 869 0 s1) (fun M1 => (if (M1 869 0) ≤ 0 then mck a1 10000 (fX17_got_b38 fu a1 (M1 900 a1.toNatClampNeg) M1 L) else fX17_got_b38 fu a1 0 M1 L))
noncomputable def fX17_got_b13 (fu : Nat) (a1 : Int32) (M : mwM) (L : mwL) : Option (Int32 × mwM × mwL) :=
  fX17_got_b18 fu a1 1 M L
noncomputable def DX17_got (fu : Nat) (a1 : Int32) (M : mwM) (L : mwL) : Option (Int32 × mwM × mwL) :=
  (if a1 < 0 then fX17_got_b13 fu a1 M L else (if a1 < (M 869 40) then fX17_got_b18 fu a1 0 M L else fX17_got_b13 fu a1 M L))
noncomputable def DX17_length (fu : Nat) (M : mwM) (L : mwL) : Option (Int32 × mwM × mwL) :=
  mlet (mset M 869 0 0) (fun M1 => some (M1 869 40, M1, L))
noncomputable def fX17_ended_b26 (fu : Nat) (a1 : Int32) (s0 : Int32) (M : mwM) (L : mwL) : Option (Int32 × mwM × mwL) :=
  some (s0, M, L)
noncomputable def fX17_ended_b15 (fu : Nat) (a1 : Int32) (M : mwM) (L : mwL) : Option (Int32 × mwM × mwL) :=
  fX17_ended_b26 fu a1 ((-2)) M L
noncomputable def DX17_ended (fu : Nat) (a1 : Int32) (M : mwM) (L : mwL) : Option (Int32 × mwM × mwL) :=
  mlet (mset M 869 0 0) (fun M1 => (if a1 < 0 then fX17_ended_b15 fu a1 M1 L else (if a1 ≤ 7 then mck a1 8 (fX17_ended_b26 fu a1 (M1 901 a1.toNatClampNeg) M1 L) else fX17_ended_b15 fu a1 M1 L)))
noncomputable def fX18_anew_i58 (fu : Nat) (a1 : Int32) (r58 : (Int32 × mwM × mwL) → Option (mwM × mwL)) (v2 : Int32) (M : mwM) (L : mwL) : Option (mwM × mwL) :=
  (if 201 ≤ v2 then some (M, L) else mck v2 201 (mlet (mset M 906 (v2.toNatClampNeg) 0) (fun M7 => mck v2 201 (mlet (mset M7 916 (v2.toNatClampNeg) 0) (fun M9 => mck v2 201 (mlet (mset M9 917 (v2.toNatClampNeg) 0) (fun M11 => mlet (v2 + 1) (fun x12 => r58 (x12, M11, L)))))))))
noncomputable def fX18_anew_h58 (fu : Nat) (a1 : Int32) : Nat → (Int32 × mwM × mwL) → Option (mwM × mwL) := mloop (fun r58 s => fX18_anew_i58 fu a1 r58 s.1 s.2.1 s.2.2)
noncomputable def fX18_anew_i37 (fu : Nat) (a1 : Int32) (r37 : (Int32 × mwM × mwL) → Option (mwM × mwL)) (v2 : Int32) (M : mwM) (L : mwL) : Option (mwM × mwL) :=
  (if 32 ≤ v2 then fX18_anew_h58 fu a1 fu (0, M, L) else mck v2 32 (mlet (mset M 920 (v2.toNatClampNeg) (vp_nar .boolean 0)) (fun M3 => mlet (v2 + 1) (fun x4 => r37 (x4, M3, L)))))
noncomputable def fX18_anew_h37 (fu : Nat) (a1 : Int32) : Nat → (Int32 × mwM × mwL) → Option (mwM × mwL) := mloop (fun r37 s => fX18_anew_i37 fu a1 r37 s.1 s.2.1 s.2.2)
noncomputable def DX18_anew (fu : Nat) (a1 : Int32) (M : mwM) (L : mwL) : Option (mwM × mwL) :=
  mlet (mset M 902 1 a1) (fun M13 => mlet (mset M13 902 2 0) (fun M14 => mlet (mset M14 902 19 0) (fun M15 => mlet (mset M15 902 20 0) (fun M16 => mlet (mset M16 902 23 0) (fun M17 => mlet (mset M17 902 24 0) (fun M18 => mlet (mset M18 902 25 0) (fun M19 => fX18_anew_h37 fu a1 fu (0, M19, L))))))))
noncomputable def fX18_none_b23 (fu : Nat) (a1 : Int32) (s0 : Int32) (M : mwM) (L : mwL) : Option (Int32 × mwM × mwL) :=
  mzz s0 (some (s0, M, L))
noncomputable def fX18_none_b18 (fu : Nat) (a1 : Int32) (M : mwM) (L : mwL) : Option (Int32 × mwM × mwL) :=
  fX18_none_b23 fu a1 1 M L
noncomputable def DX18_none (fu : Nat) (a1 : Int32) (M : mwM) (L : mwL) : Option (Int32 × mwM × mwL) :=
  mlet (mset M 902 0 0) (fun M2 => (if a1 < 1 then fX18_none_b18 fu a1 M2 L else (if a1 ≤ (M2 902 2) then fX18_none_b23 fu a1 0 M2 L else fX18_none_b18 fu a1 M2 L)))
noncomputable def DX18_is (fu : Nat) (a1 : Int32) (a2 : Int32) (M : mwM) (L : mwL) : Option (Int32 × mwM × mwL) :=
  mck ((8 * a1) + a2) 1608 (mzz (M 908 ((8 * a1) + a2).toNatClampNeg) (some (M 908 ((8 * a1) + a2).toNatClampNeg, M, L)))
noncomputable def DX18_set (fu : Nat) (a1 : Int32) (a2 : Int32) (a3 : Int32) (M : mwM) (L : mwL) : Option (mwM × mwL) :=
  mck ((8 * a1) + a2) 1608 (mlet (mset M 908 (((8 * a1) + a2).toNatClampNeg) (vp_nar .boolean a3)) (fun M2 => some (M2, L)))
noncomputable def fX18_statusOf_b28 (fu : Nat) (a1 : Int32) (r4 : (Int32 × Int32 × mwM × mwL) → Option (Int32 × mwM × mwL)) (v3 : Int32) (s0 : Int32) (M : mwM) (L : mwL) : Option (Int32 × mwM × mwL) :=
  mlet (v3 + 1) (fun x7 => r4 (s0, x7, M, L))
noncomputable def fX18_statusOf_i4 (fu : Nat) (a1 : Int32) (r4 : (Int32 × Int32 × mwM × mwL) → Option (Int32 × mwM × mwL)) (v2 : Int32) (v3 : Int32) (M : mwM) (L : mwL) : Option (Int32 × mwM × mwL) :=
  (if 8 ≤ v3 then some (v2, M, L) else mb3 (DX18_is fu a1 v3 M L) (fun r5 M2 L3 => (if r5 = 0 then fX18_statusOf_b28 fu a1 r4 v3 v2 M2 L3 else fX18_statusOf_b28 fu a1 r4 v3 (v2 + (1 <<< (v3 &&& 31))) M2 L3)))
noncomputable def fX18_statusOf_h4 (fu : Nat) (a1 : Int32) : Nat → (Int32 × Int32 × mwM × mwL) → Option (Int32 × mwM × mwL) := mloop (fun r4 s => fX18_statusOf_i4 fu a1 r4 s.1 s.2.1 s.2.2.1 s.2.2.2)
noncomputable def DX18_statusOf (fu : Nat) (a1 : Int32) (M : mwM) (L : mwL) : Option (Int32 × mwM × mwL) :=
  fX18_statusOf_h4 fu a1 fu (0, 0, M, L)
noncomputable def fX18_freshen_b27 (fu : Nat) (a1 : Int32) (r2 : (Int32 × mwM × mwL) → Option (mwM × mwL)) (v2 : Int32) (s2 : Int32) (s3 : Int32) (M : mwM) (L : mwL) : Option (mwM × mwL) :=
  mb2 (DX18_set fu a1 s2 s3 M L) (fun M12 L13 => mlet (v2 + 1) (fun x14 => r2 (x14, M12, L13)))
noncomputable def fX18_freshen_b22 (fu : Nat) (a1 : Int32) (r2 : (Int32 × mwM × mwL) → Option (mwM × mwL)) (v2 : Int32) (s2 : Int32) (M : mwM) (L : mwL) : Option (mwM × mwL) :=
  fX18_freshen_b27 fu a1 r2 v2 s2 1 M L
noncomputable def fX18_freshen_i2 (fu : Nat) (a1 : Int32) (r2 : (Int32 × mwM × mwL) → Option (mwM × mwL)) (v2 : Int32) (M : mwM) (L : mwL) : Option (mwM × mwL) :=
  (if 8 ≤ v2 then mck a1 201 (mlet (mset M 907 (a1.toNatClampNeg) 0) (fun M3 => mck a1 201 (mlet (mset M3 909 (a1.toNatClampNeg) 0) (fun M5 => mck a1 201 (mlet (mset M5 910 (a1.toNatClampNeg) 0) (fun M7 => mck a1 201 (mlet (mset M7 911 (a1.toNatClampNeg) 0) (fun M9 => some (M9, L))))))))) else (if v2 = 4 then fX18_freshen_b22 fu a1 r2 v2 v2 M L else (if v2 = 6 then fX18_freshen_b22 fu a1 r2 v2 v2 M L else fX18_freshen_b27 fu a1 r2 v2 v2 0 M L)))
noncomputable def fX18_freshen_h2 (fu : Nat) (a1 : Int32) : Nat → (Int32 × mwM × mwL) → Option (mwM × mwL) := mloop (fun r2 s => fX18_freshen_i2 fu a1 r2 s.1 s.2.1 s.2.2)
noncomputable def DX18_freshen (fu : Nat) (a1 : Int32) (M : mwM) (L : mwL) : Option (mwM × mwL) :=
  fX18_freshen_h2 fu a1 fu (0, M, L)
noncomputable def fX18_keep_i2 (fu : Nat) (a1 : Int32) (r2 : (Int32 × mwM × mwL) → Option (mwM × mwL)) (v2 : Int32) (M : mwM) (L : mwL) : Option (mwM × mwL) :=
  (if 8 ≤ v2 then mck a1 201 (mck a1 201 (mlet (mset M 913 (a1.toNatClampNeg) (M 909 a1.toNatClampNeg)) (fun M4 => mck a1 201 (mck a1 201 (mlet (mset M4 914 (a1.toNatClampNeg) (M4 910 a1.toNatClampNeg)) (fun M7 => mck a1 201 (mck a1 201 (mlet (mset M7 915 (a1.toNatClampNeg) (M7 911 a1.toNatClampNeg)) (fun M10 => some (M10, L)))))))))) else mb3 (DX18_is fu a1 v2 M L) (fun r13 M11 L12 => mck ((8 * a1) + v2) 1608 (mlet (mset M11 912 (((8 * a1) + v2).toNatClampNeg) (vp_nar .boolean r13)) (fun M15 => mlet (v2 + 1) (fun x16 => r2 (x16, M15, L12))))))
noncomputable def fX18_keep_h2 (fu : Nat) (a1 : Int32) : Nat → (Int32 × mwM × mwL) → Option (mwM × mwL) := mloop (fun r2 s => fX18_keep_i2 fu a1 r2 s.1 s.2.1 s.2.2)
noncomputable def DX18_keep (fu : Nat) (a1 : Int32) (M : mwM) (L : mwL) : Option (mwM × mwL) :=
  fX18_keep_h2 fu a1 fu (0, M, L)
noncomputable def fX18_code_b39 (fu : Nat) (a1 : Int32) (a2 : Int32) (a3 : Int32) (M : mwM) (L : mwL) : Option (Int32 × mwM × mwL) :=
  some ((-2), M, L)
noncomputable def DX18_code (fu : Nat) (a1 : Int32) (a2 : Int32) (a3 : Int32) (M : mwM) (L : mwL) : Option (Int32 × mwM × mwL) :=
  mlet (mset M 902 0 0) (fun M1 => (if a1 < 1 then fX18_code_b39 fu a1 a2 a3 M1 L else (if 255 < a1 then fX18_code_b39 fu a1 a2 a3 M1 L else (if a2 < 1 then fX18_code_b39 fu a1 a2 a3 M1 L else (if 127 < a2 then fX18_code_b39 fu a1 a2 a3 M1 L else (if a3 < 1 then fX18_code_b39 fu a1 a2 a3 M1 L else (if a3 ≤ 127 then (if (M1 902 23) = 0 then (if (M1 902 2) = 200 then some ((-4), M1, L) else mlet (mset M1 902 2 ((M1 902 2) + 1)) (fun M10 => mck (M10 902 2) 201 (mlet (mset M10 903 ((M10 902 2).toNatClampNeg) a1) (fun M12 => mck (M12 902 2) 201 (mlet (mset M12 904 ((M12 902 2).toNatClampNeg) a2) (fun M14 => mck (M14 902 2) 201 (mlet (mset M14 905 ((M14 902 2).toNatClampNeg) a3) (fun M16 => mb2 (DX18_freshen fu (M16 902 2) M16 L) (fun M17 L18 => mb2 (DX18_keep fu (M17 902 2) M17 L18) (fun M19 L20 => some (M19 902 2, M19, L20))))))))))) else some ((-3), M1, L)) else fX18_code_b39 fu a1 a2 a3 M1 L)))))))
noncomputable def fX18_many_b28 (fu : Nat) (a1 : Int32) (r4 : (Int32 × Int32 × mwM × mwL) → Option (Int32 × mwM × mwL)) (v3 : Int32) (s0 : Int32) (M : mwM) (L : mwL) : Option (Int32 × mwM × mwL) :=
  mlet (v3 + 1) (fun x7 => r4 (s0, x7, M, L))
noncomputable def fX18_many_i4 (fu : Nat) (a1 : Int32) (r4 : (Int32 × Int32 × mwM × mwL) → Option (Int32 × mwM × mwL)) (v2 : Int32) (v3 : Int32) (M : mwM) (L : mwL) : Option (Int32 × mwM × mwL) :=
  (if (M 902 2) < v3 then some (v2, M, L) else mb3 (DX18_is fu v3 a1 M L) (fun r5 M2 L3 => (if r5 = 0 then fX18_many_b28 fu a1 r4 v3 v2 M2 L3 else fX18_many_b28 fu a1 r4 v3 (v2 + 1) M2 L3)))
noncomputable def fX18_many_h4 (fu : Nat) (a1 : Int32) : Nat → (Int32 × Int32 × mwM × mwL) → Option (Int32 × mwM × mwL) := mloop (fun r4 s => fX18_many_i4 fu a1 r4 s.1 s.2.1 s.2.2.1 s.2.2.2)
noncomputable def DX18_many (fu : Nat) (a1 : Int32) (M : mwM) (L : mwL) : Option (Int32 × mwM × mwL) :=
  fX18_many_h4 fu a1 fu (0, 1, M, L)
noncomputable def fX18_entries_b28 (fu : Nat) (r4 : (Int32 × Int32 × mwM × mwL) → Option (Int32 × mwM × mwL)) (v2 : Int32) (s0 : Int32) (M : mwM) (L : mwL) : Option (Int32 × mwM × mwL) :=
  mlet (v2 + 1) (fun x4 => r4 (s0, x4, M, L))
noncomputable def fX18_entries_i4 (fu : Nat) (r4 : (Int32 × Int32 × mwM × mwL) → Option (Int32 × mwM × mwL)) (v1 : Int32) (v2 : Int32) (M : mwM) (L : mwL) : Option (Int32 × mwM × mwL) :=
  (if (M 902 2) < v2 then some (v1, M, L) else mck v2 201 ((if (M 916 v2.toNatClampNeg) ≤ 0 then fX18_entries_b28 fu r4 v2 v1 M L else fX18_entries_b28 fu r4 v2 (v1 + 1) M L)))
noncomputable def fX18_entries_h4 (fu : Nat) : Nat → (Int32 × Int32 × mwM × mwL) → Option (Int32 × mwM × mwL) := mloop (fun r4 s => fX18_entries_i4 fu r4 s.1 s.2.1 s.2.2.1 s.2.2.2)
noncomputable def DX18_entries (fu : Nat) (M : mwM) (L : mwL) : Option (Int32 × mwM × mwL) :=
  fX18_entries_h4 fu fu (0, 1, M, L)
noncomputable def fX18_goes_b263 (fu : Nat) (a1 : Int32) (v4 : Int32) (M : mwM) (L : mwL) : Option (Int32 × mwM × mwL) :=
  some (v4, M, L)
noncomputable def fX18_goes_b255 (fu : Nat) (a1 : Int32) (r166 : (Int32 × Int32 × Int32 × Int32 × mwM × mwL) → Option (Int32 × mwM × mwL)) (v2 : Int32) (v3 : Int32) (v5 : Int32) (s0 : Int32) (M : mwM) (L : mwL) : Option (Int32 × mwM × mwL) :=
  mlet (v5 + 1) (fun x46 => r166 (v2, v3, s0, x46, M, L))
noncomputable def fX18_goes_b253 (fu : Nat) (a1 : Int32) (r166 : (Int32 × Int32 × Int32 × Int32 × mwM × mwL) → Option (Int32 × mwM × mwL)) (v2 : Int32) (v3 : Int32) (v4 : Int32) (v5 : Int32) (M : mwM) (L : mwL) : Option (Int32 × mwM × mwL) :=
  fX18_goes_b255 fu a1 r166 v2 v3 v5 v4 M L
noncomputable def fX18_goes_b248 (fu : Nat) (a1 : Int32) (r166 : (Int32 × Int32 × Int32 × Int32 × mwM × mwL) → Option (Int32 × mwM × mwL)) (v2 : Int32) (v3 : Int32) (v5 : Int32) (M : mwM) (L : mwL) : Option (Int32 × mwM × mwL) :=
  fX18_goes_b255 fu a1 r166 v2 v3 v5 v5 M L
noncomputable def fX18_goes_b219 (fu : Nat) (a1 : Int32) (r166 : (Int32 × Int32 × Int32 × Int32 × mwM × mwL) → Option (Int32 × mwM × mwL)) (v2 : Int32) (v3 : Int32) (v4 : Int32) (v5 : Int32) (s0 : Int32) (M : mwM) (L : mwL) : Option (Int32 × mwM × mwL) :=
  (if s0 = 0 then fX18_goes_b253 fu a1 r166 v2 v3 v4 v5 M L else (if v4 = 0 then fX18_goes_b248 fu a1 r166 v2 v3 v5 M L else mck v5 201 (mck v4 201 ((if (M 916 v4.toNatClampNeg) ≤ (M 916 v5.toNatClampNeg) then fX18_goes_b253 fu a1 r166 v2 v3 v4 v5 M L else fX18_goes_b248 fu a1 r166 v2 v3 v5 M L)))))
noncomputable def fX18_goes_b218 (fu : Nat) (a1 : Int32) (r166 : (Int32 × Int32 × Int32 × Int32 × mwM × mwL) → Option (Int32 × mwM × mwL)) (v2 : Int32) (v3 : Int32) (v4 : Int32) (v5 : Int32) (M : mwM) (L : mwL) : Option (Int32 × mwM × mwL) :=
  fX18_goes_b219 fu a1 r166 v2 v3 v4 v5 0 M L
noncomputable def fX18_goes_b214 (fu : Nat) (a1 : Int32) (r166 : (Int32 × Int32 × Int32 × Int32 × mwM × mwL) → Option (Int32 × mwM × mwL)) (v2 : Int32) (v3 : Int32) (v4 : Int32) (v5 : Int32) (M : mwM) (L : mwL) : Option (Int32 × mwM × mwL) :=
  fX18_goes_b219 fu a1 r166 v2 v3 v4 v5 1 M L
noncomputable def fX18_goes_i166 (fu : Nat) (a1 : Int32) (r166 : (Int32 × Int32 × Int32 × Int32 × mwM × mwL) → Option (Int32 × mwM × mwL)) (v2 : Int32) (v3 : Int32) (v4 : Int32) (v5 : Int32) (M : mwM) (L : mwL) : Option (Int32 × mwM × mwL) :=
  (if (M 902 2) < v5 then fX18_goes_b263 fu a1 v4 M L else (if v2 ≤ 0 then fX18_goes_b263 fu a1 v4 M L else mck v5 201 ((if (M 916 v5.toNatClampNeg) ≤ 0 then fX18_goes_b218 fu a1 r166 v2 v3 v4 v5 M L else mck v5 201 ((if (M 903 v5.toNatClampNeg) = v2 then (if v3 = 0 then fX18_goes_b214 fu a1 r166 v2 v3 v4 v5 M L else mb3 (DX18_is fu v5 0 M L) (fun r39 M37 L38 => (if r39 = 0 then fX18_goes_b214 fu a1 r166 v2 v3 v4 v5 M37 L38 else fX18_goes_b218 fu a1 r166 v2 v3 v4 v5 M37 L38))) else fX18_goes_b218 fu a1 r166 v2 v3 v4 v5 M L))))))
noncomputable def fX18_goes_h166 (fu : Nat) (a1 : Int32) : Nat → (Int32 × Int32 × Int32 × Int32 × mwM × mwL) → Option (Int32 × mwM × mwL) := mloop (fun r166 s => fX18_goes_i166 fu a1 r166 s.1 s.2.1 s.2.2.1 s.2.2.2.1 s.2.2.2.2.1 s.2.2.2.2.2)
noncomputable def fX18_goes_b153 (fu : Nat) (a1 : Int32) (r104 : (Int32 × Int32 × Int32 × mwM × mwL) → Option (Int32 × mwM × mwL)) (v2 : Int32) (v4 : Int32) (s0 : Int32) (M : mwM) (L : mwL) : Option (Int32 × mwM × mwL) :=
  mlet (v4 + 1) (fun x29 => r104 (v2, s0, x29, M, L))
noncomputable def fX18_goes_b152 (fu : Nat) (a1 : Int32) (r104 : (Int32 × Int32 × Int32 × mwM × mwL) → Option (Int32 × mwM × mwL)) (v2 : Int32) (v4 : Int32) (M : mwM) (L : mwL) : Option (Int32 × mwM × mwL) :=
  fX18_goes_b153 fu a1 r104 v2 v4 0 M L
noncomputable def fX18_goes_b148 (fu : Nat) (a1 : Int32) (r104 : (Int32 × Int32 × Int32 × mwM × mwL) → Option (Int32 × mwM × mwL)) (v2 : Int32) (v4 : Int32) (M : mwM) (L : mwL) : Option (Int32 × mwM × mwL) :=
  fX18_goes_b153 fu a1 r104 v2 v4 1 M L
noncomputable def fX18_goes_i104 (fu : Nat) (a1 : Int32) (r104 : (Int32 × Int32 × Int32 × mwM × mwL) → Option (Int32 × mwM × mwL)) (v2 : Int32) (v3 : Int32) (v4 : Int32) (M : mwM) (L : mwL) : Option (Int32 × mwM × mwL) :=
  (if (M 902 2) < v4 then fX18_goes_h166 fu a1 fu (v2, v3, 0, 1, M, L) else (if v3 = 0 then mck v4 201 ((if (M 916 v4.toNatClampNeg) ≤ 0 then fX18_goes_b152 fu a1 r104 v2 v4 M L else mck v4 201 ((if (M 903 v4.toNatClampNeg) = v2 then mb3 (DX18_is fu v4 0 M L) (fun r27 M25 L26 => (if r27 = 0 then fX18_goes_b148 fu a1 r104 v2 v4 M25 L26 else fX18_goes_b152 fu a1 r104 v2 v4 M25 L26)) else fX18_goes_b152 fu a1 r104 v2 v4 M L)))) else fX18_goes_b148 fu a1 r104 v2 v4 M L))
noncomputable def fX18_goes_h104 (fu : Nat) (a1 : Int32) : Nat → (Int32 × Int32 × Int32 × mwM × mwL) → Option (Int32 × mwM × mwL) := mloop (fun r104 s => fX18_goes_i104 fu a1 r104 s.1 s.2.1 s.2.2.1 s.2.2.2.1 s.2.2.2.2)
noncomputable def fX18_goes_b92 (fu : Nat) (a1 : Int32) (r4 : (Int32 × Int32 × mwM × mwL) → Option (Int32 × mwM × mwL)) (v3 : Int32) (s0 : Int32) (M : mwM) (L : mwL) : Option (Int32 × mwM × mwL) :=
  mlet (v3 + 1) (fun x18 => r4 (s0, x18, M, L))
noncomputable def fX18_goes_b91 (fu : Nat) (a1 : Int32) (r4 : (Int32 × Int32 × mwM × mwL) → Option (Int32 × mwM × mwL)) (v2 : Int32) (v3 : Int32) (M : mwM) (L : mwL) : Option (Int32 × mwM × mwL) :=
  fX18_goes_b92 fu a1 r4 v3 v2 M L
noncomputable def fX18_goes_b65 (fu : Nat) (a1 : Int32) (r4 : (Int32 × Int32 × mwM × mwL) → Option (Int32 × mwM × mwL)) (v2 : Int32) (v3 : Int32) (s0 : Int32) (M : mwM) (L : mwL) : Option (Int32 × mwM × mwL) :=
  (if s0 = 0 then fX18_goes_b91 fu a1 r4 v2 v3 M L else mck v3 201 ((if (M 903 v3.toNatClampNeg) ≤ v2 then fX18_goes_b91 fu a1 r4 v2 v3 M L else mck v3 201 (fX18_goes_b92 fu a1 r4 v3 (M 903 v3.toNatClampNeg) M L))))
noncomputable def fX18_goes_b64 (fu : Nat) (a1 : Int32) (r4 : (Int32 × Int32 × mwM × mwL) → Option (Int32 × mwM × mwL)) (v2 : Int32) (v3 : Int32) (M : mwM) (L : mwL) : Option (Int32 × mwM × mwL) :=
  fX18_goes_b65 fu a1 r4 v2 v3 0 M L
noncomputable def fX18_goes_b60 (fu : Nat) (a1 : Int32) (r4 : (Int32 × Int32 × mwM × mwL) → Option (Int32 × mwM × mwL)) (v2 : Int32) (v3 : Int32) (M : mwM) (L : mwL) : Option (Int32 × mwM × mwL) :=
  fX18_goes_b65 fu a1 r4 v2 v3 1 M L
noncomputable def fX18_goes_i4 (fu : Nat) (a1 : Int32) (r4 : (Int32 × Int32 × mwM × mwL) → Option (Int32 × mwM × mwL)) (v2 : Int32) (v3 : Int32) (M : mwM) (L : mwL) : Option (Int32 × mwM × mwL) :=
  (if (M 902 2) < v3 then fX18_goes_h104 fu a1 fu (v2, 0, 1, M, L) else mck v3 201 ((if (M 916 v3.toNatClampNeg) ≤ 0 then fX18_goes_b64 fu a1 r4 v2 v3 M L else mck v3 201 (mck a1 201 ((if (M 903 a1.toNatClampNeg) < (M 903 v3.toNatClampNeg) then fX18_goes_b60 fu a1 r4 v2 v3 M L else mck v3 201 (mck a1 201 ((if (M 903 v3.toNatClampNeg) = (M 903 a1.toNatClampNeg) then mb3 (DX18_is fu v3 0 M L) (fun r12 M10 L11 => (if r12 = 0 then fX18_goes_b60 fu a1 r4 v2 v3 M10 L11 else fX18_goes_b64 fu a1 r4 v2 v3 M10 L11)) else fX18_goes_b64 fu a1 r4 v2 v3 M L)))))))))
noncomputable def fX18_goes_h4 (fu : Nat) (a1 : Int32) : Nat → (Int32 × Int32 × mwM × mwL) → Option (Int32 × mwM × mwL) := mloop (fun r4 s => fX18_goes_i4 fu a1 r4 s.1 s.2.1 s.2.2.1 s.2.2.2)
noncomputable def DX18_goes (fu : Nat) (a1 : Int32) (M : mwM) (L : mwL) : Option (Int32 × mwM × mwL) :=
  fX18_goes_h4 fu a1 fu (0, 1, M, L)
noncomputable def DX18_shoot (fu : Nat) (a1 : Int32) (a2 : Int32) (M : mwM) (L : mwL) : Option (mwM × mwL) :=
  mlet ((8 * a1) + (4 * a2)) (fun x1 => mck x1 1608 (mlet (mset M 918 (x1.toNatClampNeg) (M 902 24)) (fun M3 => mck (x1 + 1) 1608 (mlet (mset M3 918 ((x1 + 1).toNatClampNeg) (M3 902 25)) (fun M5 => mb3 (DX18_many fu 0 M5 L) (fun r8 M6 L7 => mck (x1 + 2) 1608 (mlet (mset M6 918 ((x1 + 2).toNatClampNeg) r8) (fun M10 => mck a1 201 (mck (x1 + 3) 1608 (mlet (mset M10 918 ((x1 + 3).toNatClampNeg) (M10 904 a1.toNatClampNeg)) (fun M13 => some (M13, L7))))))))))))
noncomputable def fX18_store_b40 (fu : Nat) (a1 : Int32) (s2 : Int32) (M : mwM) (L : mwL) : Option (mwM × mwL) :=
  mck a1 201 (mlet (mset M 917 (a1.toNatClampNeg) s2) (fun M2 => mb2 (DX18_shoot fu a1 1 M2 L) (fun M3 L4 => some (M3, L4))))
noncomputable def fX18_store_b107 (fu : Nat) (a1 : Int32) (M : mwM) (L : mwL) : Option (mwM × mwL) :=
  mlet (mset M 902 19 ((M 902 19) + 1)) (fun M5 => mck a1 201 (mlet (mset M5 916 (a1.toNatClampNeg) (M5 902 19)) (fun M7 => mck a1 201 (mlet (mset M7 917 (a1.toNatClampNeg) 1) (fun M9 => mb2 (DX18_shoot fu a1 0 M9 L) (fun M10 L11 => mb2 (DX18_shoot fu a1 1 M10 L11) (fun M12 L13 => some (M12, L13))))))))
noncomputable def DX18_store (fu : Nat) (a1 : Int32) (M : mwM) (L : mwL) : Option (mwM × mwL) :=
  mck a1 201 ((if (M 916 a1.toNatClampNeg) ≤ 0 then mb3 (DX18_entries fu M L) (fun r18 M16 L17 => (if r18 < (M16 902 1) then fX18_store_b107 fu a1 M16 L17 else mb3 (DX18_goes fu a1 M16 L17) (fun r22 M20 L21 => (if r22 = 0 then some (M20, L21) else mck r22 201 (mlet (mset M20 916 (r22.toNatClampNeg) 0) (fun M25 => (if 500 ≤ (M25 902 20) then fX18_store_b107 fu a1 M25 L21 else mck (M25 902 20) 500 (mlet (mset M25 919 ((M25 902 20).toNatClampNeg) r22) (fun M28 => mlet (mset M28 902 20 ((M28 902 20) + 1)) (fun M29 => fX18_store_b107 fu a1 M29 L21)))))))))) else mck a1 201 ((if 255 ≤ (M 917 a1.toNatClampNeg) then fX18_store_b40 fu a1 255 M L else mck a1 201 (fX18_store_b40 fu a1 ((M 917 a1.toNatClampNeg) + 1) M L)))))
noncomputable def fX18_hidden_i7 (fu : Nat) (a1 : Int32) (r7 : (Int32 × mwM × mwL) → Option (Int32 × mwM × mwL)) (v2 : Int32) (M : mwM) (L : mwL) : Option (Int32 × mwM × mwL) :=
  (if v2 ≤ 0 then some (0, M, L) else mb3 (DX18_is fu v2 0 M L) (fun r4 M2 L3 => (if r4 = 0 then mck v2 201 (mlet (M2 906 v2.toNatClampNeg) (fun x7 => r7 (x7, M2, L3))) else some (1, M2, L3))))
noncomputable def fX18_hidden_h7 (fu : Nat) (a1 : Int32) : Nat → (Int32 × mwM × mwL) → Option (Int32 × mwM × mwL) := mloop (fun r7 s => fX18_hidden_i7 fu a1 r7 s.1 s.2.1 s.2.2)
noncomputable def DX18_hidden (fu : Nat) (a1 : Int32) (M : mwM) (L : mwL) : Option (Int32 × mwM × mwL) :=
  mck a1 201 (mlet (M 906 a1.toNatClampNeg) (fun x9 => fX18_hidden_h7 fu a1 fu (x9, M, L)))
noncomputable def fX18_fails_b148 (fu : Nat) (a1 : Int32) (M : mwM) (L : mwL) : Option (mwM × mwL) :=
  some (M, L)
noncomputable def fX18_fails_b82 (fu : Nat) (a1 : Int32) (M : mwM) (L : mwL) : Option (mwM × mwL) :=
  mb2 (DX18_set fu a1 1 1 M L) (fun M9 L10 => mb2 (DX18_set fu a1 2 1 M9 L10) (fun M11 L12 => mb2 (DX18_set fu a1 5 1 M11 L12) (fun M13 L14 => mck a1 201 (mlet (mset M13 910 (a1.toNatClampNeg) 0) (fun M16 => mck a1 201 (mlet (mset M16 911 (a1.toNatClampNeg) 0) (fun M18 => mb3 (DX18_is fu a1 0 M18 L14) (fun r21 M19 L20 => mb2 (DX18_set fu a1 0 1 M19 L20) (fun M22 L23 => (if r21 = 0 then mb3 (DX18_hidden fu a1 M22 L23) (fun r27 M25 L26 => (if r27 = 0 then mb2 (DX18_store fu a1 M25 L26) (fun M29 L30 => fX18_fails_b148 fu a1 M29 L30) else fX18_fails_b148 fu a1 M25 L26)) else fX18_fails_b148 fu a1 M22 L23))))))))))
noncomputable def fX18_fails_b46 (fu : Nat) (a1 : Int32) (M : mwM) (L : mwL) : Option (mwM × mwL) :=
  mck a1 201 ((if (M 909 a1.toNatClampNeg) ≤ 1 then fX18_fails_b82 fu a1 M L else mb2 (DX18_set fu a1 3 1 M L) (fun M3 L4 => mck a1 201 ((if 65 ≤ (M3 903 a1.toNatClampNeg) then fX18_fails_b82 fu a1 M3 L4 else mb2 (DX18_set fu a1 7 1 M3 L4) (fun M7 L8 => fX18_fails_b82 fu a1 M7 L8))))))
noncomputable def DX18_fails (fu : Nat) (a1 : Int32) (M : mwM) (L : mwL) : Option (mwM × mwL) :=
  mb2 (DX18_set fu a1 4 0 M L) (fun M31 L32 => mb2 (DX18_set fu a1 6 0 M31 L32) (fun M33 L34 => mb3 (DX18_is fu a1 1 M33 L34) (fun r37 M35 L36 => (if r37 = 0 then mck a1 201 ((if 255 ≤ (M35 909 a1.toNatClampNeg) then fX18_fails_b46 fu a1 M35 L36 else mck a1 201 (mck a1 201 (mlet (mset M35 909 (a1.toNatClampNeg) ((M35 909 a1.toNatClampNeg) + 1)) (fun M43 => fX18_fails_b46 fu a1 M43 L36))))) else fX18_fails_b46 fu a1 M35 L36))))
noncomputable def fX18_event_b224 (fu : Nat) (a1 : Int32) (a2 : Int32) (M : mwM) (L : mwL) : Option (Int32 × mwM × mwL) :=
  mb3 (DX18_statusOf fu a1 M L) (fun r31 M29 L30 => some (r31, M29, L30))
noncomputable def fX18_event_b111 (fu : Nat) (a1 : Int32) (a2 : Int32) (s2 : Int32) (M : mwM) (L : mwL) : Option (Int32 × mwM × mwL) :=
  mck a1 201 (mlet (mset M 907 (a1.toNatClampNeg) s2) (fun M8 => mck a1 201 ((if (M8 907 a1.toNatClampNeg) = 127 then mb2 (DX18_fails fu a1 M8 L) (fun M11 L12 => fX18_event_b224 fu a1 a2 M11 L12) else fX18_event_b224 fu a1 a2 M8 L))))
noncomputable def fX18_event_b76 (fu : Nat) (a1 : Int32) (a2 : Int32) (s2 : Int32) (M : mwM) (L : mwL) : Option (Int32 × mwM × mwL) :=
  mck a1 201 (mck a1 201 (mlet (mset M 907 (a1.toNatClampNeg) (s2 + (M 904 a1.toNatClampNeg))) (fun M3 => mck a1 201 ((if (M3 907 a1.toNatClampNeg) ≤ 127 then mck a1 201 (fX18_event_b111 fu a1 a2 (M3 907 a1.toNatClampNeg) M3 L) else fX18_event_b111 fu a1 a2 127 M3 L)))))
noncomputable def fX18_event_b190 (fu : Nat) (a1 : Int32) (a2 : Int32) (s2 : Int32) (M : mwM) (L : mwL) : Option (Int32 × mwM × mwL) :=
  mck a1 201 (mlet (mset M 907 (a1.toNatClampNeg) s2) (fun M20 => mck a1 201 ((if (M20 907 a1.toNatClampNeg) = ((-128)) then mb2 (DX18_set fu a1 0 0 M20 L) (fun M23 L24 => mb2 (DX18_set fu a1 4 0 M23 L24) (fun M25 L26 => mb2 (DX18_set fu a1 6 0 M25 L26) (fun M27 L28 => fX18_event_b224 fu a1 a2 M27 L28))) else fX18_event_b224 fu a1 a2 M20 L))))
noncomputable def fX18_event_b155 (fu : Nat) (a1 : Int32) (a2 : Int32) (s2 : Int32) (M : mwM) (L : mwL) : Option (Int32 × mwM × mwL) :=
  mck a1 201 (mck a1 201 (mlet (mset M 907 (a1.toNatClampNeg) (s2 - (M 905 a1.toNatClampNeg))) (fun M15 => mck a1 201 ((if ((-128)) ≤ (M15 907 a1.toNatClampNeg) then mck a1 201 (fX18_event_b190 fu a1 a2 (M15 907 a1.toNatClampNeg) M15 L) else fX18_event_b190 fu a1 a2 ((-128)) M15 L)))))
noncomputable def DX18_event (fu : Nat) (a1 : Int32) (a2 : Int32) (M : mwM) (L : mwL) : Option (Int32 × mwM × mwL) :=
  mb3 (DX18_none fu a1 M L) (fun r34 M32 L33 => (if r34 = 0 then (if (M32 902 23) = 0 then mlet (mset M32 902 25 ((M32 902 25) + 1)) (fun M37 => mck (a1 - a1 / 32 * 32) 32 ((if (M37 920 (a1 - a1 / 32 * 32).toNatClampNeg) = 0 then (if a2 = 0 then mck a1 201 ((if (M37 907 a1.toNatClampNeg) ≤ 0 then mck a1 201 (fX18_event_b155 fu a1 a2 (M37 907 a1.toNatClampNeg) M37 L33) else fX18_event_b155 fu a1 a2 0 M37 L33)) else mck a1 201 ((if 0 ≤ (M37 907 a1.toNatClampNeg) then mck a1 201 (fX18_event_b76 fu a1 a2 (M37 907 a1.toNatClampNeg) M37 L33) else fX18_event_b76 fu a1 a2 0 M37 L33))) else mb3 (DX18_statusOf fu a1 M37 L33) (fun r50 M48 L49 => some (r50, M48, L49))))) else some ((-3), M32, L33)) else some ((-1), M32, L33)))
noncomputable def fX18_cycle_b204 (fu : Nat) (a1 : Int32) (r17 : (Int32 × mwM × mwL) → Option (Int32 × mwM × mwL)) (v2 : Int32) (M : mwM) (L : mwL) : Option (Int32 × mwM × mwL) :=
  mb2 (DX18_set fu v2 1 0 M L) (fun M53 L54 => mb2 (DX18_set fu v2 6 1 M53 L54) (fun M55 L56 => mb2 (DX18_keep fu v2 M55 L56) (fun M57 L58 => mlet (v2 + 1) (fun x59 => r17 (x59, M57, L58)))))
noncomputable def fX18_cycle_b158 (fu : Nat) (a1 : Int32) (r17 : (Int32 × mwM × mwL) → Option (Int32 × mwM × mwL)) (v2 : Int32) (M : mwM) (L : mwL) : Option (Int32 × mwM × mwL) :=
  mck v2 201 ((if (M 910 v2.toNatClampNeg) = 40 then mb2 (DX18_set fu v2 3 0 M L) (fun M43 L44 => mck v2 201 (mlet (mset M43 909 (v2.toNatClampNeg) 0) (fun M46 => mck v2 201 (mlet (mset M46 910 (v2.toNatClampNeg) 0) (fun M48 => mck v2 201 (mlet (mset M48 911 (v2.toNatClampNeg) 0) (fun M50 => mck v2 201 (mlet (mset M50 916 (v2.toNatClampNeg) 0) (fun M52 => fX18_cycle_b204 fu a1 r17 v2 M52 L44))))))))) else fX18_cycle_b204 fu a1 r17 v2 M L))
noncomputable def fX18_cycle_b126 (fu : Nat) (a1 : Int32) (r17 : (Int32 × mwM × mwL) → Option (Int32 × mwM × mwL)) (v2 : Int32) (M : mwM) (L : mwL) : Option (Int32 × mwM × mwL) :=
  (if a1 = 0 then fX18_cycle_b158 fu a1 r17 v2 M L else mb3 (DX18_is fu v2 3 M L) (fun r32 M30 L31 => (if r32 = 0 then fX18_cycle_b158 fu a1 r17 v2 M30 L31 else mb3 (DX18_is fu v2 0 M30 L31) (fun r36 M34 L35 => (if r36 = 0 then mck v2 201 (mck v2 201 (mlet (mset M34 910 (v2.toNatClampNeg) ((M34 910 v2.toNatClampNeg) + 1)) (fun M40 => fX18_cycle_b158 fu a1 r17 v2 M40 L35))) else fX18_cycle_b158 fu a1 r17 v2 M34 L35)))))
noncomputable def fX18_cycle_b107 (fu : Nat) (a1 : Int32) (r17 : (Int32 × mwM × mwL) → Option (Int32 × mwM × mwL)) (v2 : Int32) (s1 : Int32) (s2 : Int32) (M : mwM) (L : mwL) : Option (Int32 × mwM × mwL) :=
  mck s1 201 (mlet (mset M 911 (s1.toNatClampNeg) s2) (fun M24 => mck v2 201 ((if (M24 911 v2.toNatClampNeg) ≤ 2 then fX18_cycle_b126 fu a1 r17 v2 M24 L else mb2 (DX18_set fu v2 7 0 M24 L) (fun M27 L28 => fX18_cycle_b126 fu a1 r17 v2 M27 L28)))))
noncomputable def fX18_cycle_b75 (fu : Nat) (a1 : Int32) (r17 : (Int32 × mwM × mwL) → Option (Int32 × mwM × mwL)) (v2 : Int32) (s1 : Int32) (s2 : Int32) (M : mwM) (L : mwL) : Option (Int32 × mwM × mwL) :=
  mck s1 201 (mlet (mset M 909 (s1.toNatClampNeg) s2) (fun M19 => mck v2 201 ((if 255 ≤ (M19 911 v2.toNatClampNeg) then fX18_cycle_b107 fu a1 r17 v2 v2 255 M19 L else mck v2 201 (fX18_cycle_b107 fu a1 r17 v2 v2 ((M19 911 v2.toNatClampNeg) + 1) M19 L)))))
noncomputable def fX18_cycle_i17 (fu : Nat) (a1 : Int32) (r17 : (Int32 × mwM × mwL) → Option (Int32 × mwM × mwL)) (v2 : Int32) (M : mwM) (L : mwL) : Option (Int32 × mwM × mwL) :=
  (if (M 902 2) < v2 then mlet (mset M 902 24 ((M 902 24) + 1)) (fun M2 => some (M2 902 24, M2, L)) else mb3 (DX18_is fu v2 1 M L) (fun r5 M3 L4 => (if r5 = 0 then mb3 (DX18_is fu v2 6 M3 L4) (fun r9 M7 L8 => (if r9 = 0 then mb2 (DX18_set fu v2 2 0 M7 L8) (fun M11 L12 => mb3 (DX18_is fu v2 3 M11 L12) (fun r15 M13 L14 => (if r15 = 0 then fX18_cycle_b75 fu a1 r17 v2 v2 0 M13 L14 else mck v2 201 (fX18_cycle_b75 fu a1 r17 v2 v2 (M13 909 v2.toNatClampNeg) M13 L14)))) else fX18_cycle_b204 fu a1 r17 v2 M7 L8)) else fX18_cycle_b204 fu a1 r17 v2 M3 L4)))
noncomputable def fX18_cycle_h17 (fu : Nat) (a1 : Int32) : Nat → (Int32 × mwM × mwL) → Option (Int32 × mwM × mwL) := mloop (fun r17 s => fX18_cycle_i17 fu a1 r17 s.1 s.2.1 s.2.2)
noncomputable def DX18_cycle (fu : Nat) (a1 : Int32) (M : mwM) (L : mwL) : Option (Int32 × mwM × mwL) :=
  mlet (mset M 902 0 0) (fun M60 => (if (M60 902 23) = 0 then fX18_cycle_h17 fu a1 fu (1, M60, L) else some ((-3), M60, L)))
noncomputable def fX18_status_b17 (fu : Nat) (a1 : Int32) (s0 : Int32) (M : mwM) (L : mwL) : Option (Int32 × mwM × mwL) :=
  some (s0, M, L)
noncomputable def DX18_status (fu : Nat) (a1 : Int32) (M : mwM) (L : mwL) : Option (Int32 × mwM × mwL) :=
  mb3 (DX18_none fu a1 M L) (fun r3 M1 L2 => (if r3 = 0 then mb3 (DX18_statusOf fu a1 M1 L2) (fun r7 M5 L6 => fX18_status_b17 fu a1 r7 M5 L6) else fX18_status_b17 fu a1 ((-1)) M1 L2))
noncomputable def fX18_snapshot_b17 (fu : Nat) (a1 : Int32) (a2 : Int32) (a3 : Int32) (M : mwM) (L : mwL) : Option (Int32 × mwM × mwL) :=
  some ((-1), M, L)
noncomputable def fX18_snapshot_b37 (fu : Nat) (a1 : Int32) (a2 : Int32) (a3 : Int32) (M : mwM) (L : mwL) : Option (Int32 × mwM × mwL) :=
  some ((-2), M, L)
noncomputable def DX18_snapshot (fu : Nat) (a1 : Int32) (a2 : Int32) (a3 : Int32) (M : mwM) (L : mwL) : Option (Int32 × mwM × mwL) :=
  mb3 (DX18_none fu a1 M L) (fun r3 M1 L2 => (if r3 = 0 then mck a1 201 ((if (M1 916 a1.toNatClampNeg) = 0 then fX18_snapshot_b17 fu a1 a2 a3 M1 L2 else (if a2 < 0 then fX18_snapshot_b37 fu a1 a2 a3 M1 L2 else (if 1 < a2 then fX18_snapshot_b37 fu a1 a2 a3 M1 L2 else (if a3 < 0 then fX18_snapshot_b37 fu a1 a2 a3 M1 L2 else (if a3 ≤ 3 then mck (((8 * a1) + (4 * a2)) + a3) 1608 (some (M1 918 (((8 * a1) + (4 * a2)) + a3).toNatClampNeg, M1, L2)) else fX18_snapshot_b37 fu a1 a2 a3 M1 L2)))))) else fX18_snapshot_b17 fu a1 a2 a3 M1 L2))
noncomputable def fX18_clear_b15 (fu : Nat) (a1 : Int32) (M : mwM) (L : mwL) : Option (Int32 × mwM × mwL) :=
  some ((-2), M, L)
noncomputable def fX18_clear_b35 (fu : Nat) (a1 : Int32) (M : mwM) (L : mwL) : Option (Int32 × mwM × mwL) :=
  some ((-3), M, L)
noncomputable def fX18_clear_b90 (fu : Nat) (a1 : Int32) (r42 : (Int32 × Int32 × mwM × mwL) → Option (Int32 × mwM × mwL)) (v2 : Int32) (v3 : Int32) (M : mwM) (L : mwL) : Option (Int32 × mwM × mwL) :=
  mlet (v3 + 1) (fun x13 => r42 (v2, x13, M, L))
noncomputable def fX18_clear_b70 (fu : Nat) (a1 : Int32) (r42 : (Int32 × Int32 × mwM × mwL) → Option (Int32 × mwM × mwL)) (v2 : Int32) (v3 : Int32) (M : mwM) (L : mwL) : Option (Int32 × mwM × mwL) :=
  mb2 (DX18_freshen fu v3 M L) (fun M6 L7 => mb2 (DX18_keep fu v3 M6 L7) (fun M8 L9 => mck v3 201 (mlet (mset M8 916 (v3.toNatClampNeg) 0) (fun M11 => mlet (v2 + 1) (fun x12 => fX18_clear_b90 fu a1 r42 x12 v3 M11 L9)))))
noncomputable def fX18_clear_i42 (fu : Nat) (a1 : Int32) (r42 : (Int32 × Int32 × mwM × mwL) → Option (Int32 × mwM × mwL)) (v2 : Int32) (v3 : Int32) (M : mwM) (L : mwL) : Option (Int32 × mwM × mwL) :=
  (if (M 902 2) < v3 then some (v2, M, L) else (if a1 = 0 then fX18_clear_b70 fu a1 r42 v2 v3 M L else mck v3 201 ((if (((M 903 v3.toNatClampNeg) + 31) / 32) = a1 then fX18_clear_b70 fu a1 r42 v2 v3 M L else fX18_clear_b90 fu a1 r42 v2 v3 M L))))
noncomputable def fX18_clear_h42 (fu : Nat) (a1 : Int32) : Nat → (Int32 × Int32 × mwM × mwL) → Option (Int32 × mwM × mwL) := mloop (fun r42 s => fX18_clear_i42 fu a1 r42 s.1 s.2.1 s.2.2.1 s.2.2.2)
noncomputable def DX18_clear (fu : Nat) (a1 : Int32) (M : mwM) (L : mwL) : Option (Int32 × mwM × mwL) :=
  mlet (mset M 902 0 0) (fun M14 => (if a1 < 0 then fX18_clear_b15 fu a1 M14 L else (if a1 ≤ 8 then (if (M14 902 23) = 0 then (if (M14 920 (31 : Int32).toNatClampNeg) = 0 then fX18_clear_h42 fu a1 fu (0, 1, M14, L) else fX18_clear_b35 fu a1 M14 L) else fX18_clear_b35 fu a1 M14 L) else fX18_clear_b15 fu a1 M14 L)))
noncomputable def fX18_stored_b31 (fu : Nat) (a1 : Int32) (a2 : Int32) (M : mwM) (L : mwL) : Option (Int32 × mwM × mwL) :=
  some ((-1), M, L)
noncomputable def fX18_stored_b42 (fu : Nat) (a1 : Int32) (a2 : Int32) (M : mwM) (L : mwL) : Option (Int32 × mwM × mwL) :=
  some ((-2), M, L)
noncomputable def fX18_stored_b157 (fu : Nat) (a1 : Int32) (a2 : Int32) (r47 : (Int32 × mwM × mwL) → Option (Int32 × mwM × mwL)) (v3 : Int32) (M : mwM) (L : mwL) : Option (Int32 × mwM × mwL) :=
  mlet (v3 + 1) (fun x23 => r47 (x23, M, L))
noncomputable def fX18_stored_b156 (fu : Nat) (a1 : Int32) (a2 : Int32) (s0 : Int32) (M : mwM) (L : mwL) : Option (Int32 × mwM × mwL) :=
  some (s0, M, L)
noncomputable def fX18_stored_b105 (fu : Nat) (a1 : Int32) (a2 : Int32) (r47 : (Int32 × mwM × mwL) → Option (Int32 × mwM × mwL)) (r61 : (Int32 × Int32 × Int32 × mwM × mwL) → Option (Int32 × mwM × mwL)) (v3 : Int32) (v5 : Int32) (s0 : Int32) (M : mwM) (L : mwL) : Option (Int32 × mwM × mwL) :=
  mlet (v5 + 1) (fun x22 => r61 (v3, s0, x22, M, L))
noncomputable def fX18_stored_b103 (fu : Nat) (a1 : Int32) (a2 : Int32) (r47 : (Int32 × mwM × mwL) → Option (Int32 × mwM × mwL)) (r61 : (Int32 × Int32 × Int32 × mwM × mwL) → Option (Int32 × mwM × mwL)) (v3 : Int32) (v4 : Int32) (v5 : Int32) (M : mwM) (L : mwL) : Option (Int32 × mwM × mwL) :=
  fX18_stored_b105 fu a1 a2 r47 r61 v3 v5 v4 M L
noncomputable def fX18_stored_i61 (fu : Nat) (a1 : Int32) (a2 : Int32) (r47 : (Int32 × mwM × mwL) → Option (Int32 × mwM × mwL)) (r61 : (Int32 × Int32 × Int32 × mwM × mwL) → Option (Int32 × mwM × mwL)) (v3 : Int32) (v4 : Int32) (v5 : Int32) (M : mwM) (L : mwL) : Option (Int32 × mwM × mwL) :=
  (if (M 902 2) < v5 then mck v3 201 ((if (M 916 v3.toNatClampNeg) ≤ 0 then fX18_stored_b157 fu a1 a2 r47 v3 M L else (if v4 = a1 then (if a2 = 0 then fX18_stored_b156 fu a1 a2 v3 M L else (if a2 = 1 then mck v3 201 (fX18_stored_b156 fu a1 a2 (M 917 v3.toNatClampNeg) M L) else mck v3 201 (fX18_stored_b156 fu a1 a2 (M 903 v3.toNatClampNeg) M L))) else fX18_stored_b157 fu a1 a2 r47 v3 M L))) else mck v5 201 ((if (M 916 v5.toNatClampNeg) ≤ 0 then fX18_stored_b103 fu a1 a2 r47 r61 v3 v4 v5 M L else mck v5 201 (mck v3 201 ((if (M 916 v3.toNatClampNeg) ≤ (M 916 v5.toNatClampNeg) then fX18_stored_b103 fu a1 a2 r47 r61 v3 v4 v5 M L else fX18_stored_b105 fu a1 a2 r47 r61 v3 v5 (v4 + 1) M L))))))
noncomputable def fX18_stored_h61 (fu : Nat) (a1 : Int32) (a2 : Int32) (r47 : (Int32 × mwM × mwL) → Option (Int32 × mwM × mwL)) : Nat → (Int32 × Int32 × Int32 × mwM × mwL) → Option (Int32 × mwM × mwL) := mloop (fun r61 s => fX18_stored_i61 fu a1 a2 r47 r61 s.1 s.2.1 s.2.2.1 s.2.2.2.1 s.2.2.2.2)
noncomputable def fX18_stored_i47 (fu : Nat) (a1 : Int32) (a2 : Int32) (r47 : (Int32 × mwM × mwL) → Option (Int32 × mwM × mwL)) (v3 : Int32) (M : mwM) (L : mwL) : Option (Int32 × mwM × mwL) :=
  (if (M 902 2) < v3 then some ((-1), M, L) else fX18_stored_h61 fu a1 a2 r47 fu (v3, 0, 1, M, L))
noncomputable def fX18_stored_h47 (fu : Nat) (a1 : Int32) (a2 : Int32) : Nat → (Int32 × mwM × mwL) → Option (Int32 × mwM × mwL) := mloop (fun r47 s => fX18_stored_i47 fu a1 a2 r47 s.1 s.2.1 s.2.2)
noncomputable def fX18_stored_b19 (fu : Nat) (a1 : Int32) (a2 : Int32) (M : mwM) (L : mwL) : Option (Int32 × mwM × mwL) :=
  (if a1 < 0 then fX18_stored_b31 fu a1 a2 M L else mb3 (DX18_entries fu M L) (fun r4 M2 L3 => (if a1 < r4 then (if a2 < 0 then fX18_stored_b42 fu a1 a2 M2 L3 else (if a2 ≤ 2 then fX18_stored_h47 fu a1 a2 fu (1, M2, L3) else fX18_stored_b42 fu a1 a2 M2 L3)) else fX18_stored_b31 fu a1 a2 M2 L3)))
noncomputable def DX18_stored (fu : Nat) (a1 : Int32) (a2 : Int32) (M : mwM) (L : mwL) : Option (Int32 × mwM × mwL) :=
  mlet (mset M 902 0 0) (fun M24 => (if a1 = ((-1)) then (if a2 = 0 then mb3 (DX18_entries fu M24 L) (fun r29 M27 L28 => some (r29, M27, L28)) else fX18_stored_b19 fu a1 a2 M24 L) else fX18_stored_b19 fu a1 a2 M24 L))
noncomputable def fX18_age_b18 (fu : Nat) (a1 : Int32) (s0 : Int32) (M : mwM) (L : mwL) : Option (Int32 × mwM × mwL) :=
  some (s0, M, L)
noncomputable def DX18_age (fu : Nat) (a1 : Int32) (M : mwM) (L : mwL) : Option (Int32 × mwM × mwL) :=
  mb3 (DX18_none fu a1 M L) (fun r3 M1 L2 => (if r3 = 0 then mck a1 201 (fX18_age_b18 fu a1 (M1 910 a1.toNatClampNeg) M1 L2) else fX18_age_b18 fu a1 ((-1)) M1 L2))
noncomputable def DX19_thrown (fu : Nat) (M : mwM) (L : mwL) : Option (Int32 × mwM × mwL) :=
  some (M 732 0, M, L)
noncomputable def fX19_character_b33 (fu : Nat) (a1 : Int32) (a2 : Int32) (a3 : Int32) (a4 : Int32) (a5 : Int32) (s0 : Int32) (M : mwM) (L : mwL) : Option (Int32 × mwM × mwL) :=
  some ((s0 >>> ((24 - (8 * (a5 - a5 / 4 * 4))) &&& 31)) &&& 255, M, L)
noncomputable def DX19_character (fu : Nat) (a1 : Int32) (a2 : Int32) (a3 : Int32) (a4 : Int32) (a5 : Int32) (M : mwM) (L : mwL) : Option (Int32 × mwM × mwL) :=
  (if 4 ≤ a5 then (if 8 ≤ a5 then (if 12 ≤ a5 then fX19_character_b33 fu a1 a2 a3 a4 a5 a4 M L else fX19_character_b33 fu a1 a2 a3 a4 a5 a3 M L) else fX19_character_b33 fu a1 a2 a3 a4 a5 a2 M L) else fX19_character_b33 fu a1 a2 a3 a4 a5 a1 M L)
noncomputable def fX19_text_b129 (fu : Nat) (a1 : Int32) (a2 : Int32) (a3 : Int32) (a4 : Int32) (M : mwM) (L : mwL) : Option (mwM × mwL) :=
  some (M, L)
noncomputable def fX19_text_b123 (fu : Nat) (a1 : Int32) (a2 : Int32) (a3 : Int32) (a4 : Int32) (r68 : (Int32 × mwM × mwL) → Option (mwM × mwL)) (v6 : Int32) (M : mwM) (L : mwL) : Option (mwM × mwL) :=
  mlet (v6 + 1) (fun x18 => r68 (x18, M, L))
noncomputable def fX19_text_i68 (fu : Nat) (a1 : Int32) (a2 : Int32) (a3 : Int32) (a4 : Int32) (r68 : (Int32 × mwM × mwL) → Option (mwM × mwL)) (v6 : Int32) (M : mwM) (L : mwL) : Option (mwM × mwL) :=
  (if 16 ≤ v6 then fX19_text_b129 fu a1 a2 a3 a4 M L else (if (M 732 0) = 0 then mb3 (DX19_character fu a1 a2 a3 a4 v6 M L) (fun r13 M11 L12 => (if r13 = 0 then fX19_text_b123 fu a1 a2 a3 a4 r68 v6 M11 L12 else mck (M11 732 2) 6000 (mlet (mset M11 733 ((M11 732 2).toNatClampNeg) r13) (fun M16 => mlet (mset M16 732 2 ((M16 732 2) + 1)) (fun M17 => fX19_text_b123 fu a1 a2 a3 a4 r68 v6 M17 L12))))) else fX19_text_b129 fu a1 a2 a3 a4 M L))
noncomputable def fX19_text_h68 (fu : Nat) (a1 : Int32) (a2 : Int32) (a3 : Int32) (a4 : Int32) : Nat → (Int32 × mwM × mwL) → Option (mwM × mwL) := mloop (fun r68 s => fX19_text_i68 fu a1 a2 a3 a4 r68 s.1 s.2.1 s.2.2)
noncomputable def fX19_text_b62 (fu : Nat) (a1 : Int32) (a2 : Int32) (a3 : Int32) (a4 : Int32) (s1 : Int32) (M : mwM) (L : mwL) : Option (mwM × mwL) :=
  mlet (mset M 732 0 s1) (fun M8 => fX19_text_h68 fu a1 a2 a3 a4 fu (0, M8, L))
noncomputable def fX19_text_b35 (fu : Nat) (a1 : Int32) (a2 : Int32) (a3 : Int32) (a4 : Int32) (r6 : (Int32 × Int32 × mwM × mwL) → Option (mwM × mwL)) (v6 : Int32) (s0 : Int32) (M : mwM) (L : mwL) : Option (mwM × mwL) :=
  mlet (v6 + 1) (fun x7 => r6 (s0, x7, M, L))
noncomputable def fX19_text_i6 (fu : Nat) (a1 : Int32) (a2 : Int32) (a3 : Int32) (a4 : Int32) (r6 : (Int32 × Int32 × mwM × mwL) → Option (mwM × mwL)) (v5 : Int32) (v6 : Int32) (M : mwM) (L : mwL) : Option (mwM × mwL) :=
  (if 16 ≤ v6 then (if ((M 732 2) + v5) ≤ 6000 then fX19_text_b62 fu a1 a2 a3 a4 0 M L else fX19_text_b62 fu a1 a2 a3 a4 1 M L) else mb3 (DX19_character fu a1 a2 a3 a4 v6 M L) (fun r5 M3 L4 => (if r5 ≤ 0 then fX19_text_b35 fu a1 a2 a3 a4 r6 v6 v5 M3 L4 else fX19_text_b35 fu a1 a2 a3 a4 r6 v6 (v5 + 1) M3 L4)))
noncomputable def fX19_text_h6 (fu : Nat) (a1 : Int32) (a2 : Int32) (a3 : Int32) (a4 : Int32) : Nat → (Int32 × Int32 × mwM × mwL) → Option (mwM × mwL) := mloop (fun r6 s => fX19_text_i6 fu a1 a2 a3 a4 r6 s.1 s.2.1 s.2.2.1 s.2.2.2)
noncomputable def DX19_text (fu : Nat) (a1 : Int32) (a2 : Int32) (a3 : Int32) (a4 : Int32) (M : mwM) (L : mwL) : Option (mwM × mwL) :=
  fX19_text_h6 fu a1 a2 a3 a4 fu (0, 0, M, L)
noncomputable def fX19_cut_b18 (fu : Nat) (a1 : Int32) (s1 : Int32) (M : mwM) (L : mwL) : Option (Int32 × mwM × mwL) :=
  mlet (mset M 732 0 s1) (fun M1 => (if (M1 732 0) ≤ 0 then mlet (mset M1 732 2 a1) (fun M3 => some (a1, M3, L)) else some (0, M1, L)))
noncomputable def fX19_cut_b13 (fu : Nat) (a1 : Int32) (M : mwM) (L : mwL) : Option (Int32 × mwM × mwL) :=
  fX19_cut_b18 fu a1 1 M L
noncomputable def DX19_cut (fu : Nat) (a1 : Int32) (M : mwM) (L : mwL) : Option (Int32 × mwM × mwL) :=
  (if a1 < 0 then fX19_cut_b13 fu a1 M L else (if a1 ≤ (M 732 2) then fX19_cut_b18 fu a1 0 M L else fX19_cut_b13 fu a1 M L))
noncomputable def DX19_fail (fu : Nat) (a1 : Int32) (a2 : Int32) (M : mwM) (L : mwL) : Option (Int32 × mwM × mwL) :=
  mlet (mset M 732 11 a1) (fun M1 => mlet (mset M1 732 12 a2) (fun M2 => some (0, M2, L)))
noncomputable def fX19_next_b63 (fu : Nat) (M : mwM) (L : mwL) : Option (Int32 × mwM × mwL) :=
  some (0, M, L)
noncomputable def fX19_next_b111 (fu : Nat) (M : mwM) (L : mwL) : Option (Int32 × mwM × mwL) :=
  mlet (mset M 732 10 (M 732 6)) (fun M13 => some (1, M13, L))
noncomputable def fX19_next_i73 (fu : Nat) (r73 : (mwM × mwL) → Option (Int32 × mwM × mwL)) (M : mwM) (L : mwL) : Option (Int32 × mwM × mwL) :=
  (if (M 732 7) ≤ (M 732 6) then fX19_next_b111 fu M L else mck (M 732 6) 6000 ((if (M 733 (M 732 6).toNatClampNeg) = 32 then fX19_next_b111 fu M L else mlet (mset M 732 6 ((M 732 6) + 1)) (fun M12 => r73 (M12, L)))))
noncomputable def fX19_next_h73 (fu : Nat) : Nat → (mwM × mwL) → Option (Int32 × mwM × mwL) := mloop (fun r73 s => fX19_next_i73 fu r73 s.1 s.2)
noncomputable def fX19_next_b38 (fu : Nat) (M : mwM) (L : mwL) : Option (Int32 × mwM × mwL) :=
  (if (M 732 6) = (M 732 7) then fX19_next_b63 fu M L else mck (M 732 6) 6000 ((if (M 733 (M 732 6).toNatClampNeg) = 35 then fX19_next_b63 fu M L else mlet (mset M 732 9 (M 732 6)) (fun M8 => fX19_next_h73 fu fu (M8, L)))))
noncomputable def fX19_next_i0 (fu : Nat) (r0 : (mwM × mwL) → Option (Int32 × mwM × mwL)) (M : mwM) (L : mwL) : Option (Int32 × mwM × mwL) :=
  (if (M 732 7) ≤ (M 732 6) then fX19_next_b38 fu M L else mck (M 732 6) 6000 ((if (M 733 (M 732 6).toNatClampNeg) = 32 then mlet (mset M 732 6 ((M 732 6) + 1)) (fun M4 => r0 (M4, L)) else fX19_next_b38 fu M L)))
noncomputable def fX19_next_h0 (fu : Nat) : Nat → (mwM × mwL) → Option (Int32 × mwM × mwL) := mloop (fun r0 s => fX19_next_i0 fu r0 s.1 s.2)
noncomputable def DX19_next (fu : Nat) (M : mwM) (L : mwL) : Option (Int32 × mwM × mwL) :=
  fX19_next_h0 fu fu (M, L)
noncomputable def fX19_must_b24 (fu : Nat) (s0 : Int32) (M : mwM) (L : mwL) : Option (Int32 × mwM × mwL) :=
  mzz s0 (some (s0, M, L))
noncomputable def fX19_must_b19 (fu : Nat) (M : mwM) (L : mwL) : Option (Int32 × mwM × mwL) :=
  fX19_must_b24 fu 1 M L
noncomputable def DX19_must (fu : Nat) (M : mwM) (L : mwL) : Option (Int32 × mwM × mwL) :=
  mb3 (DX19_next fu M L) (fun r4 M2 L3 => (if r4 = 0 then mb3 (DX19_fail fu 2 (M2 732 7) M2 L3) (fun r8 M6 L7 => (if r8 = 0 then fX19_must_b24 fu 0 M6 L7 else fX19_must_b19 fu M6 L7)) else fX19_must_b19 fu M2 L3))
noncomputable def fX19_end_b24 (fu : Nat) (s0 : Int32) (M : mwM) (L : mwL) : Option (Int32 × mwM × mwL) :=
  mzz s0 (some (s0, M, L))
noncomputable def fX19_end_b19 (fu : Nat) (M : mwM) (L : mwL) : Option (Int32 × mwM × mwL) :=
  fX19_end_b24 fu 1 M L
noncomputable def DX19_end (fu : Nat) (M : mwM) (L : mwL) : Option (Int32 × mwM × mwL) :=
  mb3 (DX19_next fu M L) (fun r4 M2 L3 => (if r4 = 0 then fX19_end_b19 fu M2 L3 else mb3 (DX19_fail fu 2 (M2 732 9) M2 L3) (fun r8 M6 L7 => (if r8 = 0 then fX19_end_b24 fu 0 M6 L7 else fX19_end_b19 fu M6 L7))))
noncomputable def fX19_is_b113 (fu : Nat) (a1 : Int64) (a2 : Int64) (s0 : Int32) (M : mwM) (L : mwL) : Option (Int32 × mwM × mwL) :=
  mzz s0 (some (s0, M, L))
noncomputable def fX19_is_b112 (fu : Nat) (a1 : Int64) (a2 : Int64) (M : mwM) (L : mwL) : Option (Int32 × mwM × mwL) :=
  fX19_is_b113 fu a1 a2 0 M L
noncomputable def fX19_is_b88 (fu : Nat) (a1 : Int64) (a2 : Int64) (r30 : (Int64 × Int64 × Int32 × mwM × mwL) → Option (Int32 × mwM × mwL)) (v5 : Int64) (v7 : Int64) (v9 : Int32) (M : mwM) (L : mwL) : Option (Int32 × mwM × mwL) :=
  mlet (v9 + (-1)) (fun x9 => r30 (v5, v7, x9, M, L))
noncomputable def fX19_is_i30 (fu : Nat) (a1 : Int64) (a2 : Int64) (r30 : (Int64 × Int64 × Int32 × mwM × mwL) → Option (Int32 × mwM × mwL)) (v5 : Int64) (v7 : Int64) (v9 : Int32) (M : mwM) (L : mwL) : Option (Int32 × mwM × mwL) :=
  (if v9 < (M 732 9) then (if (lg_cmp v5 a1) = 0 then (if (lg_cmp v7 a2) = 0 then fX19_is_b113 fu a1 a2 1 M L else fX19_is_b112 fu a1 a2 M L) else fX19_is_b112 fu a1 a2 M L) else (if 8 ≤ (v9 - (M 732 9)) then mck v9 6000 (mlet ((v7 * 256) + ((M 733 v9.toNatClampNeg).toInt64)) (fun x6 => fX19_is_b88 fu a1 a2 r30 v5 x6 v9 M L)) else mck v9 6000 (mlet ((v5 * 256) + ((M 733 v9.toNatClampNeg).toInt64)) (fun x8 => fX19_is_b88 fu a1 a2 r30 x8 v7 v9 M L))))
noncomputable def fX19_is_h30 (fu : Nat) (a1 : Int64) (a2 : Int64) : Nat → (Int64 × Int64 × Int32 × mwM × mwL) → Option (Int32 × mwM × mwL) := mloop (fun r30 s => fX19_is_i30 fu a1 a2 r30 s.1 s.2.1 s.2.2.1 s.2.2.2.1 s.2.2.2.2)
noncomputable def DX19_is (fu : Nat) (a1 : Int64) (a2 : Int64) (M : mwM) (L : mwL) : Option (Int32 × mwM × mwL) :=
  (if ((M 732 10) - (M 732 9)) ≤ 10 then mlet ((M 732 10) - 1) (fun x12 => fX19_is_h30 fu a1 a2 fu (0, 0, x12, M, L)) else some (0, M, L))
noncomputable def fX19_takes_b23 (fu : Nat) (a1 : Int64) (v3 : Int32) (M : mwM) (L : mwL) : Option (Int32 × mwM × mwL) :=
  mlet (mset M 732 6 v3) (fun M1 => some (0, M1, L))
noncomputable def DX19_takes (fu : Nat) (a1 : Int64) (M : mwM) (L : mwL) : Option (Int32 × mwM × mwL) :=
  mlet (M 732 6) (fun x2 => mb3 (DX19_next fu M L) (fun r5 M3 L4 => (if r5 = 0 then fX19_takes_b23 fu a1 x2 M3 L4 else mb3 (DX19_is fu a1 0 M3 L4) (fun r9 M7 L8 => (if r9 = 0 then fX19_takes_b23 fu a1 x2 M7 L8 else some (1, M7, L8))))))
noncomputable def fX19_letter_b17 (fu : Nat) (a1 : Int32) (s0 : Int32) (M : mwM) (L : mwL) : Option (Int32 × mwM × mwL) :=
  mzz s0 (some (s0, M, L))
noncomputable def fX19_letter_b16 (fu : Nat) (a1 : Int32) (M : mwM) (L : mwL) : Option (Int32 × mwM × mwL) :=
  fX19_letter_b17 fu a1 0 M L
noncomputable def DX19_letter (fu : Nat) (a1 : Int32) (M : mwM) (L : mwL) : Option (Int32 × mwM × mwL) :=
  (if a1 < 97 then fX19_letter_b16 fu a1 M L else (if 122 < a1 then fX19_letter_b16 fu a1 M L else fX19_letter_b17 fu a1 1 M L))
noncomputable def fX19_digit_b17 (fu : Nat) (a1 : Int32) (s0 : Int32) (M : mwM) (L : mwL) : Option (Int32 × mwM × mwL) :=
  mzz s0 (some (s0, M, L))
noncomputable def fX19_digit_b16 (fu : Nat) (a1 : Int32) (M : mwM) (L : mwL) : Option (Int32 × mwM × mwL) :=
  fX19_digit_b17 fu a1 0 M L
noncomputable def DX19_digit (fu : Nat) (a1 : Int32) (M : mwM) (L : mwL) : Option (Int32 × mwM × mwL) :=
  (if a1 < 48 then fX19_digit_b16 fu a1 M L else (if 57 < a1 then fX19_digit_b16 fu a1 M L else fX19_digit_b17 fu a1 1 M L))
noncomputable def fX19_isName_b81 (fu : Nat) (r40 : (Int32 × Int32 × mwM × mwL) → Option (Int32 × mwM × mwL)) (v2 : Int32) (s0 : Int32) (M : mwM) (L : mwL) : Option (Int32 × mwM × mwL) :=
  mlet (v2 + 1) (fun x15 => r40 (s0, x15, M, L))
noncomputable def fX19_isName_b80 (fu : Nat) (r40 : (Int32 × Int32 × mwM × mwL) → Option (Int32 × mwM × mwL)) (v2 : Int32) (M : mwM) (L : mwL) : Option (Int32 × mwM × mwL) :=
  fX19_isName_b81 fu r40 v2 0 M L
noncomputable def fX19_isName_b76 (fu : Nat) (r40 : (Int32 × Int32 × mwM × mwL) → Option (Int32 × mwM × mwL)) (v2 : Int32) (M : mwM) (L : mwL) : Option (Int32 × mwM × mwL) :=
  fX19_isName_b81 fu r40 v2 1 M L
noncomputable def fX19_isName_i40 (fu : Nat) (r40 : (Int32 × Int32 × mwM × mwL) → Option (Int32 × mwM × mwL)) (v1 : Int32) (v2 : Int32) (M : mwM) (L : mwL) : Option (Int32 × mwM × mwL) :=
  (if (M 732 10) ≤ v2 then mzz v1 (some (v1, M, L)) else (if v1 = 0 then fX19_isName_b80 fu r40 v2 M L else mck v2 6000 (mb3 (DX19_letter fu (M 733 v2.toNatClampNeg) M L) (fun r8 M6 L7 => (if r8 = 0 then mck v2 6000 (mb3 (DX19_digit fu (M6 733 v2.toNatClampNeg) M6 L7) (fun r13 M11 L12 => (if r13 = 0 then fX19_isName_b80 fu r40 v2 M11 L12 else fX19_isName_b76 fu r40 v2 M11 L12))) else fX19_isName_b76 fu r40 v2 M6 L7)))))
noncomputable def fX19_isName_h40 (fu : Nat) : Nat → (Int32 × Int32 × mwM × mwL) → Option (Int32 × mwM × mwL) := mloop (fun r40 s => fX19_isName_i40 fu r40 s.1 s.2.1 s.2.2.1 s.2.2.2)
noncomputable def fX19_isName_b34 (fu : Nat) (s0 : Int32) (M : mwM) (L : mwL) : Option (Int32 × mwM × mwL) :=
  mlet (M 732 9) (fun x1 => fX19_isName_h40 fu fu (s0, x1, M, L))
noncomputable def fX19_isName_b33 (fu : Nat) (M : mwM) (L : mwL) : Option (Int32 × mwM × mwL) :=
  fX19_isName_b34 fu 0 M L
noncomputable def DX19_isName (fu : Nat) (M : mwM) (L : mwL) : Option (Int32 × mwM × mwL) :=
  (if 10 < ((M 732 10) - (M 732 9)) then fX19_isName_b33 fu M L else mck (M 732 9) 6000 (mb3 (DX19_letter fu (M 733 (M 732 9).toNatClampNeg) M L) (fun r20 M18 L19 => (if r20 = 0 then fX19_isName_b33 fu M18 L19 else fX19_isName_b34 fu 1 M18 L19))))
noncomputable def fX19_isNumber_b158 (fu : Nat) (v2 : Int32) (s1 : Int32) (M : mwM) (L : mwL) : Option (Int32 × mwM × mwL) :=
  mlet (mset M 732 13 s1) (fun M18 => mzz v2 (some (v2, M18, L)))
noncomputable def fX19_isNumber_b137 (fu : Nat) (v1 : Int32) (v2 : Int32) (M : mwM) (L : mwL) : Option (Int32 × mwM × mwL) :=
  (if v1 ≤ (M 732 9) then fX19_isNumber_b158 fu v2 (M 732 13) M L else fX19_isNumber_b158 fu v2 (-(M 732 13)) M L)
noncomputable def fX19_isNumber_i98 (fu : Nat) (r98 : (Int32 × Int32 × Int32 × mwM × mwL) → Option (Int32 × mwM × mwL)) (v1 : Int32) (v2 : Int32) (v3 : Int32) (M : mwM) (L : mwL) : Option (Int32 × mwM × mwL) :=
  (if (M 732 10) ≤ v3 then fX19_isNumber_b137 fu v1 v2 M L else (if v2 = 0 then fX19_isNumber_b137 fu v1 v2 M L else mck v3 6000 (mlet (mset M 732 13 (((10 * (M 732 13)) + (M 733 v3.toNatClampNeg)) - 48)) (fun M15 => mlet (v3 + 1) (fun x16 => r98 (v1, v2, x16, M15, L))))))
noncomputable def fX19_isNumber_h98 (fu : Nat) : Nat → (Int32 × Int32 × Int32 × mwM × mwL) → Option (Int32 × mwM × mwL) := mloop (fun r98 s => fX19_isNumber_i98 fu r98 s.1 s.2.1 s.2.2.1 s.2.2.2.1 s.2.2.2.2)
noncomputable def fX19_isNumber_b84 (fu : Nat) (r55 : (Int32 × Int32 × Int32 × mwM × mwL) → Option (Int32 × mwM × mwL)) (v1 : Int32) (v3 : Int32) (s0 : Int32) (M : mwM) (L : mwL) : Option (Int32 × mwM × mwL) :=
  mlet (v3 + 1) (fun x11 => r55 (v1, s0, x11, M, L))
noncomputable def fX19_isNumber_b83 (fu : Nat) (r55 : (Int32 × Int32 × Int32 × mwM × mwL) → Option (Int32 × mwM × mwL)) (v1 : Int32) (v3 : Int32) (M : mwM) (L : mwL) : Option (Int32 × mwM × mwL) :=
  fX19_isNumber_b84 fu r55 v1 v3 0 M L
noncomputable def fX19_isNumber_i55 (fu : Nat) (r55 : (Int32 × Int32 × Int32 × mwM × mwL) → Option (Int32 × mwM × mwL)) (v1 : Int32) (v2 : Int32) (v3 : Int32) (M : mwM) (L : mwL) : Option (Int32 × mwM × mwL) :=
  (if (M 732 10) ≤ v3 then mlet (mset M 732 13 0) (fun M4 => fX19_isNumber_h98 fu fu (v1, v2, v1, M4, L)) else (if v2 = 0 then fX19_isNumber_b83 fu r55 v1 v3 M L else mck v3 6000 (mb3 (DX19_digit fu (M 733 v3.toNatClampNeg) M L) (fun r9 M7 L8 => (if r9 = 0 then fX19_isNumber_b83 fu r55 v1 v3 M7 L8 else fX19_isNumber_b84 fu r55 v1 v3 1 M7 L8)))))
noncomputable def fX19_isNumber_h55 (fu : Nat) : Nat → (Int32 × Int32 × Int32 × mwM × mwL) → Option (Int32 × mwM × mwL) := mloop (fun r55 s => fX19_isNumber_i55 fu r55 s.1 s.2.1 s.2.2.1 s.2.2.2.1 s.2.2.2.2)
noncomputable def fX19_isNumber_b52 (fu : Nat) (v1 : Int32) (s0 : Int32) (M : mwM) (L : mwL) : Option (Int32 × mwM × mwL) :=
  fX19_isNumber_h55 fu fu (v1, s0, v1, M, L)
noncomputable def fX19_isNumber_b51 (fu : Nat) (v1 : Int32) (M : mwM) (L : mwL) : Option (Int32 × mwM × mwL) :=
  fX19_isNumber_b52 fu v1 0 M L
noncomputable def fX19_isNumber_b27 (fu : Nat) (s0 : Int32) (M : mwM) (L : mwL) : Option (Int32 × mwM × mwL) :=
  (if (M 732 10) ≤ s0 then fX19_isNumber_b51 fu s0 M L else (if 9 < ((M 732 10) - s0) then fX19_isNumber_b51 fu s0 M L else fX19_isNumber_b52 fu s0 1 M L))
noncomputable def DX19_isNumber (fu : Nat) (M : mwM) (L : mwL) : Option (Int32 × mwM × mwL) :=
  mck (M 732 9) 6000 ((if (M 733 (M 732 9).toNatClampNeg) = 45 then fX19_isNumber_b27 fu ((M 732 9) + 1) M L else fX19_isNumber_b27 fu (M 732 9) M L))
noncomputable def fX19_number_b49 (fu : Nat) (a1 : Int32) (a2 : Int32) (s0 : Int32) (M : mwM) (L : mwL) : Option (Int32 × mwM × mwL) :=
  mzz s0 (some (s0, M, L))
noncomputable def fX19_number_b44 (fu : Nat) (a1 : Int32) (a2 : Int32) (M : mwM) (L : mwL) : Option (Int32 × mwM × mwL) :=
  fX19_number_b49 fu a1 a2 1 M L
noncomputable def fX19_number_b32 (fu : Nat) (a1 : Int32) (a2 : Int32) (M : mwM) (L : mwL) : Option (Int32 × mwM × mwL) :=
  mb3 (DX19_fail fu 5 (M 732 9) M L) (fun r3 M1 L2 => (if r3 = 0 then fX19_number_b49 fu a1 a2 0 M1 L2 else fX19_number_b44 fu a1 a2 M1 L2))
noncomputable def DX19_number (fu : Nat) (a1 : Int32) (a2 : Int32) (M : mwM) (L : mwL) : Option (Int32 × mwM × mwL) :=
  mb3 (DX19_must fu M L) (fun r8 M6 L7 => (if r8 = 0 then some (0, M6, L7) else mb3 (DX19_isNumber fu M6 L7) (fun r12 M10 L11 => (if r12 = 0 then fX19_number_b32 fu a1 a2 M10 L11 else (if (M10 732 13) < a1 then fX19_number_b32 fu a1 a2 M10 L11 else (if (M10 732 13) ≤ a2 then fX19_number_b44 fu a1 a2 M10 L11 else fX19_number_b32 fu a1 a2 M10 L11))))))
noncomputable def fX19_same_b68 (fu : Nat) (a1 : Int32) (a2 : Int32) (v3 : Int32) (M : mwM) (L : mwL) : Option (Int32 × mwM × mwL) :=
  mzz v3 (some (v3, M, L))
noncomputable def fX19_same_b61 (fu : Nat) (a1 : Int32) (a2 : Int32) (r22 : (Int32 × Int32 × mwM × mwL) → Option (Int32 × mwM × mwL)) (v4 : Int32) (s0 : Int32) (M : mwM) (L : mwL) : Option (Int32 × mwM × mwL) :=
  mlet (v4 + 1) (fun x6 => r22 (s0, x6, M, L))
noncomputable def fX19_same_i22 (fu : Nat) (a1 : Int32) (a2 : Int32) (r22 : (Int32 × Int32 × mwM × mwL) → Option (Int32 × mwM × mwL)) (v3 : Int32) (v4 : Int32) (M : mwM) (L : mwL) : Option (Int32 × mwM × mwL) :=
  (if a2 ≤ v4 then fX19_same_b68 fu a1 a2 v3 M L else (if v3 = 0 then fX19_same_b68 fu a1 a2 v3 M L else mck ((M 732 9) + v4) 6000 (mck (a1 + v4) 6000 ((if (M 733 ((M 732 9) + v4).toNatClampNeg) = (M 733 (a1 + v4).toNatClampNeg) then fX19_same_b61 fu a1 a2 r22 v4 1 M L else fX19_same_b61 fu a1 a2 r22 v4 0 M L)))))
noncomputable def fX19_same_h22 (fu : Nat) (a1 : Int32) (a2 : Int32) : Nat → (Int32 × Int32 × mwM × mwL) → Option (Int32 × mwM × mwL) := mloop (fun r22 s => fX19_same_i22 fu a1 a2 r22 s.1 s.2.1 s.2.2.1 s.2.2.2)
noncomputable def fX19_same_b18 (fu : Nat) (a1 : Int32) (a2 : Int32) (s0 : Int32) (M : mwM) (L : mwL) : Option (Int32 × mwM × mwL) :=
  fX19_same_h22 fu a1 a2 fu (s0, 0, M, L)
noncomputable def DX19_same (fu : Nat) (a1 : Int32) (a2 : Int32) (M : mwM) (L : mwL) : Option (Int32 × mwM × mwL) :=
  (if ((M 732 10) - (M 732 9)) = a2 then fX19_same_b18 fu a1 a2 1 M L else fX19_same_b18 fu a1 a2 0 M L)
noncomputable def fX19_findName_i2 (fu : Nat) (r2 : (Int32 × mwM × mwL) → Option (Int32 × mwM × mwL)) (v1 : Int32) (M : mwM) (L : mwL) : Option (Int32 × mwM × mwL) :=
  (if (M 732 14) ≤ v1 then some ((-1), M, L) else mck v1 70 (mck v1 70 (mb3 (DX19_same fu (M 734 v1.toNatClampNeg) (M 735 v1.toNatClampNeg) M L) (fun r6 M4 L5 => (if r6 = 0 then mlet (v1 + 1) (fun x8 => r2 (x8, M4, L5)) else some (v1, M4, L5))))))
noncomputable def fX19_findName_h2 (fu : Nat) : Nat → (Int32 × mwM × mwL) → Option (Int32 × mwM × mwL) := mloop (fun r2 s => fX19_findName_i2 fu r2 s.1 s.2.1 s.2.2)
noncomputable def DX19_findName (fu : Nat) (M : mwM) (L : mwL) : Option (Int32 × mwM × mwL) :=
  fX19_findName_h2 fu fu (0, M, L)
noncomputable def fX19_newName_b66 (fu : Nat) (a1 : Int32) (a2 : Int32) (s0 : Int32) (M : mwM) (L : mwL) : Option (Int32 × mwM × mwL) :=
  mzz s0 (some (s0, M, L))
noncomputable def fX19_newName_b61 (fu : Nat) (a1 : Int32) (a2 : Int32) (M : mwM) (L : mwL) : Option (Int32 × mwM × mwL) :=
  fX19_newName_b66 fu a1 a2 1 M L
noncomputable def DX19_newName (fu : Nat) (a1 : Int32) (a2 : Int32) (M : mwM) (L : mwL) : Option (Int32 × mwM × mwL) :=
  mb3 (DX19_must fu M L) (fun r4 M2 L3 => (if r4 = 0 then some (0, M2, L3) else mb3 (DX19_isName fu M2 L3) (fun r8 M6 L7 => (if r8 = 0 then mb3 (DX19_fail fu 2 (M6 732 9) M6 L7) (fun r25 M23 L24 => mzz r25 (some (r25, M23, L24))) else mb3 (DX19_findName fu M6 L7) (fun r12 M10 L11 => (if r12 < 0 then (if a1 < a2 then fX19_newName_b61 fu a1 a2 M10 L11 else mb3 (DX19_fail fu 6 (M10 732 9) M10 L11) (fun r17 M15 L16 => (if r17 = 0 then fX19_newName_b66 fu a1 a2 0 M15 L16 else fX19_newName_b61 fu a1 a2 M15 L16))) else mb3 (DX19_fail fu 3 (M10 732 9) M10 L11) (fun r21 M19 L20 => mzz r21 (some (r21, M19, L20)))))))))
noncomputable def DX19_addName (fu : Nat) (a1 : Int32) (a2 : Int32) (a3 : Int32) (a4 : Int32) (M : mwM) (L : mwL) : Option (mwM × mwL) :=
  mck (M 732 14) 70 (mlet (mset M 734 ((M 732 14).toNatClampNeg) a1) (fun M2 => mck (M2 732 14) 70 (mlet (mset M2 735 ((M2 732 14).toNatClampNeg) a2) (fun M4 => mck (M4 732 14) 70 (mlet (mset M4 736 ((M4 732 14).toNatClampNeg) a3) (fun M6 => mck (M6 732 14) 70 (mlet (mset M6 737 ((M6 732 14).toNatClampNeg) a4) (fun M8 => mlet (mset M8 732 14 ((M8 732 14) + 1)) (fun M9 => some (M9, L))))))))))
noncomputable def fX19_named_b35 (fu : Nat) (a1 : Int32) (M : mwM) (L : mwL) : Option (Int32 × mwM × mwL) :=
  mb3 (DX19_fail fu 4 (M 732 9) M L) (fun r3 M1 L2 => some ((-1), M1, L2))
noncomputable def DX19_named (fu : Nat) (a1 : Int32) (M : mwM) (L : mwL) : Option (Int32 × mwM × mwL) :=
  mb3 (DX19_must fu M L) (fun r6 M4 L5 => (if r6 = 0 then some ((-1), M4, L5) else mb3 (DX19_findName fu M4 L5) (fun r10 M8 L9 => (if r10 < 0 then fX19_named_b35 fu a1 M8 L9 else mck r10 70 ((if (M8 736 r10.toNatClampNeg) = a1 then mck r10 70 (some (M8 737 r10.toNatClampNeg, M8, L9)) else fX19_named_b35 fu a1 M8 L9))))))
noncomputable def fX19_findState_i2 (fu : Nat) (a1 : Int32) (r2 : (Int32 × mwM × mwL) → Option (Int32 × mwM × mwL)) (v2 : Int32) (M : mwM) (L : mwL) : Option (Int32 × mwM × mwL) :=
  mck a1 12 ((if (M 754 a1.toNatClampNeg) < v2 then some ((-1), M, L) else mck ((201 * a1) + v2) 2412 (mck ((201 * a1) + v2) 2412 (mb3 (DX19_same fu (M 755 ((201 * a1) + v2).toNatClampNeg) (M 756 ((201 * a1) + v2).toNatClampNeg) M L) (fun r7 M5 L6 => (if r7 = 0 then mlet (v2 + 1) (fun x9 => r2 (x9, M5, L6)) else some (v2, M5, L6)))))))
noncomputable def fX19_findState_h2 (fu : Nat) (a1 : Int32) : Nat → (Int32 × mwM × mwL) → Option (Int32 × mwM × mwL) := mloop (fun r2 s => fX19_findState_i2 fu a1 r2 s.1 s.2.1 s.2.2)
noncomputable def DX19_findState (fu : Nat) (a1 : Int32) (M : mwM) (L : mwL) : Option (Int32 × mwM × mwL) :=
  fX19_findState_h2 fu a1 fu (1, M, L)
noncomputable def fX19_findDatum_i2 (fu : Nat) (a1 : Int32) (r2 : (Int32 × mwM × mwL) → Option (Int32 × mwM × mwL)) (v2 : Int32) (M : mwM) (L : mwL) : Option (Int32 × mwM × mwL) :=
  mck a1 12 ((if (M 757 a1.toNatClampNeg) ≤ v2 then some ((-1), M, L) else mck ((32 * a1) + v2) 384 (mck ((32 * a1) + v2) 384 (mb3 (DX19_same fu (M 758 ((32 * a1) + v2).toNatClampNeg) (M 759 ((32 * a1) + v2).toNatClampNeg) M L) (fun r7 M5 L6 => (if r7 = 0 then mlet (v2 + 1) (fun x9 => r2 (x9, M5, L6)) else some (v2, M5, L6)))))))
noncomputable def fX19_findDatum_h2 (fu : Nat) (a1 : Int32) : Nat → (Int32 × mwM × mwL) → Option (Int32 × mwM × mwL) := mloop (fun r2 s => fX19_findDatum_i2 fu a1 r2 s.1 s.2.1 s.2.2)
noncomputable def DX19_findDatum (fu : Nat) (a1 : Int32) (M : mwM) (L : mwL) : Option (Int32 × mwM × mwL) :=
  fX19_findDatum_h2 fu a1 fu (0, M, L)
noncomputable def fX19_state_b36 (fu : Nat) (a1 : Int32) (v2 : Int32) (s0 : Int32) (M : mwM) (L : mwL) : Option (Int32 × mwM × mwL) :=
  some (v2, M, L)
noncomputable def fX19_state_b31 (fu : Nat) (a1 : Int32) (v2 : Int32) (M : mwM) (L : mwL) : Option (Int32 × mwM × mwL) :=
  fX19_state_b36 fu a1 v2 1 M L
noncomputable def DX19_state (fu : Nat) (a1 : Int32) (M : mwM) (L : mwL) : Option (Int32 × mwM × mwL) :=
  mb3 (DX19_must fu M L) (fun r3 M1 L2 => (if r3 = 0 then some ((-1), M1, L2) else mb3 (DX19_findState fu a1 M1 L2) (fun r7 M5 L6 => (if 0 < r7 then fX19_state_b31 fu a1 r7 M5 L6 else mb3 (DX19_fail fu 4 (M5 732 9) M5 L6) (fun r11 M9 L10 => (if r11 = 0 then fX19_state_b36 fu a1 r7 0 M9 L10 else fX19_state_b31 fu a1 r7 M9 L10))))))
noncomputable def fX19_datum_b36 (fu : Nat) (a1 : Int32) (v2 : Int32) (s0 : Int32) (M : mwM) (L : mwL) : Option (Int32 × mwM × mwL) :=
  some (v2, M, L)
noncomputable def fX19_datum_b31 (fu : Nat) (a1 : Int32) (v2 : Int32) (M : mwM) (L : mwL) : Option (Int32 × mwM × mwL) :=
  fX19_datum_b36 fu a1 v2 1 M L
noncomputable def DX19_datum (fu : Nat) (a1 : Int32) (M : mwM) (L : mwL) : Option (Int32 × mwM × mwL) :=
  mb3 (DX19_must fu M L) (fun r3 M1 L2 => (if r3 = 0 then some ((-1), M1, L2) else mb3 (DX19_findDatum fu a1 M1 L2) (fun r7 M5 L6 => (if 0 ≤ r7 then fX19_datum_b31 fu a1 r7 M5 L6 else mb3 (DX19_fail fu 4 (M5 732 9) M5 L6) (fun r11 M9 L10 => (if r11 = 0 then fX19_datum_b36 fu a1 r7 0 M9 L10 else fX19_datum_b31 fu a1 r7 M9 L10))))))
noncomputable def fX19_fits_b33 (fu : Nat) (a1 : Int32) (s0 : Int32) (M : mwM) (L : mwL) : Option (Int32 × mwM × mwL) :=
  mzz s0 (some (s0, M, L))
noncomputable def fX19_fits_b28 (fu : Nat) (a1 : Int32) (M : mwM) (L : mwL) : Option (Int32 × mwM × mwL) :=
  fX19_fits_b33 fu a1 1 M L
noncomputable def fX19_fits_b18 (fu : Nat) (a1 : Int32) (s1 : Int32) (M : mwM) (L : mwL) : Option (Int32 × mwM × mwL) :=
  mb3 (DX19_fail fu s1 (M 732 8) M L) (fun r3 M1 L2 => (if r3 = 0 then fX19_fits_b33 fu a1 0 M1 L2 else fX19_fits_b28 fu a1 M1 L2))
noncomputable def DX19_fits (fu : Nat) (a1 : Int32) (M : mwM) (L : mwL) : Option (Int32 × mwM × mwL) :=
  (if 0 ≤ a1 then fX19_fits_b28 fu a1 M L else (if a1 = ((-4)) then fX19_fits_b18 fu a1 6 M L else fX19_fits_b18 fu a1 7 M L))
noncomputable def DX19_addController (fu : Nat) (M : mwM) (L : mwL) : Option (Int32 × mwM × mwL) :=
  mb3 (DX19_newName fu (M 732 19) 6 M L) (fun r3 M1 L2 => (if r3 = 0 then some (0, M1, L2) else mlet (M1 732 9) (fun x5 => mlet ((M1 732 10) - (M1 732 9)) (fun x6 => mb3 (DX19_end fu M1 L2) (fun r9 M7 L8 => (if r9 = 0 then some (0, M7, L8) else mb2 (DX19_addName fu x5 x6 1 (M7 732 19) M7 L8) (fun M11 L12 => mlet (mset M11 732 19 ((M11 732 19) + 1)) (fun M13 => some (1, M13, L12)))))))))
noncomputable def fX19_addTask_b51 (fu : Nat) (M : mwM) (L : mwL) : Option (Int32 × mwM × mwL) :=
  some (0, M, L)
noncomputable def DX19_addTask (fu : Nat) (M : mwM) (L : mwL) : Option (Int32 × mwM × mwL) :=
  mb3 (DX19_newName fu (M 732 24) 12 M L) (fun r3 M1 L2 => (if r3 = 0 then some (0, M1, L2) else mlet (M1 732 9) (fun x5 => mlet ((M1 732 10) - (M1 732 9)) (fun x6 => mb3 (DX19_named fu 1 M1 L2) (fun r9 M7 L8 => (if r9 < 0 then fX19_addTask_b51 fu M7 L8 else mb3 (DX19_number fu 0 255 M7 L8) (fun r13 M11 L12 => (if r13 = 0 then fX19_addTask_b51 fu M11 L12 else mck (M11 732 24) 12 (mlet (mset M11 743 ((M11 732 24).toNatClampNeg) (M11 732 13)) (fun M16 => mb3 (DX19_number fu 500 20000 M16 L12) (fun r19 M17 L18 => (if r19 = 0 then some (0, M17, L18) else mck (M17 732 24) 12 (mlet (mset M17 744 ((M17 732 24).toNatClampNeg) (M17 732 13)) (fun M22 => mb3 (DX19_number fu 0 ((M22 732 13) - 1) M22 L18) (fun r25 M23 L24 => (if r25 = 0 then some (0, M23, L24) else mck (M23 732 24) 12 (mlet (mset M23 745 ((M23 732 24).toNatClampNeg) (M23 732 13)) (fun M28 => mb3 (DX19_number fu 1 1000 M28 L24) (fun r31 M29 L30 => (if r31 = 0 then some (0, M29, L30) else mck (M29 732 24) 12 (mlet (mset M29 746 ((M29 732 24).toNatClampNeg) (M29 732 13)) (fun M34 => mb3 (DX19_end fu M34 L30) (fun r37 M35 L36 => (if r37 = 0 then some (0, M35, L36) else mck (M35 732 24) 12 (mlet (mset M35 741 ((M35 732 24).toNatClampNeg) x5) (fun M40 => mck (M40 732 24) 12 (mlet (mset M40 742 ((M40 732 24).toNatClampNeg) r9) (fun M42 => mck (M42 732 24) 12 (mlet (mset M42 747 ((M42 732 24).toNatClampNeg) ((-1))) (fun M44 => mck (M44 732 24) 12 (mlet (mset M44 748 ((M44 732 24).toNatClampNeg) 0) (fun M46 => mb2 (DX19_addName fu x5 x6 2 (M46 732 24) M46 L36) (fun M47 L48 => mlet (mset M47 732 24 ((M47 732 24) + 1)) (fun M49 => some (1, M49, L48)))))))))))))))))))))))))))))))))))
noncomputable def fX19_addChart_b56 (fu : Nat) (M : mwM) (L : mwL) : Option (Int32 × mwM × mwL) :=
  some (0, M, L)
noncomputable def DX19_addChart (fu : Nat) (M : mwM) (L : mwL) : Option (Int32 × mwM × mwL) :=
  mb3 (DX19_newName fu (M 732 33) 12 M L) (fun r3 M1 L2 => (if r3 = 0 then some (0, M1, L2) else mlet (M1 732 9) (fun x5 => mlet ((M1 732 10) - (M1 732 9)) (fun x6 => mb3 (DX19_named fu 2 M1 L2) (fun r9 M7 L8 => mlet (M7 732 9) (fun x10 => (if r9 < 0 then fX19_addChart_b56 fu M7 L8 else mb3 (DX19_number fu 0 50 M7 L8) (fun r14 M12 L13 => (if r14 = 0 then fX19_addChart_b56 fu M12 L13 else mlet (M12 732 13) (fun x16 => mb3 (DX19_end fu M12 L13) (fun r19 M17 L18 => (if r19 = 0 then some (0, M17, L18) else mck r9 12 ((if (M17 747 r9.toNatClampNeg) < 0 then mck r9 12 (mlet (mset M17 747 (r9.toNatClampNeg) (M17 732 33)) (fun M24 => mck (M24 732 33) 12 (mlet (mset M24 749 ((M24 732 33).toNatClampNeg) r9) (fun M26 => mck (M26 732 33) 12 (mlet (mset M26 750 ((M26 732 33).toNatClampNeg) 0) (fun M28 => mck (M28 732 33) 12 (mlet (mset M28 751 ((M28 732 33).toNatClampNeg) 0) (fun M30 => mck (M30 732 33) 12 (mlet (mset M30 752 ((M30 732 33).toNatClampNeg) 0) (fun M32 => mck (M32 732 33) 12 (mlet (mset M32 754 ((M32 732 33).toNatClampNeg) 0) (fun M34 => mck (M34 732 33) 12 (mlet (mset M34 757 ((M34 732 33).toNatClampNeg) 0) (fun M36 => mck (M36 732 33) 12 (mb2 (DX13_anew fu ((964 + 53 * (M36 732 33).toNatClampNeg)) x16 M36 L18) (fun M38 L39 => mb2 (DX19_addName fu x5 x6 3 (M38 732 33) M38 L39) (fun M40 L41 => mlet (mset M40 732 33 ((M40 732 33) + 1)) (fun M42 => some (1, M42, L41))))))))))))))))))) else mb3 (DX19_fail fu 7 x10 M17 L18) (fun r45 M43 L44 => mzz r45 (some (r45, M43, L44)))))))))))))))))
noncomputable def fX19_newIn_b18 (fu : Nat) (a1 : Int32) (M : mwM) (L : mwL) : Option (Int32 × mwM × mwL) :=
  mb3 (DX19_fail fu 2 (M 732 9) M L) (fun r3 M1 L2 => mzz r3 (some (r3, M1, L2)))
noncomputable def fX19_newIn_b49 (fu : Nat) (a1 : Int32) (s0 : Int32) (M : mwM) (L : mwL) : Option (Int32 × mwM × mwL) :=
  mzz s0 (some (s0, M, L))
noncomputable def fX19_newIn_b44 (fu : Nat) (a1 : Int32) (M : mwM) (L : mwL) : Option (Int32 × mwM × mwL) :=
  fX19_newIn_b49 fu a1 1 M L
noncomputable def DX19_newIn (fu : Nat) (a1 : Int32) (M : mwM) (L : mwL) : Option (Int32 × mwM × mwL) :=
  mb3 (DX19_isName fu M L) (fun r8 M6 L7 => (if r8 = 0 then fX19_newIn_b18 fu a1 M6 L7 else mb3 (DX19_is fu 7368564 0 M6 L7) (fun r12 M10 L11 => (if r12 = 0 then (if a1 = 0 then fX19_newIn_b44 fu a1 M10 L11 else mb3 (DX19_fail fu 3 (M10 732 9) M10 L11) (fun r17 M15 L16 => (if r17 = 0 then fX19_newIn_b49 fu a1 0 M15 L16 else fX19_newIn_b44 fu a1 M15 L16))) else fX19_newIn_b18 fu a1 M10 L11))))
noncomputable def fX19_kind_b81 (fu : Nat) (s0 : Int32) (M : mwM) (L : mwL) : Option (Int32 × mwM × mwL) :=
  some (s0, M, L)
noncomputable def DX19_kind (fu : Nat) (M : mwM) (L : mwL) : Option (Int32 × mwM × mwL) :=
  mb3 (DX19_is fu 474214394992 0 M L) (fun r3 M1 L2 => (if r3 = 0 then mb3 (DX19_is fu 499984920691 0 M1 L2) (fun r7 M5 L6 => (if r7 = 0 then mb3 (DX19_is fu 34184295202646376 0 M5 L6) (fun r11 M9 L10 => (if r11 = 0 then mb3 (DX19_is fu 1885693284 0 M9 L10) (fun r15 M13 L14 => (if r15 = 0 then mb3 (DX19_is fu 1802661734 0 M13 L14) (fun r19 M17 L18 => (if r19 = 0 then mb3 (DX19_is fu 1852403562 0 M17 L18) (fun r23 M21 L22 => (if r23 = 0 then fX19_kind_b81 fu ((-1)) M21 L22 else fX19_kind_b81 fu 5 M21 L22)) else some (4, M17, L18))) else some (3, M13, L14))) else some (2, M9, L10))) else some (1, M5, L6))) else some (0, M1, L2)))
noncomputable def fX19_addState_b37 (fu : Nat) (M : mwM) (L : mwL) : Option (Int32 × mwM × mwL) :=
  some (0, M, L)
noncomputable def fX19_addState_b87 (fu : Nat) (M : mwM) (L : mwL) : Option (Int32 × mwM × mwL) :=
  some (0, M, L)
noncomputable def fX19_addState_b73 (fu : Nat) (v1 : Int32) (v2 : Int32) (v3 : Int32) (s0 : Int32) (M : mwM) (L : mwL) : Option (Int32 × mwM × mwL) :=
  (if s0 < 0 then fX19_addState_b87 fu M L else mb3 (DX19_must fu M L) (fun r17 M15 L16 => (if r17 = 0 then fX19_addState_b87 fu M15 L16 else mb3 (DX19_kind fu M15 L16) (fun r21 M19 L20 => (if 0 ≤ r21 then mb3 (DX19_end fu M19 L20) (fun r25 M23 L24 => (if r25 = 0 then some (0, M23, L24) else mck v1 12 (mb3 (DX13_state fu ((964 + 53 * v1.toNatClampNeg)) s0 r21 M23 L24) (fun r30 M28 L29 => mb3 (DX19_fits fu r30 M28 L29) (fun r33 M31 L32 => (if r33 = 0 then some (0, M31, L32) else mck v1 12 (mlet (mset M31 754 (v1.toNatClampNeg) r30) (fun M36 => mck ((201 * v1) + r30) 2412 (mlet (mset M36 755 (((201 * v1) + r30).toNatClampNeg) v2) (fun M38 => mck ((201 * v1) + r30) 2412 (mlet (mset M38 756 (((201 * v1) + r30).toNatClampNeg) v3) (fun M40 => some (1, M40, L32))))))))))))) else mb3 (DX19_fail fu 1 (M19 732 9) M19 L20) (fun r43 M41 L42 => mzz r43 (some (r43, M41, L42))))))))
noncomputable def fX19_addState_b31 (fu : Nat) (v1 : Int32) (s1 : Int32) (M : mwM) (L : mwL) : Option (Int32 × mwM × mwL) :=
  mb3 (DX19_newIn fu s1 M L) (fun r3 M1 L2 => (if r3 = 0 then fX19_addState_b37 fu M1 L2 else mlet (M1 732 9) (fun x5 => mlet ((M1 732 10) - (M1 732 9)) (fun x6 => mb3 (DX19_takes fu 7368564 M1 L2) (fun r9 M7 L8 => (if r9 = 0 then mb3 (DX19_state fu v1 M7 L8) (fun r13 M11 L12 => fX19_addState_b73 fu v1 x5 x6 r13 M11 L12) else fX19_addState_b73 fu v1 x5 x6 0 M7 L8))))))
noncomputable def DX19_addState (fu : Nat) (M : mwM) (L : mwL) : Option (Int32 × mwM × mwL) :=
  mb3 (DX19_named fu 3 M L) (fun r47 M45 L46 => (if r47 < 0 then fX19_addState_b37 fu M45 L46 else mb3 (DX19_must fu M45 L46) (fun r51 M49 L50 => (if r51 = 0 then fX19_addState_b37 fu M49 L50 else mb3 (DX19_findState fu r47 M49 L50) (fun r55 M53 L54 => (if r55 ≤ 0 then fX19_addState_b31 fu r47 0 M53 L54 else fX19_addState_b31 fu r47 1 M53 L54))))))
noncomputable def fX19_op_b82 (fu : Nat) (s0 : Int32) (M : mwM) (L : mwL) : Option (Int32 × mwM × mwL) :=
  some (s0, M, L)
noncomputable def DX19_op (fu : Nat) (M : mwM) (L : mwL) : Option (Int32 × mwM × mwL) :=
  mb3 (DX19_is fu 29029 0 M L) (fun r3 M1 L2 => (if r3 = 0 then mb3 (DX19_is fu 25966 0 M1 L2) (fun r7 M5 L6 => (if r7 = 0 then mb3 (DX19_is fu 29804 0 M5 L6) (fun r11 M9 L10 => (if r11 = 0 then mb3 (DX19_is fu 25959 0 M9 L10) (fun r15 M13 L14 => (if r15 = 0 then mb3 (DX19_is fu 7760228 0 M13 L14) (fun r19 M17 L18 => (if r19 = 0 then mb3 (DX19_is fu 6582125 0 M17 L18) (fun r23 M21 L22 => (if r23 = 0 then fX19_op_b82 fu ((-1)) M21 L22 else fX19_op_b82 fu 6 M21 L22)) else some (5, M17, L18))) else some (4, M13, L14))) else some (3, M9, L10))) else some (2, M5, L6))) else some (1, M1, L2)))
noncomputable def fX19_guard_b37 (fu : Nat) (a1 : Int32) (s0 : Int32) (M : mwM) (L : mwL) : Option (Int32 × mwM × mwL) :=
  some (s0, M, L)
noncomputable def fX19_guard_b55 (fu : Nat) (a1 : Int32) (M : mwM) (L : mwL) : Option (Int32 × mwM × mwL) :=
  some ((-1), M, L)
noncomputable def fX19_guard_b83 (fu : Nat) (a1 : Int32) (s0 : Int32) (M : mwM) (L : mwL) : Option (Int32 × mwM × mwL) :=
  some (s0, M, L)
noncomputable def fX19_guard_b143 (fu : Nat) (a1 : Int32) (s0 : Int32) (M : mwM) (L : mwL) : Option (Int32 × mwM × mwL) :=
  some (s0, M, L)
noncomputable def fX19_guard_b177 (fu : Nat) (a1 : Int32) (s0 : Int32) (M : mwM) (L : mwL) : Option (Int32 × mwM × mwL) :=
  some (s0, M, L)
noncomputable def fX19_guard_b160 (fu : Nat) (a1 : Int32) (M : mwM) (L : mwL) : Option (Int32 × mwM × mwL) :=
  mb3 (DX19_fail fu 5 (M 732 9) M L) (fun r3 M1 L2 => (if r3 = 0 then fX19_guard_b177 fu a1 ((-1)) M1 L2 else fX19_guard_b177 fu a1 0 M1 L2))
noncomputable def DX19_guard (fu : Nat) (a1 : Int32) (M : mwM) (L : mwL) : Option (Int32 × mwM × mwL) :=
  mb3 (DX19_next fu M L) (fun r7 M5 L6 => (if r7 = 0 then some (0, M5, L6) else mb3 (DX19_is fu 26217 0 M5 L6) (fun r11 M9 L10 => (if r11 = 0 then mb3 (DX19_fail fu 2 (M9 732 9) M9 L10) (fun r49 M47 L48 => (if r49 = 0 then fX19_guard_b37 fu a1 ((-1)) M47 L48 else fX19_guard_b37 fu a1 0 M47 L48)) else mb3 (DX19_datum fu a1 M9 L10) (fun r15 M13 L14 => (if r15 < 0 then fX19_guard_b55 fu a1 M13 L14 else mb3 (DX19_must fu M13 L14) (fun r19 M17 L18 => (if r19 = 0 then fX19_guard_b55 fu a1 M17 L18 else mb3 (DX19_op fu M17 L18) (fun r23 M21 L22 => (if 0 ≤ r23 then mb3 (DX19_must fu M21 L22) (fun r27 M25 L26 => (if r27 = 0 then some ((-1), M25, L26) else mb3 (DX19_findDatum fu a1 M25 L26) (fun r31 M29 L30 => (if r31 < 0 then mb3 (DX19_isNumber fu M29 L30) (fun r35 M33 L34 => (if r35 = 0 then mb3 (DX19_fail fu 4 (M33 732 9) M33 L34) (fun r41 M39 L40 => (if r41 = 0 then fX19_guard_b143 fu a1 ((-1)) M39 L40 else fX19_guard_b143 fu a1 0 M39 L40)) else (if (M33 732 13) < 0 then fX19_guard_b160 fu a1 M33 L34 else (if (M33 732 13) ≤ 31 then some (((8192 + (256 * (M33 732 13))) + (8 * r15)) + r23, M33, L34) else fX19_guard_b160 fu a1 M33 L34)))) else some (((256 * r31) + (8 * r15)) + r23, M29, L30))))) else mb3 (DX19_fail fu 1 (M21 732 9) M21 L22) (fun r45 M43 L44 => (if r45 = 0 then fX19_guard_b83 fu a1 ((-1)) M43 L44 else fX19_guard_b83 fu a1 0 M43 L44))))))))))))
noncomputable def fX19_addEdge_b94 (fu : Nat) (M : mwM) (L : mwL) : Option (Int32 × mwM × mwL) :=
  some (0, M, L)
noncomputable def fX19_addEdge_b75 (fu : Nat) (v1 : Int32) (v2 : Int32) (v3 : Int32) (v4 : Int32) (M : mwM) (L : mwL) : Option (Int32 × mwM × mwL) :=
  mb3 (DX19_guard fu v1 M L) (fun r18 M16 L17 => (if r18 < 0 then fX19_addEdge_b94 fu M16 L17 else mb3 (DX19_end fu M16 L17) (fun r22 M20 L21 => (if r22 = 0 then fX19_addEdge_b94 fu M20 L21 else mck v1 12 (mb3 (DX13_edge fu ((964 + 53 * v1.toNatClampNeg)) v2 v3 v4 r18 M20 L21) (fun r27 M25 L26 => mb3 (DX19_fits fu r27 M25 L26) (fun r30 M28 L29 => (if r30 = 0 then some (0, M28, L29) else mck v1 12 (mlet (mset M28 750 (v1.toNatClampNeg) r27) (fun M33 => some (1, M33, L29)))))))))))
noncomputable def fX19_addEdge_b33 (fu : Nat) (v1 : Int32) (v2 : Int32) (s0 : Int32) (M : mwM) (L : mwL) : Option (Int32 × mwM × mwL) :=
  (if 0 ≤ s0 then mlet (1000 + v2) (fun x6 => mb3 (DX19_takes fu 1701669236 M L) (fun r9 M7 L8 => (if r9 = 0 then mb3 (DX19_number fu 0 99 M7 L8) (fun r13 M11 L12 => (if r13 = 0 then some (0, M11, L12) else mlet (M11 732 13) (fun x15 => fX19_addEdge_b75 fu v1 v2 s0 x15 M11 L12))) else fX19_addEdge_b75 fu v1 v2 s0 x6 M7 L8))) else some (0, M, L))
noncomputable def fX19_addEdge_b19 (fu : Nat) (v1 : Int32) (s0 : Int32) (M : mwM) (L : mwL) : Option (Int32 × mwM × mwL) :=
  (if 0 ≤ s0 then mb3 (DX19_state fu v1 M L) (fun r4 M2 L3 => fX19_addEdge_b33 fu v1 s0 r4 M2 L3) else fX19_addEdge_b33 fu v1 s0 ((-1)) M L)
noncomputable def DX19_addEdge (fu : Nat) (M : mwM) (L : mwL) : Option (Int32 × mwM × mwL) :=
  mb3 (DX19_named fu 3 M L) (fun r36 M34 L35 => (if 0 ≤ r36 then mb3 (DX19_state fu r36 M34 L35) (fun r40 M38 L39 => fX19_addEdge_b19 fu r36 r40 M38 L39) else fX19_addEdge_b19 fu r36 ((-1)) M34 L35))
noncomputable def fX19_addAfter_b42 (fu : Nat) (M : mwM) (L : mwL) : Option (Int32 × mwM × mwL) :=
  some (0, M, L)
noncomputable def fX19_addAfter_b19 (fu : Nat) (v1 : Int32) (s0 : Int32) (M : mwM) (L : mwL) : Option (Int32 × mwM × mwL) :=
  (if s0 < 0 then fX19_addAfter_b42 fu M L else mb3 (DX19_number fu 1 20000 M L) (fun r4 M2 L3 => (if r4 = 0 then fX19_addAfter_b42 fu M2 L3 else mb3 (DX19_end fu M2 L3) (fun r8 M6 L7 => (if r8 = 0 then fX19_addAfter_b42 fu M6 L7 else mck v1 12 (mb3 (DX13_after fu ((964 + 53 * v1.toNatClampNeg)) s0 ((M6 732 13).toInt64) M6 L7) (fun r13 M11 L12 => mb3 (DX19_fits fu r13 M11 L12) (fun r16 M14 L15 => mzz r16 (some (r16, M14, L15))))))))))
noncomputable def DX19_addAfter (fu : Nat) (M : mwM) (L : mwL) : Option (Int32 × mwM × mwL) :=
  mb3 (DX19_named fu 3 M L) (fun r20 M18 L19 => (if 0 ≤ r20 then mb3 (DX19_state fu r20 M18 L19) (fun r24 M22 L23 => fX19_addAfter_b19 fu r20 r24 M22 L23) else fX19_addAfter_b19 fu r20 ((-1)) M18 L19))
noncomputable def fX19_addDatum_b37 (fu : Nat) (M : mwM) (L : mwL) : Option (Int32 × mwM × mwL) :=
  some (0, M, L)
noncomputable def fX19_addDatum_b31 (fu : Nat) (v1 : Int32) (s1 : Int32) (M : mwM) (L : mwL) : Option (Int32 × mwM × mwL) :=
  mb3 (DX19_newIn fu s1 M L) (fun r3 M1 L2 => (if r3 = 0 then fX19_addDatum_b37 fu M1 L2 else mlet (M1 732 9) (fun x5 => mlet ((M1 732 10) - (M1 732 9)) (fun x6 => mb3 (DX19_number fu ((-999999999)) 999999999 M1 L2) (fun r9 M7 L8 => (if r9 = 0 then some (0, M7, L8) else mlet (M7 732 13) (fun x11 => mb3 (DX19_end fu M7 L8) (fun r14 M12 L13 => (if r14 = 0 then some (0, M12, L13) else mck v1 12 ((if (M12 757 v1.toNatClampNeg) = 32 then mb3 (DX19_fail fu 6 (M12 732 8) M12 L13) (fun r33 M31 L32 => mzz r33 (some (r33, M31, L32))) else mck v1 12 (mb3 (DX13_data fu ((964 + 53 * v1.toNatClampNeg)) x11.toInt64 M12 L13) (fun r21 M19 L20 => mck v1 12 (mck ((32 * v1) + (M19 757 v1.toNatClampNeg)) 384 (mlet (mset M19 758 (((32 * v1) + (M19 757 v1.toNatClampNeg)).toNatClampNeg) x5) (fun M24 => mck v1 12 (mck ((32 * v1) + (M24 757 v1.toNatClampNeg)) 384 (mlet (mset M24 759 (((32 * v1) + (M24 757 v1.toNatClampNeg)).toNatClampNeg) x6) (fun M27 => mck v1 12 (mck v1 12 (mlet (mset M27 757 (v1.toNatClampNeg) ((M27 757 v1.toNatClampNeg) + 1)) (fun M30 => some (1, M30, L20)))))))))))))))))))))))
noncomputable def DX19_addDatum (fu : Nat) (M : mwM) (L : mwL) : Option (Int32 × mwM × mwL) :=
  mb3 (DX19_named fu 3 M L) (fun r37 M35 L36 => (if r37 < 0 then fX19_addDatum_b37 fu M35 L36 else mb3 (DX19_must fu M35 L36) (fun r41 M39 L40 => (if r41 = 0 then fX19_addDatum_b37 fu M39 L40 else mb3 (DX19_findDatum fu r37 M39 L40) (fun r45 M43 L44 => (if r45 < 0 then fX19_addDatum_b31 fu r37 0 M43 L44 else fX19_addDatum_b31 fu r37 1 M43 L44))))))
noncomputable def fX19_addAct_b67 (fu : Nat) (a1 : Int32) (M : mwM) (L : mwL) : Option (Int32 × mwM × mwL) :=
  some (0, M, L)
noncomputable def fX19_addAct_b130 (fu : Nat) (a1 : Int32) (s0 : Int32) (M : mwM) (L : mwL) : Option (Int32 × mwM × mwL) :=
  mzz s0 (some (s0, M, L))
noncomputable def fX19_addAct_b129 (fu : Nat) (a1 : Int32) (M : mwM) (L : mwL) : Option (Int32 × mwM × mwL) :=
  fX19_addAct_b130 fu a1 0 M L
noncomputable def fX19_addAct_b111 (fu : Nat) (a1 : Int32) (v4 : Int32) (v5 : Int32) (s1 : Nat) (s2 : Int32) (s3 : Int32) (M : mwM) (L : mwL) : Option (Int32 × mwM × mwL) :=
  mb3 (DX13_act fu s1 s2 s3 v4 v5.toInt64 M L) (fun r22 M20 L21 => mb3 (DX19_fits fu r22 M20 L21) (fun r25 M23 L24 => (if r25 = 0 then fX19_addAct_b129 fu a1 M23 L24 else fX19_addAct_b130 fu a1 1 M23 L24)))
noncomputable def fX19_addAct_b47 (fu : Nat) (a1 : Int32) (v2 : Int32) (v3 : Int32) (s0 : Int32) (M : mwM) (L : mwL) : Option (Int32 × mwM × mwL) :=
  (if s0 < 0 then fX19_addAct_b67 fu a1 M L else mb3 (DX19_number fu ((-999999999)) 999999999 M L) (fun r8 M6 L7 => (if r8 = 0 then fX19_addAct_b67 fu a1 M6 L7 else mlet (M6 732 13) (fun x10 => mb3 (DX19_takes fu 1701998445 M6 L7) (fun r13 M11 L12 => mb3 (DX19_end fu M11 L12) (fun r16 M14 L15 => (if r16 = 0 then fX19_addAct_b129 fu a1 M14 L15 else mck v2 12 ((if r13 = 0 then fX19_addAct_b111 fu a1 s0 x10 (((964 + 53 * v2.toNatClampNeg) + 0)) v3 a1 M14 L15 else fX19_addAct_b111 fu a1 s0 x10 (((964 + 53 * v2.toNatClampNeg) + 0)) v3 (a1 + 3) M14 L15)))))))))
noncomputable def fX19_addAct_b33 (fu : Nat) (a1 : Int32) (v2 : Int32) (s0 : Int32) (M : mwM) (L : mwL) : Option (Int32 × mwM × mwL) :=
  (if 0 ≤ s0 then mb3 (DX19_datum fu v2 M L) (fun r4 M2 L3 => fX19_addAct_b47 fu a1 v2 s0 r4 M2 L3) else fX19_addAct_b47 fu a1 v2 s0 ((-1)) M L)
noncomputable def DX19_addAct (fu : Nat) (a1 : Int32) (M : mwM) (L : mwL) : Option (Int32 × mwM × mwL) :=
  mb3 (DX19_named fu 3 M L) (fun r30 M28 L29 => (if 0 ≤ r30 then (if a1 = 2 then mck r30 12 (fX19_addAct_b33 fu a1 r30 (M28 750 r30.toNatClampNeg) M28 L29) else mb3 (DX19_state fu r30 M28 L29) (fun r35 M33 L34 => fX19_addAct_b33 fu a1 r30 r35 M33 L34)) else fX19_addAct_b33 fu a1 r30 ((-1)) M28 L29))
noncomputable def fX19_addSignal_b94 (fu : Nat) (M : mwM) (L : mwL) : Option (Int32 × mwM × mwL) :=
  some (0, M, L)
noncomputable def fX19_addSignal_b74 (fu : Nat) (v1 : Int32) (v2 : Int32) (v3 : Int32) (s0 : Int32) (M : mwM) (L : mwL) : Option (Int32 × mwM × mwL) :=
  (if s0 < 0 then fX19_addSignal_b94 fu M L else mb3 (DX19_number fu 500 20000 M L) (fun r4 M2 L3 => (if r4 = 0 then fX19_addSignal_b94 fu M2 L3 else mck (M2 732 45) 40 (mlet (mset M2 764 ((M2 732 45).toNatClampNeg) (M2 732 13)) (fun M7 => mb3 (DX19_takes fu 110386807469428 M7 L3) (fun r10 M8 L9 => mck (M7 732 45) 40 (mlet (mset M8 765 ((M7 732 45).toNatClampNeg) (vp_nar .boolean r10)) (fun M12 => mb3 (DX19_end fu M12 L9) (fun r15 M13 L14 => (if r15 = 0 then some (0, M13, L14) else mck (M13 732 45) 40 (mlet (mset M13 760 ((M13 732 45).toNatClampNeg) v1) (fun M18 => mck (M18 732 45) 40 (mlet (mset M18 762 ((M18 732 45).toNatClampNeg) v3) (fun M20 => mck (M20 732 45) 40 (mlet (mset M20 763 ((M20 732 45).toNatClampNeg) s0) (fun M22 => mb2 (DX19_addName fu v1 v2 4 (M22 732 45) M22 L14) (fun M23 L24 => mlet (mset M23 732 45 ((M23 732 45) + 1)) (fun M25 => some (1, M25, L24)))))))))))))))))))
noncomputable def DX19_addSignal (fu : Nat) (M : mwM) (L : mwL) : Option (Int32 × mwM × mwL) :=
  mb3 (DX19_newName fu (M 732 45) 40 M L) (fun r28 M26 L27 => (if r28 = 0 then some (0, M26, L27) else mlet (M26 732 9) (fun x30 => mlet ((M26 732 10) - (M26 732 9)) (fun x31 => mb3 (DX19_number fu 1 64 M26 L27) (fun r34 M32 L33 => (if r34 = 0 then some (0, M32, L33) else mck (M32 732 45) 40 (mlet (mset M32 761 ((M32 732 45).toNatClampNeg) (M32 732 13)) (fun M37 => mb3 (DX19_named fu 3 M37 L33) (fun r40 M38 L39 => (if 0 ≤ r40 then mb3 (DX19_datum fu r40 M38 L39) (fun r44 M42 L43 => fX19_addSignal_b74 fu x30 x31 r40 r44 M42 L43) else fX19_addSignal_b74 fu x30 x31 r40 ((-1)) M38 L39))))))))))
noncomputable def fX19_keyOf_b37 (fu : Nat) (a1 : Int32) (a2 : Int32) (r2 : (Int32 × mwM × mwL) → Option (Int32 × mwM × mwL)) (v3 : Int32) (M : mwM) (L : mwL) : Option (Int32 × mwM × mwL) :=
  mlet (v3 + 1) (fun x7 => r2 (x7, M, L))
noncomputable def fX19_keyOf_i2 (fu : Nat) (a1 : Int32) (a2 : Int32) (r2 : (Int32 × mwM × mwL) → Option (Int32 × mwM × mwL)) (v3 : Int32) (M : mwM) (L : mwL) : Option (Int32 × mwM × mwL) :=
  (if (M 732 20) ≤ v3 then some (0, M, L) else mck v3 600 ((if (M 738 v3.toNatClampNeg) = a1 then mck v3 600 ((if (M 739 v3.toNatClampNeg) = a2 then mck v3 600 (some (M 740 v3.toNatClampNeg, M, L)) else fX19_keyOf_b37 fu a1 a2 r2 v3 M L)) else fX19_keyOf_b37 fu a1 a2 r2 v3 M L)))
noncomputable def fX19_keyOf_h2 (fu : Nat) (a1 : Int32) (a2 : Int32) : Nat → (Int32 × mwM × mwL) → Option (Int32 × mwM × mwL) := mloop (fun r2 s => fX19_keyOf_i2 fu a1 a2 r2 s.1 s.2.1 s.2.2)
noncomputable def DX19_keyOf (fu : Nat) (a1 : Int32) (a2 : Int32) (M : mwM) (L : mwL) : Option (Int32 × mwM × mwL) :=
  fX19_keyOf_h2 fu a1 a2 fu (0, M, L)
noncomputable def fX19_addKey_b23 (fu : Nat) (M : mwM) (L : mwL) : Option (Int32 × mwM × mwL) :=
  some (0, M, L)
noncomputable def fX19_addKey_b52 (fu : Nat) (M : mwM) (L : mwL) : Option (Int32 × mwM × mwL) :=
  some (0, M, L)
noncomputable def DX19_addKey (fu : Nat) (M : mwM) (L : mwL) : Option (Int32 × mwM × mwL) :=
  mb3 (DX19_named fu 1 M L) (fun r3 M1 L2 => (if r3 < 0 then fX19_addKey_b23 fu M1 L2 else mb3 (DX19_number fu 500 20000 M1 L2) (fun r7 M5 L6 => (if r7 = 0 then fX19_addKey_b23 fu M5 L6 else mlet (M5 732 13) (fun x9 => mlet (M5 732 9) (fun x10 => mb3 (DX19_number fu 1 16 M5 L6) (fun r13 M11 L12 => (if r13 = 0 then fX19_addKey_b52 fu M11 L12 else mb3 (DX19_end fu M11 L12) (fun r17 M15 L16 => (if r17 = 0 then fX19_addKey_b52 fu M15 L16 else mb3 (DX19_keyOf fu r3 x9 M15 L16) (fun r21 M19 L20 => (if r21 ≤ 0 then mck (M19 732 20) 600 (mlet (mset M19 738 ((M19 732 20).toNatClampNeg) r3) (fun M24 => mck (M24 732 20) 600 (mlet (mset M24 739 ((M24 732 20).toNatClampNeg) x9) (fun M26 => mck (M26 732 20) 600 (mlet (mset M26 740 ((M26 732 20).toNatClampNeg) (M26 732 13)) (fun M28 => mlet (mset M28 732 20 ((M28 732 20) + 1)) (fun M29 => some (1, M29, L20)))))))) else mb3 (DX19_fail fu 3 x10 M19 L20) (fun r32 M30 L31 => mzz r32 (some (r32, M30, L31)))))))))))))))
noncomputable def DX19_senderOf (fu : Nat) (a1 : Int32) (M : mwM) (L : mwL) : Option (Int32 × mwM × mwL) :=
  mck a1 40 (mck (M 762 a1.toNatClampNeg) 12 (mck (M 749 (M 762 a1.toNatClampNeg).toNatClampNeg) 12 (some (M 742 (M 749 (M 762 a1.toNatClampNeg).toNatClampNeg).toNatClampNeg, M, L))))
noncomputable def fX19_addRead_b55 (fu : Nat) (M : mwM) (L : mwL) : Option (Int32 × mwM × mwL) :=
  some (0, M, L)
noncomputable def fX19_addRead_b33 (fu : Nat) (v1 : Int32) (v2 : Int32) (s0 : Int32) (M : mwM) (L : mwL) : Option (Int32 × mwM × mwL) :=
  (if s0 < 0 then fX19_addRead_b55 fu M L else mb3 (DX19_number fu 0 99 M L) (fun r8 M6 L7 => (if r8 = 0 then fX19_addRead_b55 fu M6 L7 else mb3 (DX19_end fu M6 L7) (fun r12 M10 L11 => (if r12 = 0 then fX19_addRead_b55 fu M10 L11 else mck v2 12 (mck (M10 749 v2.toNatClampNeg) 12 (mb3 (DX19_senderOf fu v1 M10 L11) (fun r18 M16 L17 => (if (M10 742 (M10 749 v2.toNatClampNeg).toNatClampNeg) = r18 then mb3 (DX19_fail fu 7 (M16 732 8) M16 L17) (fun r38 M36 L37 => mzz r38 (some (r38, M36, L37))) else (if (M16 732 55) = 60 then mb3 (DX19_fail fu 6 (M16 732 8) M16 L17) (fun r34 M32 L33 => mzz r34 (some (r34, M32, L33))) else mck (M16 732 55) 60 (mlet (mset M16 769 ((M16 732 55).toNatClampNeg) v1) (fun M22 => mck (M22 732 55) 60 (mlet (mset M22 770 ((M22 732 55).toNatClampNeg) v2) (fun M24 => mck (M24 732 55) 60 (mlet (mset M24 771 ((M24 732 55).toNatClampNeg) s0) (fun M26 => mck (M26 732 55) 60 (mlet (mset M26 772 ((M26 732 55).toNatClampNeg) (M26 732 13)) (fun M28 => mck (M28 732 55) 60 (mlet (mset M28 773 ((M28 732 55).toNatClampNeg) (vp_nar .boolean 0)) (fun M30 => mlet (mset M30 732 55 ((M30 732 55) + 1)) (fun M31 => some (1, M31, L17))))))))))))))))))))))
noncomputable def fX19_addRead_b19 (fu : Nat) (v1 : Int32) (s0 : Int32) (M : mwM) (L : mwL) : Option (Int32 × mwM × mwL) :=
  (if 0 ≤ s0 then mb3 (DX19_datum fu s0 M L) (fun r4 M2 L3 => fX19_addRead_b33 fu v1 s0 r4 M2 L3) else fX19_addRead_b33 fu v1 s0 ((-1)) M L)
noncomputable def DX19_addRead (fu : Nat) (M : mwM) (L : mwL) : Option (Int32 × mwM × mwL) :=
  mb3 (DX19_named fu 4 M L) (fun r42 M40 L41 => (if 0 ≤ r42 then mb3 (DX19_named fu 3 M40 L41) (fun r46 M44 L45 => fX19_addRead_b19 fu r42 r46 M44 L45) else fX19_addRead_b19 fu r42 ((-1)) M40 L41))
noncomputable def fX19_addWatch_b42 (fu : Nat) (M : mwM) (L : mwL) : Option (Int32 × mwM × mwL) :=
  some (0, M, L)
noncomputable def fX19_addWatch_b19 (fu : Nat) (v1 : Int32) (s0 : Int32) (M : mwM) (L : mwL) : Option (Int32 × mwM × mwL) :=
  (if s0 < 0 then fX19_addWatch_b42 fu M L else mb3 (DX19_number fu 1 255 M L) (fun r4 M2 L3 => (if r4 = 0 then fX19_addWatch_b42 fu M2 L3 else mb3 (DX19_end fu M2 L3) (fun r8 M6 L7 => (if r8 = 0 then fX19_addWatch_b42 fu M6 L7 else mb3 (DX19_senderOf fu v1 M6 L7) (fun r12 M10 L11 => (if s0 = r12 then mb3 (DX19_fail fu 7 (M10 732 8) M10 L11) (fun r33 M31 L32 => mzz r33 (some (r33, M31, L32))) else (if (M10 732 62) = 30 then mb3 (DX19_fail fu 6 (M10 732 8) M10 L11) (fun r29 M27 L28 => mzz r29 (some (r29, M27, L28))) else mck (M10 732 62) 30 (mlet (mset M10 775 ((M10 732 62).toNatClampNeg) v1) (fun M16 => mck (M16 732 62) 30 (mlet (mset M16 776 ((M16 732 62).toNatClampNeg) s0) (fun M18 => mb3 (DX18_code fu (M18 732 13) 64 127 M18 L11) (fun r21 M19 L20 => mck (M18 732 62) 30 (mlet (mset M19 777 ((M18 732 62).toNatClampNeg) r21) (fun M23 => mck (M23 732 62) 30 (mlet (mset L20 778 ((M23 732 62).toNatClampNeg) 0) (fun L25 => mlet (mset M23 732 62 ((M23 732 62) + 1)) (fun M26 => some (1, M26, L25)))))))))))))))))))
noncomputable def DX19_addWatch (fu : Nat) (M : mwM) (L : mwL) : Option (Int32 × mwM × mwL) :=
  mb3 (DX19_named fu 4 M L) (fun r37 M35 L36 => (if 0 ≤ r37 then mb3 (DX19_named fu 1 M35 L36) (fun r41 M39 L40 => fX19_addWatch_b19 fu r37 r41 M39 L40) else fX19_addWatch_b19 fu r37 ((-1)) M35 L36))
noncomputable def DX19_line (fu : Nat) (M : mwM) (L : mwL) : Option (Int32 × mwM × mwL) :=
  mlet (mset M 732 8 (M 732 9)) (fun M1 => mb3 (DX19_is fu 7812741990951317347 29285 M1 L) (fun r4 M2 L3 => (if r4 = 0 then mb3 (DX19_is fu 1802723700 0 M2 L3) (fun r8 M6 L7 => (if r8 = 0 then mb3 (DX19_is fu 500135192675 0 M6 L7) (fun r12 M10 L11 => (if r12 = 0 then mb3 (DX19_is fu 435744240755 0 M10 L11) (fun r16 M14 L15 => (if r16 = 0 then mb3 (DX19_is fu 1701274725 0 M14 L15) (fun r20 M18 L19 => (if r20 = 0 then mb3 (DX19_is fu 491328398945 0 M18 L19) (fun r24 M22 L23 => (if r24 = 0 then mb3 (DX19_is fu 470121996644 0 M22 L23) (fun r28 M26 L27 => (if r28 = 0 then mb3 (DX19_is fu 491328400997 0 M26 L27) (fun r32 M30 L31 => (if r32 = 0 then mb3 (DX19_is fu 435777791340 0 M30 L31) (fun r36 M34 L35 => (if r36 = 0 then mb3 (DX19_is fu 1701536116 0 M34 L35) (fun r40 M38 L39 => (if r40 = 0 then mb3 (DX19_is fu 119165719898483 0 M38 L39) (fun r44 M42 L43 => (if r44 = 0 then mb3 (DX19_is fu 32760384694743664 0 M42 L43) (fun r48 M46 L47 => (if r48 = 0 then mb3 (DX19_is fu 1684104562 0 M46 L47) (fun r52 M50 L51 => (if r52 = 0 then mb3 (DX19_is fu 448345170295 0 M50 L51) (fun r56 M54 L55 => (if r56 = 0 then mb3 (DX19_fail fu 1 (M54 732 9) M54 L55) (fun r60 M58 L59 => mzz r60 (some (r60, M58, L59))) else mb3 (DX19_addWatch fu M54 L55) (fun r64 M62 L63 => mzz r64 (some (r64, M62, L63))))) else mb3 (DX19_addRead fu M50 L51) (fun r68 M66 L67 => mzz r68 (some (r68, M66, L67))))) else mb3 (DX19_addKey fu M46 L47) (fun r72 M70 L71 => mzz r72 (some (r72, M70, L71))))) else mb3 (DX19_addSignal fu M42 L43) (fun r76 M74 L75 => mzz r76 (some (r76, M74, L75))))) else mb3 (DX19_addAct fu 2 M38 L39) (fun r80 M78 L79 => mzz r80 (some (r80, M78, L79))))) else mb3 (DX19_addAct fu 1 M34 L35) (fun r84 M82 L83 => mzz r84 (some (r84, M82, L83))))) else mb3 (DX19_addAct fu 0 M30 L31) (fun r88 M86 L87 => mzz r88 (some (r88, M86, L87))))) else mb3 (DX19_addDatum fu M26 L27) (fun r92 M90 L91 => mzz r92 (some (r92, M90, L91))))) else mb3 (DX19_addAfter fu M22 L23) (fun r96 M94 L95 => mzz r96 (some (r96, M94, L95))))) else mb3 (DX19_addEdge fu M18 L19) (fun r100 M98 L99 => mzz r100 (some (r100, M98, L99))))) else mb3 (DX19_addState fu M14 L15) (fun r104 M102 L103 => mzz r104 (some (r104, M102, L103))))) else mb3 (DX19_addChart fu M10 L11) (fun r108 M106 L107 => mzz r108 (some (r108, M106, L107))))) else mb3 (DX19_addTask fu M6 L7) (fun r112 M110 L111 => mzz r112 (some (r112, M110, L111))))) else mb3 (DX19_addController fu M2 L3) (fun r116 M114 L115 => mzz r116 (some (r116, M114, L115))))))
noncomputable def fX19_packOne_b371 (fu : Nat) (a1 : Int32) (a2 : Int32) (a3 : Int32) (r181 : (Int32 × Int32 × mwM × mwL) → Option (Int32 × mwM × mwL)) (r232 : (Int32 × Int32 × Int32 × mwM × mwL) → Option (Int32 × mwM × mwL)) (v5 : Int32) (v6 : Int32) (v7 : Int32) (M : mwM) (L : mwL) : Option (Int32 × mwM × mwL) :=
  mlet (v7 + 1) (fun x88 => r232 (v5, v6, x88, M, L))
noncomputable def fX19_packOne_b280 (fu : Nat) (a1 : Int32) (a2 : Int32) (a3 : Int32) (r181 : (Int32 × Int32 × mwM × mwL) → Option (Int32 × mwM × mwL)) (r232 : (Int32 × Int32 × Int32 × mwM × mwL) → Option (Int32 × mwM × mwL)) (v5 : Int32) (v6 : Int32) (v7 : Int32) (v8 : Int32) (s0 : Int32) (M : mwM) (L : mwL) : Option (Int32 × mwM × mwL) :=
  (if s0 = a2 then mck a3 12 (mck v7 40 (mb3 (DX16_place fu ((941 + 53 * a3.toNatClampNeg)) (M 766 v7.toNatClampNeg) 0 M L) (fun r72 M70 L71 => (if r72 = v6 then mck v7 40 (mck (M70 732 67) 40 (mlet (mset M70 782 ((M70 732 67).toNatClampNeg) (M70 764 v7.toNatClampNeg)) (fun M76 => mck (M76 732 67) 40 (mlet (mset M76 783 ((M76 732 67).toNatClampNeg) v8) (fun M78 => mck v7 40 (mlet (mset M78 767 (v7.toNatClampNeg) (M78 732 67)) (fun M80 => mck a3 12 (mck v7 40 (mb3 (DX16_place fu ((941 + 53 * a3.toNatClampNeg)) (M80 766 v7.toNatClampNeg) 1 M80 L71) (fun r85 M83 L84 => mck v7 40 (mlet (mset M83 768 (v7.toNatClampNeg) r85) (fun M87 => fX19_packOne_b371 fu a1 a2 a3 r181 r232 v5 v6 v7 M87 L84)))))))))))) else fX19_packOne_b371 fu a1 a2 a3 r181 r232 v5 v6 v7 M70 L71)))) else fX19_packOne_b371 fu a1 a2 a3 r181 r232 v5 v6 v7 M L)
noncomputable def fX19_packOne_i232 (fu : Nat) (a1 : Int32) (a2 : Int32) (a3 : Int32) (r181 : (Int32 × Int32 × mwM × mwL) → Option (Int32 × mwM × mwL)) (r232 : (Int32 × Int32 × Int32 × mwM × mwL) → Option (Int32 × mwM × mwL)) (v5 : Int32) (v6 : Int32) (v7 : Int32) (M : mwM) (L : mwL) : Option (Int32 × mwM × mwL) :=
  (if (M 732 45) ≤ v7 then mlet (mset M 732 67 ((M 732 67) + 1)) (fun M53 => mlet (v6 + 1) (fun x54 => r181 (v5, x54, M53, L))) else mb3 (DX19_senderOf fu v7 M L) (fun r57 M55 L56 => mck v7 40 (mb3 (DX19_keyOf fu r57 (M55 764 v7.toNatClampNeg) M55 L56) (fun r61 M59 L60 => mb3 (DX19_senderOf fu v7 M59 L60) (fun r64 M62 L63 => (if r64 = a1 then (if r61 ≤ 0 then fX19_packOne_b280 fu a1 a2 a3 r181 r232 v5 v6 v7 r61 0 M62 L63 else fX19_packOne_b280 fu a1 a2 a3 r181 r232 v5 v6 v7 r61 1 M62 L63) else fX19_packOne_b371 fu a1 a2 a3 r181 r232 v5 v6 v7 M62 L63))))))
noncomputable def fX19_packOne_h232 (fu : Nat) (a1 : Int32) (a2 : Int32) (a3 : Int32) (r181 : (Int32 × Int32 × mwM × mwL) → Option (Int32 × mwM × mwL)) : Nat → (Int32 × Int32 × Int32 × mwM × mwL) → Option (Int32 × mwM × mwL) := mloop (fun r232 s => fX19_packOne_i232 fu a1 a2 a3 r181 r232 s.1 s.2.1 s.2.2.1 s.2.2.2.1 s.2.2.2.2)
noncomputable def fX19_packOne_i181 (fu : Nat) (a1 : Int32) (a2 : Int32) (a3 : Int32) (r181 : (Int32 × Int32 × mwM × mwL) → Option (Int32 × mwM × mwL)) (v5 : Int32) (v6 : Int32) (M : mwM) (L : mwL) : Option (Int32 × mwM × mwL) :=
  (if v5 < v6 then some (1, M, L) else mck (M 732 67) 40 (mlet (mset M 779 ((M 732 67).toNatClampNeg) a1) (fun M45 => mck (M45 732 67) 40 (mlet (mset M45 780 ((M45 732 67).toNatClampNeg) a3) (fun M47 => mck (M47 732 67) 40 (mlet (mset M47 781 ((M47 732 67).toNatClampNeg) v6) (fun M49 => mck (M49 732 67) 40 (mlet (mset M49 785 ((M49 732 67).toNatClampNeg) 0) (fun M51 => fX19_packOne_h232 fu a1 a2 a3 r181 fu (v5, v6, 0, M51, L))))))))))
noncomputable def fX19_packOne_h181 (fu : Nat) (a1 : Int32) (a2 : Int32) (a3 : Int32) : Nat → (Int32 × Int32 × mwM × mwL) → Option (Int32 × mwM × mwL) := mloop (fun r181 s => fX19_packOne_i181 fu a1 a2 a3 r181 s.1 s.2.1 s.2.2.1 s.2.2.2)
noncomputable def fX19_packOne_b176 (fu : Nat) (a1 : Int32) (a2 : Int32) (a3 : Int32) (s0 : Int32) (M : mwM) (L : mwL) : Option (Int32 × mwM × mwL) :=
  fX19_packOne_h181 fu a1 a2 a3 fu (s0, 1, M, L)
noncomputable def fX19_packOne_b149 (fu : Nat) (a1 : Int32) (a2 : Int32) (a3 : Int32) (r6 : (Int32 × Int32 × mwM × mwL) → Option (Int32 × mwM × mwL)) (v4 : Int32) (v5 : Int32) (M : mwM) (L : mwL) : Option (Int32 × mwM × mwL) :=
  mlet (v5 + 1) (fun x42 => r6 (v4, x42, M, L))
noncomputable def fX19_packOne_b85 (fu : Nat) (a1 : Int32) (a2 : Int32) (a3 : Int32) (r6 : (Int32 × Int32 × mwM × mwL) → Option (Int32 × mwM × mwL)) (v5 : Int32) (M : mwM) (L : mwL) : Option (Int32 × mwM × mwL) :=
  mck a3 12 (mck v5 40 (mck v5 40 (mck v5 40 (mb3 (DX16_signal fu ((941 + 53 * a3.toNatClampNeg)) (M 761 v5.toNatClampNeg) (M 764 v5.toNatClampNeg) (M 765 v5.toNatClampNeg) M L) (fun r32 M30 L31 => mck v5 40 (mlet (mset M30 766 (v5.toNatClampNeg) r32) (fun M34 => mck v5 40 ((if (M34 766 v5.toNatClampNeg) = 0 then mck v5 40 (mb3 (DX19_fail fu 8 (M34 760 v5.toNatClampNeg) M34 L31) (fun r40 M38 L39 => mzz r40 (some (r40, M38, L39)))) else fX19_packOne_b149 fu a1 a2 a3 r6 1 v5 M34 L31)))))))))
noncomputable def fX19_packOne_b82 (fu : Nat) (a1 : Int32) (a2 : Int32) (a3 : Int32) (r6 : (Int32 × Int32 × mwM × mwL) → Option (Int32 × mwM × mwL)) (v5 : Int32) (s0 : Nat) (s1 : Int32) (M : mwM) (L : mwL) : Option (Int32 × mwM × mwL) :=
  mb2 (DX16_anew fu s0 s1 M L) (fun M24 L25 => fX19_packOne_b85 fu a1 a2 a3 r6 v5 M24 L25)
noncomputable def fX19_packOne_b54 (fu : Nat) (a1 : Int32) (a2 : Int32) (a3 : Int32) (r6 : (Int32 × Int32 × mwM × mwL) → Option (Int32 × mwM × mwL)) (v4 : Int32) (v5 : Int32) (s0 : Int32) (M : mwM) (L : mwL) : Option (Int32 × mwM × mwL) :=
  (if s0 = a2 then (if v4 = 0 then mck a3 12 ((if a2 = 0 then fX19_packOne_b82 fu a1 a2 a3 r6 v5 (((941 + 53 * a3.toNatClampNeg) + 0)) 8 M L else fX19_packOne_b82 fu a1 a2 a3 r6 v5 (((941 + 53 * a3.toNatClampNeg) + 0)) 3 M L)) else fX19_packOne_b85 fu a1 a2 a3 r6 v5 M L) else fX19_packOne_b149 fu a1 a2 a3 r6 v4 v5 M L)
noncomputable def fX19_packOne_i6 (fu : Nat) (a1 : Int32) (a2 : Int32) (a3 : Int32) (r6 : (Int32 × Int32 × mwM × mwL) → Option (Int32 × mwM × mwL)) (v4 : Int32) (v5 : Int32) (M : mwM) (L : mwL) : Option (Int32 × mwM × mwL) :=
  (if (M 732 45) ≤ v5 then (if v4 = 0 then fX19_packOne_b176 fu a1 a2 a3 0 M L else mck a3 12 (mb3 (DX16_pack fu ((941 + 53 * a3.toNatClampNeg)) 5040 M L) (fun r7 M4 L5 => fX19_packOne_b176 fu a1 a2 a3 r7 M4 L5))) else mb3 (DX19_senderOf fu v5 M L) (fun r10 M8 L9 => mck v5 40 (mb3 (DX19_keyOf fu r10 (M8 764 v5.toNatClampNeg) M8 L9) (fun r14 M12 L13 => mb3 (DX19_senderOf fu v5 M12 L13) (fun r17 M15 L16 => (if r17 = a1 then (if r14 ≤ 0 then fX19_packOne_b54 fu a1 a2 a3 r6 v4 v5 0 M15 L16 else fX19_packOne_b54 fu a1 a2 a3 r6 v4 v5 1 M15 L16) else fX19_packOne_b149 fu a1 a2 a3 r6 v4 v5 M15 L16))))))
noncomputable def fX19_packOne_h6 (fu : Nat) (a1 : Int32) (a2 : Int32) (a3 : Int32) : Nat → (Int32 × Int32 × mwM × mwL) → Option (Int32 × mwM × mwL) := mloop (fun r6 s => fX19_packOne_i6 fu a1 a2 a3 r6 s.1 s.2.1 s.2.2.1 s.2.2.2)
noncomputable def DX19_packOne (fu : Nat) (a1 : Int32) (a2 : Int32) (a3 : Int32) (M : mwM) (L : mwL) : Option (Int32 × mwM × mwL) :=
  fX19_packOne_h6 fu a1 a2 a3 fu (0, 0, M, L)
noncomputable def fX19_join_b137 (fu : Nat) (r45 : (Int32 × mwM × mwL) → Option (Int32 × mwM × mwL)) (r62 : (Int32 × Int32 × mwM × mwL) → Option (Int32 × mwM × mwL)) (v1 : Int32) (v2 : Int32) (s1 : Int32) (s2 : Int32) (M : mwM) (L : mwL) : Option (Int32 × mwM × mwL) :=
  mck s1 40 (mlet (mset M 784 (s1.toNatClampNeg) s2) (fun M26 => mlet (v2 + 1) (fun x27 => r62 (v1, x27, M26, L))))
noncomputable def fX19_join_b110 (fu : Nat) (r45 : (Int32 × mwM × mwL) → Option (Int32 × mwM × mwL)) (r62 : (Int32 × Int32 × mwM × mwL) → Option (Int32 × mwM × mwL)) (v1 : Int32) (v2 : Int32) (s0 : Int32) (M : mwM) (L : mwL) : Option (Int32 × mwM × mwL) :=
  (if s0 = 0 then mck v1 40 (fX19_join_b137 fu r45 r62 v1 v2 v1 (M 784 v1.toNatClampNeg) M L) else mck v1 40 (fX19_join_b137 fu r45 r62 v1 v2 v1 ((M 784 v1.toNatClampNeg) + 1) M L))
noncomputable def fX19_join_b105 (fu : Nat) (r45 : (Int32 × mwM × mwL) → Option (Int32 × mwM × mwL)) (r62 : (Int32 × Int32 × mwM × mwL) → Option (Int32 × mwM × mwL)) (v1 : Int32) (v2 : Int32) (M : mwM) (L : mwL) : Option (Int32 × mwM × mwL) :=
  fX19_join_b110 fu r45 r62 v1 v2 1 M L
noncomputable def fX19_join_b109 (fu : Nat) (r45 : (Int32 × mwM × mwL) → Option (Int32 × mwM × mwL)) (r62 : (Int32 × Int32 × mwM × mwL) → Option (Int32 × mwM × mwL)) (v1 : Int32) (v2 : Int32) (M : mwM) (L : mwL) : Option (Int32 × mwM × mwL) :=
  fX19_join_b110 fu r45 r62 v1 v2 0 M L
noncomputable def fX19_join_i62 (fu : Nat) (r45 : (Int32 × mwM × mwL) → Option (Int32 × mwM × mwL)) (r62 : (Int32 × Int32 × mwM × mwL) → Option (Int32 × mwM × mwL)) (v1 : Int32) (v2 : Int32) (M : mwM) (L : mwL) : Option (Int32 × mwM × mwL) :=
  (if (M 732 67) ≤ v2 then mlet (v1 + 1) (fun x14 => r45 (x14, M, L)) else mck v2 40 (mck v1 40 ((if (M 782 v2.toNatClampNeg) < (M 782 v1.toNatClampNeg) then fX19_join_b105 fu r45 r62 v1 v2 M L else mck v2 40 (mck v1 40 ((if (M 782 v2.toNatClampNeg) = (M 782 v1.toNatClampNeg) then (if v1 ≤ v2 then fX19_join_b109 fu r45 r62 v1 v2 M L else fX19_join_b105 fu r45 r62 v1 v2 M L) else fX19_join_b109 fu r45 r62 v1 v2 M L)))))))
noncomputable def fX19_join_h62 (fu : Nat) (r45 : (Int32 × mwM × mwL) → Option (Int32 × mwM × mwL)) : Nat → (Int32 × Int32 × mwM × mwL) → Option (Int32 × mwM × mwL) := mloop (fun r62 s => fX19_join_i62 fu r45 r62 s.1 s.2.1 s.2.2.1 s.2.2.2)
noncomputable def fX19_join_i45 (fu : Nat) (r45 : (Int32 × mwM × mwL) → Option (Int32 × mwM × mwL)) (v1 : Int32) (M : mwM) (L : mwL) : Option (Int32 × mwM × mwL) :=
  (if (M 732 67) ≤ v1 then some (1, M, L) else mck v1 40 (mlet (mset M 784 (v1.toNatClampNeg) 0) (fun M12 => fX19_join_h62 fu r45 fu (v1, 0, M12, L))))
noncomputable def fX19_join_h45 (fu : Nat) : Nat → (Int32 × mwM × mwL) → Option (Int32 × mwM × mwL) := mloop (fun r45 s => fX19_join_i45 fu r45 s.1 s.2.1 s.2.2)
noncomputable def fX19_join_b28 (fu : Nat) (r2 : (Int32 × mwM × mwL) → Option (Int32 × mwM × mwL)) (v1 : Int32) (s1 : Int32) (s2 : Int32) (M : mwM) (L : mwL) : Option (Int32 × mwM × mwL) :=
  mb3 (DX19_packOne fu s1 s2 v1 M L) (fun r7 M5 L6 => (if r7 = 0 then some (0, M5, L6) else mlet (v1 + 1) (fun x9 => r2 (x9, M5, L6))))
noncomputable def fX19_join_i2 (fu : Nat) (r2 : (Int32 × mwM × mwL) → Option (Int32 × mwM × mwL)) (v1 : Int32) (M : mwM) (L : mwL) : Option (Int32 × mwM × mwL) :=
  (if (2 * (M 732 19)) ≤ v1 then fX19_join_h45 fu fu (0, M, L) else (if (v1 - v1 / 2 * 2) = 1 then fX19_join_b28 fu r2 v1 (v1 / 2) 1 M L else fX19_join_b28 fu r2 v1 (v1 / 2) 0 M L))
noncomputable def fX19_join_h2 (fu : Nat) : Nat → (Int32 × mwM × mwL) → Option (Int32 × mwM × mwL) := mloop (fun r2 s => fX19_join_i2 fu r2 s.1 s.2.1 s.2.2)
noncomputable def DX19_join (fu : Nat) (M : mwM) (L : mwL) : Option (Int32 × mwM × mwL) :=
  fX19_join_h2 fu fu (0, M, L)
noncomputable def fX19_build_i256 (fu : Nat) (r256 : (Int32 × mwM × mwL) → Option (Int32 × mwM × mwL)) (v1 : Int32) (M : mwM) (L : mwL) : Option (Int32 × mwM × mwL) :=
  (if 6 ≤ v1 then some (1, M, L) else mck v1 6 (mlet (mset M 923 (v1.toNatClampNeg) (vp_nar .boolean 0)) (fun M49 => mck v1 6 (mlet (mset M49 934 (v1.toNatClampNeg) 1) (fun M51 => mck v1 6 (mlet (mset M51 935 (v1.toNatClampNeg) (vp_nar .boolean 0)) (fun M53 => mck v1 6 (mlet (mset M53 936 (v1.toNatClampNeg) (vp_nar .boolean 0)) (fun M55 => mck v1 6 (mlet (mset M55 937 (v1.toNatClampNeg) 0) (fun M57 => mck v1 6 (mlet (mset M57 938 (v1.toNatClampNeg) 0) (fun M59 => mlet (v1 + 1) (fun x60 => r256 (x60, M59, L)))))))))))))))
noncomputable def fX19_build_h256 (fu : Nat) : Nat → (Int32 × mwM × mwL) → Option (Int32 × mwM × mwL) := mloop (fun r256 s => fX19_build_i256 fu r256 s.1 s.2.1 s.2.2)
noncomputable def fX19_build_i234 (fu : Nat) (r234 : (Int32 × mwM × mwL) → Option (Int32 × mwM × mwL)) (v1 : Int32) (M : mwM) (L : mwL) : Option (Int32 × mwM × mwL) :=
  (if 240 ≤ v1 then fX19_build_h256 fu fu (0, M, L) else mck v1 240 (mlet (mset L 786 (v1.toNatClampNeg) 0) (fun L45 => mlet (v1 + 1) (fun x46 => r234 (x46, M, L45)))))
noncomputable def fX19_build_h234 (fu : Nat) : Nat → (Int32 × mwM × mwL) → Option (Int32 × mwM × mwL) := mloop (fun r234 s => fX19_build_i234 fu r234 s.1 s.2.1 s.2.2)
noncomputable def fX19_build_i214 (fu : Nat) (r214 : (Int32 × mwM × mwL) → Option (Int32 × mwM × mwL)) (v1 : Int32) (M : mwM) (L : mwL) : Option (Int32 × mwM × mwL) :=
  (if 5 ≤ v1 then fX19_build_h234 fu fu (0, M, L) else mck v1 5 (mlet (mset M 939 (v1.toNatClampNeg) 0) (fun M41 => mlet (v1 + 1) (fun x42 => r214 (x42, M41, L)))))
noncomputable def fX19_build_h214 (fu : Nat) : Nat → (Int32 × mwM × mwL) → Option (Int32 × mwM × mwL) := mloop (fun r214 s => fX19_build_i214 fu r214 s.1 s.2.1 s.2.2)
noncomputable def fX19_build_i193 (fu : Nat) (r193 : (Int32 × mwM × mwL) → Option (Int32 × mwM × mwL)) (v1 : Int32) (M : mwM) (L : mwL) : Option (Int32 × mwM × mwL) :=
  (if 7 ≤ v1 then fX19_build_h214 fu fu (0, M, L) else mck v1 7 (mlet (mset M 924 (v1.toNatClampNeg) 0) (fun M37 => mlet (v1 + 1) (fun x38 => r193 (x38, M37, L)))))
noncomputable def fX19_build_h193 (fu : Nat) : Nat → (Int32 × mwM × mwL) → Option (Int32 × mwM × mwL) := mloop (fun r193 s => fX19_build_i193 fu r193 s.1 s.2.1 s.2.2)
noncomputable def fX19_build_i91 (fu : Nat) (r36 : (Int32 × mwM × mwL) → Option (Int32 × mwM × mwL)) (r91 : (Int32 × Int32 × Int32 × mwM × mwL) → Option (Int32 × mwM × mwL)) (v1 : Int32) (v2 : Int32) (v4 : Int32) (M : mwM) (L : mwL) : Option (Int32 × mwM × mwL) :=
  (if 20000 ≤ v4 then mlet (v1 + 1) (fun x23 => r36 (x23, M, L)) else mb3 (DX15_activate fu v2 v4.toInt64 M L) (fun r26 M24 L25 => (if 0 ≤ r26 then mck v1 12 (mlet (v4 + (M24 744 v1.toNatClampNeg)) (fun x29 => r91 (v1, v2, x29, M24, L25))) else mck v1 12 (mb3 (DX19_fail fu 6 (M24 741 v1.toNatClampNeg) M24 L25) (fun r33 M31 L32 => mzz r33 (some (r33, M31, L32)))))))
noncomputable def fX19_build_h91 (fu : Nat) (r36 : (Int32 × mwM × mwL) → Option (Int32 × mwM × mwL)) : Nat → (Int32 × Int32 × Int32 × mwM × mwL) → Option (Int32 × mwM × mwL) := mloop (fun r91 s => fX19_build_i91 fu r36 r91 s.1 s.2.1 s.2.2.1 s.2.2.2.1 s.2.2.2.2)
noncomputable def fX19_build_i36 (fu : Nat) (r36 : (Int32 × mwM × mwL) → Option (Int32 × mwM × mwL)) (v1 : Int32) (M : mwM) (L : mwL) : Option (Int32 × mwM × mwL) :=
  (if (M 732 24) ≤ v1 then mlet (mset M 732 83 0) (fun M2 => mlet (mset M2 732 88 0) (fun M3 => mlet (mset M3 732 91 0) (fun M4 => mlet (mset M4 732 94 0) (fun M5 => mlet (mset M5 732 95 0) (fun M6 => mlet (mset M6 732 96 0) (fun M7 => mlet (mset M7 732 97 ((-1))) (fun M8 => mlet (mset M8 732 98 0) (fun M9 => mlet (mset M9 732 108 0) (fun M10 => fX19_build_h193 fu fu (0, M10, L)))))))))) else mck v1 12 (mck v1 12 (mb3 (DX15_task fu (M 743 v1.toNatClampNeg) (M 742 v1.toNatClampNeg) 2 0 M L) (fun r15 M13 L14 => mck v1 12 (mb3 (DX15_part fu r15 0 ((M13 746 v1.toNatClampNeg).toInt64) M13 L14) (fun r19 M17 L18 => mck v1 12 (mlet (M17 745 v1.toNatClampNeg) (fun x21 => fX19_build_h91 fu r36 fu (v1, r15, x21, M17, L18)))))))))
noncomputable def fX19_build_h36 (fu : Nat) : Nat → (Int32 × mwM × mwL) → Option (Int32 × mwM × mwL) := mloop (fun r36 s => fX19_build_i36 fu r36 s.1 s.2.1 s.2.2)
noncomputable def DX19_build (fu : Nat) (M : mwM) (L : mwL) : Option (Int32 × mwM × mwL) :=
  mb2 (DX15_anew fu (M 732 19) M L) (fun M61 L62 => mb2 (DX12_nodes fu ((M61 732 19) + 1) M61 L62) (fun M63 L64 => mb2 (DX17_anew fu 4095 M63 L64) (fun M65 L66 => fX19_build_h36 fu fu (0, M65, L66))))
noncomputable def fX19_read_b108 (fu : Nat) (s0 : Int32) (M : mwM) (L : mwL) : Option (Int32 × mwM × mwL) :=
  mzz s0 (some (s0, M, L))
noncomputable def fX19_read_b103 (fu : Nat) (M : mwM) (L : mwL) : Option (Int32 × mwM × mwL) :=
  fX19_read_b108 fu 1 M L
noncomputable def fX19_read_b74 (fu : Nat) (r2 : (Int32 × mwM × mwL) → Option (Int32 × mwM × mwL)) (M : mwM) (L : mwL) : Option (Int32 × mwM × mwL) :=
  mlet ((M 732 7) + 1) (fun x22 => r2 (x22, M, L))
noncomputable def fX19_read_b53 (fu : Nat) (r2 : (Int32 × mwM × mwL) → Option (Int32 × mwM × mwL)) (v1 : Int32) (M : mwM) (L : mwL) : Option (Int32 × mwM × mwL) :=
  mlet (mset M 732 6 v1) (fun M12 => mb3 (DX19_next fu M12 L) (fun r16 M13 L14 => (if r16 = 0 then fX19_read_b74 fu r2 M13 L14 else mb3 (DX19_line fu M13 L14) (fun r20 M18 L19 => (if r20 = 0 then some (0, M18, L19) else fX19_read_b74 fu r2 M18 L19)))))
noncomputable def fX19_read_i15 (fu : Nat) (r2 : (Int32 × mwM × mwL) → Option (Int32 × mwM × mwL)) (r15 : (Int32 × mwM × mwL) → Option (Int32 × mwM × mwL)) (v1 : Int32) (M : mwM) (L : mwL) : Option (Int32 × mwM × mwL) :=
  (if (M 732 2) ≤ (M 732 7) then fX19_read_b53 fu r2 v1 M L else mck (M 732 7) 6000 ((if (M 733 (M 732 7).toNatClampNeg) = 10 then fX19_read_b53 fu r2 v1 M L else mlet (mset M 732 7 ((M 732 7) + 1)) (fun M11 => r15 (v1, M11, L)))))
noncomputable def fX19_read_h15 (fu : Nat) (r2 : (Int32 × mwM × mwL) → Option (Int32 × mwM × mwL)) : Nat → (Int32 × mwM × mwL) → Option (Int32 × mwM × mwL) := mloop (fun r15 s => fX19_read_i15 fu r2 r15 s.1 s.2.1 s.2.2)
noncomputable def fX19_read_i2 (fu : Nat) (r2 : (Int32 × mwM × mwL) → Option (Int32 × mwM × mwL)) (v1 : Int32) (M : mwM) (L : mwL) : Option (Int32 × mwM × mwL) :=
  (if (M 732 2) ≤ v1 then (if 0 < (M 732 19) then fX19_read_b103 fu M L else mb3 (DX19_fail fu 4 (M 732 2) M L) (fun r5 M3 L4 => (if r5 = 0 then fX19_read_b108 fu 0 M3 L4 else fX19_read_b103 fu M3 L4))) else mlet (mset M 732 7 v1) (fun M7 => fX19_read_h15 fu r2 fu (v1, M7, L)))
noncomputable def fX19_read_h2 (fu : Nat) : Nat → (Int32 × mwM × mwL) → Option (Int32 × mwM × mwL) := mloop (fun r2 s => fX19_read_i2 fu r2 s.1 s.2.1 s.2.2)
noncomputable def DX19_read (fu : Nat) (M : mwM) (L : mwL) : Option (Int32 × mwM × mwL) :=
  fX19_read_h2 fu fu (0, M, L)
noncomputable def fX19_system_b128 (fu : Nat) (s1 : Int32) (M : mwM) (L : mwL) : Option (Int32 × mwM × mwL) :=
  mzz s1 (mlet (mset M 732 4 s1) (fun M30 => (if (M30 732 4) = 0 then mlet (mset M30 732 5 (M30 732 12)) (fun M32 => some (M32 732 11, M32, L)) else some (0, M30, L))))
noncomputable def fX19_system_b127 (fu : Nat) (M : mwM) (L : mwL) : Option (Int32 × mwM × mwL) :=
  fX19_system_b128 fu 0 M L
noncomputable def fX19_system_b15 (fu : Nat) (s1 : Int32) (M : mwM) (L : mwL) : Option (Int32 × mwM × mwL) :=
  mlet (mset M 732 0 s1) (fun M1 => (if (M1 732 0) ≤ 0 then mlet (mset M1 732 3 ((M1 732 3) + 1)) (fun M3 => mlet (mset M3 732 4 0) (fun M4 => mlet (mset M4 732 5 0) (fun M5 => mlet (mset M5 732 14 0) (fun M6 => mlet (mset M6 732 19 0) (fun M7 => mlet (mset M7 732 20 0) (fun M8 => mlet (mset M8 732 24 0) (fun M9 => mlet (mset M9 732 33 0) (fun M10 => mlet (mset M10 732 45 0) (fun M11 => mlet (mset M11 732 55 0) (fun M12 => mlet (mset M12 732 62 0) (fun M13 => mlet (mset M13 732 67 0) (fun M14 => mb2 (DX18_anew fu 8 M14 L) (fun M15 L16 => mb3 (DX19_read fu M15 L16) (fun r19 M17 L18 => (if r19 = 0 then fX19_system_b127 fu M17 L18 else mb3 (DX19_join fu M17 L18) (fun r23 M21 L22 => (if r23 = 0 then fX19_system_b127 fu M21 L22 else mb3 (DX19_build fu M21 L22) (fun r27 M25 L26 => (if r27 = 0 then fX19_system_b127 fu M25 L26 else fX19_system_b128 fu 1 M25 L26))))))))))))))))))) else some (0, M1, L)))
noncomputable def DX19_system (fu : Nat) (M : mwM) (L : mwL) : Option (Int32 × mwM × mwL) :=
  (if (M 732 3) = 16 then fX19_system_b15 fu 1 M L else fX19_system_b15 fu 0 M L)
noncomputable def fX19_put_b104 (fu : Nat) (a1 : Int32) (a2 : Int32) (a3 : Int32) (M : mwM) (L : mwL) : Option (Int32 × mwM × mwL) :=
  some (1, M, L)
noncomputable def fX19_put_i39 (fu : Nat) (a1 : Int32) (a2 : Int32) (a3 : Int32) (r39 : (Int32 × Int32 × mwM × mwL) → Option (Int32 × mwM × mwL)) (v4 : Int32) (v5 : Int32) (M : mwM) (L : mwL) : Option (Int32 × mwM × mwL) :=
  (if 8 ≤ v5 then (if a3 ≤ 0 then fX19_put_b104 fu a1 a2 a3 M L else mck (M 732 91) 6001 (mlet (mset M 929 ((M 732 91).toNatClampNeg) a3) (fun M4 => mck (M4 732 91) 6001 (mlet (mset M4 930 ((M4 732 91).toNatClampNeg) a2) (fun M6 => mlet (mset M6 732 91 ((M6 732 91) + 1)) (fun M7 => fX19_put_b104 fu a1 a2 a3 M7 L)))))) else mck v5 8 (mb2 (DX12_octet fu v4 v5 (M 926 v5.toNatClampNeg) M L) (fun M9 L10 => mlet (v5 + 1) (fun x11 => r39 (v4, x11, M9, L10)))))
noncomputable def fX19_put_h39 (fu : Nat) (a1 : Int32) (a2 : Int32) (a3 : Int32) : Nat → (Int32 × Int32 × mwM × mwL) → Option (Int32 × mwM × mwL) := mloop (fun r39 s => fX19_put_i39 fu a1 a2 a3 r39 s.1 s.2.1 s.2.2.1 s.2.2.2)
noncomputable def DX19_put (fu : Nat) (a1 : Int32) (a2 : Int32) (a3 : Int32) (M : mwM) (L : mwL) : Option (Int32 × mwM × mwL) :=
  mb3 (DX12_send fu a1 a2 0 8 M L) (fun r14 M12 L13 => mb3 (DX12_thrown fu M12 L13) (fun r17 M15 L16 => (if r17 ≤ 0 then fX19_put_h39 fu a1 a2 a3 fu (r14, 0, M15, L16) else mlet (mset M15 939 ((0 : Int32).toNatClampNeg) ((M15 939 (0 : Int32).toNatClampNeg) + 1)) (fun M21 => some (0, M21, L16)))))
noncomputable def fX19_codeOf_i52 (fu : Nat) (a1 : Int32) (a2 : Int64) (r52 : (Int32 × mwM × mwL) → Option (mwM × mwL)) (v4 : Int32) (M : mwM) (L : mwL) : Option (mwM × mwL) :=
  (if 3 ≤ v4 then mck a1 40 (mb3 (DX14_code fu (M 783 a1.toNatClampNeg) 32 M L) (fun r9 M7 L8 => some (M7, L8))) else mck v4 8 (mb2 (DX14_octet fu ((M 926 v4.toNatClampNeg).toInt8.toInt32) M L) (fun M11 L12 => mlet (v4 + 1) (fun x13 => r52 (x13, M11, L12)))))
noncomputable def fX19_codeOf_h52 (fu : Nat) (a1 : Int32) (a2 : Int64) : Nat → (Int32 × mwM × mwL) → Option (mwM × mwL) := mloop (fun r52 s => fX19_codeOf_i52 fu a1 a2 r52 s.1 s.2.1 s.2.2)
noncomputable def fX19_codeOf_i17 (fu : Nat) (a1 : Int32) (a2 : Int64) (r17 : (Int32 × mwM × mwL) → Option (mwM × mwL)) (v4 : Int32) (M : mwM) (L : mwL) : Option (mwM × mwL) :=
  (if 8 ≤ v4 then fX19_codeOf_h52 fu a1 a2 fu (0, M, L) else mb2 (DX14_octet fu (((a2 >>> ((56 - (8 * v4)).toInt64 &&& 63)).toInt32).toInt8.toInt32) M L) (fun M2 L3 => mlet (v4 + 1) (fun x4 => r17 (x4, M2, L3))))
noncomputable def fX19_codeOf_h17 (fu : Nat) (a1 : Int32) (a2 : Int64) : Nat → (Int32 × mwM × mwL) → Option (mwM × mwL) := mloop (fun r17 s => fX19_codeOf_i17 fu a1 a2 r17 s.1 s.2.1 s.2.2)
noncomputable def DX19_codeOf (fu : Nat) (a1 : Int32) (a2 : Int64) (M : mwM) (L : mwL) : Option (mwM × mwL) :=
  mck a1 40 (mb2 (DX14_octet fu ((M 784 a1.toNatClampNeg).toInt8.toInt32) M L) (fun M15 L16 => fX19_codeOf_h17 fu a1 a2 fu (0, M15, L16)))
noncomputable def fX19_send_b217 (fu : Nat) (a1 : Int32) (M : mwM) (L : mwL) : Option (mwM × mwL) :=
  mck a1 40 (mck a1 40 (mb3 (DX19_put fu (M 779 a1.toNatClampNeg) (64 + (8 * (M 784 a1.toNatClampNeg))) 0 M L) (fun r47 M45 L46 => some (M45, L46))))
noncomputable def fX19_send_i183 (fu : Nat) (a1 : Int32) (r183 : (Int32 × mwM × mwL) → Option (mwM × mwL)) (v4 : Int32) (M : mwM) (L : mwL) : Option (mwM × mwL) :=
  (if 4 ≤ v4 then fX19_send_b217 fu a1 M L else mb3 (DX14_out fu v4 M L) (fun r39 M37 L38 => mck (4 + v4) 8 (mlet (mset M37 926 ((4 + v4).toNatClampNeg) (r39 &&& 255)) (fun M41 => mlet (v4 + 1) (fun x42 => r183 (x42, M41, L38))))))
noncomputable def fX19_send_h183 (fu : Nat) (a1 : Int32) : Nat → (Int32 × mwM × mwL) → Option (mwM × mwL) := mloop (fun r183 s => fX19_send_i183 fu a1 r183 s.1 s.2.1 s.2.2)
noncomputable def fX19_send_b126 (fu : Nat) (a1 : Int32) (r87 : (Nat × Int32 × Int32 × mwM × mwL) → Option (mwM × mwL)) (v2 : Nat) (v3 : Int32) (v4 : Int32) (s1 : Int32) (s2 : Int32) (M : mwM) (L : mwL) : Option (mwM × mwL) :=
  mck s1 8 (mlet (mset M 926 (s1.toNatClampNeg) s2) (fun M34 => mlet (v4 + 1) (fun x35 => r87 (v2, v3, x35, M34, L))))
noncomputable def fX19_send_i87 (fu : Nat) (a1 : Int32) (r87 : (Nat × Int32 × Int32 × mwM × mwL) → Option (mwM × mwL)) (v2 : Nat) (v3 : Int32) (v4 : Int32) (M : mwM) (L : mwL) : Option (mwM × mwL) :=
  (if 8 ≤ v4 then mck a1 40 (mck a1 40 (mlet (mset M 785 (a1.toNatClampNeg) ((M 785 a1.toNatClampNeg) + 1)) (fun M19 => mck a1 40 ((if (M19 783 a1.toNatClampNeg) ≤ 0 then fX19_send_b217 fu a1 M19 L else mck a1 40 (mlet (mset M19 926 ((3 : Int32).toNatClampNeg) ((M19 785 a1.toNatClampNeg) &&& 255)) (fun M24 => mck a1 40 (mb2 (DX19_codeOf fu a1 ((M24 785 a1.toNatClampNeg).toInt64) M24 L) (fun M26 L27 => fX19_send_h183 fu a1 fu (0, M26, L27)))))))))) else (if v3 ≤ v4 then fX19_send_b126 fu a1 r87 v2 v3 v4 v4 0 M L else mck a1 40 (mb3 (DX16_octet fu v2 (M 781 a1.toNatClampNeg) v4 M L) (fun r32 M30 L31 => fX19_send_b126 fu a1 r87 v2 v3 v4 v4 (r32 &&& 255) M30 L31))))
noncomputable def fX19_send_h87 (fu : Nat) (a1 : Int32) : Nat → (Nat × Int32 × Int32 × mwM × mwL) → Option (mwM × mwL) := mloop (fun r87 s => fX19_send_i87 fu a1 r87 s.1 s.2.1 s.2.2.1 s.2.2.2.1 s.2.2.2.2)
noncomputable def fX19_send_b83 (fu : Nat) (a1 : Int32) (v2 : Nat) (s0 : Int32) (M : mwM) (L : mwL) : Option (mwM × mwL) :=
  fX19_send_h87 fu a1 fu (v2, s0, 0, M, L)
noncomputable def fX19_send_b62 (fu : Nat) (a1 : Int32) (r14 : (Nat × Int32 × mwM × mwL) → Option (mwM × mwL)) (v2 : Nat) (v3 : Int32) (M : mwM) (L : mwL) : Option (mwM × mwL) :=
  mlet (v3 + 1) (fun x15 => r14 (v2, x15, M, L))
noncomputable def fX19_send_i14 (fu : Nat) (a1 : Int32) (r14 : (Nat × Int32 × mwM × mwL) → Option (mwM × mwL)) (v2 : Nat) (v3 : Int32) (M : mwM) (L : mwL) : Option (mwM × mwL) :=
  (if (M 732 45) ≤ v3 then mck a1 40 ((if (M 783 a1.toNatClampNeg) ≤ 0 then fX19_send_b83 fu a1 v2 8 M L else fX19_send_b83 fu a1 v2 3 M L)) else mck v3 40 ((if (M 767 v3.toNatClampNeg) = a1 then mck v3 40 (mck v3 40 (mck (M 762 v3.toNatClampNeg) 12 (mck v3 40 (mb3 (DX13_value fu ((964 + 53 * (M 762 v3.toNatClampNeg).toNatClampNeg)) (M 763 v3.toNatClampNeg) M L) (fun r12 M10 L11 => mb2 (DX16_put fu v2 (M 766 v3.toNatClampNeg) r12 M10 L11) (fun M13 L14 => fX19_send_b62 fu a1 r14 v2 v3 M13 L14)))))) else fX19_send_b62 fu a1 r14 v2 v3 M L)))
noncomputable def fX19_send_h14 (fu : Nat) (a1 : Int32) : Nat → (Nat × Int32 × mwM × mwL) → Option (mwM × mwL) := mloop (fun r14 s => fX19_send_i14 fu a1 r14 s.1 s.2.1 s.2.2.1 s.2.2.2)
noncomputable def DX19_send (fu : Nat) (a1 : Int32) (M : mwM) (L : mwL) : Option (mwM × mwL) :=
  mck a1 40 (mck (M 780 a1.toNatClampNeg) 12 (fX19_send_h14 fu a1 fu ((((941 + 53 * (M 780 a1.toNatClampNeg).toNatClampNeg) + 0)), 0, M, L)))
noncomputable def fX19_right_b62 (fu : Nat) (a1 : Int32) (a2 : Int32) (M : mwM) (L : mwL) : Option (Int32 × mwM × mwL) :=
  some (0, M, L)
noncomputable def fX19_right_i76 (fu : Nat) (a1 : Int32) (a2 : Int32) (r76 : (Int64 × Int64 × Int32 × mwM × mwL) → Option (Int32 × mwM × mwL)) (v3 : Int64) (v5 : Int64) (v7 : Int32) (M : mwM) (L : mwL) : Option (Int32 × mwM × mwL) :=
  (if 4 ≤ v7 then mck ((6 * a2) + a1) 240 (mlet (mset L 786 (((6 * a2) + a1).toNatClampNeg) (v3 + v5)) (fun L3 => some (1, M, L3))) else mb3 (DX14_out fu v7 M L) (fun r6 M4 L5 => mck (4 + v7) 8 ((if (r6 &&& 255) = (M4 926 (4 + v7).toNatClampNeg) then mlet (v7 + 1) (fun x9 => r76 (v3, v5, x9, M4, L5)) else some (0, M4, L5)))))
noncomputable def fX19_right_h76 (fu : Nat) (a1 : Int32) (a2 : Int32) : Nat → (Int64 × Int64 × Int32 × mwM × mwL) → Option (Int32 × mwM × mwL) := mloop (fun r76 s => fX19_right_i76 fu a1 a2 r76 s.1 s.2.1 s.2.2.1 s.2.2.2.1 s.2.2.2.2)
noncomputable def DX19_right (fu : Nat) (a1 : Int32) (a2 : Int32) (M : mwM) (L : mwL) : Option (Int32 × mwM × mwL) :=
  mck a2 40 ((if (M 783 a2.toNatClampNeg) = 0 then some (1, M, L) else mck ((6 * a2) + a1) 240 (mlet (L 786 ((6 * a2) + a1).toNatClampNeg) (fun x13 => mnzL 256 (mlet (((((M 926 (3 : Int32).toNatClampNeg).toInt64) - (x13 &&& 255)) + 256) - ((((M 926 (3 : Int32).toNatClampNeg).toInt64) - (x13 &&& 255)) + 256) / 256 * 256) (fun x16 => (if (lg_cmp x16 1) < 0 then fX19_right_b62 fu a1 a2 M L else (if (lg_cmp x16 64) ≤ 0 then mb2 (DX19_codeOf fu a2 (x13 + x16) M L) (fun M19 L20 => fX19_right_h76 fu a1 a2 fu (x13, x16, 0, M19, L20)) else fX19_right_b62 fu a1 a2 M L))))))))
noncomputable def fX19_valueOf_b106 (fu : Nat) (a1 : Int32) (r18 : (Int32 × Int64 × Int32 × mwM × mwL) → Option (Int64 × mwM × mwL)) (v2 : Int32) (v3 : Int64) (v5 : Int32) (M : mwM) (L : mwL) : Option (Int64 × mwM × mwL) :=
  mlet (v5 + 1) (fun x14 => r18 (v2, v3, x14, M, L))
noncomputable def fX19_valueOf_b75 (fu : Nat) (a1 : Int32) (r18 : (Int32 × Int64 × Int32 × mwM × mwL) → Option (Int64 × mwM × mwL)) (v2 : Int32) (v3 : Int64) (v5 : Int32) (s0 : Int32) (M : mwM) (L : mwL) : Option (Int64 × mwM × mwL) :=
  mck (s0 / 8) 8 ((if (((M 926 (s0 / 8).toNatClampNeg) >>> ((s0 - s0 / 8 * 8) &&& 31)) &&& 1) = 1 then mlet (v3 ||| (1 <<< (v5.toInt64 &&& 63))) (fun x13 => fX19_valueOf_b106 fu a1 r18 v2 x13 v5 M L) else fX19_valueOf_b106 fu a1 r18 v2 v3 v5 M L))
noncomputable def fX19_valueOf_i18 (fu : Nat) (a1 : Int32) (r18 : (Int32 × Int64 × Int32 × mwM × mwL) → Option (Int64 × mwM × mwL)) (v2 : Int32) (v3 : Int64) (v5 : Int32) (M : mwM) (L : mwL) : Option (Int64 × mwM × mwL) :=
  mck a1 40 ((if (M 761 a1.toNatClampNeg) ≤ v5 then some (v3, M, L) else mck a1 40 ((if (M 765 a1.toNatClampNeg) = 0 then mck a1 40 (fX19_valueOf_b75 fu a1 r18 v2 v3 v5 ((M 768 a1.toNatClampNeg) + v5) M L) else mck a1 40 (fX19_valueOf_b75 fu a1 r18 v2 v3 v5 (((M 768 a1.toNatClampNeg) + (8 * ((v2 - 1) - (v5 / 8)))) + (v5 - v5 / 8 * 8)) M L)))))
noncomputable def fX19_valueOf_h18 (fu : Nat) (a1 : Int32) : Nat → (Int32 × Int64 × Int32 × mwM × mwL) → Option (Int64 × mwM × mwL) := mloop (fun r18 s => fX19_valueOf_i18 fu a1 r18 s.1 s.2.1 s.2.2.1 s.2.2.2.1 s.2.2.2.2)
noncomputable def DX19_valueOf (fu : Nat) (a1 : Int32) (M : mwM) (L : mwL) : Option (Int64 × mwM × mwL) :=
  mck a1 40 (mlet (((M 761 a1.toNatClampNeg) + 7) / 8) (fun x17 => fX19_valueOf_h18 fu a1 fu (x17, 0, 0, M, L)))
noncomputable def fX19_come_b308 (fu : Nat) (a1 : Int32) (a2 : Int32) (r90 : (Int32 × mwM × mwL) → Option (mwM × mwL)) (v3 : Int32) (M : mwM) (L : mwL) : Option (mwM × mwL) :=
  mlet (v3 + 1) (fun x58 => r90 (x58, M, L))
noncomputable def fX19_come_b252 (fu : Nat) (a1 : Int32) (a2 : Int32) (r90 : (Int32 × mwM × mwL) → Option (mwM × mwL)) (v3 : Int32) (v4 : Int32) (M : mwM) (L : mwL) : Option (mwM × mwL) :=
  mck v3 60 ((if (M 772 v3.toNatClampNeg) ≤ 0 then fX19_come_b308 fu a1 a2 r90 v3 M L else mck v4 12 ((if 16 ≤ (M 752 v4.toNatClampNeg) then fX19_come_b308 fu a1 a2 r90 v3 M L else mck v4 12 (mck v3 60 (mck ((16 * v4) + (M 752 v4.toNatClampNeg)) 192 (mlet (mset M 753 (((16 * v4) + (M 752 v4.toNatClampNeg)).toNatClampNeg) (M 772 v3.toNatClampNeg)) (fun M54 => mck v4 12 (mck v4 12 (mlet (mset M54 752 (v4.toNatClampNeg) ((M54 752 v4.toNatClampNeg) + 1)) (fun M57 => fX19_come_b308 fu a1 a2 r90 v3 M57 L)))))))))))
noncomputable def fX19_come_b178 (fu : Nat) (a1 : Int32) (a2 : Int32) (r90 : (Int32 × mwM × mwL) → Option (mwM × mwL)) (v3 : Int32) (v4 : Int32) (v5 : Int64) (s0 : Int32) (M : mwM) (L : mwL) : Option (mwM × mwL) :=
  mck v3 60 (mlet (mset M 773 (v3.toNatClampNeg) (vp_nar .boolean 1)) (fun M32 => mck v3 60 (mlet (mset L 774 (v3.toNatClampNeg) v5) (fun L34 => (if s0 = 0 then fX19_come_b308 fu a1 a2 r90 v3 M32 L34 else mck v4 12 (mck v3 60 (mb2 (DX13_put fu ((964 + 53 * v4.toNatClampNeg)) (M32 771 v3.toNatClampNeg) v5 M32 L34) (fun M38 L39 => mck v3 60 ((if (M38 772 v3.toNatClampNeg) ≤ 0 then fX19_come_b252 fu a1 a2 r90 v3 v4 M38 L39 else mck v4 12 ((if (M38 752 v4.toNatClampNeg) = 16 then mlet (mset M38 939 ((2 : Int32).toNatClampNeg) ((M38 939 (2 : Int32).toNatClampNeg) + 1)) (fun M46 => fX19_come_b252 fu a1 a2 r90 v3 v4 M46 L39) else fX19_come_b252 fu a1 a2 r90 v3 v4 M38 L39))))))))))))
noncomputable def fX19_come_b173 (fu : Nat) (a1 : Int32) (a2 : Int32) (r90 : (Int32 × mwM × mwL) → Option (mwM × mwL)) (v3 : Int32) (v4 : Int32) (v5 : Int64) (M : mwM) (L : mwL) : Option (mwM × mwL) :=
  fX19_come_b178 fu a1 a2 r90 v3 v4 v5 1 M L
noncomputable def fX19_come_i90 (fu : Nat) (a1 : Int32) (a2 : Int32) (r90 : (Int32 × mwM × mwL) → Option (mwM × mwL)) (v3 : Int32) (M : mwM) (L : mwL) : Option (mwM × mwL) :=
  (if (M 732 55) ≤ v3 then some (M, L) else mck v3 60 (mlet (M 770 v3.toNatClampNeg) (fun x16 => mck x16 12 (mck (M 749 x16.toNatClampNeg) 12 ((if (M 742 (M 749 x16.toNatClampNeg).toNatClampNeg) = a1 then mck v3 60 (mck (M 769 v3.toNatClampNeg) 40 ((if (M 767 (M 769 v3.toNatClampNeg).toNatClampNeg) = a2 then mck v3 60 (mb3 (DX19_valueOf fu (M 769 v3.toNatClampNeg) M L) (fun r26 M24 L25 => mck v3 60 ((if (M24 773 v3.toNatClampNeg) = 0 then fX19_come_b173 fu a1 a2 r90 v3 x16 r26 M24 L25 else mck v3 60 ((if (lg_cmp (L25 774 v3.toNatClampNeg) r26) = 0 then fX19_come_b178 fu a1 a2 r90 v3 x16 r26 0 M24 L25 else fX19_come_b173 fu a1 a2 r90 v3 x16 r26 M24 L25)))))) else fX19_come_b308 fu a1 a2 r90 v3 M L))) else fX19_come_b308 fu a1 a2 r90 v3 M L))))))
noncomputable def fX19_come_h90 (fu : Nat) (a1 : Int32) (a2 : Int32) : Nat → (Int32 × mwM × mwL) → Option (mwM × mwL) := mloop (fun r90 s => fX19_come_i90 fu a1 a2 r90 s.1 s.2.1 s.2.2)
noncomputable def fX19_come_b82 (fu : Nat) (a1 : Int32) (a2 : Int32) (r22 : (Int32 × mwM × mwL) → Option (mwM × mwL)) (v3 : Int32) (M : mwM) (L : mwL) : Option (mwM × mwL) :=
  mlet (v3 + 1) (fun x13 => r22 (x13, M, L))
noncomputable def fX19_come_i22 (fu : Nat) (a1 : Int32) (a2 : Int32) (r22 : (Int32 × mwM × mwL) → Option (mwM × mwL)) (v3 : Int32) (M : mwM) (L : mwL) : Option (mwM × mwL) :=
  (if (M 732 62) ≤ v3 then fX19_come_h90 fu a1 a2 fu (0, M, L) else mck v3 30 ((if (M 776 v3.toNatClampNeg) = a1 then mck v3 30 (mck (M 775 v3.toNatClampNeg) 40 ((if (M 767 (M 775 v3.toNatClampNeg).toNatClampNeg) = a2 then mck v3 30 (mlet (mset L 778 (v3.toNatClampNeg) ((M 732 83).toInt64)) (fun L8 => mck v3 30 (mb3 (DX18_event fu (M 777 v3.toNatClampNeg) 0 M L8) (fun r12 M10 L11 => fX19_come_b82 fu a1 a2 r22 v3 M10 L11)))) else fX19_come_b82 fu a1 a2 r22 v3 M L))) else fX19_come_b82 fu a1 a2 r22 v3 M L)))
noncomputable def fX19_come_h22 (fu : Nat) (a1 : Int32) (a2 : Int32) : Nat → (Int32 × mwM × mwL) → Option (mwM × mwL) := mloop (fun r22 s => fX19_come_i22 fu a1 a2 r22 s.1 s.2.1 s.2.2)
noncomputable def DX19_come (fu : Nat) (a1 : Int32) (a2 : Int32) (M : mwM) (L : mwL) : Option (mwM × mwL) :=
  mb3 (DX19_right fu a1 a2 M L) (fun r61 M59 L60 => (if r61 = 0 then mlet (mset M59 939 ((1 : Int32).toNatClampNeg) ((M59 939 (1 : Int32).toNatClampNeg) + 1)) (fun M65 => some (M65, L60)) else fX19_come_h22 fu a1 a2 fu (0, M59, L60)))
noncomputable def DX19_no (fu : Nat) (a1 : Int32) (M : mwM) (L : mwL) : Option (mwM × mwL) :=
  mlet (mset M 933 ((0 : Int32).toNatClampNeg) 127) (fun M2 => mlet (mset M2 933 ((1 : Int32).toNatClampNeg) (M2 932 (0 : Int32).toNatClampNeg)) (fun M5 => mlet (mset M5 933 ((2 : Int32).toNatClampNeg) a1) (fun M7 => mlet (mset M7 732 102 3) (fun M8 => some (M8, L)))))
noncomputable def fX19_serveSession_b20 (fu : Nat) (a1 : Int32) (M : mwM) (L : mwL) : Option (mwM × mwL) :=
  mb2 (DX19_no fu 18 M L) (fun M1 L2 => some (M1, L2))
noncomputable def DX19_serveSession (fu : Nat) (a1 : Int32) (M : mwM) (L : mwL) : Option (mwM × mwL) :=
  (if (M 932 (1 : Int32).toNatClampNeg) < 1 then fX19_serveSession_b20 fu a1 M L else (if (M 932 (1 : Int32).toNatClampNeg) ≤ 3 then mck a1 6 (mlet (mset M 934 (a1.toNatClampNeg) (M 932 (1 : Int32).toNatClampNeg)) (fun M9 => mck a1 6 (mlet (mset M9 935 (a1.toNatClampNeg) (vp_nar .boolean 0)) (fun M11 => mck a1 6 (mlet (mset M11 936 (a1.toNatClampNeg) (vp_nar .boolean 0)) (fun M13 => mlet (mset M13 933 ((0 : Int32).toNatClampNeg) 80) (fun M15 => mlet (mset M15 933 ((1 : Int32).toNatClampNeg) (M15 932 (1 : Int32).toNatClampNeg)) (fun M18 => mlet (mset M18 732 102 2) (fun M19 => some (M19, L)))))))))) else fX19_serveSession_b20 fu a1 M L))
noncomputable def fX19_isThere_b61 (fu : Nat) (a1 : Int32) (s0 : Int32) (M : mwM) (L : mwL) : Option (Int32 × mwM × mwL) :=
  mzz s0 (some (s0, M, L))
noncomputable def fX19_isThere_b60 (fu : Nat) (a1 : Int32) (M : mwM) (L : mwL) : Option (Int32 × mwM × mwL) :=
  fX19_isThere_b61 fu a1 0 M L
noncomputable def DX19_isThere (fu : Nat) (a1 : Int32) (M : mwM) (L : mwL) : Option (Int32 × mwM × mwL) :=
  (if (M 932 (1 : Int32).toNatClampNeg) < 1 then fX19_isThere_b60 fu a1 M L else (if (M 732 33) < (M 932 (1 : Int32).toNatClampNeg) then fX19_isThere_b60 fu a1 M L else mck ((M 932 (1 : Int32).toNatClampNeg) - 1) 12 (mck (M 749 ((M 932 (1 : Int32).toNatClampNeg) - 1).toNatClampNeg) 12 ((if (M 742 (M 749 ((M 932 (1 : Int32).toNatClampNeg) - 1).toNatClampNeg).toNatClampNeg) = a1 then (if 32 ≤ (M 932 (2 : Int32).toNatClampNeg) then fX19_isThere_b60 fu a1 M L else fX19_isThere_b61 fu a1 1 M L) else fX19_isThere_b60 fu a1 M L)))))
noncomputable def fX19_serveRead_i73 (fu : Nat) (a1 : Int32) (r73 : (Int64 × Int32 × mwM × mwL) → Option (mwM × mwL)) (v2 : Int64) (v4 : Int32) (M : mwM) (L : mwL) : Option (mwM × mwL) :=
  (if 8 ≤ v4 then mlet (mset M 732 102 11) (fun M2 => some (M2, L)) else mck (3 + v4) 128 (mlet (mset M 933 ((3 + v4).toNatClampNeg) (((v2 >>> ((8 * (7 - v4)).toInt64 &&& 63)) &&& 255).toInt32)) (fun M4 => mlet (v4 + 1) (fun x5 => r73 (v2, x5, M4, L)))))
noncomputable def fX19_serveRead_h73 (fu : Nat) (a1 : Int32) : Nat → (Int64 × Int32 × mwM × mwL) → Option (mwM × mwL) := mloop (fun r73 s => fX19_serveRead_i73 fu a1 r73 s.1 s.2.1 s.2.2.1 s.2.2.2)
noncomputable def DX19_serveRead (fu : Nat) (a1 : Int32) (M : mwM) (L : mwL) : Option (mwM × mwL) :=
  mb3 (DX19_isThere fu a1 M L) (fun r8 M6 L7 => (if r8 = 0 then mb2 (DX19_no fu 49 M6 L7) (fun M24 L25 => some (M24, L25)) else mck ((M6 932 (1 : Int32).toNatClampNeg) - 1) 12 (mb3 (DX13_value fu ((964 + 53 * ((M6 932 (1 : Int32).toNatClampNeg) - 1).toNatClampNeg)) (M6 932 (2 : Int32).toNatClampNeg) M6 L7) (fun r15 M13 L14 => mlet (mset M13 933 ((0 : Int32).toNatClampNeg) 98) (fun M17 => mlet (mset M17 933 ((1 : Int32).toNatClampNeg) (M17 932 (1 : Int32).toNatClampNeg)) (fun M20 => mlet (mset M20 933 ((2 : Int32).toNatClampNeg) (M20 932 (2 : Int32).toNatClampNeg)) (fun M23 => fX19_serveRead_h73 fu a1 fu (r15, 0, M23, L14))))))))
noncomputable def fX19_serveWrite_b34 (fu : Nat) (a1 : Int32) (s1 : Int32) (M : mwM) (L : mwL) : Option (mwM × mwL) :=
  mb2 (DX19_no fu s1 M L) (fun M3 L4 => some (M3, L4))
noncomputable def fX19_serveWrite_b17 (fu : Nat) (a1 : Int32) (M : mwM) (L : mwL) : Option (mwM × mwL) :=
  mck a1 6 ((if (M 935 a1.toNatClampNeg) = 0 then fX19_serveWrite_b34 fu a1 51 M L else fX19_serveWrite_b34 fu a1 49 M L))
noncomputable def fX19_serveWrite_i43 (fu : Nat) (a1 : Int32) (r43 : (Int64 × Int32 × mwM × mwL) → Option (mwM × mwL)) (v2 : Int64) (v4 : Int32) (M : mwM) (L : mwL) : Option (mwM × mwL) :=
  (if 8 ≤ v4 then mck ((M 932 (1 : Int32).toNatClampNeg) - 1) 12 (mb2 (DX13_put fu ((964 + 53 * ((M 932 (1 : Int32).toNatClampNeg) - 1).toNatClampNeg)) (M 932 (2 : Int32).toNatClampNeg) v2 M L) (fun M9 L10 => mlet (mset M9 933 ((0 : Int32).toNatClampNeg) 110) (fun M12 => mlet (mset M12 933 ((1 : Int32).toNatClampNeg) (M12 932 (1 : Int32).toNatClampNeg)) (fun M15 => mlet (mset M15 933 ((2 : Int32).toNatClampNeg) (M15 932 (2 : Int32).toNatClampNeg)) (fun M18 => mlet (mset M18 732 102 3) (fun M19 => some (M19, L10))))))) else mck (3 + v4) 128 (mlet ((v2 * 256) + ((M 932 (3 + v4).toNatClampNeg).toInt64)) (fun x21 => mlet (v4 + 1) (fun x22 => r43 (x21, x22, M, L)))))
noncomputable def fX19_serveWrite_h43 (fu : Nat) (a1 : Int32) : Nat → (Int64 × Int32 × mwM × mwL) → Option (mwM × mwL) := mloop (fun r43 s => fX19_serveWrite_i43 fu a1 r43 s.1 s.2.1 s.2.2.1 s.2.2.2)
noncomputable def DX19_serveWrite (fu : Nat) (a1 : Int32) (M : mwM) (L : mwL) : Option (mwM × mwL) :=
  mck a1 6 ((if (M 935 a1.toNatClampNeg) = 0 then fX19_serveWrite_b17 fu a1 M L else mb3 (DX19_isThere fu a1 M L) (fun r27 M25 L26 => (if r27 = 0 then fX19_serveWrite_b17 fu a1 M25 L26 else fX19_serveWrite_h43 fu a1 fu (0, 0, M25, L26)))))
noncomputable def fX19_serveTroubles_i27 (fu : Nat) (r27 : (Int32 × Int32 × mwM × mwL) → Option (mwM × mwL)) (v1 : Int32) (v2 : Int32) (M : mwM) (L : mwL) : Option (mwM × mwL) :=
  (if v1 ≤ v2 then mlet (mset M 732 102 (2 + (2 * v1))) (fun M2 => some (M2, L)) else mb3 (DX18_stored fu v2 0 M L) (fun r5 M3 L4 => mck (2 + (2 * v2)) 128 (mlet (mset M3 933 ((2 + (2 * v2)).toNatClampNeg) r5) (fun M7 => mb3 (DX18_stored fu v2 0 M7 L4) (fun r10 M8 L9 => mb3 (DX18_status fu r10 M8 L9) (fun r13 M11 L12 => mck (3 + (2 * v2)) 128 (mlet (mset M11 933 ((3 + (2 * v2)).toNatClampNeg) r13) (fun M15 => mlet (v2 + 1) (fun x16 => r27 (v1, x16, M15, L12))))))))))
noncomputable def fX19_serveTroubles_h27 (fu : Nat) : Nat → (Int32 × Int32 × mwM × mwL) → Option (mwM × mwL) := mloop (fun r27 s => fX19_serveTroubles_i27 fu r27 s.1 s.2.1 s.2.2.1 s.2.2.2)
noncomputable def DX19_serveTroubles (fu : Nat) (M : mwM) (L : mwL) : Option (mwM × mwL) :=
  mb3 (DX18_stored fu ((-1)) 0 M L) (fun r19 M17 L18 => mlet (mset M17 933 ((0 : Int32).toNatClampNeg) 89) (fun M21 => mlet (mset M21 933 ((1 : Int32).toNatClampNeg) r19) (fun M23 => fX19_serveTroubles_h27 fu fu (r19, 0, M23, L18))))
noncomputable def DX19_serveClear (fu : Nat) (M : mwM) (L : mwL) : Option (mwM × mwL) :=
  mb3 (DX18_clear fu 0 M L) (fun r3 M1 L2 => mlet (mset M1 933 ((0 : Int32).toNatClampNeg) 84) (fun M5 => mlet (mset M5 732 102 1) (fun M6 => some (M6, L2))))
noncomputable def fX19_serveSeed_b38 (fu : Nat) (a1 : Int32) (s1 : Int32) (M : mwM) (L : mwL) : Option (mwM × mwL) :=
  mb2 (DX19_no fu s1 M L) (fun M3 L4 => some (M3, L4))
noncomputable def fX19_serveSeed_b20 (fu : Nat) (a1 : Int32) (M : mwM) (L : mwL) : Option (mwM × mwL) :=
  mck a1 6 ((if (M 934 a1.toNatClampNeg) = 1 then fX19_serveSeed_b38 fu a1 34 M L else fX19_serveSeed_b38 fu a1 54 M L))
noncomputable def fX19_serveSeed_i96 (fu : Nat) (a1 : Int32) (r96 : (Int32 × mwM × mwL) → Option (mwM × mwL)) (v2 : Int32) (M : mwM) (L : mwL) : Option (mwM × mwL) :=
  (if 4 ≤ v2 then mlet (mset M 732 102 6) (fun M6 => some (M6, L)) else mck a1 6 (mck (2 + v2) 128 (mlet (mset M 933 ((2 + v2).toNatClampNeg) (((M 937 a1.toNatClampNeg) >>> ((8 * (3 - v2)) &&& 31)) &&& 255)) (fun M9 => mlet (v2 + 1) (fun x10 => r96 (x10, M9, L))))))
noncomputable def fX19_serveSeed_h96 (fu : Nat) (a1 : Int32) : Nat → (Int32 × mwM × mwL) → Option (mwM × mwL) := mloop (fun r96 s => fX19_serveSeed_i96 fu a1 r96 s.1 s.2.1 s.2.2)
noncomputable def DX19_serveSeed (fu : Nat) (a1 : Int32) (M : mwM) (L : mwL) : Option (mwM × mwL) :=
  mck a1 6 ((if (M 934 a1.toNatClampNeg) = 1 then fX19_serveSeed_b20 fu a1 M L else mck a1 6 ((if (M 938 a1.toNatClampNeg) = 3 then fX19_serveSeed_b20 fu a1 M L else mlet (mset M 732 108 ((M 732 108) + 1)) (fun M15 => mck a1 6 (mlet (mset M15 936 (a1.toNatClampNeg) (vp_nar .boolean 1)) (fun M17 => mck a1 6 (mlet (mset M17 937 (a1.toNatClampNeg) (((2654435761 * ((M17 732 108).toInt64)) &&& 4294967295).toInt32)) (fun M19 => mlet (mset M19 933 ((0 : Int32).toNatClampNeg) 103) (fun M21 => mlet (mset M21 933 ((1 : Int32).toNatClampNeg) 1) (fun M23 => fX19_serveSeed_h96 fu a1 fu (0, M23, L))))))))))))
noncomputable def fX19_serveKey_b37 (fu : Nat) (a1 : Int32) (s1 : Int32) (M : mwM) (L : mwL) : Option (mwM × mwL) :=
  mb2 (DX19_no fu s1 M L) (fun M3 L4 => some (M3, L4))
noncomputable def fX19_serveKey_b19 (fu : Nat) (a1 : Int32) (M : mwM) (L : mwL) : Option (mwM × mwL) :=
  mck a1 6 ((if (M 938 a1.toNatClampNeg) = 3 then fX19_serveKey_b37 fu a1 54 M L else fX19_serveKey_b37 fu a1 36 M L))
noncomputable def fX19_serveKey_b215 (fu : Nat) (a1 : Int32) (s1 : Int32) (M : mwM) (L : mwL) : Option (mwM × mwL) :=
  mb2 (DX19_no fu s1 M L) (fun M38 L39 => some (M38, L39))
noncomputable def fX19_serveKey_b150 (fu : Nat) (a1 : Int32) (r103 : (Int32 × mwM × mwL) → Option (mwM × mwL)) (v3 : Int32) (s2 : Int32) (M : mwM) (L : mwL) : Option (mwM × mwL) :=
  mck a1 6 (mlet (mset M 935 (a1.toNatClampNeg) (vp_nar .boolean s2)) (fun M36 => mlet (v3 + 1) (fun x37 => r103 (x37, M36, L))))
noncomputable def fX19_serveKey_b149 (fu : Nat) (a1 : Int32) (r103 : (Int32 × mwM × mwL) → Option (mwM × mwL)) (v3 : Int32) (M : mwM) (L : mwL) : Option (mwM × mwL) :=
  fX19_serveKey_b150 fu a1 r103 v3 0 M L
noncomputable def fX19_serveKey_i103 (fu : Nat) (a1 : Int32) (r103 : (Int32 × mwM × mwL) → Option (mwM × mwL)) (v3 : Int32) (M : mwM) (L : mwL) : Option (mwM × mwL) :=
  (if 4 ≤ v3 then mck a1 6 ((if (M 935 a1.toNatClampNeg) = 0 then mck a1 6 (mck a1 6 (mlet (mset M 938 (a1.toNatClampNeg) ((M 938 a1.toNatClampNeg) + 1)) (fun M20 => mck a1 6 ((if (M20 938 a1.toNatClampNeg) = 3 then fX19_serveKey_b215 fu a1 54 M20 L else fX19_serveKey_b215 fu a1 53 M20 L))))) else mlet (mset M 933 ((0 : Int32).toNatClampNeg) 103) (fun M24 => mlet (mset M24 933 ((1 : Int32).toNatClampNeg) 2) (fun M26 => mlet (mset M26 732 102 2) (fun M27 => some (M27, L)))))) else mck a1 6 ((if (M 935 a1.toNatClampNeg) = 0 then fX19_serveKey_b149 fu a1 r103 v3 M L else mb3 (DX14_out fu v3 M L) (fun r32 M30 L31 => mck (2 + v3) 128 ((if (r32 &&& 255) = (M30 932 (2 + v3).toNatClampNeg) then fX19_serveKey_b150 fu a1 r103 v3 1 M30 L31 else fX19_serveKey_b149 fu a1 r103 v3 M30 L31))))))
noncomputable def fX19_serveKey_h103 (fu : Nat) (a1 : Int32) : Nat → (Int32 × mwM × mwL) → Option (mwM × mwL) := mloop (fun r103 s => fX19_serveKey_i103 fu a1 r103 s.1 s.2.1 s.2.2)
noncomputable def fX19_serveKey_i50 (fu : Nat) (a1 : Int32) (r50 : (Int32 × mwM × mwL) → Option (mwM × mwL)) (v2 : Int32) (M : mwM) (L : mwL) : Option (mwM × mwL) :=
  (if 4 ≤ v2 then mb3 (DX14_code fu 16 32 M L) (fun r8 M6 L7 => mck a1 6 (mlet (mset M6 935 (a1.toNatClampNeg) (vp_nar .boolean 1)) (fun M10 => fX19_serveKey_h103 fu a1 fu (0, M10, L7)))) else mck a1 6 (mb2 (DX14_octet fu (((M 937 a1.toNatClampNeg) >>> ((8 * (3 - v2)) &&& 31)).toInt8.toInt32) M L) (fun M12 L13 => mlet (v2 + 1) (fun x14 => r50 (x14, M12, L13)))))
noncomputable def fX19_serveKey_h50 (fu : Nat) (a1 : Int32) : Nat → (Int32 × mwM × mwL) → Option (mwM × mwL) := mloop (fun r50 s => fX19_serveKey_i50 fu a1 r50 s.1 s.2.1 s.2.2)
noncomputable def DX19_serveKey (fu : Nat) (a1 : Int32) (M : mwM) (L : mwL) : Option (mwM × mwL) :=
  mck a1 6 ((if (M 938 a1.toNatClampNeg) = 3 then fX19_serveKey_b19 fu a1 M L else mck a1 6 ((if (M 936 a1.toNatClampNeg) = 0 then fX19_serveKey_b19 fu a1 M L else mck a1 6 (mlet (mset M 936 (a1.toNatClampNeg) (vp_nar .boolean 0)) (fun M45 => fX19_serveKey_h50 fu a1 fu (0, M45, L)))))))
noncomputable def fX19_serve_b266 (fu : Nat) (a1 : Int32) (a2 : Int32) (M : mwM) (L : mwL) : Option (mwM × mwL) :=
  some (M, L)
noncomputable def fX19_serve_b171 (fu : Nat) (a1 : Int32) (a2 : Int32) (M : mwM) (L : mwL) : Option (mwM × mwL) :=
  mb2 (DX19_no fu 19 M L) (fun M18 L19 => fX19_serve_b266 fu a1 a2 M18 L19)
noncomputable def fX19_serve_b180 (fu : Nat) (a1 : Int32) (a2 : Int32) (v3 : Int32) (v6 : Int32) (M : mwM) (L : mwL) : Option (mwM × mwL) :=
  (if v3 = 16 then mb2 (DX19_serveSession fu a1 M L) (fun M38 L39 => fX19_serve_b266 fu a1 a2 M38 L39) else (if v3 = 34 then mb2 (DX19_serveRead fu a1 M L) (fun M36 L37 => fX19_serve_b266 fu a1 a2 M36 L37) else (if v3 = 46 then mb2 (DX19_serveWrite fu a1 M L) (fun M34 L35 => fX19_serve_b266 fu a1 a2 M34 L35) else (if v3 = 25 then mb2 (DX19_serveTroubles fu M L) (fun M32 L33 => fX19_serve_b266 fu a1 a2 M32 L33) else (if v3 = 20 then mb2 (DX19_serveClear fu M L) (fun M30 L31 => fX19_serve_b266 fu a1 a2 M30 L31) else (if v6 = 0 then mb2 (DX19_serveKey fu a1 M L) (fun M26 L27 => fX19_serve_b266 fu a1 a2 M26 L27) else mb2 (DX19_serveSeed fu a1 M L) (fun M28 L29 => fX19_serve_b266 fu a1 a2 M28 L29)))))))
noncomputable def fX19_serve_b130 (fu : Nat) (a1 : Int32) (a2 : Int32) (v3 : Int32) (v4 : Int32) (v5 : Int32) (v6 : Int32) (s0 : Int32) (M : mwM) (L : mwL) : Option (mwM × mwL) :=
  (if v5 = 0 then mb2 (DX19_no fu 17 M L) (fun M16 L17 => fX19_serve_b266 fu a1 a2 M16 L17) else (if v3 = 39 then (if v6 = 0 then (if s0 = 0 then fX19_serve_b171 fu a1 a2 M L else fX19_serve_b180 fu a1 a2 v3 v6 M L) else fX19_serve_b180 fu a1 a2 v3 v6 M L) else (if a2 = v4 then fX19_serve_b180 fu a1 a2 v3 v6 M L else fX19_serve_b171 fu a1 a2 M L)))
noncomputable def fX19_serve_b129 (fu : Nat) (a1 : Int32) (a2 : Int32) (v3 : Int32) (v4 : Int32) (v5 : Int32) (v6 : Int32) (M : mwM) (L : mwL) : Option (mwM × mwL) :=
  fX19_serve_b130 fu a1 a2 v3 v4 v5 v6 0 M L
noncomputable def fX19_serve_b101 (fu : Nat) (a1 : Int32) (a2 : Int32) (v3 : Int32) (v4 : Int32) (v5 : Int32) (s0 : Int32) (M : mwM) (L : mwL) : Option (mwM × mwL) :=
  (if v3 = 39 then (if a2 = 6 then (if (M 932 (1 : Int32).toNatClampNeg) = 2 then fX19_serve_b130 fu a1 a2 v3 v4 v5 s0 1 M L else fX19_serve_b129 fu a1 a2 v3 v4 v5 s0 M L) else fX19_serve_b129 fu a1 a2 v3 v4 v5 s0 M L) else fX19_serve_b129 fu a1 a2 v3 v4 v5 s0 M L)
noncomputable def fX19_serve_b100 (fu : Nat) (a1 : Int32) (a2 : Int32) (v3 : Int32) (v4 : Int32) (v5 : Int32) (M : mwM) (L : mwL) : Option (mwM × mwL) :=
  fX19_serve_b101 fu a1 a2 v3 v4 v5 0 M L
noncomputable def fX19_serve_b73 (fu : Nat) (a1 : Int32) (a2 : Int32) (v3 : Int32) (v4 : Int32) (s0 : Int32) (M : mwM) (L : mwL) : Option (mwM × mwL) :=
  (if v3 = 39 then (if a2 = 2 then (if (M 932 (1 : Int32).toNatClampNeg) = 1 then fX19_serve_b101 fu a1 a2 v3 v4 s0 1 M L else fX19_serve_b100 fu a1 a2 v3 v4 s0 M L) else fX19_serve_b100 fu a1 a2 v3 v4 s0 M L) else fX19_serve_b100 fu a1 a2 v3 v4 s0 M L)
noncomputable def fX19_serve_b68 (fu : Nat) (a1 : Int32) (a2 : Int32) (v3 : Int32) (v4 : Int32) (M : mwM) (L : mwL) : Option (mwM × mwL) :=
  fX19_serve_b73 fu a1 a2 v3 v4 1 M L
noncomputable def fX19_serve_b55 (fu : Nat) (a1 : Int32) (a2 : Int32) (v3 : Int32) (s0 : Int32) (M : mwM) (L : mwL) : Option (mwM × mwL) :=
  (if 0 < s0 then fX19_serve_b68 fu a1 a2 v3 s0 M L else (if v3 = 39 then fX19_serve_b68 fu a1 a2 v3 s0 M L else fX19_serve_b73 fu a1 a2 v3 s0 0 M L))
noncomputable def fX19_serve_b50 (fu : Nat) (a1 : Int32) (a2 : Int32) (v3 : Int32) (M : mwM) (L : mwL) : Option (mwM × mwL) :=
  fX19_serve_b55 fu a1 a2 v3 1 M L
noncomputable def DX19_serve (fu : Nat) (a1 : Int32) (a2 : Int32) (M : mwM) (L : mwL) : Option (mwM × mwL) :=
  mlet (M 932 (0 : Int32).toNatClampNeg) (fun x41 => (if x41 = 16 then fX19_serve_b55 fu a1 a2 x41 2 M L else (if x41 = 34 then fX19_serve_b55 fu a1 a2 x41 3 M L else (if x41 = 46 then fX19_serve_b55 fu a1 a2 x41 11 M L else (if x41 = 25 then fX19_serve_b50 fu a1 a2 x41 M L else (if x41 = 20 then fX19_serve_b50 fu a1 a2 x41 M L else fX19_serve_b55 fu a1 a2 x41 0 M L))))))
noncomputable def fX19_say_i45 (fu : Nat) (a1 : Int32) (a2 : Int32) (r45 : (Int32 × Int32 × mwM × mwL) → Option (mwM × mwL)) (v3 : Int32) (v4 : Int32) (M : mwM) (L : mwL) : Option (mwM × mwL) :=
  (if (M 732 102) ≤ v4 then some (M, L) else mck v4 128 (mb2 (DX17_octet fu v3 v4 ((M 933 v4.toNatClampNeg).toInt8.toInt32) M L) (fun M3 L4 => mlet (v4 + 1) (fun x5 => r45 (v3, x5, M3, L4)))))
noncomputable def fX19_say_h45 (fu : Nat) (a1 : Int32) (a2 : Int32) : Nat → (Int32 × Int32 × mwM × mwL) → Option (mwM × mwL) := mloop (fun r45 s => fX19_say_i45 fu a1 a2 r45 s.1 s.2.1 s.2.2.1 s.2.2.2)
noncomputable def DX19_say (fu : Nat) (a1 : Int32) (a2 : Int32) (M : mwM) (L : mwL) : Option (mwM × mwL) :=
  mb3 (DX17_send fu (M 732 102) M L) (fun r8 M6 L7 => (if 1 ≤ r8 then mlet (mset M6 732 88 ((M6 732 88) + 1)) (fun M10 => mck r8 101 (mlet (mset M10 927 (r8.toNatClampNeg) a1) (fun M12 => mck r8 101 (mlet (mset M12 928 (r8.toNatClampNeg) (vp_nar .boolean a2)) (fun M14 => fX19_say_h45 fu a1 a2 fu (r8, 0, M14, L7)))))) else some (M6, L7)))
noncomputable def fX19_arrive_b297 (fu : Nat) (a1 : Int32) (M : mwM) (L : mwL) : Option (mwM × mwL) :=
  some (M, L)
noncomputable def fX19_arrive_i255 (fu : Nat) (a1 : Int32) (r255 : (Int32 × Int32 × mwM × mwL) → Option (mwM × mwL)) (v5 : Int32) (v7 : Int32) (M : mwM) (L : mwL) : Option (mwM × mwL) :=
  (if v5 ≤ v7 then mlet (mset M 939 ((3 : Int32).toNatClampNeg) ((M 939 (3 : Int32).toNatClampNeg) + 1)) (fun M52 => mlet (mset M52 732 97 ((-1))) (fun M53 => fX19_arrive_b297 fu a1 M53 L)) else mck v7 128 (mck v7 128 (mlet (mset M 931 (v7.toNatClampNeg) (M 932 v7.toNatClampNeg)) (fun M56 => mlet (v7 + 1) (fun x57 => r255 (v5, x57, M56, L))))))
noncomputable def fX19_arrive_h255 (fu : Nat) (a1 : Int32) : Nat → (Int32 × Int32 × mwM × mwL) → Option (mwM × mwL) := mloop (fun r255 s => fX19_arrive_i255 fu a1 r255 s.1 s.2.1 s.2.2.1 s.2.2.2)
noncomputable def fX19_arrive_i150 (fu : Nat) (a1 : Int32) (r150 : (Int32 × Int32 × Int32 × mwM × mwL) → Option (mwM × mwL)) (v3 : Int32) (v5 : Int32) (v6 : Int32) (M : mwM) (L : mwL) : Option (mwM × mwL) :=
  (if v5 ≤ v6 then mb3 (DX17_frame fu v3 1 M L) (fun r31 M29 L30 => mck r31 101 ((if (M29 928 r31.toNatClampNeg) = 0 then mck r31 101 ((if (M29 732 97) = (M29 927 r31.toNatClampNeg) then mlet (mset M29 732 98 v5) (fun M36 => fX19_arrive_h255 fu a1 fu (v5, 0, M36, L30)) else fX19_arrive_b297 fu a1 M29 L30)) else mck r31 101 (mb2 (DX19_serve fu (M29 927 r31.toNatClampNeg) v5 M29 L30) (fun M38 L39 => mck r31 101 (mb2 (DX19_say fu (M38 927 r31.toNatClampNeg) 0 M38 L39) (fun M41 L42 => fX19_arrive_b297 fu a1 M41 L42))))))) else mb3 (DX17_got fu v6 M L) (fun r45 M43 L44 => mck v6 128 (mlet (mset M43 932 (v6.toNatClampNeg) (r45 &&& 255)) (fun M47 => mlet (v6 + 1) (fun x48 => r150 (v3, v5, x48, M47, L44))))))
noncomputable def fX19_arrive_h150 (fu : Nat) (a1 : Int32) : Nat → (Int32 × Int32 × Int32 × mwM × mwL) → Option (mwM × mwL) := mloop (fun r150 s => fX19_arrive_i150 fu a1 r150 s.1 s.2.1 s.2.2.1 s.2.2.2.1 s.2.2.2.2)
noncomputable def fX19_arrive_i55 (fu : Nat) (a1 : Int32) (r55 : (Int32 × Int32 × mwM × mwL) → Option (mwM × mwL)) (v3 : Int32) (v4 : Int32) (M : mwM) (L : mwL) : Option (mwM × mwL) :=
  (if (M 732 91) ≤ v4 then mb3 (DX17_receive fu v3 M L) (fun r12 M10 L11 => mb3 (DX17_ended fu 0 M10 L11) (fun r15 M13 L14 => (if r15 = (M13 732 95) then some (M13, L14) else mlet (mset M13 732 95 ((M13 732 95) + 1)) (fun M17 => mb3 (DX17_length fu M17 L14) (fun r20 M18 L19 => fX19_arrive_h150 fu a1 fu (v3, r20, 0, M18, L19)))))) else mck (v4 + 1) 6001 (mck v4 6001 (mlet (mset M 929 (v4.toNatClampNeg) (M 929 (v4 + 1).toNatClampNeg)) (fun M23 => mck (v4 + 1) 6001 (mck v4 6001 (mlet (mset M23 930 (v4.toNatClampNeg) (M23 930 (v4 + 1).toNatClampNeg)) (fun M26 => mlet (v4 + 1) (fun x27 => r55 (v3, x27, M26, L)))))))))
noncomputable def fX19_arrive_h55 (fu : Nat) (a1 : Int32) : Nat → (Int32 × Int32 × mwM × mwL) → Option (mwM × mwL) := mloop (fun r55 s => fX19_arrive_i55 fu a1 r55 s.1 s.2.1 s.2.2.1 s.2.2.2)
noncomputable def fX19_arrive_b26 (fu : Nat) (a1 : Int32) (v2 : Int32) (M : mwM) (L : mwL) : Option (mwM × mwL) :=
  (if v2 = (M 732 91) then some (M, L) else mck v2 6001 (mlet (M 929 v2.toNatClampNeg) (fun x7 => mlet (mset M 732 91 ((M 732 91) - 1)) (fun M8 => fX19_arrive_h55 fu a1 fu (x7, v2, M8, L)))))
noncomputable def fX19_arrive_i2 (fu : Nat) (a1 : Int32) (r2 : (Int32 × mwM × mwL) → Option (mwM × mwL)) (v2 : Int32) (M : mwM) (L : mwL) : Option (mwM × mwL) :=
  (if (M 732 91) ≤ v2 then fX19_arrive_b26 fu a1 v2 M L else mck v2 6001 ((if (M 930 v2.toNatClampNeg) = a1 then fX19_arrive_b26 fu a1 v2 M L else mlet (v2 + 1) (fun x4 => r2 (x4, M, L)))))
noncomputable def fX19_arrive_h2 (fu : Nat) (a1 : Int32) : Nat → (Int32 × mwM × mwL) → Option (mwM × mwL) := mloop (fun r2 s => fX19_arrive_i2 fu a1 r2 s.1 s.2.1 s.2.2)
noncomputable def DX19_arrive (fu : Nat) (a1 : Int32) (M : mwM) (L : mwL) : Option (mwM × mwL) :=
  fX19_arrive_h2 fu a1 fu (0, M, L)
