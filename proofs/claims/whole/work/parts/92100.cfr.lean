/-! FRAMES: printed by frp.py -/
theorem y_fX2_clearState_i2 {P : mwM → mwL → Prop} (hC : CPc2 P) {fu : Nat} {k : Nat} {a1 : Int32} {r2 : (Int32 × mwM × mwL) → Option (mwM × mwL)} {v2 : Int32} (hr2 : ∀ s, P s.2.1 s.2.2 → kq2 P (r2 s)) (hk_k : 4 ≤ k ∧ k ≤ 689) {M : mwM} {L : mwL} (h : P M L) : kq2 P (fX2_clearState_i2 fu k a1 r2 v2 M L) := by
  unfold fX2_clearState_i2
  exact (kqI2 (kqS2 h) (kqK2 (fun q1 => (kqK2 (fun q2 => (kqM2_c2 hC h (by omega) (fun M4 h3 => (kqL2 (fun x5 => (hr2 (x5, M4, L) h3))))))))))
theorem y_fX2_clearState_h2 {P : mwM → mwL → Prop} (hC : CPc2 P) {fu : Nat} {k : Nat} {a1 : Int32} (hk_k : 4 ≤ k ∧ k ≤ 689) : ∀ n s, P s.2.1 s.2.2 → kq2 P (fX2_clearState_h2 fu k a1 n s) := by
  intro n
  induction n with
  | zero => intro s _; exact kqN2
  | succ n ih =>
    intro s h
    show kq2 P (fX2_clearState_i2 fu k a1 (fX2_clearState_h2 fu k a1 n) s.1 s.2.1 s.2.2)
    exact y_fX2_clearState_i2 hC ih hk_k h
theorem y_DX2_clearState {P : mwM → mwL → Prop} (hC : CPc2 P) {fu : Nat} {k : Nat} {a1 : Int32} (hk_k : 4 ≤ k ∧ k ≤ 689) {M : mwM} {L : mwL} (h : P M L) : kq2 P (DX2_clearState fu k a1 M L) := by
  unfold DX2_clearState
  exact (y_fX2_clearState_h2 hC (by omega) _ (0, M, L) h)
theorem y_fX2_begin_i62 {P : mwM → mwL → Prop} (hC : CPc2 P) {fu : Nat} {k : Nat} {a1 : Int32} {a2 : Int32} {r62 : (Int32 × mwM × mwL) → Option (mwM × mwL)} {v3 : Int32} (hr62 : ∀ s, P s.2.1 s.2.2 → kq2 P (r62 s)) (hk_k : 4 ≤ k ∧ k ≤ 689) {M : mwM} {L : mwL} (h : P M L) : kq2 P (fX2_begin_i62 fu k a1 a2 r62 v3 M L) := by
  unfold fX2_begin_i62
  exact (kqI2 (kqB22 (y_DX2_clearState hC (by omega) h) (fun M2 L3 h1 => (kqS2 h1))) (kqK2 (fun q2 => (kqW2_c2 hC h (by omega) (fun L5 h3 => (kqL2 (fun x6 => (hr62 (x6, M, L5) h3))))))))
theorem y_fX2_begin_h62 {P : mwM → mwL → Prop} (hC : CPc2 P) {fu : Nat} {k : Nat} {a1 : Int32} {a2 : Int32} (hk_k : 4 ≤ k ∧ k ≤ 689) : ∀ n s, P s.2.1 s.2.2 → kq2 P (fX2_begin_h62 fu k a1 a2 n s) := by
  intro n
  induction n with
  | zero => intro s _; exact kqN2
  | succ n ih =>
    intro s h
    show kq2 P (fX2_begin_i62 fu k a1 a2 (fX2_begin_h62 fu k a1 a2 n) s.1 s.2.1 s.2.2)
    exact y_fX2_begin_i62 hC ih hk_k h
theorem y_DX2_begin {P : mwM → mwL → Prop} (hC : CPc2 P) {fu : Nat} {k : Nat} {a1 : Int32} {a2 : Int32} (hk_k : 4 ≤ k ∧ k ≤ 689) {M : mwM} {L : mwL} (h : P M L) : kq2 P (DX2_begin fu k a1 a2 M L) := by
  unfold DX2_begin
  exact (kqM2_c2 hC h (by omega) (fun M7 h1 => (kqM2_c2 hC h1 (by omega) (fun M8 h2 => (kqM2_c2 hC h2 (by omega) (fun M9 h3 => (kqM2_c2 hC h3 (by omega) (fun M10 h4 => (kqM2_c2 hC h4 (by omega) (fun M11 h5 => (kqM2_c2 hC h5 (by omega) (fun M12 h6 => (kqM2_c2 hC h6 (by omega) (fun M13 h7 => (kqM2_c2 hC h7 (by omega) (fun M14 h8 => (kqM2_c2 hC h8 (by omega) (fun M15 h9 => (kqM2_c2 hC h9 (by omega) (fun M16 h10 => (kqM2_c2 hC h10 (by omega) (fun M17 h11 => (kqM2_c2 hC h11 (by omega) (fun M18 h12 => (y_fX2_begin_h62 hC (by omega) _ (0, M18, L) h12)))))))))))))))))))))))))
theorem y_fX2_isMark_b17 {P : mwM → mwL → Prop} (hC : CPc2 P) {fu : Nat} {k : Nat} {a1 : Int32} {s0 : Int32} {M : mwM} {L : mwL} (h : P M L) : kq3 P (fX2_isMark_b17 fu k a1 s0 M L) := by
  unfold fX2_isMark_b17
  exact (kq_mzz3 (kqS3 h))
theorem y_DX2_isMark {P : mwM → mwL → Prop} (hC : CPc2 P) {fu : Nat} {k : Nat} {a1 : Int32} {M : mwM} {L : mwL} (h : P M L) : kq3 P (DX2_isMark fu k a1 M L) := by
  unfold DX2_isMark
  exact (kqK3 (fun q1 => (kqI3 (y_fX2_isMark_b17 hC h) (y_fX2_isMark_b17 hC h))))
theorem y_fX2_putInOrder_b76 {P : mwM → mwL → Prop} (hC : CPc2 P) {fu : Nat} {k : Nat} {a1 : Int32} {a2 : Int32} {v4 : Int32} (hk_k : 4 ≤ k ∧ k ≤ 689) {M : mwM} {L : mwL} (h : P M L) : kq2 P (fX2_putInOrder_b76 fu k a1 a2 v4 M L) := by
  unfold fX2_putInOrder_b76
  exact (kqK2 (fun q1 => (kqK2 (fun q2 => (kqM2_c2 hC h (by omega) (fun M15 h3 => (kqS2 h3)))))))
theorem y_fX2_putInOrder_i20 {P : mwM → mwL → Prop} (hC : CPc2 P) {fu : Nat} {k : Nat} {a1 : Int32} {a2 : Int32} {r20 : (Int32 × Int32 × mwM × mwL) → Option (mwM × mwL)} {v3 : Int32} {v4 : Int32} (hr20 : ∀ s, P s.2.2.1 s.2.2.2 → kq2 P (r20 s)) (hk_k : 4 ≤ k ∧ k ≤ 689) {M : mwM} {L : mwL} (h : P M L) : kq2 P (fX2_putInOrder_i20 fu k a1 a2 r20 v3 v4 M L) := by
  unfold fX2_putInOrder_i20
  exact (kqI2 (y_fX2_putInOrder_b76 hC (by omega) h) (kqK2 (fun q1 => (kqK2 (fun q2 => (kqK2 (fun q3 => (kqI2 (y_fX2_putInOrder_b76 hC (by omega) h) (kqK2 (fun q4 => (kqK2 (fun q5 => (kqK2 (fun q6 => (kqK2 (fun q7 => (kqM2_c2 hC h (by omega) (fun M11 h8 => (kqL2 (fun x12 => (hr20 (v3, x12, M11, L) h8)))))))))))))))))))))
theorem y_fX2_putInOrder_h20 {P : mwM → mwL → Prop} (hC : CPc2 P) {fu : Nat} {k : Nat} {a1 : Int32} {a2 : Int32} (hk_k : 4 ≤ k ∧ k ≤ 689) : ∀ n s, P s.2.2.1 s.2.2.2 → kq2 P (fX2_putInOrder_h20 fu k a1 a2 n s) := by
  intro n
  induction n with
  | zero => intro s _; exact kqN2
  | succ n ih =>
    intro s h
    show kq2 P (fX2_putInOrder_i20 fu k a1 a2 (fX2_putInOrder_h20 fu k a1 a2 n) s.1 s.2.1 s.2.2.1 s.2.2.2)
    exact y_fX2_putInOrder_i20 hC ih hk_k h
theorem y_DX2_putInOrder {P : mwM → mwL → Prop} (hC : CPc2 P) {fu : Nat} {k : Nat} {a1 : Int32} {a2 : Int32} (hk_k : 4 ≤ k ∧ k ≤ 689) {M : mwM} {L : mwL} (h : P M L) : kq2 P (DX2_putInOrder fu k a1 a2 M L) := by
  unfold DX2_putInOrder
  exact (kqK2 (fun q1 => (kqL2 (fun x18 => (kqL2 (fun x19 => (y_fX2_putInOrder_h20 hC (by omega) _ (x18, x19, M, L) h)))))))
theorem y_fX2_addState_b25 {P : mwM → mwL → Prop} (hC : CPc2 P) {fu : Nat} {k : Nat} {a1 : Int32} {a2 : Int32} {M : mwM} {L : mwL} (h : P M L) : kq3 P (fX2_addState_b25 fu k a1 a2 M L) := by
  unfold fX2_addState_b25
  exact (kqS3 h)
theorem y_fX2_addState_b129 {P : mwM → mwL → Prop} (hC : CPc2 P) {fu : Nat} {k : Nat} {a1 : Int32} {a2 : Int32} (hk_k : 4 ≤ k ∧ k ≤ 689) {M : mwM} {L : mwL} (h : P M L) : kq3 P (fX2_addState_b129 fu k a1 a2 M L) := by
  unfold fX2_addState_b129
  exact (kqB23 (y_DX2_putInOrder hC (by omega) h) (fun M1 L2 h1 => (kqB23 (y_DX2_putInOrder hC (by omega) h1) (fun M3 L4 h2 => (kqS3 h2)))))
theorem y_DX2_addState {P : mwM → mwL → Prop} (hC : CPc2 P) {fu : Nat} {k : Nat} {a1 : Int32} {a2 : Int32} (hk_k : 4 ≤ k ∧ k ≤ 689) {M : mwM} {L : mwL} (h : P M L) : kq3 P (DX2_addState fu k a1 a2 M L) := by
  unfold DX2_addState
  exact (kqK3 (fun q1 => (kqL3 (fun x7 => (kqB33 (y_DX2_isMark hC h) (fun r10 M8 L9 h2 => (kqI3 (kqI3 (kqI3 (kqM3_c2 hC h2 (by omega) (fun M14 h3 => (kqB23 (y_DX2_clearState hC (by omega) h3) (fun M15 L16 h4 => (kqK3 (fun q5 => (kqM3_c2 hC h4 (by omega) (fun M19 h6 => (kqK3 (fun q7 => (kqM3_c2 hC h6 (by omega) (fun M22 h8 => (kqK3 (fun q9 => (kqM3_c2 hC h8 (by omega) (fun M25 h10 => (kqK3 (fun q11 => (kqI3 (kqB33 (y_DX2_isMark hC h10) (fun r31 M29 L30 h12 => (kqI3 (kqK3 (fun q13 => (kqM3_c2 hC h12 (by omega) (fun M35 h14 => (y_fX2_addState_b129 hC (by omega) h14))))) (y_fX2_addState_b129 hC (by omega) h12)))) (y_fX2_addState_b129 hC (by omega) h10)))))))))))))))))))) (kqS3 h2)) (y_fX2_addState_b25 hC h2)) (y_fX2_addState_b25 hC h2))))))))
theorem y_fX2_addEdge_b24 {P : mwM → mwL → Prop} (hC : CPc2 P) {fu : Nat} {k : Nat} {a1 : Int32} {a2 : Int32} {a3 : Int32} {a4 : Int32} {M : mwM} {L : mwL} (h : P M L) : kq3 P (fX2_addEdge_b24 fu k a1 a2 a3 a4 M L) := by
  unfold fX2_addEdge_b24
  exact (kqS3 h)
theorem y_DX2_addEdge {P : mwM → mwL → Prop} (hC : CPc2 P) {fu : Nat} {k : Nat} {a1 : Int32} {a2 : Int32} {a3 : Int32} {a4 : Int32} (hk_k : 4 ≤ k ∧ k ≤ 689) {M : mwM} {L : mwL} (h : P M L) : kq3 P (DX2_addEdge fu k a1 a2 a3 a4 M L) := by
  unfold DX2_addEdge
  exact (kqK3 (fun q1 => (kqI3 (y_fX2_addEdge_b24 hC h) (kqK3 (fun q2 => (kqI3 (y_fX2_addEdge_b24 hC h) (kqI3 (kqM3_c2 hC h (by omega) (fun M8 h3 => (kqK3 (fun q4 => (kqM3_c2 hC h3 (by omega) (fun M11 h5 => (kqK3 (fun q6 => (kqM3_c2 hC h5 (by omega) (fun M14 h7 => (kqK3 (fun q8 => (kqM3_c2 hC h7 (by omega) (fun M17 h9 => (kqK3 (fun q10 => (kqM3_c2 hC h9 (by omega) (fun M20 h11 => (kqK3 (fun q12 => (kqM3_c2 hC h11 (by omega) (fun M23 h13 => (kqS3 h13))))))))))))))))))))))) (kqS3 h))))))))
theorem y_fX2_addAct_b104 {P : mwM → mwL → Prop} (hC : CPc2 P) {fu : Nat} {k : Nat} {a1 : Int32} {a2 : Int32} {a3 : Int32} {a4 : Int32} {a5 : Int32} {s1 : Int32} {s2 : Int32} (hk_k : 4 ≤ k ∧ k ≤ 689) {M : mwM} {L : mwL} (h : P M L) : kq3 P (fX2_addAct_b104 fu k a1 a2 a3 a4 a5 s1 s2 M L) := by
  unfold fX2_addAct_b104
  exact (kqK3 (fun q1 => (kqM3_c2 hC h (by omega) (fun M17 h2 => (kqM3_c2 hC h2 (by omega) (fun M18 h3 => (kqS3 h3)))))))
theorem y_fX2_addAct_b22 {P : mwM → mwL → Prop} (hC : CPc2 P) {fu : Nat} {k : Nat} {a1 : Int32} {a2 : Int32} {a3 : Int32} {a4 : Int32} {a5 : Int32} (hk_k : 4 ≤ k ∧ k ≤ 689) {M : mwM} {L : mwL} (h : P M L) : kq3 P (fX2_addAct_b22 fu k a1 a2 a3 a4 a5 M L) := by
  unfold fX2_addAct_b22
  exact (kqI3 (kqK3 (fun q1 => (kqM3_c2 hC h (by omega) (fun M4 h2 => (kqK3 (fun q3 => (kqM3_c2 hC h2 (by omega) (fun M7 h4 => (kqK3 (fun q5 => (kqM3_c2 hC h4 (by omega) (fun M10 h6 => (kqK3 (fun q7 => (kqM3_c2 hC h6 (by omega) (fun M13 h8 => (kqI3 (y_fX2_addAct_b104 hC (by omega) h8) (y_fX2_addAct_b104 hC (by omega) h8)))))))))))))))))) (kqS3 h))
theorem y_DX2_addAct {P : mwM → mwL → Prop} (hC : CPc2 P) {fu : Nat} {k : Nat} {a1 : Int32} {a2 : Int32} {a3 : Int32} {a4 : Int32} {a5 : Int32} (hk_k : 4 ≤ k ∧ k ≤ 689) {M : mwM} {L : mwL} (h : P M L) : kq3 P (DX2_addAct fu k a1 a2 a3 a4 a5 M L) := by
  unfold DX2_addAct
  exact (kqI3 (kqS3 h) (kqI3 (y_fX2_addAct_b22 hC (by omega) h) (kqB33 (y_DX2_isMark hC h) (fun r23 M21 L22 h1 => (kqI3 (y_fX2_addAct_b22 hC (by omega) h1) (kqS3 h1))))))
theorem y_DX2_addDatum {P : mwM → mwL → Prop} (hC : CPc2 P) {fu : Nat} {k : Nat} {a1 : Int32} (hk_k : 4 ≤ k ∧ k ≤ 689) {M : mwM} {L : mwL} (h : P M L) : kq3 P (DX2_addDatum fu k a1 M L) := by
  unfold DX2_addDatum
  exact (kqI3 (kqK3 (fun q1 => (kqW3_c2 hC h (by omega) (fun L3 h2 => (kqM3_c2 hC h2 (by omega) (fun M4 h3 => (kqS3 h3))))))) (kqS3 h))
theorem y_DX2_setTicks {P : mwM → mwL → Prop} (hC : CPc2 P) {fu : Nat} {k : Nat} {a1 : Int32} {a2 : Int32} (hk_k : 4 ≤ k ∧ k ≤ 689) {M : mwM} {L : mwL} (h : P M L) : kq3 P (DX2_setTicks fu k a1 a2 M L) := by
  unfold DX2_setTicks
  exact (kqB33 (y_DX2_isMark hC h) (fun r3 M1 L2 h1 => (kqI3 (kqK3 (fun q2 => (kqM3_c2 hC h1 (by omega) (fun M7 h3 => (kqS3 h3))))) (kqS3 h1))))
theorem y_fX2_firstInto_i2 {P : mwM → mwL → Prop} (hC : CPc2 P) {fu : Nat} {k : Nat} {a1 : Int32} {r2 : (Int32 × mwM × mwL) → Option (Int32 × mwM × mwL)} {v2 : Int32} (hr2 : ∀ s, P s.2.1 s.2.2 → kq3 P (r2 s)) {M : mwM} {L : mwL} (h : P M L) : kq3 P (fX2_firstInto_i2 fu k a1 r2 v2 M L) := by
  unfold fX2_firstInto_i2
  exact (kqI3 (kqS3 h) (kqK3 (fun q1 => (kqI3 (kqK3 (fun q2 => (kqS3 h))) (kqL3 (fun x5 => (hr2 (x5, M, L) h)))))))
theorem y_fX2_firstInto_h2 {P : mwM → mwL → Prop} (hC : CPc2 P) {fu : Nat} {k : Nat} {a1 : Int32} : ∀ n s, P s.2.1 s.2.2 → kq3 P (fX2_firstInto_h2 fu k a1 n s) := by
  intro n
  induction n with
  | zero => intro s _; exact kqN3
  | succ n ih =>
    intro s h
    show kq3 P (fX2_firstInto_i2 fu k a1 (fX2_firstInto_h2 fu k a1 n) s.1 s.2.1 s.2.2)
    exact y_fX2_firstInto_i2 hC ih h
theorem y_DX2_firstInto {P : mwM → mwL → Prop} (hC : CPc2 P) {fu : Nat} {k : Nat} {a1 : Int32} {M : mwM} {L : mwL} (h : P M L) : kq3 P (DX2_firstInto fu k a1 M L) := by
  unfold DX2_firstInto
  exact (y_fX2_firstInto_h2 hC _ (1, M, L) h)
theorem y_fX2_isIn_b38 {P : mwM → mwL → Prop} (hC : CPc2 P) {fu : Nat} {k : Nat} {a1 : Int32} {a2 : Int32} {M : mwM} {L : mwL} (h : P M L) : kq3 P (fX2_isIn_b38 fu k a1 a2 M L) := by
  unfold fX2_isIn_b38
  exact (kqS3 h)
theorem y_fX2_isIn_i5 {P : mwM → mwL → Prop} (hC : CPc2 P) {fu : Nat} {k : Nat} {a1 : Int32} {a2 : Int32} {r5 : (Int32 × Int32 × mwM × mwL) → Option (Int32 × mwM × mwL)} {v3 : Int32} {v4 : Int32} (hr5 : ∀ s, P s.2.2.1 s.2.2.2 → kq3 P (r5 s)) {M : mwM} {L : mwL} (h : P M L) : kq3 P (fX2_isIn_i5 fu k a1 a2 r5 v3 v4 M L) := by
  unfold fX2_isIn_i5
  exact (kqI3 (y_fX2_isIn_b38 hC h) (kqI3 (y_fX2_isIn_b38 hC h) (kqK3 (fun q1 => (kqL3 (fun x5 => (kqI3 (kqS3 h) (kqL3 (fun x7 => (hr5 (x5, x7, M, L) h))))))))))
theorem y_fX2_isIn_h5 {P : mwM → mwL → Prop} (hC : CPc2 P) {fu : Nat} {k : Nat} {a1 : Int32} {a2 : Int32} : ∀ n s, P s.2.2.1 s.2.2.2 → kq3 P (fX2_isIn_h5 fu k a1 a2 n s) := by
  intro n
  induction n with
  | zero => intro s _; exact kqN3
  | succ n ih =>
    intro s h
    show kq3 P (fX2_isIn_i5 fu k a1 a2 (fX2_isIn_h5 fu k a1 a2 n) s.1 s.2.1 s.2.2.1 s.2.2.2)
    exact y_fX2_isIn_i5 hC ih h
theorem y_DX2_isIn {P : mwM → mwL → Prop} (hC : CPc2 P) {fu : Nat} {k : Nat} {a1 : Int32} {a2 : Int32} {M : mwM} {L : mwL} (h : P M L) : kq3 P (DX2_isIn fu k a1 a2 M L) := by
  unfold DX2_isIn
  exact (y_fX2_isIn_h5 hC _ (a1, 0, M, L) h)
theorem y_fX2_isAim_b29 {P : mwM → mwL → Prop} (hC : CPc2 P) {fu : Nat} {k : Nat} {a1 : Int32} {s0 : Int32} {M : mwM} {L : mwL} (h : P M L) : kq3 P (fX2_isAim_b29 fu k a1 s0 M L) := by
  unfold fX2_isAim_b29
  exact (kq_mzz3 (kqS3 h))
theorem y_fX2_isAim_b28 {P : mwM → mwL → Prop} (hC : CPc2 P) {fu : Nat} {k : Nat} {a1 : Int32} {M : mwM} {L : mwL} (h : P M L) : kq3 P (fX2_isAim_b28 fu k a1 M L) := by
  unfold fX2_isAim_b28
  exact (y_fX2_isAim_b29 hC h)
theorem y_DX2_isAim {P : mwM → mwL → Prop} (hC : CPc2 P) {fu : Nat} {k : Nat} {a1 : Int32} {M : mwM} {L : mwL} (h : P M L) : kq3 P (DX2_isAim fu k a1 M L) := by
  unfold DX2_isAim
  exact (kqK3 (fun q1 => (kqI3 (y_fX2_isAim_b28 hC h) (kqK3 (fun q2 => (kqI3 (y_fX2_isAim_b28 hC h) (y_fX2_isAim_b29 hC h)))))))
theorem y_fX2_isAround_b209 {P : mwM → mwL → Prop} (hC : CPc2 P) {fu : Nat} {k : Nat} {a1 : Int32} {a2 : Int32} {v5 : Int32} {M : mwM} {L : mwL} (h : P M L) : kq3 P (fX2_isAround_b209 fu k a1 a2 v5 M L) := by
  unfold fX2_isAround_b209
  exact (kq_mzz3 (kqS3 h))
theorem y_fX2_isAround_b203 {P : mwM → mwL → Prop} (hC : CPc2 P) {fu : Nat} {k : Nat} {a1 : Int32} {a2 : Int32} {r86 : (Int32 × Int32 × Int32 × Int32 × mwM × mwL) → Option (Int32 × mwM × mwL)} {v3 : Int32} {v4 : Int32} {v5 : Int32} {v6 : Int32} (hr86 : ∀ s, P s.2.2.2.2.1 s.2.2.2.2.2 → kq3 P (r86 s)) {M : mwM} {L : mwL} (h : P M L) : kq3 P (fX2_isAround_b203 fu k a1 a2 r86 v3 v4 v5 v6 M L) := by
  unfold fX2_isAround_b203
  exact (kqL3 (fun x39 => (hr86 (v3, v4, v5, x39, M, L) h)))
theorem y_fX2_isAround_b141 {P : mwM → mwL → Prop} (hC : CPc2 P) {fu : Nat} {k : Nat} {a1 : Int32} {a2 : Int32} {r86 : (Int32 × Int32 × Int32 × Int32 × mwM × mwL) → Option (Int32 × mwM × mwL)} {v3 : Int32} {v4 : Int32} {v5 : Int32} {v6 : Int32} (hr86 : ∀ s, P s.2.2.2.2.1 s.2.2.2.2.2 → kq3 P (r86 s)) {M : mwM} {L : mwL} (h : P M L) : kq3 P (fX2_isAround_b141 fu k a1 a2 r86 v3 v4 v5 v6 M L) := by
  unfold fX2_isAround_b141
  exact (kqK3 (fun q1 => (kqI3 (kqK3 (fun q2 => (kqI3 (kqK3 (fun q3 => (kqB33 (y_DX2_isAim hC h) (fun r31 M29 L30 h4 => (kqI3 (y_fX2_isAround_b203 hC hr86 h4) (kqK3 (fun q5 => (kqB33 (y_DX2_isIn hC h4) (fun r37 M35 L36 h6 => (kqL3 (fun x38 => (y_fX2_isAround_b203 hC hr86 h6)))))))))))) (y_fX2_isAround_b203 hC hr86 h)))) (y_fX2_isAround_b203 hC hr86 h))))
theorem y_fX2_isAround_i86 {P : mwM → mwL → Prop} (hC : CPc2 P) {fu : Nat} {k : Nat} {a1 : Int32} {a2 : Int32} {r86 : (Int32 × Int32 × Int32 × Int32 × mwM × mwL) → Option (Int32 × mwM × mwL)} {v3 : Int32} {v4 : Int32} {v5 : Int32} {v6 : Int32} (hr86 : ∀ s, P s.2.2.2.2.1 s.2.2.2.2.2 → kq3 P (r86 s)) {M : mwM} {L : mwL} (h : P M L) : kq3 P (fX2_isAround_i86 fu k a1 a2 r86 v3 v4 v5 v6 M L) := by
  unfold fX2_isAround_i86
  exact (kqI3 (y_fX2_isAround_b209 hC h) (kqI3 (y_fX2_isAround_b209 hC h) (kqK3 (fun q1 => (kqI3 (kqK3 (fun q2 => (kqI3 (kqK3 (fun q3 => (kqB33 (y_DX2_isIn hC h) (fun r20 M18 L19 h4 => (y_fX2_isAround_b141 hC hr86 h4))))) (y_fX2_isAround_b141 hC hr86 h)))) (y_fX2_isAround_b141 hC hr86 h))))))
theorem y_fX2_isAround_h86 {P : mwM → mwL → Prop} (hC : CPc2 P) {fu : Nat} {k : Nat} {a1 : Int32} {a2 : Int32} : ∀ n s, P s.2.2.2.2.1 s.2.2.2.2.2 → kq3 P (fX2_isAround_h86 fu k a1 a2 n s) := by
  intro n
  induction n with
  | zero => intro s _; exact kqN3
  | succ n ih =>
    intro s h
    show kq3 P (fX2_isAround_i86 fu k a1 a2 (fX2_isAround_h86 fu k a1 a2 n) s.1 s.2.1 s.2.2.1 s.2.2.2.1 s.2.2.2.2.1 s.2.2.2.2.2)
    exact y_fX2_isAround_i86 hC ih h
theorem y_fX2_isAround_b81 {P : mwM → mwL → Prop} (hC : CPc2 P) {fu : Nat} {k : Nat} {a1 : Int32} {a2 : Int32} {v3 : Int32} {v4 : Int32} {s0 : Int32} {M : mwM} {L : mwL} (h : P M L) : kq3 P (fX2_isAround_b81 fu k a1 a2 v3 v4 s0 M L) := by
  unfold fX2_isAround_b81
  exact (y_fX2_isAround_h86 hC _ (v3, v4, s0, 1, M, L) h)
theorem y_fX2_isAround_b76 {P : mwM → mwL → Prop} (hC : CPc2 P) {fu : Nat} {k : Nat} {a1 : Int32} {a2 : Int32} {v3 : Int32} {v4 : Int32} {M : mwM} {L : mwL} (h : P M L) : kq3 P (fX2_isAround_b76 fu k a1 a2 v3 v4 M L) := by
  unfold fX2_isAround_b76
  exact (y_fX2_isAround_b81 hC h)
theorem y_fX2_isAround_b80 {P : mwM → mwL → Prop} (hC : CPc2 P) {fu : Nat} {k : Nat} {a1 : Int32} {a2 : Int32} {v3 : Int32} {v4 : Int32} {M : mwM} {L : mwL} (h : P M L) : kq3 P (fX2_isAround_b80 fu k a1 a2 v3 v4 M L) := by
  unfold fX2_isAround_b80
  exact (y_fX2_isAround_b81 hC h)
theorem y_fX2_isAround_b53 {P : mwM → mwL → Prop} (hC : CPc2 P) {fu : Nat} {k : Nat} {a1 : Int32} {a2 : Int32} {v3 : Int32} {v4 : Int32} {M : mwM} {L : mwL} (h : P M L) : kq3 P (fX2_isAround_b53 fu k a1 a2 v3 v4 M L) := by
  unfold fX2_isAround_b53
  exact (kqK3 (fun q1 => (kqI3 (y_fX2_isAround_b76 hC h) (kqB33 (y_DX2_isIn hC h) (fun r6 M4 L5 h2 => (kqI3 (y_fX2_isAround_b80 hC h2) (y_fX2_isAround_b76 hC h2)))))))
theorem y_DX2_isAround {P : mwM → mwL → Prop} (hC : CPc2 P) {fu : Nat} {k : Nat} {a1 : Int32} {a2 : Int32} {M : mwM} {L : mwL} (h : P M L) : kq3 P (DX2_isAround fu k a1 a2 M L) := by
  unfold DX2_isAround
  exact (kqK3 (fun q1 => (kqI3 (kqK3 (fun q2 => (kqL3 (fun x46 => (kqK3 (fun q3 => (kqL3 (fun x49 => (kqK3 (fun q4 => (kqI3 (y_fX2_isAround_b53 hC h) (kqB33 (y_DX2_isIn hC h) (fun r55 M53 L54 h5 => (kqI3 (y_fX2_isAround_b80 hC h5) (y_fX2_isAround_b53 hC h5))))))))))))))) (kqS3 h))))
theorem y_fX2_findDomains_b101 {P : mwM → mwL → Prop} (hC : CPc2 P) {fu : Nat} {k : Nat} {r2 : (Int32 × mwM × mwL) → Option (mwM × mwL)} {v1 : Int32} {v2 : Int32} (hr2 : ∀ s, P s.2.1 s.2.2 → kq2 P (r2 s)) (hk_k : 4 ≤ k ∧ k ≤ 689) {M : mwM} {L : mwL} (h : P M L) : kq2 P (fX2_findDomains_b101 fu k r2 v1 v2 M L) := by
  unfold fX2_findDomains_b101
  exact (kqK2 (fun q1 => (kqM2_c2 hC h (by omega) (fun M32 h2 => (kqL2 (fun x33 => (hr2 (x33, M32, L) h2)))))))
theorem y_fX2_findDomains_i67 {P : mwM → mwL → Prop} (hC : CPc2 P) {fu : Nat} {k : Nat} {r2 : (Int32 × mwM × mwL) → Option (mwM × mwL)} {r67 : (Int32 × Int32 × Int32 × mwM × mwL) → Option (mwM × mwL)} {v1 : Int32} {v2 : Int32} {v3 : Int32} (hr2 : ∀ s, P s.2.1 s.2.2 → kq2 P (r2 s)) (hr67 : ∀ s, P s.2.2.2.1 s.2.2.2.2 → kq2 P (r67 s)) (hk_k : 4 ≤ k ∧ k ≤ 689) {M : mwM} {L : mwL} (h : P M L) : kq2 P (fX2_findDomains_i67 fu k r2 r67 v1 v2 v3 M L) := by
  unfold fX2_findDomains_i67
  exact (kqI2 (y_fX2_findDomains_b101 hC hr2 (by omega) h) (kqI2 (y_fX2_findDomains_b101 hC hr2 (by omega) h) (kqB32 (y_DX2_isAround hC h) (fun r24 M22 L23 h1 => (kqI2 (kqK2 (fun q2 => (kqL2 (fun x28 => (kqL2 (fun x29 => (hr67 (v1, x28, x29, M22, L23) h1))))))) (y_fX2_findDomains_b101 hC hr2 (by omega) h1))))))
theorem y_fX2_findDomains_h67 {P : mwM → mwL → Prop} (hC : CPc2 P) {fu : Nat} {k : Nat} {r2 : (Int32 × mwM × mwL) → Option (mwM × mwL)} (hr2 : ∀ s, P s.2.1 s.2.2 → kq2 P (r2 s)) (hk_k : 4 ≤ k ∧ k ≤ 689) : ∀ n s, P s.2.2.2.1 s.2.2.2.2 → kq2 P (fX2_findDomains_h67 fu k r2 n s) := by
  intro n
  induction n with
  | zero => intro s _; exact kqN2
  | succ n ih =>
    intro s h
    show kq2 P (fX2_findDomains_i67 fu k r2 (fX2_findDomains_h67 fu k r2 n) s.1 s.2.1 s.2.2.1 s.2.2.2.1 s.2.2.2.2)
    exact y_fX2_findDomains_i67 hC hr2 ih hk_k h
theorem y_fX2_findDomains_b65 {P : mwM → mwL → Prop} (hC : CPc2 P) {fu : Nat} {k : Nat} {r2 : (Int32 × mwM × mwL) → Option (mwM × mwL)} {v1 : Int32} {v2 : Int32} (hr2 : ∀ s, P s.2.1 s.2.2 → kq2 P (r2 s)) (hk_k : 4 ≤ k ∧ k ≤ 689) {M : mwM} {L : mwL} (h : P M L) : kq2 P (fX2_findDomains_b65 fu k r2 v1 v2 M L) := by
  unfold fX2_findDomains_b65
  exact (y_fX2_findDomains_h67 hC hr2 (by omega) _ (v1, v2, 0, M, L) h)
theorem y_fX2_findDomains_i2 {P : mwM → mwL → Prop} (hC : CPc2 P) {fu : Nat} {k : Nat} {r2 : (Int32 × mwM × mwL) → Option (mwM × mwL)} {v1 : Int32} (hr2 : ∀ s, P s.2.1 s.2.2 → kq2 P (r2 s)) (hk_k : 4 ≤ k ∧ k ≤ 689) {M : mwM} {L : mwL} (h : P M L) : kq2 P (fX2_findDomains_i2 fu k r2 v1 M L) := by
  unfold fX2_findDomains_i2
  exact (kqI2 (kqS2 h) (kqK2 (fun q1 => (kqK2 (fun q2 => (kqL2 (fun x6 => (kqK2 (fun q3 => (kqK2 (fun q4 => (kqI2 (kqK2 (fun q5 => (kqB32 (y_DX2_firstInto hC h) (fun r17 M15 L16 h6 => (kqK2 (fun q7 => (kqL2 (fun x19 => (y_fX2_findDomains_b65 hC hr2 (by omega) h6))))))))) (y_fX2_findDomains_b65 hC hr2 (by omega) h)))))))))))))
theorem y_fX2_findDomains_h2 {P : mwM → mwL → Prop} (hC : CPc2 P) {fu : Nat} {k : Nat} (hk_k : 4 ≤ k ∧ k ≤ 689) : ∀ n s, P s.2.1 s.2.2 → kq2 P (fX2_findDomains_h2 fu k n s) := by
  intro n
  induction n with
  | zero => intro s _; exact kqN2
  | succ n ih =>
    intro s h
    show kq2 P (fX2_findDomains_i2 fu k (fX2_findDomains_h2 fu k n) s.1 s.2.1 s.2.2)
    exact y_fX2_findDomains_i2 hC ih hk_k h
theorem y_DX2_findDomains {P : mwM → mwL → Prop} (hC : CPc2 P) {fu : Nat} {k : Nat} (hk_k : 4 ≤ k ∧ k ≤ 689) {M : mwM} {L : mwL} (h : P M L) : kq2 P (DX2_findDomains fu k M L) := by
  unfold DX2_findDomains
  exact (y_fX2_findDomains_h2 hC (by omega) _ (1, M, L) h)
theorem y_DX2_queue {P : mwM → mwL → Prop} (hC : CPc2 P) {fu : Nat} {k : Nat} {a1 : Int32} (hk_k : 4 ≤ k ∧ k ≤ 689) {M : mwM} {L : mwL} (h : P M L) : kq3 P (DX2_queue fu k a1 M L) := by
  unfold DX2_queue
  exact (kqI3 (kqK3 (fun q1 => (kqM3_c2 hC h (by omega) (fun M3 h2 => (kqM3_c2 hC h2 (by omega) (fun M4 h3 => (kqS3 h3))))))) (kqS3 h))
theorem y_fX2_aimAt_b218 {P : mwM → mwL → Prop} (hC : CPc2 P) {fu : Nat} {k : Nat} {a1 : Int32} {a2 : Int32} {M : mwM} {L : mwL} (h : P M L) : kq2 P (fX2_aimAt_b218 fu k a1 a2 M L) := by
  unfold fX2_aimAt_b218
  exact (kqS2 h)
theorem y_fX2_aimAt_b216 {P : mwM → mwL → Prop} (hC : CPc2 P) {fu : Nat} {k : Nat} {a1 : Int32} {a2 : Int32} {s1 : Int32} {s2 : Int32} {s3 : Int32} (hk_k : 4 ≤ k ∧ k ≤ 689) {M : mwM} {L : mwL} (h : P M L) : kq2 P (fX2_aimAt_b216 fu k a1 a2 s1 s2 s3 M L) := by
  unfold fX2_aimAt_b216
  exact (kqK2 (fun q1 => (kqM2_c2 hC h (by omega) (fun M39 h2 => (y_fX2_aimAt_b218 hC h2)))))
theorem y_fX2_aimAt_b184 {P : mwM → mwL → Prop} (hC : CPc2 P) {fu : Nat} {k : Nat} {a1 : Int32} {a2 : Int32} {v3 : Int32} {v4 : Int32} (hk_k : 4 ≤ k ∧ k ≤ 689) {M : mwM} {L : mwL} (h : P M L) : kq2 P (fX2_aimAt_b184 fu k a1 a2 v3 v4 M L) := by
  unfold fX2_aimAt_b184
  exact (kqI2 (y_fX2_aimAt_b218 hC h) (kqK2 (fun q1 => (kqK2 (fun q2 => (kqI2 (y_fX2_aimAt_b216 hC (by omega) h) (y_fX2_aimAt_b216 hC (by omega) h)))))))
theorem y_fX2_aimAt_i130 {P : mwM → mwL → Prop} (hC : CPc2 P) {fu : Nat} {k : Nat} {a1 : Int32} {a2 : Int32} {r130 : (Int32 × Int32 × Int32 × Int32 × mwM × mwL) → Option (mwM × mwL)} {v3 : Int32} {v4 : Int32} {v5 : Int32} {v6 : Int32} (hr130 : ∀ s, P s.2.2.2.2.1 s.2.2.2.2.2 → kq2 P (r130 s)) (hk_k : 4 ≤ k ∧ k ≤ 689) {M : mwM} {L : mwL} (h : P M L) : kq2 P (fX2_aimAt_i130 fu k a1 a2 r130 v3 v4 v5 v6 M L) := by
  unfold fX2_aimAt_i130
  exact (kqI2 (y_fX2_aimAt_b184 hC (by omega) h) (kqI2 (y_fX2_aimAt_b184 hC (by omega) h) (kqI2 (y_fX2_aimAt_b184 hC (by omega) h) (kqK2 (fun q1 => (kqK2 (fun q2 => (kqM2_c2 hC h (by omega) (fun M27 h3 => (kqK2 (fun q4 => (kqL2 (fun x30 => (kqL2 (fun x31 => (hr130 (v3, v4, x30, x31, M27, L) h3))))))))))))))))
theorem y_fX2_aimAt_h130 {P : mwM → mwL → Prop} (hC : CPc2 P) {fu : Nat} {k : Nat} {a1 : Int32} {a2 : Int32} (hk_k : 4 ≤ k ∧ k ≤ 689) : ∀ n s, P s.2.2.2.2.1 s.2.2.2.2.2 → kq2 P (fX2_aimAt_h130 fu k a1 a2 n s) := by
  intro n
  induction n with
  | zero => intro s _; exact kqN2
  | succ n ih =>
    intro s h
    show kq2 P (fX2_aimAt_i130 fu k a1 a2 (fX2_aimAt_h130 fu k a1 a2 n) s.1 s.2.1 s.2.2.1 s.2.2.2.1 s.2.2.2.2.1 s.2.2.2.2.2)
    exact y_fX2_aimAt_i130 hC ih hk_k h
theorem y_fX2_aimAt_b123 {P : mwM → mwL → Prop} (hC : CPc2 P) {fu : Nat} {k : Nat} {a1 : Int32} {a2 : Int32} {v3 : Int32} {v4 : Int32} (hk_k : 4 ≤ k ∧ k ≤ 689) {M : mwM} {L : mwL} (h : P M L) : kq2 P (fX2_aimAt_b123 fu k a1 a2 v3 v4 M L) := by
  unfold fX2_aimAt_b123
  exact (y_fX2_aimAt_h130 hC (by omega) _ (v3, v4, v4, 0, M, L) h)
theorem y_fX2_aimAt_b113 {P : mwM → mwL → Prop} (hC : CPc2 P) {fu : Nat} {k : Nat} {a1 : Int32} {a2 : Int32} {r43 : (Int32 × Int32 × Int32 × Int32 × mwM × mwL) → Option (mwM × mwL)} {v3 : Int32} {v4 : Int32} {v6 : Int32} {v7 : Int32} (hr43 : ∀ s, P s.2.2.2.2.1 s.2.2.2.2.2 → kq2 P (r43 s)) {M : mwM} {L : mwL} (h : P M L) : kq2 P (fX2_aimAt_b113 fu k a1 a2 r43 v3 v4 v6 v7 M L) := by
  unfold fX2_aimAt_b113
  exact (kqL2 (fun x19 => (hr43 (v3, v4, v7, x19, M, L) h)))
theorem y_fX2_aimAt_i43 {P : mwM → mwL → Prop} (hC : CPc2 P) {fu : Nat} {k : Nat} {a1 : Int32} {a2 : Int32} {r43 : (Int32 × Int32 × Int32 × Int32 × mwM × mwL) → Option (mwM × mwL)} {v3 : Int32} {v4 : Int32} {v5 : Int32} {v6 : Int32} (hr43 : ∀ s, P s.2.2.2.2.1 s.2.2.2.2.2 → kq2 P (r43 s)) (hk_k : 4 ≤ k ∧ k ≤ 689) {M : mwM} {L : mwL} (h : P M L) : kq2 P (fX2_aimAt_i43 fu k a1 a2 r43 v3 v4 v5 v6 M L) := by
  unfold fX2_aimAt_i43
  exact (kqI2 (y_fX2_aimAt_b123 hC (by omega) h) (kqI2 (y_fX2_aimAt_b123 hC (by omega) h) (kqI2 (y_fX2_aimAt_b123 hC (by omega) h) (kqK2 (fun q1 => (kqL2 (fun x9 => (kqK2 (fun q2 => (kqI2 (kqK2 (fun q3 => (kqI2 (y_fX2_aimAt_b113 hC hr43 h) (kqK2 (fun q4 => (kqI2 (y_fX2_aimAt_b113 hC hr43 h) (kqS2 h))))))) (y_fX2_aimAt_b113 hC hr43 h)))))))))))
theorem y_fX2_aimAt_h43 {P : mwM → mwL → Prop} (hC : CPc2 P) {fu : Nat} {k : Nat} {a1 : Int32} {a2 : Int32} (hk_k : 4 ≤ k ∧ k ≤ 689) : ∀ n s, P s.2.2.2.2.1 s.2.2.2.2.2 → kq2 P (fX2_aimAt_h43 fu k a1 a2 n s) := by
  intro n
  induction n with
  | zero => intro s _; exact kqN2
  | succ n ih =>
    intro s h
    show kq2 P (fX2_aimAt_i43 fu k a1 a2 (fX2_aimAt_h43 fu k a1 a2 n) s.1 s.2.1 s.2.2.1 s.2.2.2.1 s.2.2.2.2.1 s.2.2.2.2.2)
    exact y_fX2_aimAt_i43 hC ih hk_k h
theorem y_fX2_aimAt_b34 {P : mwM → mwL → Prop} (hC : CPc2 P) {fu : Nat} {k : Nat} {a1 : Int32} {a2 : Int32} {v3 : Int32} {s0 : Int32} (hk_k : 4 ≤ k ∧ k ≤ 689) {M : mwM} {L : mwL} (h : P M L) : kq2 P (fX2_aimAt_b34 fu k a1 a2 v3 s0 M L) := by
  unfold fX2_aimAt_b34
  exact (y_fX2_aimAt_h43 hC (by omega) _ (v3, s0, s0, 0, M, L) h)
theorem y_fX2_aimAt_b17 {P : mwM → mwL → Prop} (hC : CPc2 P) {fu : Nat} {k : Nat} {a1 : Int32} {a2 : Int32} {s0 : Int32} (hk_k : 4 ≤ k ∧ k ≤ 689) {M : mwM} {L : mwL} (h : P M L) : kq2 P (fX2_aimAt_b17 fu k a1 a2 s0 M L) := by
  unfold fX2_aimAt_b17
  exact (kqI2 (y_fX2_aimAt_b34 hC (by omega) h) (kqK2 (fun q1 => (y_fX2_aimAt_b34 hC (by omega) h))))
theorem y_DX2_aimAt {P : mwM → mwL → Prop} (hC : CPc2 P) {fu : Nat} {k : Nat} {a1 : Int32} {a2 : Int32} (hk_k : 4 ≤ k ∧ k ≤ 689) {M : mwM} {L : mwL} (h : P M L) : kq2 P (DX2_aimAt fu k a1 a2 M L) := by
  unfold DX2_aimAt
  exact (kqK2 (fun q1 => (kqI2 (y_fX2_aimAt_b17 hC (by omega) h) (y_fX2_aimAt_b17 hC (by omega) h))))
theorem y_fX2_aim_b124 {P : mwM → mwL → Prop} (hC : CPc2 P) {fu : Nat} {k : Nat} {a1 : Int32} {a2 : Int32} {r72 : (Int32 × Int32 × mwM × mwL) → Option (mwM × mwL)} {v3 : Int32} {v4 : Int32} (hr72 : ∀ s, P s.2.2.1 s.2.2.2 → kq2 P (r72 s)) {M : mwM} {L : mwL} (h : P M L) : kq2 P (fX2_aim_b124 fu k a1 a2 r72 v3 v4 M L) := by
  unfold fX2_aim_b124
  exact (kqL2 (fun x32 => (hr72 (v3, x32, M, L) h)))
theorem y_fX2_aim_i72 {P : mwM → mwL → Prop} (hC : CPc2 P) {fu : Nat} {k : Nat} {a1 : Int32} {a2 : Int32} {r72 : (Int32 × Int32 × mwM × mwL) → Option (mwM × mwL)} {v3 : Int32} {v4 : Int32} (hr72 : ∀ s, P s.2.2.1 s.2.2.2 → kq2 P (r72 s)) (hk_k : 4 ≤ k ∧ k ≤ 689) {M : mwM} {L : mwL} (h : P M L) : kq2 P (fX2_aim_i72 fu k a1 a2 r72 v3 v4 M L) := by
  unfold fX2_aim_i72
  exact (kqI2 (kqS2 h) (kqK2 (fun q1 => (kqI2 (kqK2 (fun q2 => (kqB32 (y_DX2_isAim hC h) (fun r26 M24 L25 h3 => (kqI2 (y_fX2_aim_b124 hC hr72 h3) (kqK2 (fun q4 => (kqB22 (y_DX2_aimAt hC (by omega) h3) (fun M30 L31 h5 => (y_fX2_aim_b124 hC hr72 h5)))))))))) (y_fX2_aim_b124 hC hr72 h)))))
theorem y_fX2_aim_h72 {P : mwM → mwL → Prop} (hC : CPc2 P) {fu : Nat} {k : Nat} {a1 : Int32} {a2 : Int32} (hk_k : 4 ≤ k ∧ k ≤ 689) : ∀ n s, P s.2.2.1 s.2.2.2 → kq2 P (fX2_aim_h72 fu k a1 a2 n s) := by
  intro n
  induction n with
  | zero => intro s _; exact kqN2
  | succ n ih =>
    intro s h
    show kq2 P (fX2_aim_i72 fu k a1 a2 (fX2_aim_h72 fu k a1 a2 n) s.1 s.2.1 s.2.2.1 s.2.2.2)
    exact y_fX2_aim_i72 hC ih hk_k h
theorem y_fX2_aim_i2 {P : mwM → mwL → Prop} (hC : CPc2 P) {fu : Nat} {k : Nat} {a1 : Int32} {a2 : Int32} {r2 : (Int32 × mwM × mwL) → Option (mwM × mwL)} {v3 : Int32} (hr2 : ∀ s, P s.2.1 s.2.2 → kq2 P (r2 s)) (hk_k : 4 ≤ k ∧ k ≤ 689) {M : mwM} {L : mwL} (h : P M L) : kq2 P (fX2_aim_i2 fu k a1 a2 r2 v3 M L) := by
  unfold fX2_aim_i2
  exact (kqI2 (kqI2 (kqS2 h) (kqK2 (fun q1 => (kqL2 (fun x5 => (kqK2 (fun q2 => (kqI2 (y_fX2_aim_h72 hC (by omega) _ (x5, 1, M, L) h) (kqB22 (y_DX2_aimAt hC (by omega) h) (fun M9 L10 h3 => (kqS2 h3))))))))))) (kqK2 (fun q4 => (kqM2_c2 hC h (by omega) (fun M13 h5 => (kqK2 (fun q6 => (kqM2_c2 hC h5 (by omega) (fun M16 h7 => (kqL2 (fun x17 => (hr2 (x17, M16, L) h7))))))))))))
theorem y_fX2_aim_h2 {P : mwM → mwL → Prop} (hC : CPc2 P) {fu : Nat} {k : Nat} {a1 : Int32} {a2 : Int32} (hk_k : 4 ≤ k ∧ k ≤ 689) : ∀ n s, P s.2.1 s.2.2 → kq2 P (fX2_aim_h2 fu k a1 a2 n s) := by
  intro n
  induction n with
  | zero => intro s _; exact kqN2
  | succ n ih =>
    intro s h
    show kq2 P (fX2_aim_i2 fu k a1 a2 (fX2_aim_h2 fu k a1 a2 n) s.1 s.2.1 s.2.2)
    exact y_fX2_aim_i2 hC ih hk_k h
theorem y_DX2_aim {P : mwM → mwL → Prop} (hC : CPc2 P) {fu : Nat} {k : Nat} {a1 : Int32} {a2 : Int32} (hk_k : 4 ≤ k ∧ k ≤ 689) {M : mwM} {L : mwL} (h : P M L) : kq2 P (DX2_aim fu k a1 a2 M L) := by
  unfold DX2_aim
  exact (y_fX2_aim_h2 hC (by omega) _ (0, M, L) h)
theorem y_fX2_pickChild_b71 {P : mwM → mwL → Prop} (hC : CPc2 P) {fu : Nat} {k : Nat} {a1 : Int32} {M : mwM} {L : mwL} (h : P M L) : kq2 P (fX2_pickChild_b71 fu k a1 M L) := by
  unfold fX2_pickChild_b71
  exact (kqS2 h)
theorem y_fX2_pickChild_b42 {P : mwM → mwL → Prop} (hC : CPc2 P) {fu : Nat} {k : Nat} {a1 : Int32} (hk_k : 4 ≤ k ∧ k ≤ 689) {M : mwM} {L : mwL} (h : P M L) : kq2 P (fX2_pickChild_b42 fu k a1 M L) := by
  unfold fX2_pickChild_b42
  exact (kqK2 (fun q1 => (kqI2 (kqK2 (fun q2 => (kqK2 (fun q3 => (kqM2_c2 hC h (by omega) (fun M8 h4 => (y_fX2_pickChild_b71 hC h4))))))) (y_fX2_pickChild_b71 hC h))))
theorem y_DX2_pickChild {P : mwM → mwL → Prop} (hC : CPc2 P) {fu : Nat} {k : Nat} {a1 : Int32} (hk_k : 4 ≤ k ∧ k ≤ 689) {M : mwM} {L : mwL} (h : P M L) : kq2 P (DX2_pickChild fu k a1 M L) := by
  unfold DX2_pickChild
  exact (kqK2 (fun q1 => (kqI2 (kqK2 (fun q2 => (kqI2 (y_fX2_pickChild_b42 hC (by omega) h) (kqK2 (fun q3 => (kqK2 (fun q4 => (kqM2_c2 hC h (by omega) (fun M19 h5 => (y_fX2_pickChild_b42 hC (by omega) h5)))))))))) (y_fX2_pickChild_b42 hC (by omega) h))))
theorem y_fX2_doActs_b84 {P : mwM → mwL → Prop} (hC : CPc2 P) {fu : Nat} {k : Nat} {a1 : Int32} {a2 : Int32} {r2 : (Int32 × mwM × mwL) → Option (mwM × mwL)} {v3 : Int32} (hr2 : ∀ s, P s.2.1 s.2.2 → kq2 P (r2 s)) {M : mwM} {L : mwL} (h : P M L) : kq2 P (fX2_doActs_b84 fu k a1 a2 r2 v3 M L) := by
  unfold fX2_doActs_b84
  exact (kqL2 (fun x19 => (hr2 (x19, M, L) h)))
theorem y_fX2_doActs_b73 {P : mwM → mwL → Prop} (hC : CPc2 P) {fu : Nat} {k : Nat} {a1 : Int32} {a2 : Int32} {r2 : (Int32 × mwM × mwL) → Option (mwM × mwL)} {v3 : Int32} {s1 : Int32} {s2 : Int64} (hr2 : ∀ s, P s.2.1 s.2.2 → kq2 P (r2 s)) (hk_k : 4 ≤ k ∧ k ≤ 689) {M : mwM} {L : mwL} (h : P M L) : kq2 P (fX2_doActs_b73 fu k a1 a2 r2 v3 s1 s2 M L) := by
  unfold fX2_doActs_b73
  exact (kqK2 (fun q1 => (kqK2 (fun q2 => (kqW2_c2 hC h (by omega) (fun L18 h3 => (y_fX2_doActs_b84 hC hr2 h3)))))))
theorem y_fX2_doActs_i2 {P : mwM → mwL → Prop} (hC : CPc2 P) {fu : Nat} {k : Nat} {a1 : Int32} {a2 : Int32} {r2 : (Int32 × mwM × mwL) → Option (mwM × mwL)} {v3 : Int32} (hr2 : ∀ s, P s.2.1 s.2.2 → kq2 P (r2 s)) (hk_k : 4 ≤ k ∧ k ≤ 689) {M : mwM} {L : mwL} (h : P M L) : kq2 P (fX2_doActs_i2 fu k a1 a2 r2 v3 M L) := by
  unfold fX2_doActs_i2
  exact (kqI2 (kqS2 h) (kqK2 (fun q1 => (kqI2 (kqK2 (fun q2 => (kqI2 (kqK2 (fun q3 => (kqL2 (fun x10 => (kqK2 (fun q4 => (kqI2 (kqK2 (fun q5 => (y_fX2_doActs_b73 hC hr2 (by omega) h))) (y_fX2_doActs_b73 hC hr2 (by omega) h)))))))) (y_fX2_doActs_b84 hC hr2 h)))) (y_fX2_doActs_b84 hC hr2 h)))))
theorem y_fX2_doActs_h2 {P : mwM → mwL → Prop} (hC : CPc2 P) {fu : Nat} {k : Nat} {a1 : Int32} {a2 : Int32} (hk_k : 4 ≤ k ∧ k ≤ 689) : ∀ n s, P s.2.1 s.2.2 → kq2 P (fX2_doActs_h2 fu k a1 a2 n s) := by
  intro n
  induction n with
  | zero => intro s _; exact kqN2
  | succ n ih =>
    intro s h
    show kq2 P (fX2_doActs_i2 fu k a1 a2 (fX2_doActs_h2 fu k a1 a2 n) s.1 s.2.1 s.2.2)
    exact y_fX2_doActs_i2 hC ih hk_k h
theorem y_DX2_doActs {P : mwM → mwL → Prop} (hC : CPc2 P) {fu : Nat} {k : Nat} {a1 : Int32} {a2 : Int32} (hk_k : 4 ≤ k ∧ k ≤ 689) {M : mwM} {L : mwL} (h : P M L) : kq2 P (DX2_doActs fu k a1 a2 M L) := by
  unfold DX2_doActs
  exact (y_fX2_doActs_h2 hC (by omega) _ (0, M, L) h)
theorem y_fX2_enterAll_b278 {P : mwM → mwL → Prop} (hC : CPc2 P) {fu : Nat} {k : Nat} {a1 : Int32} {r164 : (Int32 × mwM × mwL) → Option (mwM × mwL)} {v2 : Int32} (hr164 : ∀ s, P s.2.1 s.2.2 → kq2 P (r164 s)) {M : mwM} {L : mwL} (h : P M L) : kq2 P (fX2_enterAll_b278 fu k a1 r164 v2 M L) := by
  unfold fX2_enterAll_b278
  exact (kqL2 (fun x65 => (hr164 (x65, M, L) h)))
theorem y_fX2_enterAll_b272 {P : mwM → mwL → Prop} (hC : CPc2 P) {fu : Nat} {k : Nat} {a1 : Int32} {r164 : (Int32 × mwM × mwL) → Option (mwM × mwL)} {v2 : Int32} {v3 : Int32} (hr164 : ∀ s, P s.2.1 s.2.2 → kq2 P (r164 s)) (hk_k : 4 ≤ k ∧ k ≤ 689) {M : mwM} {L : mwL} (h : P M L) : kq2 P (fX2_enterAll_b272 fu k a1 r164 v2 v3 M L) := by
  unfold fX2_enterAll_b272
  exact (kqB22 (y_DX2_doActs hC (by omega) h) (fun M63 L64 h1 => (y_fX2_enterAll_b278 hC hr164 h1)))
theorem y_fX2_enterAll_i164 {P : mwM → mwL → Prop} (hC : CPc2 P) {fu : Nat} {k : Nat} {a1 : Int32} {r164 : (Int32 × mwM × mwL) → Option (mwM × mwL)} {v2 : Int32} (hr164 : ∀ s, P s.2.1 s.2.2 → kq2 P (r164 s)) (hk_k : 4 ≤ k ∧ k ≤ 689) {M : mwM} {L : mwL} (h : P M L) : kq2 P (fX2_enterAll_i164 fu k a1 r164 v2 M L) := by
  unfold fX2_enterAll_i164
  exact (kqI2 (kqS2 h) (kqK2 (fun q1 => (kqL2 (fun x37 => (kqK2 (fun q2 => (kqI2 (kqK2 (fun q3 => (kqM2_c2 hC h (by omega) (fun M43 h4 => (kqK2 (fun q5 => (kqM2_c2 hC h4 (by omega) (fun M46 h6 => (kqK2 (fun q7 => (kqM2_c2 hC h6 (by omega) (fun M49 h8 => (kqK2 (fun q9 => (kqM2_c2 hC h8 (by omega) (fun M52 h10 => (kqK2 (fun q11 => (kqK2 (fun q12 => (kqI2 (kqK2 (fun q13 => (kqK2 (fun q14 => (kqM2_c2 hC h10 (by omega) (fun M62 h15 => (y_fX2_enterAll_b272 hC hr164 (by omega) h15))))))) (y_fX2_enterAll_b272 hC hr164 (by omega) h10)))))))))))))))))))))) (y_fX2_enterAll_b278 hC hr164 h)))))))))
theorem y_fX2_enterAll_h164 {P : mwM → mwL → Prop} (hC : CPc2 P) {fu : Nat} {k : Nat} {a1 : Int32} (hk_k : 4 ≤ k ∧ k ≤ 689) : ∀ n s, P s.2.1 s.2.2 → kq2 P (fX2_enterAll_h164 fu k a1 n s) := by
  intro n
  induction n with
  | zero => intro s _; exact kqN2
  | succ n ih =>
    intro s h
    show kq2 P (fX2_enterAll_i164 fu k a1 (fX2_enterAll_h164 fu k a1 n) s.1 s.2.1 s.2.2)
    exact y_fX2_enterAll_i164 hC ih hk_k h
theorem y_fX2_enterAll_b156 {P : mwM → mwL → Prop} (hC : CPc2 P) {fu : Nat} {k : Nat} {a1 : Int32} {r17 : (Int32 × mwM × mwL) → Option (mwM × mwL)} {v2 : Int32} (hr17 : ∀ s, P s.2.1 s.2.2 → kq2 P (r17 s)) {M : mwM} {L : mwL} (h : P M L) : kq2 P (fX2_enterAll_b156 fu k a1 r17 v2 M L) := by
  unfold fX2_enterAll_b156
  exact (kqL2 (fun x33 => (hr17 (x33, M, L) h)))
theorem y_fX2_enterAll_b122 {P : mwM → mwL → Prop} (hC : CPc2 P) {fu : Nat} {k : Nat} {a1 : Int32} {r17 : (Int32 × mwM × mwL) → Option (mwM × mwL)} {v2 : Int32} {v3 : Int32} {v5 : Int32} {s1 : Int32} {s2 : Int32} (hr17 : ∀ s, P s.2.1 s.2.2 → kq2 P (r17 s)) (hk_k : 4 ≤ k ∧ k ≤ 689) {M : mwM} {L : mwL} (h : P M L) : kq2 P (fX2_enterAll_b122 fu k a1 r17 v2 v3 v5 s1 s2 M L) := by
  unfold fX2_enterAll_b122
  exact (kqK2 (fun q1 => (kqM2_c2 hC h (by omega) (fun M23 h2 => (kqI2 (y_fX2_enterAll_b156 hC hr17 h2) (kqK2 (fun q3 => (kqK2 (fun q4 => (kqK2 (fun q5 => (kqM2_c2 hC h2 (by omega) (fun M30 h6 => (kqB22 (y_DX2_pickChild hC (by omega) h6) (fun M31 L32 h7 => (y_fX2_enterAll_b156 hC hr17 h7))))))))))))))))
theorem y_fX2_enterAll_b102 {P : mwM → mwL → Prop} (hC : CPc2 P) {fu : Nat} {k : Nat} {a1 : Int32} {r17 : (Int32 × mwM × mwL) → Option (mwM × mwL)} {v2 : Int32} {v3 : Int32} {s0 : Int32} (hr17 : ∀ s, P s.2.1 s.2.2 → kq2 P (r17 s)) (hk_k : 4 ≤ k ∧ k ≤ 689) {M : mwM} {L : mwL} (h : P M L) : kq2 P (fX2_enterAll_b102 fu k a1 r17 v2 v3 s0 M L) := by
  unfold fX2_enterAll_b102
  exact (kqI2 (y_fX2_enterAll_b122 hC hr17 (by omega) h) (y_fX2_enterAll_b122 hC hr17 (by omega) h))
theorem y_fX2_enterAll_b101 {P : mwM → mwL → Prop} (hC : CPc2 P) {fu : Nat} {k : Nat} {a1 : Int32} {r17 : (Int32 × mwM × mwL) → Option (mwM × mwL)} {v2 : Int32} {v3 : Int32} (hr17 : ∀ s, P s.2.1 s.2.2 → kq2 P (r17 s)) (hk_k : 4 ≤ k ∧ k ≤ 689) {M : mwM} {L : mwL} (h : P M L) : kq2 P (fX2_enterAll_b101 fu k a1 r17 v2 v3 M L) := by
  unfold fX2_enterAll_b101
  exact (y_fX2_enterAll_b102 hC hr17 (by omega) h)
theorem y_fX2_enterAll_b97 {P : mwM → mwL → Prop} (hC : CPc2 P) {fu : Nat} {k : Nat} {a1 : Int32} {r17 : (Int32 × mwM × mwL) → Option (mwM × mwL)} {v2 : Int32} {v3 : Int32} (hr17 : ∀ s, P s.2.1 s.2.2 → kq2 P (r17 s)) (hk_k : 4 ≤ k ∧ k ≤ 689) {M : mwM} {L : mwL} (h : P M L) : kq2 P (fX2_enterAll_b97 fu k a1 r17 v2 v3 M L) := by
  unfold fX2_enterAll_b97
  exact (y_fX2_enterAll_b102 hC hr17 (by omega) h)
theorem y_fX2_enterAll_b64 {P : mwM → mwL → Prop} (hC : CPc2 P) {fu : Nat} {k : Nat} {a1 : Int32} {r17 : (Int32 × mwM × mwL) → Option (mwM × mwL)} {v2 : Int32} {v3 : Int32} {s0 : Int32} (hr17 : ∀ s, P s.2.1 s.2.2 → kq2 P (r17 s)) (hk_k : 4 ≤ k ∧ k ≤ 689) {M : mwM} {L : mwL} (h : P M L) : kq2 P (fX2_enterAll_b64 fu k a1 r17 v2 v3 s0 M L) := by
  unfold fX2_enterAll_b64
  exact (kqB32 (y_DX2_isMark hC h) (fun r13 M11 L12 h1 => (kqI2 (kqI2 (y_fX2_enterAll_b101 hC hr17 (by omega) h1) (kqI2 (y_fX2_enterAll_b97 hC hr17 (by omega) h1) (kqK2 (fun q2 => (kqI2 (y_fX2_enterAll_b97 hC hr17 (by omega) h1) (y_fX2_enterAll_b101 hC hr17 (by omega) h1)))))) (y_fX2_enterAll_b101 hC hr17 (by omega) h1))))
theorem y_fX2_enterAll_b59 {P : mwM → mwL → Prop} (hC : CPc2 P) {fu : Nat} {k : Nat} {a1 : Int32} {r17 : (Int32 × mwM × mwL) → Option (mwM × mwL)} {v2 : Int32} {v3 : Int32} (hr17 : ∀ s, P s.2.1 s.2.2 → kq2 P (r17 s)) (hk_k : 4 ≤ k ∧ k ≤ 689) {M : mwM} {L : mwL} (h : P M L) : kq2 P (fX2_enterAll_b59 fu k a1 r17 v2 v3 M L) := by
  unfold fX2_enterAll_b59
  exact (y_fX2_enterAll_b64 hC hr17 (by omega) h)
theorem y_fX2_enterAll_i17 {P : mwM → mwL → Prop} (hC : CPc2 P) {fu : Nat} {k : Nat} {a1 : Int32} {r17 : (Int32 × mwM × mwL) → Option (mwM × mwL)} {v2 : Int32} (hr17 : ∀ s, P s.2.1 s.2.2 → kq2 P (r17 s)) (hk_k : 4 ≤ k ∧ k ≤ 689) {M : mwM} {L : mwL} (h : P M L) : kq2 P (fX2_enterAll_i17 fu k a1 r17 v2 M L) := by
  unfold fX2_enterAll_i17
  exact (kqI2 (y_fX2_enterAll_h164 hC (by omega) _ (1, M, L) h) (kqK2 (fun q1 => (kqL2 (fun x4 => (kqK2 (fun q2 => (kqI2 (y_fX2_enterAll_b59 hC hr17 (by omega) h) (kqK2 (fun q3 => (kqI2 (y_fX2_enterAll_b59 hC hr17 (by omega) h) (y_fX2_enterAll_b64 hC hr17 (by omega) h))))))))))))
theorem y_fX2_enterAll_h17 {P : mwM → mwL → Prop} (hC : CPc2 P) {fu : Nat} {k : Nat} {a1 : Int32} (hk_k : 4 ≤ k ∧ k ≤ 689) : ∀ n s, P s.2.1 s.2.2 → kq2 P (fX2_enterAll_h17 fu k a1 n s) := by
  intro n
  induction n with
  | zero => intro s _; exact kqN2
  | succ n ih =>
    intro s h
    show kq2 P (fX2_enterAll_i17 fu k a1 (fX2_enterAll_h17 fu k a1 n) s.1 s.2.1 s.2.2)
    exact y_fX2_enterAll_i17 hC ih hk_k h
theorem y_DX2_enterAll {P : mwM → mwL → Prop} (hC : CPc2 P) {fu : Nat} {k : Nat} {a1 : Int32} (hk_k : 4 ≤ k ∧ k ≤ 689) {M : mwM} {L : mwL} (h : P M L) : kq2 P (DX2_enterAll fu k a1 M L) := by
  unfold DX2_enterAll
  exact (kqB22 (y_DX2_pickChild hC (by omega) h) (fun M66 L67 h1 => (kqM2_c2 hC h1 (by omega) (fun M70 h2 => (y_fX2_enterAll_h17 hC (by omega) _ (1, M70, L67) h2)))))
theorem y_fX2_isJoined_b46 {P : mwM → mwL → Prop} (hC : CPc2 P) {fu : Nat} {k : Nat} {a1 : Int32} {r4 : (Int32 × Int32 × mwM × mwL) → Option (Int32 × mwM × mwL)} {v2 : Int32} {v3 : Int32} (hr4 : ∀ s, P s.2.2.1 s.2.2.2 → kq3 P (r4 s)) {M : mwM} {L : mwL} (h : P M L) : kq3 P (fX2_isJoined_b46 fu k a1 r4 v2 v3 M L) := by
  unfold fX2_isJoined_b46
  exact (kqL3 (fun x11 => (hr4 (v2, x11, M, L) h)))
theorem y_fX2_isJoined_i4 {P : mwM → mwL → Prop} (hC : CPc2 P) {fu : Nat} {k : Nat} {a1 : Int32} {r4 : (Int32 × Int32 × mwM × mwL) → Option (Int32 × mwM × mwL)} {v2 : Int32} {v3 : Int32} (hr4 : ∀ s, P s.2.2.1 s.2.2.2 → kq3 P (r4 s)) {M : mwM} {L : mwL} (h : P M L) : kq3 P (fX2_isJoined_i4 fu k a1 r4 v2 v3 M L) := by
  unfold fX2_isJoined_i4
  exact (kqI3 (kq_mzz3 (kqS3 h)) (kqK3 (fun q1 => (kqI3 (kqK3 (fun q2 => (kqK3 (fun q3 => (kqI3 (kqS3 h) (y_fX2_isJoined_b46 hC hr4 h)))))) (y_fX2_isJoined_b46 hC hr4 h)))))
theorem y_fX2_isJoined_h4 {P : mwM → mwL → Prop} (hC : CPc2 P) {fu : Nat} {k : Nat} {a1 : Int32} : ∀ n s, P s.2.2.1 s.2.2.2 → kq3 P (fX2_isJoined_h4 fu k a1 n s) := by
  intro n
  induction n with
  | zero => intro s _; exact kqN3
  | succ n ih =>
    intro s h
    show kq3 P (fX2_isJoined_i4 fu k a1 (fX2_isJoined_h4 fu k a1 n) s.1 s.2.1 s.2.2.1 s.2.2.2)
    exact y_fX2_isJoined_i4 hC ih h
theorem y_DX2_isJoined {P : mwM → mwL → Prop} (hC : CPc2 P) {fu : Nat} {k : Nat} {a1 : Int32} {M : mwM} {L : mwL} (h : P M L) : kq3 P (DX2_isJoined fu k a1 M L) := by
  unfold DX2_isJoined
  exact (y_fX2_isJoined_h4 hC _ (0, 1, M, L) h)
theorem y_fX2_mayGo_b40 {P : mwM → mwL → Prop} (hC : CPc2 P) {fu : Nat} {k : Nat} {a1 : Int32} {M : mwM} {L : mwL} (h : P M L) : kq3 P (fX2_mayGo_b40 fu k a1 M L) := by
  unfold fX2_mayGo_b40
  exact (kqS3 h)
theorem y_fX2_mayGo_b79 {P : mwM → mwL → Prop} (hC : CPc2 P) {fu : Nat} {k : Nat} {a1 : Int32} {s0 : Int32} {M : mwM} {L : mwL} (h : P M L) : kq3 P (fX2_mayGo_b79 fu k a1 s0 M L) := by
  unfold fX2_mayGo_b79
  exact (kq_mzz3 (kqS3 h))
theorem y_DX2_mayGo {P : mwM → mwL → Prop} (hC : CPc2 P) {fu : Nat} {k : Nat} {a1 : Int32} {M : mwM} {L : mwL} (h : P M L) : kq3 P (DX2_mayGo fu k a1 M L) := by
  unfold DX2_mayGo
  exact (kqK3 (fun q1 => (kqL3 (fun x4 => (kqK3 (fun q2 => (kqK3 (fun q3 => (kqI3 (y_fX2_mayGo_b40 hC h) (kqK3 (fun q4 => (kqI3 (y_fX2_mayGo_b40 hC h) (kqK3 (fun q5 => (kqI3 (kqB33 (y_DX2_isJoined hC h) (fun r21 M19 L20 h6 => (y_fX2_mayGo_b79 hC h6))) (kqK3 (fun q7 => (kqI3 (y_fX2_mayGo_b79 hC h) (y_fX2_mayGo_b79 hC h)))))))))))))))))))
theorem y_fX2_compare_b72 {P : mwM → mwL → Prop} (hC : CPc2 P) {fu : Nat} {k : Nat} {a1 : Int32} {a2 : Int64} {a3 : Int64} {s0 : Int32} {M : mwM} {L : mwL} (h : P M L) : kq3 P (fX2_compare_b72 fu k a1 a2 a3 s0 M L) := by
  unfold fX2_compare_b72
  exact (kq_mzz3 (kqS3 h))
theorem y_fX2_compare_b85 {P : mwM → mwL → Prop} (hC : CPc2 P) {fu : Nat} {k : Nat} {a1 : Int32} {a2 : Int64} {a3 : Int64} {s0 : Int32} {M : mwM} {L : mwL} (h : P M L) : kq3 P (fX2_compare_b85 fu k a1 a2 a3 s0 M L) := by
  unfold fX2_compare_b85
  exact (kq_mzz3 (kqS3 h))
theorem y_fX2_compare_b98 {P : mwM → mwL → Prop} (hC : CPc2 P) {fu : Nat} {k : Nat} {a1 : Int32} {a2 : Int64} {a3 : Int64} {s0 : Int32} {M : mwM} {L : mwL} (h : P M L) : kq3 P (fX2_compare_b98 fu k a1 a2 a3 s0 M L) := by
  unfold fX2_compare_b98
  exact (kq_mzz3 (kqS3 h))
theorem y_fX2_compare_b111 {P : mwM → mwL → Prop} (hC : CPc2 P) {fu : Nat} {k : Nat} {a1 : Int32} {a2 : Int64} {a3 : Int64} {s0 : Int32} {M : mwM} {L : mwL} (h : P M L) : kq3 P (fX2_compare_b111 fu k a1 a2 a3 s0 M L) := by
  unfold fX2_compare_b111
  exact (kq_mzz3 (kqS3 h))
theorem y_fX2_compare_b126 {P : mwM → mwL → Prop} (hC : CPc2 P) {fu : Nat} {k : Nat} {a1 : Int32} {a2 : Int64} {a3 : Int64} {s0 : Int32} {M : mwM} {L : mwL} (h : P M L) : kq3 P (fX2_compare_b126 fu k a1 a2 a3 s0 M L) := by
  unfold fX2_compare_b126
  exact (kq_mzz3 (kqS3 h))
theorem y_fX2_compare_b141 {P : mwM → mwL → Prop} (hC : CPc2 P) {fu : Nat} {k : Nat} {a1 : Int32} {a2 : Int64} {a3 : Int64} {s0 : Int32} {M : mwM} {L : mwL} (h : P M L) : kq3 P (fX2_compare_b141 fu k a1 a2 a3 s0 M L) := by
  unfold fX2_compare_b141
  exact (kq_mzz3 (kqS3 h))
theorem y_fX2_compare_b24 {P : mwM → mwL → Prop} (hC : CPc2 P) {fu : Nat} {k : Nat} {a1 : Int32} {a2 : Int64} {a3 : Int64} {M : mwM} {L : mwL} (h : P M L) : kq3 P (fX2_compare_b24 fu k a1 a2 a3 M L) := by
  unfold fX2_compare_b24
  exact (kqL3 (fun x1 => (kqI3 (kqI3 (y_fX2_compare_b72 hC h) (y_fX2_compare_b72 hC h)) (kqI3 (kqI3 (y_fX2_compare_b85 hC h) (y_fX2_compare_b85 hC h)) (kqI3 (kqI3 (y_fX2_compare_b98 hC h) (y_fX2_compare_b98 hC h)) (kqI3 (kqI3 (y_fX2_compare_b111 hC h) (y_fX2_compare_b111 hC h)) (kqI3 (kq_mnzL3 (kqI3 (y_fX2_compare_b126 hC h) (y_fX2_compare_b126 hC h))) (kq_mnzL3 (kqI3 (y_fX2_compare_b141 hC h) (y_fX2_compare_b141 hC h))))))))))
theorem y_DX2_compare {P : mwM → mwL → Prop} (hC : CPc2 P) {fu : Nat} {k : Nat} {a1 : Int32} {a2 : Int64} {a3 : Int64} (hk_k : 4 ≤ k ∧ k ≤ 689) {M : mwM} {L : mwL} (h : P M L) : kq3 P (DX2_compare fu k a1 a2 a3 M L) := by
  unfold DX2_compare
  exact (kqI3 (y_fX2_compare_b24 hC h) (kqI3 (kqM3_c2 hC h (by omega) (fun M23 h1 => (kqS3 h1))) (y_fX2_compare_b24 hC h)))
theorem y_fX2_holds_b83 {P : mwM → mwL → Prop} (hC : CPc2 P) {fu : Nat} {k : Nat} {a1 : Int32} {v4 : Int32} {s2 : Int32} {s3 : Int32} (hk_k : 4 ≤ k ∧ k ≤ 689) {M : mwM} {L : mwL} (h : P M L) : kq3 P (fX2_holds_b83 fu k a1 v4 s2 s3 M L) := by
  unfold fX2_holds_b83
  exact (kqK3 (fun q1 => (kqM3_c2 hC h (by omega) (fun M8 h2 => (kq_mzz3 (kqS3 h2))))))
theorem y_fX2_holds_b59 {P : mwM → mwL → Prop} (hC : CPc2 P) {fu : Nat} {k : Nat} {a1 : Int32} {s1 : Int32} {s2 : Int64} {s3 : Int64} (hk_k : 4 ≤ k ∧ k ≤ 689) {M : mwM} {L : mwL} (h : P M L) : kq3 P (fX2_holds_b59 fu k a1 s1 s2 s3 M L) := by
  unfold fX2_holds_b59
  exact (kqB33 (y_DX2_compare hC (by omega) h) (fun r3 M1 L2 h1 => (kqK3 (fun q2 => (kqI3 (y_fX2_holds_b83 hC (by omega) h1) (y_fX2_holds_b83 hC (by omega) h1))))))
theorem y_DX2_holds {P : mwM → mwL → Prop} (hC : CPc2 P) {fu : Nat} {k : Nat} {a1 : Int32} (hk_k : 4 ≤ k ∧ k ≤ 689) {M : mwM} {L : mwL} (h : P M L) : kq3 P (DX2_holds fu k a1 M L) := by
  unfold DX2_holds
  exact (kqK3 (fun q1 => (kqL3 (fun x12 => (kqI3 (kqS3 h) (kqL3 (fun x16 => (kqK3 (fun q2 => (kqI3 (kqK3 (fun q3 => (y_fX2_holds_b59 hC (by omega) h))) (y_fX2_holds_b59 hC (by omega) h)))))))))))
theorem y_fX2_putReady_b82 {P : mwM → mwL → Prop} (hC : CPc2 P) {fu : Nat} {k : Nat} {a1 : Int32} {a2 : Int32} {v4 : Int32} (hk_k : 4 ≤ k ∧ k ≤ 689) {M : mwM} {L : mwL} (h : P M L) : kq3 P (fX2_putReady_b82 fu k a1 a2 v4 M L) := by
  unfold fX2_putReady_b82
  exact (kqK3 (fun q1 => (kqM3_c2 hC h (by omega) (fun M17 h2 => (kqS3 h2)))))
theorem y_fX2_putReady_i19 {P : mwM → mwL → Prop} (hC : CPc2 P) {fu : Nat} {k : Nat} {a1 : Int32} {a2 : Int32} {r19 : (Int32 × Int32 × mwM × mwL) → Option (Int32 × mwM × mwL)} {v3 : Int32} {v4 : Int32} (hr19 : ∀ s, P s.2.2.1 s.2.2.2 → kq3 P (r19 s)) (hk_k : 4 ≤ k ∧ k ≤ 689) {M : mwM} {L : mwL} (h : P M L) : kq3 P (fX2_putReady_i19 fu k a1 a2 r19 v3 v4 M L) := by
  unfold fX2_putReady_i19
  exact (kqI3 (y_fX2_putReady_b82 hC (by omega) h) (kqK3 (fun q1 => (kqK3 (fun q2 => (kqK3 (fun q3 => (kqI3 (y_fX2_putReady_b82 hC (by omega) h) (kqK3 (fun q4 => (kqK3 (fun q5 => (kqM3_c2 hC h (by omega) (fun M13 h6 => (kqL3 (fun x14 => (hr19 (v3, x14, M13, L) h6)))))))))))))))))
theorem y_fX2_putReady_h19 {P : mwM → mwL → Prop} (hC : CPc2 P) {fu : Nat} {k : Nat} {a1 : Int32} {a2 : Int32} (hk_k : 4 ≤ k ∧ k ≤ 689) : ∀ n s, P s.2.2.1 s.2.2.2 → kq3 P (fX2_putReady_h19 fu k a1 a2 n s) := by
  intro n
  induction n with
  | zero => intro s _; exact kqN3
  | succ n ih =>
    intro s h
    show kq3 P (fX2_putReady_i19 fu k a1 a2 (fX2_putReady_h19 fu k a1 a2 n) s.1 s.2.1 s.2.2.1 s.2.2.2)
    exact y_fX2_putReady_i19 hC ih hk_k h
theorem y_DX2_putReady {P : mwM → mwL → Prop} (hC : CPc2 P) {fu : Nat} {k : Nat} {a1 : Int32} {a2 : Int32} (hk_k : 4 ≤ k ∧ k ≤ 689) {M : mwM} {L : mwL} (h : P M L) : kq3 P (DX2_putReady fu k a1 a2 M L) := by
  unfold DX2_putReady
  exact (kqK3 (fun q1 => (kqK3 (fun q2 => (kqL3 (fun x22 => (y_fX2_putReady_h19 hC (by omega) _ (x22, a2, M, L) h)))))))
theorem y_fX2_markInside_b60 {P : mwM → mwL → Prop} (hC : CPc2 P) {fu : Nat} {k : Nat} {a1 : Int32} {r12 : (Int32 × mwM × mwL) → Option (mwM × mwL)} {v2 : Int32} {s1 : Int32} {s2 : Int32} (hr12 : ∀ s, P s.2.1 s.2.2 → kq2 P (r12 s)) (hk_k : 4 ≤ k ∧ k ≤ 689) {M : mwM} {L : mwL} (h : P M L) : kq2 P (fX2_markInside_b60 fu k a1 r12 v2 s1 s2 M L) := by
  unfold fX2_markInside_b60
  exact (kqK2 (fun q1 => (kqM2_c2 hC h (by omega) (fun M11 h2 => (kqL2 (fun x12 => (hr12 (x12, M11, L) h2)))))))
theorem y_fX2_markInside_b55 {P : mwM → mwL → Prop} (hC : CPc2 P) {fu : Nat} {k : Nat} {a1 : Int32} {r12 : (Int32 × mwM × mwL) → Option (mwM × mwL)} {v2 : Int32} {s1 : Int32} (hr12 : ∀ s, P s.2.1 s.2.2 → kq2 P (r12 s)) (hk_k : 4 ≤ k ∧ k ≤ 689) {M : mwM} {L : mwL} (h : P M L) : kq2 P (fX2_markInside_b55 fu k a1 r12 v2 s1 M L) := by
  unfold fX2_markInside_b55
  exact (y_fX2_markInside_b60 hC hr12 (by omega) h)
theorem y_fX2_markInside_i12 {P : mwM → mwL → Prop} (hC : CPc2 P) {fu : Nat} {k : Nat} {a1 : Int32} {r12 : (Int32 × mwM × mwL) → Option (mwM × mwL)} {v2 : Int32} (hr12 : ∀ s, P s.2.1 s.2.2 → kq2 P (r12 s)) (hk_k : 4 ≤ k ∧ k ≤ 689) {M : mwM} {L : mwL} (h : P M L) : kq2 P (fX2_markInside_i12 fu k a1 r12 v2 M L) := by
  unfold fX2_markInside_i12
  exact (kqI2 (kqS2 h) (kqK2 (fun q1 => (kqL2 (fun x4 => (kqI2 (y_fX2_markInside_b55 hC hr12 (by omega) h) (kqK2 (fun q2 => (kqI2 (y_fX2_markInside_b55 hC hr12 (by omega) h) (y_fX2_markInside_b60 hC hr12 (by omega) h))))))))))
theorem y_fX2_markInside_h12 {P : mwM → mwL → Prop} (hC : CPc2 P) {fu : Nat} {k : Nat} {a1 : Int32} (hk_k : 4 ≤ k ∧ k ≤ 689) : ∀ n s, P s.2.1 s.2.2 → kq2 P (fX2_markInside_h12 fu k a1 n s) := by
  intro n
  induction n with
  | zero => intro s _; exact kqN2
  | succ n ih =>
    intro s h
    show kq2 P (fX2_markInside_i12 fu k a1 (fX2_markInside_h12 fu k a1 n) s.1 s.2.1 s.2.2)
    exact y_fX2_markInside_i12 hC ih hk_k h
theorem y_DX2_markInside {P : mwM → mwL → Prop} (hC : CPc2 P) {fu : Nat} {k : Nat} {a1 : Int32} (hk_k : 4 ≤ k ∧ k ≤ 689) {M : mwM} {L : mwL} (h : P M L) : kq2 P (DX2_markInside fu k a1 M L) := by
  unfold DX2_markInside
  exact (kqM2_c2 hC h (by omega) (fun M15 h1 => (y_fX2_markInside_h12 hC (by omega) _ (1, M15, L) h1)))
theorem y_fX2_claim_b106 {P : mwM → mwL → Prop} (hC : CPc2 P) {fu : Nat} {k : Nat} {a1 : Int32} {r63 : (Int32 × mwM × mwL) → Option (Int32 × mwM × mwL)} {v2 : Int32} (hr63 : ∀ s, P s.2.1 s.2.2 → kq3 P (r63 s)) {M : mwM} {L : mwL} (h : P M L) : kq3 P (fX2_claim_b106 fu k a1 r63 v2 M L) := by
  unfold fX2_claim_b106
  exact (kqL3 (fun x22 => (hr63 (x22, M, L) h)))
theorem y_fX2_claim_i63 {P : mwM → mwL → Prop} (hC : CPc2 P) {fu : Nat} {k : Nat} {a1 : Int32} {r63 : (Int32 × mwM × mwL) → Option (Int32 × mwM × mwL)} {v2 : Int32} (hr63 : ∀ s, P s.2.1 s.2.2 → kq3 P (r63 s)) (hk_k : 4 ≤ k ∧ k ≤ 689) {M : mwM} {L : mwL} (h : P M L) : kq3 P (fX2_claim_i63 fu k a1 r63 v2 M L) := by
  unfold fX2_claim_i63
  exact (kqI3 (kqS3 h) (kqK3 (fun q1 => (kqI3 (kqK3 (fun q2 => (kqI3 (kqK3 (fun q3 => (kqM3_c2 hC h (by omega) (fun M21 h4 => (y_fX2_claim_b106 hC hr63 h4))))) (y_fX2_claim_b106 hC hr63 h)))) (y_fX2_claim_b106 hC hr63 h)))))
theorem y_fX2_claim_h63 {P : mwM → mwL → Prop} (hC : CPc2 P) {fu : Nat} {k : Nat} {a1 : Int32} (hk_k : 4 ≤ k ∧ k ≤ 689) : ∀ n s, P s.2.1 s.2.2 → kq3 P (fX2_claim_h63 fu k a1 n s) := by
  intro n
  induction n with
  | zero => intro s _; exact kqN3
  | succ n ih =>
    intro s h
    show kq3 P (fX2_claim_i63 fu k a1 (fX2_claim_h63 fu k a1 n) s.1 s.2.1 s.2.2)
    exact y_fX2_claim_i63 hC ih hk_k h
theorem y_fX2_claim_b55 {P : mwM → mwL → Prop} (hC : CPc2 P) {fu : Nat} {k : Nat} {a1 : Int32} {r7 : (Int32 × mwM × mwL) → Option (Int32 × mwM × mwL)} {v2 : Int32} (hr7 : ∀ s, P s.2.1 s.2.2 → kq3 P (r7 s)) {M : mwM} {L : mwL} (h : P M L) : kq3 P (fX2_claim_b55 fu k a1 r7 v2 M L) := by
  unfold fX2_claim_b55
  exact (kqL3 (fun x11 => (hr7 (x11, M, L) h)))
theorem y_fX2_claim_i7 {P : mwM → mwL → Prop} (hC : CPc2 P) {fu : Nat} {k : Nat} {a1 : Int32} {r7 : (Int32 × mwM × mwL) → Option (Int32 × mwM × mwL)} {v2 : Int32} (hr7 : ∀ s, P s.2.1 s.2.2 → kq3 P (r7 s)) (hk_k : 4 ≤ k ∧ k ≤ 689) {M : mwM} {L : mwL} (h : P M L) : kq3 P (fX2_claim_i7 fu k a1 r7 v2 M L) := by
  unfold fX2_claim_i7
  exact (kqI3 (y_fX2_claim_h63 hC (by omega) _ (1, M, L) h) (kqK3 (fun q1 => (kqI3 (kqK3 (fun q2 => (kqI3 (kqK3 (fun q3 => (kqI3 (kqS3 h) (y_fX2_claim_b55 hC hr7 h)))) (y_fX2_claim_b55 hC hr7 h)))) (y_fX2_claim_b55 hC hr7 h)))))
theorem y_fX2_claim_h7 {P : mwM → mwL → Prop} (hC : CPc2 P) {fu : Nat} {k : Nat} {a1 : Int32} (hk_k : 4 ≤ k ∧ k ≤ 689) : ∀ n s, P s.2.1 s.2.2 → kq3 P (fX2_claim_h7 fu k a1 n s) := by
  intro n
  induction n with
  | zero => intro s _; exact kqN3
  | succ n ih =>
    intro s h
    show kq3 P (fX2_claim_i7 fu k a1 (fX2_claim_h7 fu k a1 n) s.1 s.2.1 s.2.2)
    exact y_fX2_claim_i7 hC ih hk_k h
theorem y_DX2_claim {P : mwM → mwL → Prop} (hC : CPc2 P) {fu : Nat} {k : Nat} {a1 : Int32} (hk_k : 4 ≤ k ∧ k ≤ 689) {M : mwM} {L : mwL} (h : P M L) : kq3 P (DX2_claim fu k a1 M L) := by
  unfold DX2_claim
  exact (kqB23 (y_DX2_markInside hC (by omega) h) (fun M23 L24 h1 => (y_fX2_claim_h7 hC (by omega) _ (1, M23, L24) h1)))
theorem y_fX2_select_b138 {P : mwM → mwL → Prop} (hC : CPc2 P) {fu : Nat} {k : Nat} {a1 : Int32} {r90 : (Int32 × Int32 × Int32 × mwM × mwL) → Option (Int32 × mwM × mwL)} {v2 : Int32} {v3 : Int32} {v4 : Int32} (hr90 : ∀ s, P s.2.2.2.1 s.2.2.2.2 → kq3 P (r90 s)) {M : mwM} {L : mwL} (h : P M L) : kq3 P (fX2_select_b138 fu k a1 r90 v2 v3 v4 M L) := by
  unfold fX2_select_b138
  exact (kqL3 (fun x37 => (hr90 (v2, v3, x37, M, L) h)))
theorem y_fX2_select_i90 {P : mwM → mwL → Prop} (hC : CPc2 P) {fu : Nat} {k : Nat} {a1 : Int32} {r90 : (Int32 × Int32 × Int32 × mwM × mwL) → Option (Int32 × mwM × mwL)} {v2 : Int32} {v3 : Int32} {v4 : Int32} (hr90 : ∀ s, P s.2.2.2.1 s.2.2.2.2 → kq3 P (r90 s)) (hk_k : 4 ≤ k ∧ k ≤ 689) {M : mwM} {L : mwL} (h : P M L) : kq3 P (fX2_select_i90 fu k a1 r90 v2 v3 v4 M L) := by
  unfold fX2_select_i90
  exact (kqI3 (kqS3 h) (kqK3 (fun q1 => (kqL3 (fun x26 => (kqK3 (fun q2 => (kqB33 (y_DX2_claim hC (by omega) h) (fun r31 M29 L30 h3 => (kqI3 (y_fX2_select_b138 hC hr90 h3) (kqK3 (fun q4 => (kqM3_c2 hC h3 (by omega) (fun M35 h5 => (kqL3 (fun x36 => (y_fX2_select_b138 hC hr90 h5)))))))))))))))))
theorem y_fX2_select_h90 {P : mwM → mwL → Prop} (hC : CPc2 P) {fu : Nat} {k : Nat} {a1 : Int32} (hk_k : 4 ≤ k ∧ k ≤ 689) : ∀ n s, P s.2.2.2.1 s.2.2.2.2 → kq3 P (fX2_select_h90 fu k a1 n s) := by
  intro n
  induction n with
  | zero => intro s _; exact kqN3
  | succ n ih =>
    intro s h
    show kq3 P (fX2_select_i90 fu k a1 (fX2_select_h90 fu k a1 n) s.1 s.2.1 s.2.2.1 s.2.2.2.1 s.2.2.2.2)
    exact y_fX2_select_i90 hC ih hk_k h
theorem y_fX2_select_i61 {P : mwM → mwL → Prop} (hC : CPc2 P) {fu : Nat} {k : Nat} {a1 : Int32} {r61 : (Int32 × Int32 × mwM × mwL) → Option (Int32 × mwM × mwL)} {v2 : Int32} {v3 : Int32} (hr61 : ∀ s, P s.2.2.1 s.2.2.2 → kq3 P (r61 s)) (hk_k : 4 ≤ k ∧ k ≤ 689) {M : mwM} {L : mwL} (h : P M L) : kq3 P (fX2_select_i61 fu k a1 r61 v2 v3 M L) := by
  unfold fX2_select_i61
  exact (kqI3 (y_fX2_select_h90 hC (by omega) _ (v2, 0, 0, M, L) h) (kqK3 (fun q1 => (kqM3_c2 hC h (by omega) (fun M21 h2 => (kqL3 (fun x22 => (hr61 (v2, x22, M21, L) h2))))))))
theorem y_fX2_select_h61 {P : mwM → mwL → Prop} (hC : CPc2 P) {fu : Nat} {k : Nat} {a1 : Int32} (hk_k : 4 ≤ k ∧ k ≤ 689) : ∀ n s, P s.2.2.1 s.2.2.2 → kq3 P (fX2_select_h61 fu k a1 n s) := by
  intro n
  induction n with
  | zero => intro s _; exact kqN3
  | succ n ih =>
    intro s h
    show kq3 P (fX2_select_i61 fu k a1 (fX2_select_h61 fu k a1 n) s.1 s.2.1 s.2.2.1 s.2.2.2)
    exact y_fX2_select_i61 hC ih hk_k h
theorem y_fX2_select_b47 {P : mwM → mwL → Prop} (hC : CPc2 P) {fu : Nat} {k : Nat} {a1 : Int32} {r4 : (Int32 × Int32 × mwM × mwL) → Option (Int32 × mwM × mwL)} {v2 : Int32} {v3 : Int32} (hr4 : ∀ s, P s.2.2.1 s.2.2.2 → kq3 P (r4 s)) {M : mwM} {L : mwL} (h : P M L) : kq3 P (fX2_select_b47 fu k a1 r4 v2 v3 M L) := by
  unfold fX2_select_b47
  exact (kqL3 (fun x17 => (hr4 (v2, x17, M, L) h)))
theorem y_fX2_select_i4 {P : mwM → mwL → Prop} (hC : CPc2 P) {fu : Nat} {k : Nat} {a1 : Int32} {r4 : (Int32 × Int32 × mwM × mwL) → Option (Int32 × mwM × mwL)} {v2 : Int32} {v3 : Int32} (hr4 : ∀ s, P s.2.2.1 s.2.2.2 → kq3 P (r4 s)) (hk_k : 4 ≤ k ∧ k ≤ 689) {M : mwM} {L : mwL} (h : P M L) : kq3 P (fX2_select_i4 fu k a1 r4 v2 v3 M L) := by
  unfold fX2_select_i4
  exact (kqI3 (kqI3 (kqS3 h) (y_fX2_select_h61 hC (by omega) _ (v2, 1, M, L) h)) (kqK3 (fun q1 => (kqI3 (kqB33 (y_DX2_mayGo hC h) (fun r8 M6 L7 h2 => (kqI3 (y_fX2_select_b47 hC hr4 h2) (kqB33 (y_DX2_holds hC (by omega) h2) (fun r12 M10 L11 h3 => (kqI3 (y_fX2_select_b47 hC hr4 h3) (kqB33 (y_DX2_putReady hC (by omega) h3) (fun r16 M14 L15 h4 => (y_fX2_select_b47 hC hr4 h4))))))))) (y_fX2_select_b47 hC hr4 h)))))
theorem y_fX2_select_h4 {P : mwM → mwL → Prop} (hC : CPc2 P) {fu : Nat} {k : Nat} {a1 : Int32} (hk_k : 4 ≤ k ∧ k ≤ 689) : ∀ n s, P s.2.2.1 s.2.2.2 → kq3 P (fX2_select_h4 fu k a1 n s) := by
  intro n
  induction n with
  | zero => intro s _; exact kqN3
  | succ n ih =>
    intro s h
    show kq3 P (fX2_select_i4 fu k a1 (fX2_select_h4 fu k a1 n) s.1 s.2.1 s.2.2.1 s.2.2.2)
    exact y_fX2_select_i4 hC ih hk_k h
theorem y_DX2_select {P : mwM → mwL → Prop} (hC : CPc2 P) {fu : Nat} {k : Nat} {a1 : Int32} (hk_k : 4 ≤ k ∧ k ≤ 689) {M : mwM} {L : mwL} (h : P M L) : kq3 P (DX2_select fu k a1 M L) := by
  unfold DX2_select
  exact (y_fX2_select_h4 hC (by omega) _ (0, 1, M, L) h)
theorem y_fX2_leaveAll_b105 {P : mwM → mwL → Prop} (hC : CPc2 P) {fu : Nat} {k : Nat} {a1 : Int32} {r7 : (Int32 × mwM × mwL) → Option (mwM × mwL)} {v2 : Int32} (hr7 : ∀ s, P s.2.1 s.2.2 → kq2 P (r7 s)) {M : mwM} {L : mwL} (h : P M L) : kq2 P (fX2_leaveAll_b105 fu k a1 r7 v2 M L) := by
  unfold fX2_leaveAll_b105
  exact (kqL2 (fun x27 => (hr7 (x27, M, L) h)))
theorem y_fX2_leaveAll_b80 {P : mwM → mwL → Prop} (hC : CPc2 P) {fu : Nat} {k : Nat} {a1 : Int32} {r7 : (Int32 × mwM × mwL) → Option (mwM × mwL)} {v2 : Int32} {v3 : Int32} (hr7 : ∀ s, P s.2.1 s.2.2 → kq2 P (r7 s)) (hk_k : 4 ≤ k ∧ k ≤ 689) {M : mwM} {L : mwL} (h : P M L) : kq2 P (fX2_leaveAll_b80 fu k a1 r7 v2 v3 M L) := by
  unfold fX2_leaveAll_b80
  exact (kqK2 (fun q1 => (kqM2_c2 hC h (by omega) (fun M21 h2 => (kqK2 (fun q3 => (kqM2_c2 hC h2 (by omega) (fun M24 h4 => (kqB22 (y_DX2_doActs hC (by omega) h4) (fun M25 L26 h5 => (y_fX2_leaveAll_b105 hC hr7 h5)))))))))))
theorem y_fX2_leaveAll_i7 {P : mwM → mwL → Prop} (hC : CPc2 P) {fu : Nat} {k : Nat} {a1 : Int32} {r7 : (Int32 × mwM × mwL) → Option (mwM × mwL)} {v2 : Int32} (hr7 : ∀ s, P s.2.1 s.2.2 → kq2 P (r7 s)) (hk_k : 4 ≤ k ∧ k ≤ 689) {M : mwM} {L : mwL} (h : P M L) : kq2 P (fX2_leaveAll_i7 fu k a1 r7 v2 M L) := by
  unfold fX2_leaveAll_i7
  exact (kqI2 (kqS2 h) (kqK2 (fun q1 => (kqL2 (fun x4 => (kqK2 (fun q2 => (kqI2 (kqK2 (fun q3 => (kqI2 (kqK2 (fun q4 => (kqI2 (y_fX2_leaveAll_b80 hC hr7 (by omega) h) (kqK2 (fun q5 => (kqK2 (fun q6 => (kqM2_c2 hC h (by omega) (fun M18 h7 => (y_fX2_leaveAll_b80 hC hr7 (by omega) h7)))))))))) (y_fX2_leaveAll_b105 hC hr7 h)))) (y_fX2_leaveAll_b105 hC hr7 h)))))))))
theorem y_fX2_leaveAll_h7 {P : mwM → mwL → Prop} (hC : CPc2 P) {fu : Nat} {k : Nat} {a1 : Int32} (hk_k : 4 ≤ k ∧ k ≤ 689) : ∀ n s, P s.2.1 s.2.2 → kq2 P (fX2_leaveAll_h7 fu k a1 n s) := by
  intro n
  induction n with
  | zero => intro s _; exact kqN2
  | succ n ih =>
    intro s h
    show kq2 P (fX2_leaveAll_i7 fu k a1 (fX2_leaveAll_h7 fu k a1 n) s.1 s.2.1 s.2.2)
    exact y_fX2_leaveAll_i7 hC ih hk_k h
theorem y_DX2_leaveAll {P : mwM → mwL → Prop} (hC : CPc2 P) {fu : Nat} {k : Nat} {a1 : Int32} (hk_k : 4 ≤ k ∧ k ≤ 689) {M : mwM} {L : mwL} (h : P M L) : kq2 P (DX2_leaveAll fu k a1 M L) := by
  unfold DX2_leaveAll
  exact (kqB22 (y_DX2_markInside hC (by omega) h) (fun M28 L29 h1 => (y_fX2_leaveAll_h7 hC (by omega) _ (1, M28, L29) h1)))
theorem y_fX2_goOn_i2 {P : mwM → mwL → Prop} (hC : CPc2 P) {fu : Nat} {k : Nat} {a1 : Int32} {r2 : (Int32 × mwM × mwL) → Option (mwM × mwL)} {v2 : Int32} (hr2 : ∀ s, P s.2.1 s.2.2 → kq2 P (r2 s)) (hk_k : 4 ≤ k ∧ k ≤ 689) {M : mwM} {L : mwL} (h : P M L) : kq2 P (fX2_goOn_i2 fu k a1 r2 v2 M L) := by
  unfold fX2_goOn_i2
  exact (kqI2 (kqS2 h) (kqK2 (fun q1 => (kqL2 (fun x4 => (kqK2 (fun q2 => (kqL2 (fun x7 => (kqK2 (fun q3 => (kqK2 (fun q4 => (kqM2_c2 hC h (by omega) (fun M11 h5 => (kqB22 (y_DX2_leaveAll hC (by omega) h5) (fun M12 L13 h6 => (kqB22 (y_DX2_doActs hC (by omega) h6) (fun M14 L15 h7 => (kqB22 (y_DX2_aim hC (by omega) h7) (fun M16 L17 h8 => (kqB22 (y_DX2_enterAll hC (by omega) h8) (fun M18 L19 h9 => (kqL2 (fun x20 => (hr2 (x20, M18, L19) h9))))))))))))))))))))))))))
theorem y_fX2_goOn_h2 {P : mwM → mwL → Prop} (hC : CPc2 P) {fu : Nat} {k : Nat} {a1 : Int32} (hk_k : 4 ≤ k ∧ k ≤ 689) : ∀ n s, P s.2.1 s.2.2 → kq2 P (fX2_goOn_h2 fu k a1 n s) := by
  intro n
  induction n with
  | zero => intro s _; exact kqN2
  | succ n ih =>
    intro s h
    show kq2 P (fX2_goOn_i2 fu k a1 (fX2_goOn_h2 fu k a1 n) s.1 s.2.1 s.2.2)
    exact y_fX2_goOn_i2 hC ih hk_k h
theorem y_DX2_goOn {P : mwM → mwL → Prop} (hC : CPc2 P) {fu : Nat} {k : Nat} {a1 : Int32} (hk_k : 4 ≤ k ∧ k ≤ 689) {M : mwM} {L : mwL} (h : P M L) : kq2 P (DX2_goOn fu k a1 M L) := by
  unfold DX2_goOn
  exact (y_fX2_goOn_h2 hC (by omega) _ (0, M, L) h)
theorem y_fX2_chain_b46 {P : mwM → mwL → Prop} (hC : CPc2 P) {fu : Nat} {k : Nat} {s0 : Int32} {M : mwM} {L : mwL} (h : P M L) : kq3 P (fX2_chain_b46 fu k s0 M L) := by
  unfold fX2_chain_b46
  exact (kq_mzz3 (kqS3 h))
theorem y_fX2_chain_i2 {P : mwM → mwL → Prop} (hC : CPc2 P) {fu : Nat} {k : Nat} {r2 : (Int32 × mwM × mwL) → Option (Int32 × mwM × mwL)} {v1 : Int32} (hr2 : ∀ s, P s.2.1 s.2.2 → kq3 P (r2 s)) (hk_k : 4 ≤ k ∧ k ≤ 689) {M : mwM} {L : mwL} (h : P M L) : kq3 P (fX2_chain_i2 fu k r2 v1 M L) := by
  unfold fX2_chain_i2
  exact (kqI3 (kqB33 (y_DX2_select hC (by omega) h) (fun r4 M2 L3 h1 => (kqI3 (y_fX2_chain_b46 hC h1) (y_fX2_chain_b46 hC h1)))) (kqB33 (y_DX2_select hC (by omega) h) (fun r8 M6 L7 h2 => (kqI3 (kqS3 h2) (kqB23 (y_DX2_goOn hC (by omega) h2) (fun M10 L11 h3 => (kqL3 (fun x12 => (hr2 (x12, M10, L11) h3)))))))))
theorem y_fX2_chain_h2 {P : mwM → mwL → Prop} (hC : CPc2 P) {fu : Nat} {k : Nat} (hk_k : 4 ≤ k ∧ k ≤ 689) : ∀ n s, P s.2.1 s.2.2 → kq3 P (fX2_chain_h2 fu k n s) := by
  intro n
  induction n with
  | zero => intro s _; exact kqN3
  | succ n ih =>
    intro s h
    show kq3 P (fX2_chain_i2 fu k (fX2_chain_h2 fu k n) s.1 s.2.1 s.2.2)
    exact y_fX2_chain_i2 hC ih hk_k h
theorem y_DX2_chain {P : mwM → mwL → Prop} (hC : CPc2 P) {fu : Nat} {k : Nat} (hk_k : 4 ≤ k ∧ k ≤ 689) {M : mwM} {L : mwL} (h : P M L) : kq3 P (DX2_chain fu k M L) := by
  unfold DX2_chain
  exact (y_fX2_chain_h2 hC (by omega) _ (0, M, L) h)
theorem y_fX2_nextToSpeak_b104 {P : mwM → mwL → Prop} (hC : CPc2 P) {fu : Nat} {k : Nat} {a1 : Int32} {r9 : (Int32 × Int32 × Int32 × mwM × mwL) → Option (Int32 × mwM × mwL)} {v2 : Int32} {v3 : Int32} {v4 : Int32} (hr9 : ∀ s, P s.2.2.2.1 s.2.2.2.2 → kq3 P (r9 s)) {M : mwM} {L : mwL} (h : P M L) : kq3 P (fX2_nextToSpeak_b104 fu k a1 r9 v2 v3 v4 M L) := by
  unfold fX2_nextToSpeak_b104
  exact (kqL3 (fun x21 => (hr9 (v2, v3, x21, M, L) h)))
theorem y_fX2_nextToSpeak_i9 {P : mwM → mwL → Prop} (hC : CPc2 P) {fu : Nat} {k : Nat} {a1 : Int32} {r9 : (Int32 × Int32 × Int32 × mwM × mwL) → Option (Int32 × mwM × mwL)} {v2 : Int32} {v3 : Int32} {v4 : Int32} (hr9 : ∀ s, P s.2.2.2.1 s.2.2.2.2 → kq3 P (r9 s)) {M : mwM} {L : mwL} (h : P M L) : kq3 P (fX2_nextToSpeak_i9 fu k a1 r9 v2 v3 v4 M L) := by
  unfold fX2_nextToSpeak_i9
  exact (kqI3 (kqS3 h) (kqK3 (fun q1 => (kqI3 (y_fX2_nextToSpeak_b104 hC hr9 h) (kqK3 (fun q2 => (kqI3 (kqK3 (fun q3 => (kqI3 (kqK3 (fun q4 => (kqK3 (fun q5 => (kqI3 (y_fX2_nextToSpeak_b104 hC hr9 h) (kqK3 (fun q6 => (kqK3 (fun q7 => (kqL3 (fun x20 => (y_fX2_nextToSpeak_b104 hC hr9 h)))))))))))) (y_fX2_nextToSpeak_b104 hC hr9 h)))) (y_fX2_nextToSpeak_b104 hC hr9 h))))))))
theorem y_fX2_nextToSpeak_h9 {P : mwM → mwL → Prop} (hC : CPc2 P) {fu : Nat} {k : Nat} {a1 : Int32} : ∀ n s, P s.2.2.2.1 s.2.2.2.2 → kq3 P (fX2_nextToSpeak_h9 fu k a1 n s) := by
  intro n
  induction n with
  | zero => intro s _; exact kqN3
  | succ n ih =>
    intro s h
    show kq3 P (fX2_nextToSpeak_i9 fu k a1 (fX2_nextToSpeak_h9 fu k a1 n) s.1 s.2.1 s.2.2.1 s.2.2.2.1 s.2.2.2.2)
    exact y_fX2_nextToSpeak_i9 hC ih h
theorem y_DX2_nextToSpeak {P : mwM → mwL → Prop} (hC : CPc2 P) {fu : Nat} {k : Nat} {a1 : Int32} {M : mwM} {L : mwL} (h : P M L) : kq3 P (DX2_nextToSpeak fu k a1 M L) := by
  unfold DX2_nextToSpeak
  exact (kqL3 (fun x22 => (y_fX2_nextToSpeak_h9 hC _ (0, x22, 1, M, L) h)))
theorem y_fX2_happen_b169 {P : mwM → mwL → Prop} (hC : CPc2 P) {fu : Nat} {k : Nat} {a1 : Int32} {a2 : Int32} {s1 : Int32} {s2 : Int32} (hk_k : 4 ≤ k ∧ k ≤ 689) {M : mwM} {L : mwL} (h : P M L) : kq3 P (fX2_happen_b169 fu k a1 a2 s1 s2 M L) := by
  unfold fX2_happen_b169
  exact (kqM3_c2 hC h (by omega) (fun M36 h1 => (kqB33 (y_DX2_chain hC (by omega) h1) (fun r39 M37 L38 h2 => (kq_mzz3 (kqS3 h2))))))
theorem y_fX2_happen_b124 {P : mwM → mwL → Prop} (hC : CPc2 P) {fu : Nat} {k : Nat} {a1 : Int32} {a2 : Int32} {v3 : Int32} (hk_k : 4 ≤ k ∧ k ≤ 689) {M : mwM} {L : mwL} (h : P M L) : kq3 P (fX2_happen_b124 fu k a1 a2 v3 M L) := by
  unfold fX2_happen_b124
  exact (kqI3 (kqM3_c2 hC h (by omega) (fun M28 h1 => (kqI3 (kqS3 h1) (kqB33 (y_DX2_select hC (by omega) h1) (fun r32 M30 L31 h2 => (kqB23 (y_DX2_goOn hC (by omega) h2) (fun M33 L34 h3 => (kqI3 (y_fX2_happen_b169 hC (by omega) h3) (y_fX2_happen_b169 hC (by omega) h3))))))))) (kqS3 h))
theorem y_fX2_happen_i46 {P : mwM → mwL → Prop} (hC : CPc2 P) {fu : Nat} {k : Nat} {a1 : Int32} {a2 : Int32} {r46 : (Int32 × Int32 × mwM × mwL) → Option (Int32 × mwM × mwL)} {v3 : Int32} {v4 : Int32} (hr46 : ∀ s, P s.2.2.1 s.2.2.2 → kq3 P (r46 s)) (hk_k : 4 ≤ k ∧ k ≤ 689) {M : mwM} {L : mwL} (h : P M L) : kq3 P (fX2_happen_i46 fu k a1 a2 r46 v3 v4 M L) := by
  unfold fX2_happen_i46
  exact (kqI3 (y_fX2_happen_b124 hC (by omega) h) (kqI3 (y_fX2_happen_b124 hC (by omega) h) (kqK3 (fun q1 => (kqM3_c2 hC h (by omega) (fun M8 h2 => (kqK3 (fun q3 => (kqK3 (fun q4 => (kqM3_c2 hC h2 (by omega) (fun M13 h5 => (kqB33 (y_DX2_select hC (by omega) h5) (fun r16 M14 L15 h6 => (kqB23 (y_DX2_goOn hC (by omega) h6) (fun M17 L18 h7 => (kqB33 (y_DX2_chain hC (by omega) h7) (fun r21 M19 L20 h8 => (kqI3 (kqS3 h8) (kqB33 (y_DX2_nextToSpeak hC h8) (fun r25 M23 L24 h9 => (kqL3 (fun x26 => (hr46 (r25, x26, M23, L24) h9))))))))))))))))))))))))
theorem y_fX2_happen_h46 {P : mwM → mwL → Prop} (hC : CPc2 P) {fu : Nat} {k : Nat} {a1 : Int32} {a2 : Int32} (hk_k : 4 ≤ k ∧ k ≤ 689) : ∀ n s, P s.2.2.1 s.2.2.2 → kq3 P (fX2_happen_h46 fu k a1 a2 n s) := by
  intro n
  induction n with
  | zero => intro s _; exact kqN3
  | succ n ih =>
    intro s h
    show kq3 P (fX2_happen_i46 fu k a1 a2 (fX2_happen_h46 fu k a1 a2 n) s.1 s.2.1 s.2.2.1 s.2.2.2)
    exact y_fX2_happen_i46 hC ih hk_k h
theorem y_fX2_happen_b37 {P : mwM → mwL → Prop} (hC : CPc2 P) {fu : Nat} {k : Nat} {a1 : Int32} {a2 : Int32} (hk_k : 4 ≤ k ∧ k ≤ 689) {M : mwM} {L : mwL} (h : P M L) : kq3 P (fX2_happen_b37 fu k a1 a2 M L) := by
  unfold fX2_happen_b37
  exact (kqB33 (y_DX2_nextToSpeak hC h) (fun r3 M1 L2 h1 => (y_fX2_happen_h46 hC (by omega) _ (r3, 0, M1, L2) h1)))
theorem y_DX2_happen {P : mwM → mwL → Prop} (hC : CPc2 P) {fu : Nat} {k : Nat} {a1 : Int32} {a2 : Int32} (hk_k : 4 ≤ k ∧ k ≤ 689) {M : mwM} {L : mwL} (h : P M L) : kq3 P (DX2_happen fu k a1 a2 M L) := by
  unfold DX2_happen
  exact (kqI3 (kqM3_c2 hC h (by omega) (fun M42 h1 => (kqM3_c2 hC h1 (by omega) (fun M43 h2 => (kqB23 (y_DX2_aim hC (by omega) h2) (fun M44 L45 h3 => (kqB23 (y_DX2_enterAll hC (by omega) h3) (fun M46 L47 h4 => (kqB33 (y_DX2_chain hC (by omega) h4) (fun r50 M48 L49 h5 => (kqI3 (kqS3 h5) (y_fX2_happen_b37 hC (by omega) h5)))))))))))) (y_fX2_happen_b37 hC (by omega) h))
theorem y_fX2_workOff_b76 {P : mwM → mwL → Prop} (hC : CPc2 P) {fu : Nat} {k : Nat} {a1 : Int32} {r47 : (Int32 × Int32 × mwM × mwL) → Option (mwM × mwL)} {v2 : Int32} {v3 : Int32} (hr47 : ∀ s, P s.2.2.1 s.2.2.2 → kq2 P (r47 s)) {M : mwM} {L : mwL} (h : P M L) : kq2 P (fX2_workOff_b76 fu k a1 r47 v2 v3 M L) := by
  unfold fX2_workOff_b76
  exact (kqL2 (fun x8 => (hr47 (v2, x8, M, L) h)))
theorem y_fX2_workOff_i47 {P : mwM → mwL → Prop} (hC : CPc2 P) {fu : Nat} {k : Nat} {a1 : Int32} {r47 : (Int32 × Int32 × mwM × mwL) → Option (mwM × mwL)} {v2 : Int32} {v3 : Int32} (hr47 : ∀ s, P s.2.2.1 s.2.2.2 → kq2 P (r47 s)) (hk_k : 4 ≤ k ∧ k ≤ 689) {M : mwM} {L : mwL} (h : P M L) : kq2 P (fX2_workOff_i47 fu k a1 r47 v2 v3 M L) := by
  unfold fX2_workOff_i47
  exact (kqI2 (kqS2 h) (kqK2 (fun q1 => (kqB32 (y_DX2_happen hC (by omega) h) (fun r5 M3 L4 h2 => (kqI2 (kqM2_c2 hC h2 (by omega) (fun M7 h3 => (y_fX2_workOff_b76 hC hr47 h3))) (y_fX2_workOff_b76 hC hr47 h2)))))))
theorem y_fX2_workOff_h47 {P : mwM → mwL → Prop} (hC : CPc2 P) {fu : Nat} {k : Nat} {a1 : Int32} (hk_k : 4 ≤ k ∧ k ≤ 689) : ∀ n s, P s.2.2.1 s.2.2.2 → kq2 P (fX2_workOff_h47 fu k a1 n s) := by
  intro n
  induction n with
  | zero => intro s _; exact kqN2
  | succ n ih =>
    intro s h
    show kq2 P (fX2_workOff_i47 fu k a1 (fX2_workOff_h47 fu k a1 n) s.1 s.2.1 s.2.2.1 s.2.2.2)
    exact y_fX2_workOff_i47 hC ih hk_k h
theorem y_fX2_workOff_b45 {P : mwM → mwL → Prop} (hC : CPc2 P) {fu : Nat} {k : Nat} {a1 : Int32} {v2 : Int32} (hk_k : 4 ≤ k ∧ k ≤ 689) {M : mwM} {L : mwL} (h : P M L) : kq2 P (fX2_workOff_b45 fu k a1 v2 M L) := by
  unfold fX2_workOff_b45
  exact (y_fX2_workOff_h47 hC (by omega) _ (v2, 0, M, L) h)
theorem y_DX2_workOff {P : mwM → mwL → Prop} (hC : CPc2 P) {fu : Nat} {k : Nat} {a1 : Int32} (hk_k : 4 ≤ k ∧ k ≤ 689) {M : mwM} {L : mwL} (h : P M L) : kq2 P (DX2_workOff fu k a1 M L) := by
  unfold DX2_workOff
  exact (kqL2 (fun x9 => (kqM2_c2 hC h (by omega) (fun M10 h1 => (kqI2 (kqS2 h1) (kqI2 (kqB32 (y_DX2_happen hC (by omega) h1) (fun r17 M15 L16 h2 => (kqI2 (kqM2_c2 hC h2 (by omega) (fun M19 h3 => (y_fX2_workOff_b45 hC (by omega) h3))) (y_fX2_workOff_b45 hC (by omega) h2)))) (y_fX2_workOff_b45 hC (by omega) h1)))))))
theorem y_fX2_innermost_b55 {P : mwM → mwL → Prop} (hC : CPc2 P) {fu : Nat} {k : Nat} {a1 : Int32} {v2 : Int32} {M : mwM} {L : mwL} (h : P M L) : kq3 P (fX2_innermost_b55 fu k a1 v2 M L) := by
  unfold fX2_innermost_b55
  exact (kqS3 h)
theorem y_fX2_innermost_i21 {P : mwM → mwL → Prop} (hC : CPc2 P) {fu : Nat} {k : Nat} {a1 : Int32} {r21 : (Int32 × Int32 × mwM × mwL) → Option (Int32 × mwM × mwL)} {v2 : Int32} {v3 : Int32} (hr21 : ∀ s, P s.2.2.1 s.2.2.2 → kq3 P (r21 s)) {M : mwM} {L : mwL} (h : P M L) : kq3 P (fX2_innermost_i21 fu k a1 r21 v2 v3 M L) := by
  unfold fX2_innermost_i21
  exact (kqI3 (y_fX2_innermost_b55 hC h) (kqK3 (fun q1 => (kqI3 (y_fX2_innermost_b55 hC h) (kqK3 (fun q2 => (kqL3 (fun x7 => (kqL3 (fun x8 => (hr21 (x7, x8, M, L) h)))))))))))
theorem y_fX2_innermost_h21 {P : mwM → mwL → Prop} (hC : CPc2 P) {fu : Nat} {k : Nat} {a1 : Int32} : ∀ n s, P s.2.2.1 s.2.2.2 → kq3 P (fX2_innermost_h21 fu k a1 n s) := by
  intro n
  induction n with
  | zero => intro s _; exact kqN3
  | succ n ih =>
    intro s h
    show kq3 P (fX2_innermost_i21 fu k a1 (fX2_innermost_h21 fu k a1 n) s.1 s.2.1 s.2.2.1 s.2.2.2)
    exact y_fX2_innermost_i21 hC ih h
theorem y_fX2_innermost_b17 {P : mwM → mwL → Prop} (hC : CPc2 P) {fu : Nat} {k : Nat} {a1 : Int32} {M : mwM} {L : mwL} (h : P M L) : kq3 P (fX2_innermost_b17 fu k a1 M L) := by
  unfold fX2_innermost_b17
  exact (y_fX2_innermost_h21 hC _ (a1, 0, M, L) h)
theorem y_DX2_innermost {P : mwM → mwL → Prop} (hC : CPc2 P) {fu : Nat} {k : Nat} {a1 : Int32} {M : mwM} {L : mwL} (h : P M L) : kq3 P (DX2_innermost fu k a1 M L) := by
  unfold DX2_innermost
  exact (kqI3 (y_fX2_innermost_b17 hC h) (kqK3 (fun q1 => (kqI3 (kqS3 h) (y_fX2_innermost_b17 hC h)))))
theorem y_fX2_covered_i8 {P : mwM → mwL → Prop} (hC : CPc2 P) {fu : Nat} {k : Nat} {a1 : Int32} {r8 : (Int32 × Int32 × mwM × mwL) → Option (Int32 × mwM × mwL)} {v2 : Int32} {v3 : Int32} (hr8 : ∀ s, P s.2.2.1 s.2.2.2 → kq3 P (r8 s)) {M : mwM} {L : mwL} (h : P M L) : kq3 P (fX2_covered_i8 fu k a1 r8 v2 v3 M L) := by
  unfold fX2_covered_i8
  exact (kqI3 (kqS3 h) (kqK3 (fun q1 => (kqL3 (fun x4 => (kqL3 (fun x5 => (hr8 (x4, x5, M, L) h))))))))
theorem y_fX2_covered_h8 {P : mwM → mwL → Prop} (hC : CPc2 P) {fu : Nat} {k : Nat} {a1 : Int32} : ∀ n s, P s.2.2.1 s.2.2.2 → kq3 P (fX2_covered_h8 fu k a1 n s) := by
  intro n
  induction n with
  | zero => intro s _; exact kqN3
  | succ n ih =>
    intro s h
    show kq3 P (fX2_covered_i8 fu k a1 (fX2_covered_h8 fu k a1 n) s.1 s.2.1 s.2.2.1 s.2.2.2)
    exact y_fX2_covered_i8 hC ih h
theorem y_fX2_covered_b98 {P : mwM → mwL → Prop} (hC : CPc2 P) {fu : Nat} {k : Nat} {a1 : Int32} {r69 : (Int32 × Int32 × Int32 × mwM × mwL) → Option (Int32 × mwM × mwL)} {v3 : Int32} {v4 : Int32} {s0 : Int32} {s1 : Int32} (hr69 : ∀ s, P s.2.2.2.1 s.2.2.2.2 → kq3 P (r69 s)) {M : mwM} {L : mwL} (h : P M L) : kq3 P (fX2_covered_b98 fu k a1 r69 v3 v4 s0 s1 M L) := by
  unfold fX2_covered_b98
  exact (kqL3 (fun x10 => (kqL3 (fun x11 => (hr69 (x10, v3, x11, M, L) h)))))
theorem y_fX2_covered_i69 {P : mwM → mwL → Prop} (hC : CPc2 P) {fu : Nat} {k : Nat} {a1 : Int32} {r69 : (Int32 × Int32 × Int32 × mwM × mwL) → Option (Int32 × mwM × mwL)} {v2 : Int32} {v3 : Int32} {v4 : Int32} (hr69 : ∀ s, P s.2.2.2.1 s.2.2.2.2 → kq3 P (r69 s)) {M : mwM} {L : mwL} (h : P M L) : kq3 P (fX2_covered_i69 fu k a1 r69 v2 v3 v4 M L) := by
  unfold fX2_covered_i69
  exact (kqI3 (kqS3 h) (kqK3 (fun q1 => (kqI3 (y_fX2_covered_b98 hC hr69 h) (y_fX2_covered_b98 hC hr69 h)))))
theorem y_fX2_covered_h69 {P : mwM → mwL → Prop} (hC : CPc2 P) {fu : Nat} {k : Nat} {a1 : Int32} : ∀ n s, P s.2.2.2.1 s.2.2.2.2 → kq3 P (fX2_covered_h69 fu k a1 n s) := by
  intro n
  induction n with
  | zero => intro s _; exact kqN3
  | succ n ih =>
    intro s h
    show kq3 P (fX2_covered_i69 fu k a1 (fX2_covered_h69 fu k a1 n) s.1 s.2.1 s.2.2.1 s.2.2.2.1 s.2.2.2.2)
    exact y_fX2_covered_i69 hC ih h
theorem y_fX2_covered_b65 {P : mwM → mwL → Prop} (hC : CPc2 P) {fu : Nat} {k : Nat} {a1 : Int32} {v2 : Int32} {s0 : Int32} {M : mwM} {L : mwL} (h : P M L) : kq3 P (fX2_covered_b65 fu k a1 v2 s0 M L) := by
  unfold fX2_covered_b65
  exact (y_fX2_covered_h69 hC _ (v2, s0, 1, M, L) h)
theorem y_DX2_covered {P : mwM → mwL → Prop} (hC : CPc2 P) {fu : Nat} {k : Nat} {a1 : Int32} {M : mwM} {L : mwL} (h : P M L) : kq3 P (DX2_covered fu k a1 M L) := by
  unfold DX2_covered
  exact (kqI3 (y_fX2_covered_h8 hC _ (0, 1, M, L) h) (kqI3 (kqS3 h) (kqI3 (y_fX2_covered_b65 hC h) (kqI3 (y_fX2_covered_b65 hC h) (y_fX2_covered_b65 hC h)))))
theorem y_DX3_mixBits {P : mwM → mwL → Prop} (hC : CPc2 P) {fu : Nat} {a1 : Int32} {M : mwM} {L : mwL} (h : P M L) : kq3 P (DX3_mixBits fu a1 M L) := by
  unfold DX3_mixBits
  exact (kqL3 (fun x1 => (kqS3 h)))
theorem y_fX3_timesInverseOfThree_b37 {P : mwM → mwL → Prop} (hC : CPc2 P) {fu : Nat} {a1 : Int32} {s0 : Int32} {s1 : Int32} {M : mwM} {L : mwL} (h : P M L) : kq3 P (fX3_timesInverseOfThree_b37 fu a1 s0 s1 M L) := by
  unfold fX3_timesInverseOfThree_b37
  exact (kqS3 h)
theorem y_DX3_timesInverseOfThree {P : mwM → mwL → Prop} (hC : CPc2 P) {fu : Nat} {a1 : Int32} {M : mwM} {L : mwL} (h : P M L) : kq3 P (DX3_timesInverseOfThree fu a1 M L) := by
  unfold DX3_timesInverseOfThree
  exact (kqL3 (fun x1 => (kqL3 (fun x2 => (kqL3 (fun x3 => (kqI3 (y_fX3_timesInverseOfThree_b37 hC h) (y_fX3_timesInverseOfThree_b37 hC h))))))))
theorem y_fX3_spreadKey_b148 {P : mwM → mwL → Prop} (hC : CPc2 P) {fu : Nat} {a1 : Int32} {r37 : (Nat × Int32 × Int32 × mwM × mwL) → Option (mwM × mwL)} {v2 : Nat} {v3 : Int32} {v4 : Int32} (hr37 : ∀ s, (4 ≤ s.1 ∧ s.1 ≤ 689) → P s.2.2.2.1 s.2.2.2.2 → kq2 P (r37 s)) (hk_v2 : 4 ≤ v2 ∧ v2 ≤ 689) {M : mwM} {L : mwL} (h : P M L) : kq2 P (fX3_spreadKey_b148 fu a1 r37 v2 v3 v4 M L) := by
  unfold fX3_spreadKey_b148
  exact (kqL2 (fun x24 => (hr37 (v2, v3, x24, M, L) (by omega) h)))
theorem y_fX3_spreadKey_b120 {P : mwM → mwL → Prop} (hC : CPc2 P) {fu : Nat} {a1 : Int32} {r37 : (Nat × Int32 × Int32 × mwM × mwL) → Option (mwM × mwL)} {r63 : (Nat × Int32 × Int32 × Int32 × Int32 × mwM × mwL) → Option (mwM × mwL)} {v2 : Nat} {v3 : Int32} {v4 : Int32} {v5 : Int32} {v6 : Int32} {s0 : Nat} {s1 : Int32} {s2 : Int32} {s3 : Int32} (hr37 : ∀ s, (4 ≤ s.1 ∧ s.1 ≤ 689) → P s.2.2.2.1 s.2.2.2.2 → kq2 P (r37 s)) (hr63 : ∀ s, (4 ≤ s.1 ∧ s.1 ≤ 689) → P s.2.2.2.2.2.1 s.2.2.2.2.2.2 → kq2 P (r63 s)) (hk_v2 : 4 ≤ v2 ∧ v2 ≤ 689) (hk_s0 : 4 ≤ s0 ∧ s0 ≤ 689) {M : mwM} {L : mwL} (h : P M L) : kq2 P (fX3_spreadKey_b120 fu a1 r37 r63 v2 v3 v4 v5 v6 s0 s1 s2 s3 M L) := by
  unfold fX3_spreadKey_b120
  exact (kqK2 (fun q1 => (kqM2_c2 hC h (by omega) (fun M22 h2 => (kqL2 (fun x23 => (hr63 (v2, v3, v4, v5, x23, M22, L) (by omega) h2)))))))
theorem y_fX3_spreadKey_i63 {P : mwM → mwL → Prop} (hC : CPc2 P) {fu : Nat} {a1 : Int32} {r37 : (Nat × Int32 × Int32 × mwM × mwL) → Option (mwM × mwL)} {r63 : (Nat × Int32 × Int32 × Int32 × Int32 × mwM × mwL) → Option (mwM × mwL)} {v2 : Nat} {v3 : Int32} {v4 : Int32} {v5 : Int32} {v6 : Int32} (hr37 : ∀ s, (4 ≤ s.1 ∧ s.1 ≤ 689) → P s.2.2.2.1 s.2.2.2.2 → kq2 P (r37 s)) (hr63 : ∀ s, (4 ≤ s.1 ∧ s.1 ≤ 689) → P s.2.2.2.2.2.1 s.2.2.2.2.2.2 → kq2 P (r63 s)) (hk_v2 : 4 ≤ v2 ∧ v2 ≤ 689) {M : mwM} {L : mwL} (h : P M L) : kq2 P (fX3_spreadKey_i63 fu a1 r37 r63 v2 v3 v4 v5 v6 M L) := by
  unfold fX3_spreadKey_i63
  exact (kqI2 (kqI2 (y_fX3_spreadKey_b148 hC hr37 (by omega) h) (kqK2 (fun q1 => (kqK2 (fun q2 => (kqM2_c2 hC h (by omega) (fun M12 h3 => (kqK2 (fun q4 => (kqL2 (fun x14 => (y_fX3_spreadKey_b148 hC hr37 (by omega) h3)))))))))))) (kqK2 (fun q5 => (kqI2 (kqK2 (fun q6 => (y_fX3_spreadKey_b120 hC hr37 hr63 (by omega) (by omega) h))) (kqK2 (fun q7 => (kqK2 (fun q8 => (y_fX3_spreadKey_b120 hC hr37 hr63 (by omega) (by omega) h)))))))))
theorem y_fX3_spreadKey_h63 {P : mwM → mwL → Prop} (hC : CPc2 P) {fu : Nat} {a1 : Int32} {r37 : (Nat × Int32 × Int32 × mwM × mwL) → Option (mwM × mwL)} (hr37 : ∀ s, (4 ≤ s.1 ∧ s.1 ≤ 689) → P s.2.2.2.1 s.2.2.2.2 → kq2 P (r37 s)) : ∀ n s, (4 ≤ s.1 ∧ s.1 ≤ 689) → P s.2.2.2.2.2.1 s.2.2.2.2.2.2 → kq2 P (fX3_spreadKey_h63 fu a1 r37 n s) := by
  intro n
  induction n with
  | zero => intro s _ _; exact kqN2
  | succ n ih =>
    intro s hq0 h
    show kq2 P (fX3_spreadKey_i63 fu a1 r37 (fX3_spreadKey_h63 fu a1 r37 n) s.1 s.2.1 s.2.2.1 s.2.2.2.1 s.2.2.2.2.1 s.2.2.2.2.2.1 s.2.2.2.2.2.2)
    exact y_fX3_spreadKey_i63 hC hr37 ih hq0 h
theorem y_fX3_spreadKey_b58 {P : mwM → mwL → Prop} (hC : CPc2 P) {fu : Nat} {a1 : Int32} {r37 : (Nat × Int32 × Int32 × mwM × mwL) → Option (mwM × mwL)} {v2 : Nat} {v3 : Int32} {v4 : Int32} {s0 : Int32} (hr37 : ∀ s, (4 ≤ s.1 ∧ s.1 ≤ 689) → P s.2.2.2.1 s.2.2.2.2 → kq2 P (r37 s)) (hk_v2 : 4 ≤ v2 ∧ v2 ≤ 689) {M : mwM} {L : mwL} (h : P M L) : kq2 P (fX3_spreadKey_b58 fu a1 r37 v2 v3 v4 s0 M L) := by
  unfold fX3_spreadKey_b58
  exact (y_fX3_spreadKey_h63 hC hr37 _ (v2, v3, v4, s0, 0, M, L) (by omega) h)
theorem y_fX3_spreadKey_i37 {P : mwM → mwL → Prop} (hC : CPc2 P) {fu : Nat} {a1 : Int32} {r37 : (Nat × Int32 × Int32 × mwM × mwL) → Option (mwM × mwL)} {v2 : Nat} {v3 : Int32} {v4 : Int32} (hr37 : ∀ s, (4 ≤ s.1 ∧ s.1 ≤ 689) → P s.2.2.2.1 s.2.2.2.2 → kq2 P (r37 s)) (hk_v2 : 4 ≤ v2 ∧ v2 ≤ 689) {M : mwM} {L : mwL} (h : P M L) : kq2 P (fX3_spreadKey_i37 fu a1 r37 v2 v3 v4 M L) := by
  unfold fX3_spreadKey_i37
  exact (kqI2 (kqS2 h) (kqI2 (y_fX3_spreadKey_b58 hC hr37 (by omega) h) (y_fX3_spreadKey_b58 hC hr37 (by omega) h)))
theorem y_fX3_spreadKey_h37 {P : mwM → mwL → Prop} (hC : CPc2 P) {fu : Nat} {a1 : Int32} : ∀ n s, (4 ≤ s.1 ∧ s.1 ≤ 689) → P s.2.2.2.1 s.2.2.2.2 → kq2 P (fX3_spreadKey_h37 fu a1 n s) := by
  intro n
  induction n with
  | zero => intro s _ _; exact kqN2
  | succ n ih =>
    intro s hq0 h
    show kq2 P (fX3_spreadKey_i37 fu a1 (fX3_spreadKey_h37 fu a1 n) s.1 s.2.1 s.2.2.1 s.2.2.2.1 s.2.2.2.2)
    exact y_fX3_spreadKey_i37 hC ih hq0 h
theorem y_fX3_spreadKey_i12 {P : mwM → mwL → Prop} (hC : CPc2 P) {fu : Nat} {a1 : Int32} {r12 : (Nat × Int32 × Int32 × mwM × mwL) → Option (mwM × mwL)} {v2 : Nat} {v3 : Int32} {v4 : Int32} (hr12 : ∀ s, (4 ≤ s.1 ∧ s.1 ≤ 689) → P s.2.2.2.1 s.2.2.2.2 → kq2 P (r12 s)) (hk_v2 : 4 ≤ v2 ∧ v2 ≤ 689) {M : mwM} {L : mwL} (h : P M L) : kq2 P (fX3_spreadKey_i12 fu a1 r12 v2 v3 v4 M L) := by
  unfold fX3_spreadKey_i12
  exact (kqI2 (y_fX3_spreadKey_h37 hC _ (v2, v3, 16, M, L) (by omega) h) (kqK2 (fun q1 => (kqM2_c2 hC h (by omega) (fun M3 h2 => (kqL2 (fun x4 => (hr12 (v2, v3, x4, M3, L) (by omega) h2))))))))
theorem y_fX3_spreadKey_h12 {P : mwM → mwL → Prop} (hC : CPc2 P) {fu : Nat} {a1 : Int32} : ∀ n s, (4 ≤ s.1 ∧ s.1 ≤ 689) → P s.2.2.2.1 s.2.2.2.2 → kq2 P (fX3_spreadKey_h12 fu a1 n s) := by
  intro n
  induction n with
  | zero => intro s _ _; exact kqN2
  | succ n ih =>
    intro s hq0 h
    show kq2 P (fX3_spreadKey_i12 fu a1 (fX3_spreadKey_h12 fu a1 n) s.1 s.2.1 s.2.2.1 s.2.2.2.1 s.2.2.2.2)
    exact y_fX3_spreadKey_i12 hC ih hq0 h
theorem y_DX3_spreadKey {P : mwM → mwL → Prop} (hC : CPc2 P) {fu : Nat} {a1 : Int32} {M : mwM} {L : mwL} (h : P M L) : kq2 P (DX3_spreadKey fu a1 M L) := by
  unfold DX3_spreadKey
  exact (kqK2 (fun q1 => (y_fX3_spreadKey_h12 hC _ (((101 + a1.toNatClampNeg)), 1, 0, M, L) (by omega) h)))
theorem y_fX3_encrypt_b200 {P : mwM → mwL → Prop} (hC : CPc2 P) {fu : Nat} {a1 : Int32} {r39 : (Nat × Int32 × mwM × mwL) → Option (mwM × mwL)} {r93 : (Nat × Int32 × Int32 × mwM × mwL) → Option (mwM × mwL)} {v2 : Nat} {v3 : Int32} {v4 : Int32} {s0 : Int32} (hr39 : ∀ s, P s.2.2.1 s.2.2.2 → kq2 P (r39 s)) (hr93 : ∀ s, P s.2.2.2.1 s.2.2.2.2 → kq2 P (r93 s)) {M : mwM} {L : mwL} (h : P M L) : kq2 P (fX3_encrypt_b200 fu a1 r39 r93 v2 v3 v4 s0 M L) := by
  unfold fX3_encrypt_b200
  exact (kqK2 (fun q1 => (kqK2 (fun q2 => (kqM2_c2 hC h (by omega) (fun M36 h3 => (kqL2 (fun x37 => (hr93 (v2, v3, x37, M36, L) h3)))))))))
theorem y_fX3_encrypt_i93 {P : mwM → mwL → Prop} (hC : CPc2 P) {fu : Nat} {a1 : Int32} {r39 : (Nat × Int32 × mwM × mwL) → Option (mwM × mwL)} {r93 : (Nat × Int32 × Int32 × mwM × mwL) → Option (mwM × mwL)} {v2 : Nat} {v3 : Int32} {v4 : Int32} (hr39 : ∀ s, P s.2.2.1 s.2.2.2 → kq2 P (r39 s)) (hr93 : ∀ s, P s.2.2.2.1 s.2.2.2.2 → kq2 P (r93 s)) {M : mwM} {L : mwL} (h : P M L) : kq2 P (fX3_encrypt_i93 fu a1 r39 r93 v2 v3 v4 M L) := by
  unfold fX3_encrypt_i93
  exact (kqI2 (kqL2 (fun x17 => (hr39 (v2, x17, M, L) h))) (kqL2 (fun x19 => (kqK2 (fun q1 => (kqL2 (fun x21 => (kqK2 (fun q2 => (kqL2 (fun x24 => (kqK2 (fun q3 => (kqL2 (fun x27 => (kqK2 (fun q4 => (kqL2 (fun x30 => (kqI2 (y_fX3_encrypt_b200 hC hr39 hr93 h) (kqK2 (fun q5 => (kqK2 (fun q6 => (y_fX3_encrypt_b200 hC hr39 hr93 h)))))))))))))))))))))))))
theorem y_fX3_encrypt_h93 {P : mwM → mwL → Prop} (hC : CPc2 P) {fu : Nat} {a1 : Int32} {r39 : (Nat × Int32 × mwM × mwL) → Option (mwM × mwL)} (hr39 : ∀ s, P s.2.2.1 s.2.2.2 → kq2 P (r39 s)) : ∀ n s, P s.2.2.2.1 s.2.2.2.2 → kq2 P (fX3_encrypt_h93 fu a1 r39 n s) := by
  intro n
  induction n with
  | zero => intro s _; exact kqN2
  | succ n ih =>
    intro s h
    show kq2 P (fX3_encrypt_i93 fu a1 r39 (fX3_encrypt_h93 fu a1 r39 n) s.1 s.2.1 s.2.2.1 s.2.2.2.1 s.2.2.2.2)
    exact y_fX3_encrypt_i93 hC hr39 ih h
theorem y_fX3_encrypt_i48 {P : mwM → mwL → Prop} (hC : CPc2 P) {fu : Nat} {a1 : Int32} {r39 : (Nat × Int32 × mwM × mwL) → Option (mwM × mwL)} {r48 : (Nat × Int32 × Int32 × mwM × mwL) → Option (mwM × mwL)} {v2 : Nat} {v3 : Int32} {v4 : Int32} (hr39 : ∀ s, P s.2.2.1 s.2.2.2 → kq2 P (r39 s)) (hr48 : ∀ s, P s.2.2.2.1 s.2.2.2.2 → kq2 P (r48 s)) {M : mwM} {L : mwL} (h : P M L) : kq2 P (fX3_encrypt_i48 fu a1 r39 r48 v2 v3 v4 M L) := by
  unfold fX3_encrypt_i48
  exact (kqI2 (y_fX3_encrypt_h93 hC hr39 _ (v2, v3, 0, M, L) h) (kqK2 (fun q1 => (kqK2 (fun q2 => (kqK2 (fun q3 => (kqM2_c2 hC h (by omega) (fun M14 h4 => (kqL2 (fun x15 => (hr48 (v2, v3, x15, M14, L) h4))))))))))))
theorem y_fX3_encrypt_h48 {P : mwM → mwL → Prop} (hC : CPc2 P) {fu : Nat} {a1 : Int32} {r39 : (Nat × Int32 × mwM × mwL) → Option (mwM × mwL)} (hr39 : ∀ s, P s.2.2.1 s.2.2.2 → kq2 P (r39 s)) : ∀ n s, P s.2.2.2.1 s.2.2.2.2 → kq2 P (fX3_encrypt_h48 fu a1 r39 n s) := by
  intro n
  induction n with
  | zero => intro s _; exact kqN2
  | succ n ih =>
    intro s h
    show kq2 P (fX3_encrypt_i48 fu a1 r39 (fX3_encrypt_h48 fu a1 r39 n) s.1 s.2.1 s.2.2.1 s.2.2.2.1 s.2.2.2.2)
    exact y_fX3_encrypt_i48 hC hr39 ih h
theorem y_fX3_encrypt_i39 {P : mwM → mwL → Prop} (hC : CPc2 P) {fu : Nat} {a1 : Int32} {r39 : (Nat × Int32 × mwM × mwL) → Option (mwM × mwL)} {v2 : Nat} {v3 : Int32} (hr39 : ∀ s, P s.2.2.1 s.2.2.2 → kq2 P (r39 s)) {M : mwM} {L : mwL} (h : P M L) : kq2 P (fX3_encrypt_i39 fu a1 r39 v2 v3 M L) := by
  unfold fX3_encrypt_i39
  exact (kqI2 (kqS2 h) (y_fX3_encrypt_h48 hC hr39 _ (v2, v3, 0, M, L) h))
theorem y_fX3_encrypt_h39 {P : mwM → mwL → Prop} (hC : CPc2 P) {fu : Nat} {a1 : Int32} : ∀ n s, P s.2.2.1 s.2.2.2 → kq2 P (fX3_encrypt_h39 fu a1 n s) := by
  intro n
  induction n with
  | zero => intro s _; exact kqN2
  | succ n ih =>
    intro s h
    show kq2 P (fX3_encrypt_i39 fu a1 (fX3_encrypt_h39 fu a1 n) s.1 s.2.1 s.2.2.1 s.2.2.2)
    exact y_fX3_encrypt_i39 hC ih h
theorem y_fX3_encrypt_i9 {P : mwM → mwL → Prop} (hC : CPc2 P) {fu : Nat} {a1 : Int32} {r9 : (Nat × Int32 × mwM × mwL) → Option (mwM × mwL)} {v2 : Nat} {v3 : Int32} (hr9 : ∀ s, P s.2.2.1 s.2.2.2 → kq2 P (r9 s)) {M : mwM} {L : mwL} (h : P M L) : kq2 P (fX3_encrypt_i9 fu a1 r9 v2 v3 M L) := by
  unfold fX3_encrypt_i9
  exact (kqI2 (y_fX3_encrypt_h39 hC _ (v2, 1, M, L) h) (kqK2 (fun q1 => (kqK2 (fun q2 => (kqK2 (fun q3 => (kqM2_c2 hC h (by omega) (fun M5 h4 => (kqL2 (fun x6 => (hr9 (v2, x6, M5, L) h4))))))))))))
theorem y_fX3_encrypt_h9 {P : mwM → mwL → Prop} (hC : CPc2 P) {fu : Nat} {a1 : Int32} : ∀ n s, P s.2.2.1 s.2.2.2 → kq2 P (fX3_encrypt_h9 fu a1 n s) := by
  intro n
  induction n with
  | zero => intro s _; exact kqN2
  | succ n ih =>
    intro s h
    show kq2 P (fX3_encrypt_i9 fu a1 (fX3_encrypt_h9 fu a1 n) s.1 s.2.1 s.2.2.1 s.2.2.2)
    exact y_fX3_encrypt_i9 hC ih h
theorem y_DX3_encrypt {P : mwM → mwL → Prop} (hC : CPc2 P) {fu : Nat} {a1 : Int32} {M : mwM} {L : mwL} (h : P M L) : kq2 P (DX3_encrypt fu a1 M L) := by
  unfold DX3_encrypt
  exact (kqK2 (fun q1 => (y_fX3_encrypt_h9 hC _ (((101 + a1.toNatClampNeg)), 0, M, L) h)))
theorem y_fX3_makeSecond_b167 {P : mwM → mwL → Prop} (hC : CPc2 P) {fu : Nat} {a1 : Int32} {r56 : (Int32 × mwM × mwL) → Option (mwM × mwL)} {v2 : Int32} {s0 : Nat} {s1 : Int32} {s2 : Int32} {s3 : Int32} (hr56 : ∀ s, P s.2.1 s.2.2 → kq2 P (r56 s)) (hk_s0 : 4 ≤ s0 ∧ s0 ≤ 689) {M : mwM} {L : mwL} (h : P M L) : kq2 P (fX3_makeSecond_b167 fu a1 r56 v2 s0 s1 s2 s3 M L) := by
  unfold fX3_makeSecond_b167
  exact (kqK2 (fun q1 => (kqM2_c2 hC h (by omega) (fun M31 h2 => (kqL2 (fun x32 => (hr56 (x32, M31, L) h2)))))))
theorem y_fX3_makeSecond_b110 {P : mwM → mwL → Prop} (hC : CPc2 P) {fu : Nat} {a1 : Int32} {r56 : (Int32 × mwM × mwL) → Option (mwM × mwL)} {r76 : (Int32 × Int32 × Int32 × mwM × mwL) → Option (mwM × mwL)} {v2 : Int32} {v3 : Int32} {v4 : Int32} {s0 : Int32} (hr56 : ∀ s, P s.2.1 s.2.2 → kq2 P (r56 s)) (hr76 : ∀ s, P s.2.2.2.1 s.2.2.2.2 → kq2 P (r76 s)) {M : mwM} {L : mwL} (h : P M L) : kq2 P (fX3_makeSecond_b110 fu a1 r56 r76 v2 v3 v4 s0 M L) := by
  unfold fX3_makeSecond_b110
  exact (kqK2 (fun q1 => (kqK2 (fun q2 => (kqK2 (fun q3 => (kqK2 (fun q4 => (kqM2_c2 hC h (by omega) (fun M28 h5 => (kqL2 (fun x29 => (hr76 (v2, v3, x29, M28, L) h5)))))))))))))
theorem y_fX3_makeSecond_i76 {P : mwM → mwL → Prop} (hC : CPc2 P) {fu : Nat} {a1 : Int32} {r56 : (Int32 × mwM × mwL) → Option (mwM × mwL)} {r76 : (Int32 × Int32 × Int32 × mwM × mwL) → Option (mwM × mwL)} {v2 : Int32} {v3 : Int32} {v4 : Int32} (hr56 : ∀ s, P s.2.1 s.2.2 → kq2 P (r56 s)) (hr76 : ∀ s, P s.2.2.2.1 s.2.2.2.2 → kq2 P (r76 s)) {M : mwM} {L : mwL} (h : P M L) : kq2 P (fX3_makeSecond_i76 fu a1 r56 r76 v2 v3 v4 M L) := by
  unfold fX3_makeSecond_i76
  exact (kqI2 (kqK2 (fun q1 => (kqI2 (y_fX3_makeSecond_b167 hC hr56 (by omega) h) (y_fX3_makeSecond_b167 hC hr56 (by omega) h)))) (kqI2 (y_fX3_makeSecond_b110 hC hr56 hr76 h) (kqK2 (fun q2 => (kqK2 (fun q3 => (y_fX3_makeSecond_b110 hC hr56 hr76 h)))))))
theorem y_fX3_makeSecond_h76 {P : mwM → mwL → Prop} (hC : CPc2 P) {fu : Nat} {a1 : Int32} {r56 : (Int32 × mwM × mwL) → Option (mwM × mwL)} (hr56 : ∀ s, P s.2.1 s.2.2 → kq2 P (r56 s)) : ∀ n s, P s.2.2.2.1 s.2.2.2.2 → kq2 P (fX3_makeSecond_h76 fu a1 r56 n s) := by
  intro n
  induction n with
  | zero => intro s _; exact kqN2
  | succ n ih =>
    intro s h
    show kq2 P (fX3_makeSecond_i76 fu a1 r56 (fX3_makeSecond_h76 fu a1 r56 n) s.1 s.2.1 s.2.2.1 s.2.2.2.1 s.2.2.2.2)
    exact y_fX3_makeSecond_i76 hC hr56 ih h
theorem y_fX3_makeSecond_i56 {P : mwM → mwL → Prop} (hC : CPc2 P) {fu : Nat} {a1 : Int32} {r56 : (Int32 × mwM × mwL) → Option (mwM × mwL)} {v2 : Int32} (hr56 : ∀ s, P s.2.1 s.2.2 → kq2 P (r56 s)) {M : mwM} {L : mwL} (h : P M L) : kq2 P (fX3_makeSecond_i56 fu a1 r56 v2 M L) := by
  unfold fX3_makeSecond_i56
  exact (kqI2 (kqS2 h) (kqK2 (fun q1 => (kqL2 (fun x16 => (y_fX3_makeSecond_h76 hC hr56 _ (v2, x16, 0, M, L) h))))))
theorem y_fX3_makeSecond_h56 {P : mwM → mwL → Prop} (hC : CPc2 P) {fu : Nat} {a1 : Int32} : ∀ n s, P s.2.1 s.2.2 → kq2 P (fX3_makeSecond_h56 fu a1 n s) := by
  intro n
  induction n with
  | zero => intro s _; exact kqN2
  | succ n ih =>
    intro s h
    show kq2 P (fX3_makeSecond_i56 fu a1 (fX3_makeSecond_h56 fu a1 n) s.1 s.2.1 s.2.2)
    exact y_fX3_makeSecond_i56 hC ih h
theorem y_fX3_makeSecond_i28 {P : mwM → mwL → Prop} (hC : CPc2 P) {fu : Nat} {a1 : Int32} {r28 : (Int32 × mwM × mwL) → Option (mwM × mwL)} {v2 : Int32} (hr28 : ∀ s, P s.2.1 s.2.2 → kq2 P (r28 s)) {M : mwM} {L : mwL} (h : P M L) : kq2 P (fX3_makeSecond_i28 fu a1 r28 v2 M L) := by
  unfold fX3_makeSecond_i28
  exact (kqI2 (y_fX3_makeSecond_h56 hC _ (0, M, L) h) (kqK2 (fun q1 => (kqK2 (fun q2 => (kqK2 (fun q3 => (kqM2_c2 hC h (by omega) (fun M11 h4 => (kqL2 (fun x12 => (hr28 (x12, M11, L) h4))))))))))))
theorem y_fX3_makeSecond_h28 {P : mwM → mwL → Prop} (hC : CPc2 P) {fu : Nat} {a1 : Int32} : ∀ n s, P s.2.1 s.2.2 → kq2 P (fX3_makeSecond_h28 fu a1 n s) := by
  intro n
  induction n with
  | zero => intro s _; exact kqN2
  | succ n ih =>
    intro s h
    show kq2 P (fX3_makeSecond_i28 fu a1 (fX3_makeSecond_h28 fu a1 n) s.1 s.2.1 s.2.2)
    exact y_fX3_makeSecond_i28 hC ih h
theorem y_fX3_makeSecond_i2 {P : mwM → mwL → Prop} (hC : CPc2 P) {fu : Nat} {a1 : Int32} {r2 : (Int32 × mwM × mwL) → Option (mwM × mwL)} {v2 : Int32} (hr2 : ∀ s, P s.2.1 s.2.2 → kq2 P (r2 s)) {M : mwM} {L : mwL} (h : P M L) : kq2 P (fX3_makeSecond_i2 fu a1 r2 v2 M L) := by
  unfold fX3_makeSecond_i2
  exact (kqI2 (kqB22 (y_DX3_encrypt hC h) (fun M2 L3 h1 => (y_fX3_makeSecond_h28 hC _ (0, M2, L3) h1))) (kqK2 (fun q2 => (kqM2_c2 hC h (by omega) (fun M5 h3 => (kqL2 (fun x6 => (hr2 (x6, M5, L) h3))))))))
theorem y_fX3_makeSecond_h2 {P : mwM → mwL → Prop} (hC : CPc2 P) {fu : Nat} {a1 : Int32} : ∀ n s, P s.2.1 s.2.2 → kq2 P (fX3_makeSecond_h2 fu a1 n s) := by
  intro n
  induction n with
  | zero => intro s _; exact kqN2
  | succ n ih =>
    intro s h
    show kq2 P (fX3_makeSecond_i2 fu a1 (fX3_makeSecond_h2 fu a1 n) s.1 s.2.1 s.2.2)
    exact y_fX3_makeSecond_i2 hC ih h
theorem y_DX3_makeSecond {P : mwM → mwL → Prop} (hC : CPc2 P) {fu : Nat} {a1 : Int32} {M : mwM} {L : mwL} (h : P M L) : kq2 P (DX3_makeSecond fu a1 M L) := by
  unfold DX3_makeSecond
  exact (y_fX3_makeSecond_h2 hC _ (0, M, L) h)
theorem y_fX3_learn_b26 {P : mwM → mwL → Prop} (hC : CPc2 P) {fu : Nat} {a1 : Int32} {M : mwM} {L : mwL} (h : P M L) : kq2 P (fX3_learn_b26 fu a1 M L) := by
  unfold fX3_learn_b26
  exact (kqS2 h)
theorem y_DX3_learn {P : mwM → mwL → Prop} (hC : CPc2 P) {fu : Nat} {a1 : Int32} {M : mwM} {L : mwL} (h : P M L) : kq2 P (DX3_learn fu a1 M L) := by
  unfold DX3_learn
  exact (kqK2 (fun q1 => (kqI2 (kqK2 (fun q2 => (kqM2_c2 hC h (by omega) (fun M4 h3 => (kqB22 (y_DX3_spreadKey hC h3) (fun M5 L6 h4 => (kqB22 (y_DX3_makeSecond hC h4) (fun M7 L8 h5 => (y_fX3_learn_b26 hC h5))))))))) (y_fX3_learn_b26 hC h))))
theorem y_fX3_make_b42 {P : mwM → mwL → Prop} (hC : CPc2 P) {fu : Nat} {a1 : Int32} {a2 : Nat} {n2 : Nat} {a3 : Int32} {r3 : (Int32 × mwM × mwL) → Option (mwM × mwL)} {v4 : Int32} {s1 : Int32} {s2 : Int32} (hr3 : ∀ s, P s.2.1 s.2.2 → kq2 P (r3 s)) {M : mwM} {L : mwL} (h : P M L) : kq2 P (fX3_make_b42 fu a1 a2 n2 a3 r3 v4 s1 s2 M L) := by
  unfold fX3_make_b42
  exact (kqK2 (fun q1 => (kqK2 (fun q2 => (kqK2 (fun q3 => (kqM2_c2 hC h (by omega) (fun M10 h4 => (kqL2 (fun x11 => (hr3 (x11, M10, L) h4)))))))))))
theorem y_fX3_make_i3 {P : mwM → mwL → Prop} (hC : CPc2 P) {fu : Nat} {a1 : Int32} {a2 : Nat} {n2 : Nat} {a3 : Int32} {r3 : (Int32 × mwM × mwL) → Option (mwM × mwL)} {v4 : Int32} (hr3 : ∀ s, P s.2.1 s.2.2 → kq2 P (r3 s)) {M : mwM} {L : mwL} (h : P M L) : kq2 P (fX3_make_i3 fu a1 a2 n2 a3 r3 v4 M L) := by
  unfold fX3_make_i3
  exact (kqI2 (kqB22 (y_DX3_encrypt hC h) (fun M2 L3 h1 => (kqS2 h1))) (kqI2 (kqI2 (y_fX3_make_b42 hC hr3 h) (y_fX3_make_b42 hC hr3 h)) (kqK2 (fun q2 => (y_fX3_make_b42 hC hr3 h)))))
theorem y_fX3_make_h3 {P : mwM → mwL → Prop} (hC : CPc2 P) {fu : Nat} {a1 : Int32} {a2 : Nat} {n2 : Nat} {a3 : Int32} : ∀ n s, P s.2.1 s.2.2 → kq2 P (fX3_make_h3 fu a1 a2 n2 a3 n s) := by
  intro n
  induction n with
  | zero => intro s _; exact kqN2
  | succ n ih =>
    intro s h
    show kq2 P (fX3_make_i3 fu a1 a2 n2 a3 (fX3_make_h3 fu a1 a2 n2 a3 n) s.1 s.2.1 s.2.2)
    exact y_fX3_make_i3 hC ih h
theorem y_DX3_make {P : mwM → mwL → Prop} (hC : CPc2 P) {fu : Nat} {a1 : Int32} {a2 : Nat} {n2 : Nat} {a3 : Int32} {M : mwM} {L : mwL} (h : P M L) : kq2 P (DX3_make fu a1 a2 n2 a3 M L) := by
  unfold DX3_make
  exact (y_fX3_make_h3 hC _ (0, M, L) h)
theorem y_fX3_isOut_i2 {P : mwM → mwL → Prop} (hC : CPc2 P) {fu : Nat} {a1 : Nat} {n1 : Nat} {a2 : Int32} {r2 : (Int32 × mwM × mwL) → Option (Int32 × mwM × mwL)} {v3 : Int32} (hr2 : ∀ s, P s.2.1 s.2.2 → kq3 P (r2 s)) {M : mwM} {L : mwL} (h : P M L) : kq3 P (fX3_isOut_i2 fu a1 n1 a2 r2 v3 M L) := by
  unfold fX3_isOut_i2
  exact (kqI3 (kqS3 h) (kqK3 (fun q1 => (kqK3 (fun q2 => (kqI3 (kqL3 (fun x5 => (hr2 (x5, M, L) h))) (kqS3 h)))))))
theorem y_fX3_isOut_h2 {P : mwM → mwL → Prop} (hC : CPc2 P) {fu : Nat} {a1 : Nat} {n1 : Nat} {a2 : Int32} : ∀ n s, P s.2.1 s.2.2 → kq3 P (fX3_isOut_h2 fu a1 n1 a2 n s) := by
  intro n
  induction n with
  | zero => intro s _; exact kqN3
  | succ n ih =>
    intro s h
    show kq3 P (fX3_isOut_i2 fu a1 n1 a2 (fX3_isOut_h2 fu a1 n1 a2 n) s.1 s.2.1 s.2.2)
    exact y_fX3_isOut_i2 hC ih h
theorem y_DX3_isOut {P : mwM → mwL → Prop} (hC : CPc2 P) {fu : Nat} {a1 : Nat} {n1 : Nat} {a2 : Int32} {M : mwM} {L : mwL} (h : P M L) : kq3 P (DX3_isOut fu a1 n1 a2 M L) := by
  unfold DX3_isOut
  exact (y_fX3_isOut_h2 hC _ (0, M, L) h)
theorem y_fX4_clear_i22 {P : mwM → mwL → Prop} (hC : CPc2 P) {fu : Nat} {r22 : (Int32 × mwM × mwL) → Option (mwM × mwL)} {v1 : Int32} (hr22 : ∀ s, P s.2.1 s.2.2 → kq2 P (r22 s)) {M : mwM} {L : mwL} (h : P M L) : kq2 P (fX4_clear_i22 fu r22 v1 M L) := by
  unfold fX4_clear_i22
  exact (kqI2 (kqS2 h) (kqK2 (fun q1 => (kqM2_c2 hC h (by omega) (fun M3 h2 => (kqL2 (fun x4 => (hr22 (x4, M3, L) h2))))))))
theorem y_fX4_clear_h22 {P : mwM → mwL → Prop} (hC : CPc2 P) {fu : Nat} : ∀ n s, P s.2.1 s.2.2 → kq2 P (fX4_clear_h22 fu n s) := by
  intro n
  induction n with
  | zero => intro s _; exact kqN2
  | succ n ih =>
    intro s h
    show kq2 P (fX4_clear_i22 fu (fX4_clear_h22 fu n) s.1 s.2.1 s.2.2)
    exact y_fX4_clear_i22 hC ih h
theorem y_DX4_clear {P : mwM → mwL → Prop} (hC : CPc2 P) {fu : Nat} {M : mwM} {L : mwL} (h : P M L) : kq2 P (DX4_clear fu M L) := by
  unfold DX4_clear
  exact (kqM2_c2 hC h (by omega) (fun M5 h1 => (kqM2_c2 hC h1 (by omega) (fun M6 h2 => (kqM2_c2 hC h2 (by omega) (fun M7 h3 => (kqM2_c2 hC h3 (by omega) (fun M8 h4 => (y_fX4_clear_h22 hC _ (0, M8, L) h4)))))))))
theorem y_DX4_addTask {P : mwM → mwL → Prop} (hC : CPc2 P) {fu : Nat} {a1 : Int32} {a2 : Int32} {a3 : Int32} {a4 : Int32} {a5 : Int32} {M : mwM} {L : mwL} (h : P M L) : kq2 P (DX4_addTask fu a1 a2 a3 a4 a5 M L) := by
  unfold DX4_addTask
  exact (kqI2 (kqK2 (fun q1 => (kqM2_c2 hC h (by omega) (fun M4 h2 => (kqK2 (fun q3 => (kqM2_c2 hC h2 (by omega) (fun M7 h4 => (kqK2 (fun q5 => (kqM2_c2 hC h4 (by omega) (fun M10 h6 => (kqK2 (fun q7 => (kqM2_c2 hC h6 (by omega) (fun M13 h8 => (kqK2 (fun q9 => (kqM2_c2 hC h8 (by omega) (fun M16 h10 => (kqK2 (fun q11 => (kqM2_c2 hC h10 (by omega) (fun M19 h12 => (kqK2 (fun q13 => (kqM2_c2 hC h12 (by omega) (fun M22 h14 => (kqK2 (fun q15 => (kqM2_c2 hC h14 (by omega) (fun M25 h16 => (kqK2 (fun q17 => (kqM2_c2 hC h16 (by omega) (fun M28 h18 => (kqK2 (fun q19 => (kqM2_c2 hC h18 (by omega) (fun M31 h20 => (kqK2 (fun q21 => (kqM2_c2 hC h20 (by omega) (fun M34 h22 => (kqM2_c2 hC h22 (by omega) (fun M35 h23 => (kqS2 h23))))))))))))))))))))))))))))))))))))))))))))))) (kqS2 h))
theorem y_DX4_whoRan {P : mwM → mwL → Prop} (hC : CPc2 P) {fu : Nat} {a1 : Int32} {a2 : Int32} {M : mwM} {L : mwL} (h : P M L) : kq3 P (DX4_whoRan fu a1 a2 M L) := by
  unfold DX4_whoRan
  exact (kqK3 (fun q1 => (kqS3 h)))
theorem y_DX4_makeReady {P : mwM → mwL → Prop} (hC : CPc2 P) {fu : Nat} {a1 : Int32} {M : mwM} {L : mwL} (h : P M L) : kq2 P (DX4_makeReady fu a1 M L) := by
  unfold DX4_makeReady
  exact (kqM2_c2 hC h (by omega) (fun M1 h1 => (kqK2 (fun q2 => (kqM2_c2 hC h1 (by omega) (fun M4 h3 => (kqK2 (fun q4 => (kqM2_c2 hC h3 (by omega) (fun M7 h5 => (kqK2 (fun q6 => (kqK2 (fun q7 => (kqM2_c2 hC h5 (by omega) (fun M12 h8 => (kqS2 h8)))))))))))))))))
theorem y_fX4_activateAll_b93 {P : mwM → mwL → Prop} (hC : CPc2 P) {fu : Nat} {a1 : Int32} {r2 : (Int32 × mwM × mwL) → Option (mwM × mwL)} {v2 : Int32} (hr2 : ∀ s, P s.2.1 s.2.2 → kq2 P (r2 s)) {M : mwM} {L : mwL} (h : P M L) : kq2 P (fX4_activateAll_b93 fu a1 r2 v2 M L) := by
  unfold fX4_activateAll_b93
  exact (kqL2 (fun x24 => (hr2 (x24, M, L) h)))
theorem y_fX4_activateAll_i2 {P : mwM → mwL → Prop} (hC : CPc2 P) {fu : Nat} {a1 : Int32} {r2 : (Int32 × mwM × mwL) → Option (mwM × mwL)} {v2 : Int32} (hr2 : ∀ s, P s.2.1 s.2.2 → kq2 P (r2 s)) {M : mwM} {L : mwL} (h : P M L) : kq2 P (fX4_activateAll_i2 fu a1 r2 v2 M L) := by
  unfold fX4_activateAll_i2
  exact (kqI2 (kqS2 h) (kqK2 (fun q1 => (kqI2 (kqK2 (fun q2 => (kqK2 (fun q3 => (kqK2 (fun q4 => (kqM2_c2 hC h (by omega) (fun M10 h5 => (kqM2_c2 hC h5 (by omega) (fun M11 h6 => (kqK2 (fun q7 => (kqI2 (kqB22 (y_DX4_makeReady hC h6) (fun M22 L23 h8 => (y_fX4_activateAll_b93 hC hr2 h8))) (kqK2 (fun q9 => (kqI2 (y_fX4_activateAll_b93 hC hr2 h6) (kqK2 (fun q10 => (kqK2 (fun q11 => (kqM2_c2 hC h6 (by omega) (fun M21 h12 => (y_fX4_activateAll_b93 hC hr2 h12))))))))))))))))))))))) (y_fX4_activateAll_b93 hC hr2 h)))))
theorem y_fX4_activateAll_h2 {P : mwM → mwL → Prop} (hC : CPc2 P) {fu : Nat} {a1 : Int32} : ∀ n s, P s.2.1 s.2.2 → kq2 P (fX4_activateAll_h2 fu a1 n s) := by
  intro n
  induction n with
  | zero => intro s _; exact kqN2
  | succ n ih =>
    intro s h
    show kq2 P (fX4_activateAll_i2 fu a1 (fX4_activateAll_h2 fu a1 n) s.1 s.2.1 s.2.2)
    exact y_fX4_activateAll_i2 hC ih h
theorem y_DX4_activateAll {P : mwM → mwL → Prop} (hC : CPc2 P) {fu : Nat} {a1 : Int32} {M : mwM} {L : mwL} (h : P M L) : kq2 P (DX4_activateAll fu a1 M L) := by
  unfold DX4_activateAll
  exact (y_fX4_activateAll_h2 hC _ (0, M, L) h)
theorem y_fX4_isBefore_b43 {P : mwM → mwL → Prop} (hC : CPc2 P) {fu : Nat} {a1 : Int32} {a2 : Int32} {s0 : Int32} {M : mwM} {L : mwL} (h : P M L) : kq3 P (fX4_isBefore_b43 fu a1 a2 s0 M L) := by
  unfold fX4_isBefore_b43
  exact (kq_mzz3 (kqS3 h))
theorem y_fX4_isBefore_b82 {P : mwM → mwL → Prop} (hC : CPc2 P) {fu : Nat} {a1 : Int32} {a2 : Int32} {s0 : Int32} {M : mwM} {L : mwL} (h : P M L) : kq3 P (fX4_isBefore_b82 fu a1 a2 s0 M L) := by
  unfold fX4_isBefore_b82
  exact (kq_mzz3 (kqS3 h))
theorem y_fX4_isBefore_b81 {P : mwM → mwL → Prop} (hC : CPc2 P) {fu : Nat} {a1 : Int32} {a2 : Int32} {M : mwM} {L : mwL} (h : P M L) : kq3 P (fX4_isBefore_b81 fu a1 a2 M L) := by
  unfold fX4_isBefore_b81
  exact (y_fX4_isBefore_b82 hC h)
theorem y_DX4_isBefore {P : mwM → mwL → Prop} (hC : CPc2 P) {fu : Nat} {a1 : Int32} {a2 : Int32} {M : mwM} {L : mwL} (h : P M L) : kq3 P (DX4_isBefore fu a1 a2 M L) := by
  unfold DX4_isBefore
  exact (kqK3 (fun q1 => (kqK3 (fun q2 => (kqI3 (kqK3 (fun q3 => (kqI3 (y_fX4_isBefore_b81 hC h) (kqK3 (fun q4 => (kqK3 (fun q5 => (kqI3 (y_fX4_isBefore_b81 hC h) (y_fX4_isBefore_b82 hC h))))))))) (kqK3 (fun q6 => (kqK3 (fun q7 => (kqI3 (y_fX4_isBefore_b43 hC h) (y_fX4_isBefore_b43 hC h)))))))))))
theorem y_fX4_choose_b98 {P : mwM → mwL → Prop} (hC : CPc2 P) {fu : Nat} {a1 : Int32} {v2 : Int32} {M : mwM} {L : mwL} (h : P M L) : kq2 P (fX4_choose_b98 fu a1 v2 M L) := by
  unfold fX4_choose_b98
  exact (kqK2 (fun q1 => (kqM2_c2 hC h (by omega) (fun M25 h2 => (kqS2 h2)))))
theorem y_fX4_choose_b85 {P : mwM → mwL → Prop} (hC : CPc2 P) {fu : Nat} {a1 : Int32} {v2 : Int32} {M : mwM} {L : mwL} (h : P M L) : kq2 P (fX4_choose_b85 fu a1 v2 M L) := by
  unfold fX4_choose_b85
  exact (kqI2 (y_fX4_choose_b98 hC h) (kqK2 (fun q1 => (kqM2_c2 hC h (by omega) (fun M23 h2 => (y_fX4_choose_b98 hC h2))))))
theorem y_fX4_choose_b56 {P : mwM → mwL → Prop} (hC : CPc2 P) {fu : Nat} {a1 : Int32} {r9 : (Int32 × Int32 × mwM × mwL) → Option (mwM × mwL)} {v2 : Int32} {v3 : Int32} (hr9 : ∀ s, P s.2.2.1 s.2.2.2 → kq2 P (r9 s)) {M : mwM} {L : mwL} (h : P M L) : kq2 P (fX4_choose_b56 fu a1 r9 v2 v3 M L) := by
  unfold fX4_choose_b56
  exact (kqL2 (fun x19 => (hr9 (v2, x19, M, L) h)))
theorem y_fX4_choose_b54 {P : mwM → mwL → Prop} (hC : CPc2 P) {fu : Nat} {a1 : Int32} {r9 : (Int32 × Int32 × mwM × mwL) → Option (mwM × mwL)} {v3 : Int32} (hr9 : ∀ s, P s.2.2.1 s.2.2.2 → kq2 P (r9 s)) {M : mwM} {L : mwL} (h : P M L) : kq2 P (fX4_choose_b54 fu a1 r9 v3 M L) := by
  unfold fX4_choose_b54
  exact (y_fX4_choose_b56 hC hr9 h)
theorem y_fX4_choose_i9 {P : mwM → mwL → Prop} (hC : CPc2 P) {fu : Nat} {a1 : Int32} {r9 : (Int32 × Int32 × mwM × mwL) → Option (mwM × mwL)} {v2 : Int32} {v3 : Int32} (hr9 : ∀ s, P s.2.2.1 s.2.2.2 → kq2 P (r9 s)) {M : mwM} {L : mwL} (h : P M L) : kq2 P (fX4_choose_i9 fu a1 r9 v2 v3 M L) := by
  unfold fX4_choose_i9
  exact (kqI2 (kqK2 (fun q1 => (kqI2 (y_fX4_choose_b85 hC h) (kqK2 (fun q2 => (kqK2 (fun q3 => (kqM2_c2 hC h (by omega) (fun M7 h4 => (y_fX4_choose_b85 hC h4)))))))))) (kqK2 (fun q5 => (kqI2 (kqK2 (fun q6 => (kqI2 (kqI2 (y_fX4_choose_b54 hC hr9 h) (kqB32 (y_DX4_isBefore hC h) (fun r17 M15 L16 h7 => (kqI2 (y_fX4_choose_b56 hC hr9 h7) (y_fX4_choose_b54 hC hr9 h7))))) (y_fX4_choose_b56 hC hr9 h)))) (y_fX4_choose_b56 hC hr9 h)))))
theorem y_fX4_choose_h9 {P : mwM → mwL → Prop} (hC : CPc2 P) {fu : Nat} {a1 : Int32} : ∀ n s, P s.2.2.1 s.2.2.2 → kq2 P (fX4_choose_h9 fu a1 n s) := by
  intro n
  induction n with
  | zero => intro s _; exact kqN2
  | succ n ih =>
    intro s h
    show kq2 P (fX4_choose_i9 fu a1 (fX4_choose_h9 fu a1 n) s.1 s.2.1 s.2.2.1 s.2.2.2)
    exact y_fX4_choose_i9 hC ih h
theorem y_DX4_choose {P : mwM → mwL → Prop} (hC : CPc2 P) {fu : Nat} {a1 : Int32} {M : mwM} {L : mwL} (h : P M L) : kq2 P (DX4_choose fu a1 M L) := by
  unfold DX4_choose
  exact (kqK2 (fun q1 => (kqL2 (fun x27 => (y_fX4_choose_h9 hC _ (x27, 0, M, L) h)))))
theorem y_fX4_settle_b36 {P : mwM → mwL → Prop} (hC : CPc2 P) {fu : Nat} {a1 : Int32} {M : mwM} {L : mwL} (h : P M L) : kq2 P (fX4_settle_b36 fu a1 M L) := by
  unfold fX4_settle_b36
  exact (kqS2 h)
theorem y_fX4_settle_b83 {P : mwM → mwL → Prop} (hC : CPc2 P) {fu : Nat} {a1 : Int32} {r2 : (Int32 × mwM × mwL) → Option (mwM × mwL)} {v2 : Int32} (hr2 : ∀ s, P s.2.1 s.2.2 → kq2 P (r2 s)) {M : mwM} {L : mwL} (h : P M L) : kq2 P (fX4_settle_b83 fu a1 r2 v2 M L) := by
  unfold fX4_settle_b83
  exact (kqL2 (fun x24 => (hr2 (x24, M, L) h)))
theorem y_fX4_settle_i2 {P : mwM → mwL → Prop} (hC : CPc2 P) {fu : Nat} {a1 : Int32} {r2 : (Int32 × mwM × mwL) → Option (mwM × mwL)} {v2 : Int32} (hr2 : ∀ s, P s.2.1 s.2.2 → kq2 P (r2 s)) {M : mwM} {L : mwL} (h : P M L) : kq2 P (fX4_settle_i2 fu a1 r2 v2 M L) := by
  unfold fX4_settle_i2
  exact (kqI2 (kqS2 h) (kqB22 (y_DX4_choose hC h) (fun M2 L3 h1 => (kqK2 (fun q2 => (kqL2 (fun x5 => (kqI2 (y_fX4_settle_b36 hC h1) (kqK2 (fun q3 => (kqI2 (kqK2 (fun q4 => (kqM2_c2 hC h1 (by omega) (fun M12 h5 => (kqK2 (fun q6 => (kqM2_c2 hC h5 (by omega) (fun M14 h7 => (kqK2 (fun q8 => (kqI2 (y_fX4_settle_b83 hC hr2 h7) (kqK2 (fun q9 => (kqK2 (fun q10 => (kqM2_c2 hC h7 (by omega) (fun M21 h11 => (kqB22 (y_DX4_makeReady hC h11) (fun M22 L23 h12 => (y_fX4_settle_b83 hC hr2 h12)))))))))))))))))))) (y_fX4_settle_b36 hC h1))))))))))))
theorem y_fX4_settle_h2 {P : mwM → mwL → Prop} (hC : CPc2 P) {fu : Nat} {a1 : Int32} : ∀ n s, P s.2.1 s.2.2 → kq2 P (fX4_settle_h2 fu a1 n s) := by
  intro n
  induction n with
  | zero => intro s _; exact kqN2
  | succ n ih =>
    intro s h
    show kq2 P (fX4_settle_i2 fu a1 (fX4_settle_h2 fu a1 n) s.1 s.2.1 s.2.2)
    exact y_fX4_settle_i2 hC ih h
theorem y_DX4_settle {P : mwM → mwL → Prop} (hC : CPc2 P) {fu : Nat} {a1 : Int32} {M : mwM} {L : mwL} (h : P M L) : kq2 P (DX4_settle fu a1 M L) := by
  unfold DX4_settle
  exact (y_fX4_settle_h2 hC _ (0, M, L) h)
theorem y_fX4_use_b68 {P : mwM → mwL → Prop} (hC : CPc2 P) {fu : Nat} {a1 : Int32} {M : mwM} {L : mwL} (h : P M L) : kq2 P (fX4_use_b68 fu a1 M L) := by
  unfold fX4_use_b68
  exact (kqS2 h)
theorem y_DX4_use {P : mwM → mwL → Prop} (hC : CPc2 P) {fu : Nat} {a1 : Int32} {M : mwM} {L : mwL} (h : P M L) : kq2 P (DX4_use fu a1 M L) := by
  unfold DX4_use
  exact (kqK2 (fun q1 => (kqK2 (fun q2 => (kqM2_c2 hC h (by omega) (fun M4 h3 => (kqK2 (fun q4 => (kqK2 (fun q5 => (kqM2_c2 hC h3 (by omega) (fun M8 h6 => (kqK2 (fun q7 => (kqI2 (kqK2 (fun q8 => (kqK2 (fun q9 => (kqM2_c2 hC h6 (by omega) (fun M15 h10 => (kqM2_c2 hC h10 (by omega) (fun M16 h11 => (kqM2_c2 hC h11 (by omega) (fun M17 h12 => (y_fX4_use_b68 hC h12))))))))))) (y_fX4_use_b68 hC h6))))))))))))))))
theorem y_fX4_passMicrosecond_b85 {P : mwM → mwL → Prop} (hC : CPc2 P) {fu : Nat} {a1 : Int32} {r45 : (Int32 × Int32 × mwM × mwL) → Option (mwM × mwL)} {v2 : Int32} {v3 : Int32} (hr45 : ∀ s, P s.2.2.1 s.2.2.2 → kq2 P (r45 s)) {M : mwM} {L : mwL} (h : P M L) : kq2 P (fX4_passMicrosecond_b85 fu a1 r45 v2 v3 M L) := by
  unfold fX4_passMicrosecond_b85
  exact (kqL2 (fun x16 => (hr45 (v2, x16, M, L) h)))
theorem y_fX4_passMicrosecond_i45 {P : mwM → mwL → Prop} (hC : CPc2 P) {fu : Nat} {a1 : Int32} {r45 : (Int32 × Int32 × mwM × mwL) → Option (mwM × mwL)} {v2 : Int32} {v3 : Int32} (hr45 : ∀ s, P s.2.2.1 s.2.2.2 → kq2 P (r45 s)) {M : mwM} {L : mwL} (h : P M L) : kq2 P (fX4_passMicrosecond_i45 fu a1 r45 v2 v3 M L) := by
  unfold fX4_passMicrosecond_i45
  exact (kqI2 (kqK2 (fun q1 => (kqM2_c2 hC h (by omega) (fun M8 h2 => (kqS2 h2))))) (kqK2 (fun q3 => (kqI2 (y_fX4_passMicrosecond_b85 hC hr45 h) (kqK2 (fun q4 => (kqL2 (fun x12 => (kqK2 (fun q5 => (kqB22 (y_DX4_use hC h) (fun M14 L15 h6 => (y_fX4_passMicrosecond_b85 hC hr45 h6)))))))))))))
theorem y_fX4_passMicrosecond_h45 {P : mwM → mwL → Prop} (hC : CPc2 P) {fu : Nat} {a1 : Int32} : ∀ n s, P s.2.2.1 s.2.2.2 → kq2 P (fX4_passMicrosecond_h45 fu a1 n s) := by
  intro n
  induction n with
  | zero => intro s _; exact kqN2
  | succ n ih =>
    intro s h
    show kq2 P (fX4_passMicrosecond_i45 fu a1 (fX4_passMicrosecond_h45 fu a1 n) s.1 s.2.1 s.2.2.1 s.2.2.2)
    exact y_fX4_passMicrosecond_i45 hC ih h
theorem y_fX4_passMicrosecond_b36 {P : mwM → mwL → Prop} (hC : CPc2 P) {fu : Nat} {a1 : Int32} {M : mwM} {L : mwL} (h : P M L) : kq2 P (fX4_passMicrosecond_b36 fu a1 M L) := by
  unfold fX4_passMicrosecond_b36
  exact (kqM2_c2 hC h (by omega) (fun M5 h1 => (y_fX4_passMicrosecond_h45 hC _ (0, 0, M5, L) h1)))
theorem y_fX4_passMicrosecond_i19 {P : mwM → mwL → Prop} (hC : CPc2 P) {fu : Nat} {a1 : Int32} {r19 : (Int32 × mwM × mwL) → Option (mwM × mwL)} {v2 : Int32} (hr19 : ∀ s, P s.2.1 s.2.2 → kq2 P (r19 s)) {M : mwM} {L : mwL} (h : P M L) : kq2 P (fX4_passMicrosecond_i19 fu a1 r19 v2 M L) := by
  unfold fX4_passMicrosecond_i19
  exact (kqI2 (y_fX4_passMicrosecond_b36 hC h) (kqB22 (y_DX4_settle hC h) (fun M2 L3 h1 => (kqL2 (fun x4 => (hr19 (x4, M2, L3) h1))))))
theorem y_fX4_passMicrosecond_h19 {P : mwM → mwL → Prop} (hC : CPc2 P) {fu : Nat} {a1 : Int32} : ∀ n s, P s.2.1 s.2.2 → kq2 P (fX4_passMicrosecond_h19 fu a1 n s) := by
  intro n
  induction n with
  | zero => intro s _; exact kqN2
  | succ n ih =>
    intro s h
    show kq2 P (fX4_passMicrosecond_i19 fu a1 (fX4_passMicrosecond_h19 fu a1 n) s.1 s.2.1 s.2.2)
    exact y_fX4_passMicrosecond_i19 hC ih h
theorem y_DX4_passMicrosecond {P : mwM → mwL → Prop} (hC : CPc2 P) {fu : Nat} {a1 : Int32} {M : mwM} {L : mwL} (h : P M L) : kq2 P (DX4_passMicrosecond fu a1 M L) := by
  unfold DX4_passMicrosecond
  exact (kqB22 (y_DX4_activateAll hC h) (fun M17 L18 h1 => (kqI2 (kqM2_c2 hC h1 (by omega) (fun M20 h2 => (y_fX4_passMicrosecond_h19 hC _ (0, M20, L18) h2))) (y_fX4_passMicrosecond_b36 hC h1))))
theorem y_fX5_nextCheck_b31 {P : mwM → mwL → Prop} (hC : CPc2 P) {fu : Nat} {a1 : Int32} {a2 : Int32} {a3 : Int32} {a4 : Int32} {s0 : Int32} {M : mwM} {L : mwL} (h : P M L) : kq3 P (fX5_nextCheck_b31 fu a1 a2 a3 a4 s0 M L) := by
  unfold fX5_nextCheck_b31
  exact (kqS3 h)
theorem y_DX5_nextCheck {P : mwM → mwL → Prop} (hC : CPc2 P) {fu : Nat} {a1 : Int32} {a2 : Int32} {a3 : Int32} {a4 : Int32} {M : mwM} {L : mwL} (h : P M L) : kq3 P (DX5_nextCheck fu a1 a2 a3 a4 M L) := by
  unfold DX5_nextCheck
  exact (kqL3 (fun x1 => (kqI3 (y_fX5_nextCheck_b31 hC h) (y_fX5_nextCheck_b31 hC h))))
theorem y_DX5_begin {P : mwM → mwL → Prop} (hC : CPc2 P) {fu : Nat} {k : Nat} (hk_k : 4 ≤ k ∧ k ≤ 689) {M : mwM} {L : mwL} (h : P M L) : kq2 P (DX5_begin fu k M L) := by
  unfold DX5_begin
  exact (kqM2_c2 hC h (by omega) (fun M1 h1 => (kqM2_c2 hC h1 (by omega) (fun M2 h2 => (kqM2_c2 hC h2 (by omega) (fun M3 h3 => (kqM2_c2 hC h3 (by omega) (fun M4 h4 => (kqM2_c2 hC h4 (by omega) (fun M5 h5 => (kqM2_c2 hC h5 (by omega) (fun M6 h6 => (kqB32 (y_DX5_nextCheck hC h6) (fun r9 M7 L8 h7 => (kqM2_c2 hC h7 (by omega) (fun M10 h8 => (kqB32 (y_DX5_nextCheck hC h8) (fun r13 M11 L12 h9 => (kqM2_c2 hC h9 (by omega) (fun M14 h10 => (kqB32 (y_DX5_nextCheck hC h10) (fun r17 M15 L16 h11 => (kqM2_c2 hC h11 (by omega) (fun M18 h12 => (kqM2_c2 hC h12 (by omega) (fun M19 h13 => (kqM2_c2 hC h13 (by omega) (fun M20 h14 => (kqM2_c2 hC h14 (by omega) (fun M21 h15 => (kqM2_c2 hC h15 (by omega) (fun M22 h16 => (kqM2_c2 hC h16 (by omega) (fun M23 h17 => (kqM2_c2 hC h17 (by omega) (fun M24 h18 => (kqM2_c2 hC h18 (by omega) (fun M25 h19 => (kqM2_c2 hC h19 (by omega) (fun M26 h20 => (kqM2_c2 hC h20 (by omega) (fun M27 h21 => (kqM2_c2 hC h21 (by omega) (fun M28 h22 => (kqS2 h22)))))))))))))))))))))))))))))))))))))))))))))
theorem y_fX5_kind_b29 {P : mwM → mwL → Prop} (hC : CPc2 P) {fu : Nat} {k : Nat} {s0 : Int32} {s1 : Int32} {M : mwM} {L : mwL} (h : P M L) : kq3 P (fX5_kind_b29 fu k s0 s1 M L) := by
  unfold fX5_kind_b29
  exact (kqS3 h)
theorem y_DX5_kind {P : mwM → mwL → Prop} (hC : CPc2 P) {fu : Nat} {k : Nat} {M : mwM} {L : mwL} (h : P M L) : kq3 P (DX5_kind fu k M L) := by
  unfold DX5_kind
  exact (kqI3 (y_fX5_kind_b29 hC h) (kqI3 (y_fX5_kind_b29 hC h) (y_fX5_kind_b29 hC h)))
theorem y_fX5_isCheckRight_b23 {P : mwM → mwL → Prop} (hC : CPc2 P) {fu : Nat} {k : Nat} {s0 : Int32} {M : mwM} {L : mwL} (h : P M L) : kq3 P (fX5_isCheckRight_b23 fu k s0 M L) := by
  unfold fX5_isCheckRight_b23
  exact (kq_mzz3 (kqS3 h))
theorem y_fX5_isCheckRight_b56 {P : mwM → mwL → Prop} (hC : CPc2 P) {fu : Nat} {k : Nat} {s0 : Int32} {M : mwM} {L : mwL} (h : P M L) : kq3 P (fX5_isCheckRight_b56 fu k s0 M L) := by
  unfold fX5_isCheckRight_b56
  exact (kq_mzz3 (kqS3 h))
theorem y_fX5_isCheckRight_b48 {P : mwM → mwL → Prop} (hC : CPc2 P) {fu : Nat} {k : Nat} {s0 : Int32} {s1 : Int32} {M : mwM} {L : mwL} (h : P M L) : kq3 P (fX5_isCheckRight_b48 fu k s0 s1 M L) := by
  unfold fX5_isCheckRight_b48
  exact (kqI3 (y_fX5_isCheckRight_b56 hC h) (y_fX5_isCheckRight_b56 hC h))
theorem y_DX5_isCheckRight {P : mwM → mwL → Prop} (hC : CPc2 P) {fu : Nat} {k : Nat} {M : mwM} {L : mwL} (h : P M L) : kq3 P (DX5_isCheckRight fu k M L) := by
  unfold DX5_isCheckRight
  exact (kqI3 (kqI3 (y_fX5_isCheckRight_b23 hC h) (y_fX5_isCheckRight_b23 hC h)) (kqI3 (y_fX5_isCheckRight_b48 hC h) (y_fX5_isCheckRight_b48 hC h)))
theorem y_fX5_putBit_b28 {P : mwM → mwL → Prop} (hC : CPc2 P) {fu : Nat} {k : Nat} {s0 : Int32} {M : mwM} {L : mwL} (h : P M L) : kq3 P (fX5_putBit_b28 fu k s0 M L) := by
  unfold fX5_putBit_b28
  exact (kqS3 h)
theorem y_fX5_putBit_b27 {P : mwM → mwL → Prop} (hC : CPc2 P) {fu : Nat} {k : Nat} {M : mwM} {L : mwL} (h : P M L) : kq3 P (fX5_putBit_b27 fu k M L) := by
  unfold fX5_putBit_b27
  exact (y_fX5_putBit_b28 hC h)
theorem y_DX5_putBit {P : mwM → mwL → Prop} (hC : CPc2 P) {fu : Nat} {k : Nat} {M : mwM} {L : mwL} (h : P M L) : kq3 P (DX5_putBit fu k M L) := by
  unfold DX5_putBit
  exact (kqI3 (kqI3 (kqB33 (y_DX5_isCheckRight hC h) (fun r5 M3 L4 h1 => (kqI3 (y_fX5_putBit_b27 hC h1) (y_fX5_putBit_b28 hC h1)))) (y_fX5_putBit_b27 hC h)) (y_fX5_putBit_b27 hC h))
theorem y_DX6_bitCount_0f7a4 {P : mwM → mwL → Prop} (hC : CPc2 P) {fu : Nat} {a1 : Int32} {M : mwM} {L : mwL} (h : P M L) : kq3 P (DX6_bitCount_0f7a4 fu a1 M L) := by
  unfold DX6_bitCount_0f7a4
  exact (kqL3 (fun x1 => (kqL3 (fun x2 => (kqL3 (fun x3 => (kqL3 (fun x4 => (kqL3 (fun x5 => (kqS3 h)))))))))))
theorem y_DX5_countOfStuffs {P : mwM → mwL → Prop} (hC : CPc2 P) {fu : Nat} {k : Nat} {M : mwM} {L : mwL} (h : P M L) : kq3 P (DX5_countOfStuffs fu k M L) := by
  unfold DX5_countOfStuffs
  exact (kqL3 (fun x2 => (kqL3 (fun x4 => (kqB33 (y_DX6_bitCount_0f7a4 hC h) (fun r7 M5 L6 h1 => (kqS3 h1)))))))
theorem y_fX5_hearFixed_b49 {P : mwM → mwL → Prop} (hC : CPc2 P) {fu : Nat} {k : Nat} {a1 : Int32} {s0 : Int32} {M : mwM} {L : mwL} (h : P M L) : kq3 P (fX5_hearFixed_b49 fu k a1 s0 M L) := by
  unfold fX5_hearFixed_b49
  exact (kqS3 h)
theorem y_fX5_hearFixed_b177 {P : mwM → mwL → Prop} (hC : CPc2 P) {fu : Nat} {k : Nat} {a1 : Int32} {M : mwM} {L : mwL} (h : P M L) : kq3 P (fX5_hearFixed_b177 fu k a1 M L) := by
  unfold fX5_hearFixed_b177
  exact (kqS3 h)
theorem y_fX5_hearFixed_b163 {P : mwM → mwL → Prop} (hC : CPc2 P) {fu : Nat} {k : Nat} {a1 : Int32} {s0 : Int32} {s1 : Int32} {s2 : Int32} (hk_k : 4 ≤ k ∧ k ≤ 689) {M : mwM} {L : mwL} (h : P M L) : kq3 P (fX5_hearFixed_b163 fu k a1 s0 s1 s2 M L) := by
  unfold fX5_hearFixed_b163
  exact (kqI3 (kqM3_c2 hC h (by omega) (fun M26 h1 => (kqM3_c2 hC h1 (by omega) (fun M27 h2 => (y_fX5_hearFixed_b177 hC h2))))) (y_fX5_hearFixed_b177 hC h))
theorem y_fX5_hearFixed_b131 {P : mwM → mwL → Prop} (hC : CPc2 P) {fu : Nat} {k : Nat} {a1 : Int32} {s0 : Int32} {M : mwM} {L : mwL} (h : P M L) : kq3 P (fX5_hearFixed_b131 fu k a1 s0 M L) := by
  unfold fX5_hearFixed_b131
  exact (kqS3 h)
theorem y_fX5_hearFixed_b130 {P : mwM → mwL → Prop} (hC : CPc2 P) {fu : Nat} {k : Nat} {a1 : Int32} {M : mwM} {L : mwL} (h : P M L) : kq3 P (fX5_hearFixed_b130 fu k a1 M L) := by
  unfold fX5_hearFixed_b130
  exact (y_fX5_hearFixed_b131 hC h)
theorem y_fX5_hearFixed_b18 {P : mwM → mwL → Prop} (hC : CPc2 P) {fu : Nat} {k : Nat} {a1 : Int32} {v2 : Int32} {s0 : Int32} (hk_k : 4 ≤ k ∧ k ≤ 689) {M : mwM} {L : mwL} (h : P M L) : kq3 P (fX5_hearFixed_b18 fu k a1 v2 s0 M L) := by
  unfold fX5_hearFixed_b18
  exact (kqM3_c2 hC h (by omega) (fun M1 h1 => (kqM3_c2 hC h1 (by omega) (fun M2 h2 => (kqI3 (kqI3 (y_fX5_hearFixed_b49 hC h2) (y_fX5_hearFixed_b49 hC h2)) (kqL3 (fun x6 => (kqI3 (kqM3_c2 hC h2 (by omega) (fun M8 h3 => (kqI3 (y_fX5_hearFixed_b163 hC (by omega) h3) (y_fX5_hearFixed_b163 hC (by omega) h3)))) (kqM3_c2 hC h2 (by omega) (fun M10 h4 => (kqB33 (y_DX5_nextCheck hC h4) (fun r13 M11 L12 h5 => (kqM3_c2 hC h5 (by omega) (fun M14 h6 => (kqB33 (y_DX5_nextCheck hC h6) (fun r17 M15 L16 h7 => (kqM3_c2 hC h7 (by omega) (fun M18 h8 => (kqI3 (kqB33 (y_DX5_countOfStuffs hC h8) (fun r22 M20 L21 h9 => (kqI3 (y_fX5_hearFixed_b130 hC h9) (y_fX5_hearFixed_b131 hC h9)))) (y_fX5_hearFixed_b130 hC h8))))))))))))))))))))
theorem y_DX5_hearFixed {P : mwM → mwL → Prop} (hC : CPc2 P) {fu : Nat} {k : Nat} {a1 : Int32} (hk_k : 4 ≤ k ∧ k ≤ 689) {M : mwM} {L : mwL} (h : P M L) : kq3 P (DX5_hearFixed fu k a1 M L) := by
  unfold DX5_hearFixed
  exact (kqL3 (fun x28 => (kqI3 (y_fX5_hearFixed_b18 hC (by omega) h) (y_fX5_hearFixed_b18 hC (by omega) h))))
theorem y_fX5_hearTail_b37 {P : mwM → mwL → Prop} (hC : CPc2 P) {fu : Nat} {k : Nat} {a1 : Int32} {s0 : Int32} {M : mwM} {L : mwL} (h : P M L) : kq3 P (fX5_hearTail_b37 fu k a1 s0 M L) := by
  unfold fX5_hearTail_b37
  exact (kqS3 h)
theorem y_fX5_hearTail_b75 {P : mwM → mwL → Prop} (hC : CPc2 P) {fu : Nat} {k : Nat} {a1 : Int32} {s0 : Int32} {M : mwM} {L : mwL} (h : P M L) : kq3 P (fX5_hearTail_b75 fu k a1 s0 M L) := by
  unfold fX5_hearTail_b75
  exact (kqS3 h)
theorem y_fX5_hearTail_b52 {P : mwM → mwL → Prop} (hC : CPc2 P) {fu : Nat} {k : Nat} {a1 : Int32} {v2 : Int32} {M : mwM} {L : mwL} (h : P M L) : kq3 P (fX5_hearTail_b52 fu k a1 v2 M L) := by
  unfold fX5_hearTail_b52
  exact (kqI3 (y_fX5_hearTail_b75 hC h) (kqI3 (y_fX5_hearTail_b75 hC h) (y_fX5_hearTail_b75 hC h)))
theorem y_DX5_hearTail {P : mwM → mwL → Prop} (hC : CPc2 P) {fu : Nat} {k : Nat} {a1 : Int32} (hk_k : 4 ≤ k ∧ k ≤ 689) {M : mwM} {L : mwL} (h : P M L) : kq3 P (DX5_hearTail fu k a1 M L) := by
  unfold DX5_hearTail
  exact (kqL3 (fun x3 => (kqM3_c2 hC h (by omega) (fun M4 h1 => (kqI3 (kqS3 h1) (kqI3 (kqI3 (y_fX5_hearTail_b37 hC h1) (y_fX5_hearTail_b37 hC h1)) (kqI3 (kqB33 (y_DX5_isCheckRight hC h1) (fun r10 M8 L9 h2 => (kqI3 (kqS3 h2) (y_fX5_hearTail_b52 hC h2)))) (y_fX5_hearTail_b52 hC h1))))))))
theorem y_fX5_stuffedEnd_b22 {P : mwM → mwL → Prop} (hC : CPc2 P) {fu : Nat} {k : Nat} {s0 : Int32} {M : mwM} {L : mwL} (h : P M L) : kq3 P (fX5_stuffedEnd_b22 fu k s0 M L) := by
  unfold fX5_stuffedEnd_b22
  exact (kqS3 h)
theorem y_DX5_stuffedEnd {P : mwM → mwL → Prop} (hC : CPc2 P) {fu : Nat} {k : Nat} {M : mwM} {L : mwL} (h : P M L) : kq3 P (DX5_stuffedEnd fu k M L) := by
  unfold DX5_stuffedEnd
  exact (kqI3 (y_fX5_stuffedEnd_b22 hC h) (y_fX5_stuffedEnd_b22 hC h))
theorem y_fX5_hearStuffBit_b78 {P : mwM → mwL → Prop} (hC : CPc2 P) {fu : Nat} {k : Nat} {a1 : Int32} {M : mwM} {L : mwL} (h : P M L) : kq3 P (fX5_hearStuffBit_b78 fu k a1 M L) := by
  unfold fX5_hearStuffBit_b78
  exact (kqS3 h)
theorem y_DX5_hearStuffBit {P : mwM → mwL → Prop} (hC : CPc2 P) {fu : Nat} {k : Nat} {a1 : Int32} (hk_k : 4 ≤ k ∧ k ≤ 689) {M : mwM} {L : mwL} (h : P M L) : kq3 P (DX5_hearStuffBit fu k a1 M L) := by
  unfold DX5_hearStuffBit
  exact (kqI3 (kqS3 h) (kqM3_c2 hC h (by omega) (fun M2 h1 => (kqM3_c2 hC h1 (by omega) (fun M3 h2 => (kqM3_c2 hC h2 (by omega) (fun M4 h3 => (kqB33 (y_DX5_nextCheck hC h3) (fun r7 M5 L6 h4 => (kqM3_c2 hC h4 (by omega) (fun M8 h5 => (kqB33 (y_DX5_nextCheck hC h5) (fun r11 M9 L10 h6 => (kqM3_c2 hC h6 (by omega) (fun M12 h7 => (kqB33 (y_DX5_stuffedEnd hC h7) (fun r15 M13 L14 h8 => (kqI3 (kqM3_c2 hC h8 (by omega) (fun M17 h9 => (y_fX5_hearStuffBit_b78 hC h9))) (y_fX5_hearStuffBit_b78 hC h8)))))))))))))))))))
theorem y_fX5_hearHead_b126 {P : mwM → mwL → Prop} (hC : CPc2 P) {fu : Nat} {k : Nat} {a1 : Int32} {a2 : Int32} {M : mwM} {L : mwL} (h : P M L) : kq2 P (fX5_hearHead_b126 fu k a1 a2 M L) := by
  unfold fX5_hearHead_b126
  exact (kqS2 h)
theorem y_fX5_hearHead_b58 {P : mwM → mwL → Prop} (hC : CPc2 P) {fu : Nat} {k : Nat} {a1 : Int32} {a2 : Int32} (hk_k : 4 ≤ k ∧ k ≤ 689) {M : mwM} {L : mwL} (h : P M L) : kq2 P (fX5_hearHead_b58 fu k a1 a2 M L) := by
  unfold fX5_hearHead_b58
  exact (kqM2_c2 hC h (by omega) (fun M11 h1 => (y_fX5_hearHead_b126 hC h1)))
theorem y_fX5_hearHead_b122 {P : mwM → mwL → Prop} (hC : CPc2 P) {fu : Nat} {k : Nat} {a1 : Int32} {a2 : Int32} {s1 : Int32} {s2 : Int32} (hk_k : 4 ≤ k ∧ k ≤ 689) {M : mwM} {L : mwL} (h : P M L) : kq2 P (fX5_hearHead_b122 fu k a1 a2 s1 s2 M L) := by
  unfold fX5_hearHead_b122
  exact (kqM2_c2 hC h (by omega) (fun M15 h1 => (y_fX5_hearHead_b126 hC h1)))
theorem y_fX5_hearHead_b121 {P : mwM → mwL → Prop} (hC : CPc2 P) {fu : Nat} {k : Nat} {a1 : Int32} {a2 : Int32} {s1 : Int32} (hk_k : 4 ≤ k ∧ k ≤ 689) {M : mwM} {L : mwL} (h : P M L) : kq2 P (fX5_hearHead_b121 fu k a1 a2 s1 M L) := by
  unfold fX5_hearHead_b121
  exact (y_fX5_hearHead_b122 hC (by omega) h)
theorem y_fX5_hearHead_b92 {P : mwM → mwL → Prop} (hC : CPc2 P) {fu : Nat} {k : Nat} {a1 : Int32} {a2 : Int32} (hk_k : 4 ≤ k ∧ k ≤ 689) {M : mwM} {L : mwL} (h : P M L) : kq2 P (fX5_hearHead_b92 fu k a1 a2 M L) := by
  unfold fX5_hearHead_b92
  exact (kqM2_c2 hC h (by omega) (fun M12 h1 => (kqI2 (kqI2 (y_fX5_hearHead_b122 hC (by omega) h1) (y_fX5_hearHead_b121 hC (by omega) h1)) (y_fX5_hearHead_b121 hC (by omega) h1))))
theorem y_fX5_hearHead_b46 {P : mwM → mwL → Prop} (hC : CPc2 P) {fu : Nat} {k : Nat} {a1 : Int32} {a2 : Int32} (hk_k : 4 ≤ k ∧ k ≤ 689) {M : mwM} {L : mwL} (h : P M L) : kq2 P (fX5_hearHead_b46 fu k a1 a2 M L) := by
  unfold fX5_hearHead_b46
  exact (kqI2 (y_fX5_hearHead_b58 hC (by omega) h) (kqI2 (y_fX5_hearHead_b58 hC (by omega) h) (kqI2 (kqM2_c2 hC h (by omega) (fun M10 h1 => (y_fX5_hearHead_b126 hC h1))) (kqI2 (y_fX5_hearHead_b92 hC (by omega) h) (kqI2 (y_fX5_hearHead_b92 hC (by omega) h) (y_fX5_hearHead_b126 hC h))))))
theorem y_fX5_hearHead_b31 {P : mwM → mwL → Prop} (hC : CPc2 P) {fu : Nat} {k : Nat} {a1 : Int32} {a2 : Int32} (hk_k : 4 ≤ k ∧ k ≤ 689) {M : mwM} {L : mwL} (h : P M L) : kq2 P (fX5_hearHead_b31 fu k a1 a2 M L) := by
  unfold fX5_hearHead_b31
  exact (kqM2_c2 hC h (by omega) (fun M4 h1 => (y_fX5_hearHead_b126 hC h1)))
theorem y_fX5_hearHead_b11 {P : mwM → mwL → Prop} (hC : CPc2 P) {fu : Nat} {k : Nat} {a1 : Int32} {a2 : Int32} (hk_k : 4 ≤ k ∧ k ≤ 689) {M : mwM} {L : mwL} (h : P M L) : kq2 P (fX5_hearHead_b11 fu k a1 a2 M L) := by
  unfold fX5_hearHead_b11
  exact (kqI2 (kqI2 (y_fX5_hearHead_b46 hC (by omega) h) (kqI2 (y_fX5_hearHead_b46 hC (by omega) h) (y_fX5_hearHead_b31 hC (by omega) h))) (y_fX5_hearHead_b46 hC (by omega) h))
theorem y_DX5_hearHead {P : mwM → mwL → Prop} (hC : CPc2 P) {fu : Nat} {k : Nat} {a1 : Int32} {a2 : Int32} (hk_k : 4 ≤ k ∧ k ≤ 689) {M : mwM} {L : mwL} (h : P M L) : kq2 P (DX5_hearHead fu k a1 a2 M L) := by
  unfold DX5_hearHead
  exact (kqI2 (y_fX5_hearHead_b11 hC (by omega) h) (kqI2 (y_fX5_hearHead_b31 hC (by omega) h) (y_fX5_hearHead_b11 hC (by omega) h)))
theorem y_fX5_findEnds_b48 {P : mwM → mwL → Prop} (hC : CPc2 P) {fu : Nat} {k : Nat} (hk_k : 4 ≤ k ∧ k ≤ 689) {M : mwM} {L : mwL} (h : P M L) : kq2 P (fX5_findEnds_b48 fu k M L) := by
  unfold fX5_findEnds_b48
  exact (kqM2_c2 hC h (by omega) (fun M2 h1 => (kqS2 h1)))
theorem y_fX5_findEnds_b45 {P : mwM → mwL → Prop} (hC : CPc2 P) {fu : Nat} {k : Nat} {s1 : Int32} (hk_k : 4 ≤ k ∧ k ≤ 689) {M : mwM} {L : mwL} (h : P M L) : kq2 P (fX5_findEnds_b45 fu k s1 M L) := by
  unfold fX5_findEnds_b45
  exact (kqM2_c2 hC h (by omega) (fun M1 h1 => (y_fX5_findEnds_b48 hC (by omega) h1)))
theorem y_DX5_findEnds {P : mwM → mwL → Prop} (hC : CPc2 P) {fu : Nat} {k : Nat} (hk_k : 4 ≤ k ∧ k ≤ 689) {M : mwM} {L : mwL} (h : P M L) : kq2 P (DX5_findEnds fu k M L) := by
  unfold DX5_findEnds
  exact (kqI2 (kqK2 (fun q1 => (kqM2_c2 hC h (by omega) (fun M6 h2 => (y_fX5_findEnds_b48 hC (by omega) h2))))) (kqI2 (y_fX5_findEnds_b45 hC (by omega) h) (y_fX5_findEnds_b45 hC (by omega) h)))
theorem y_fX5_hearPlain_b158 {P : mwM → mwL → Prop} (hC : CPc2 P) {fu : Nat} {k : Nat} {a1 : Int32} {a2 : Int32} {M : mwM} {L : mwL} (h : P M L) : kq2 P (fX5_hearPlain_b158 fu k a1 a2 M L) := by
  unfold fX5_hearPlain_b158
  exact (kqS2 h)
theorem y_DX5_hearPlain {P : mwM → mwL → Prop} (hC : CPc2 P) {fu : Nat} {k : Nat} {a1 : Int32} {a2 : Int32} (hk_k : 4 ≤ k ∧ k ≤ 689) {M : mwM} {L : mwL} (h : P M L) : kq2 P (DX5_hearPlain fu k a1 a2 M L) := by
  unfold DX5_hearPlain
  exact (kqI2 (kqB32 (y_DX5_nextCheck hC h) (fun r4 M2 L3 h1 => (kqM2_c2 hC h1 (by omega) (fun M5 h2 => (kqB32 (y_DX5_nextCheck hC h2) (fun r8 M6 L7 h3 => (kqM2_c2 hC h3 (by omega) (fun M9 h4 => (kqB32 (y_DX5_nextCheck hC h4) (fun r12 M10 L11 h5 => (kqM2_c2 hC h5 (by omega) (fun M13 h6 => (kqI2 (kqI2 (kqL2 (fun x17 => (kqK2 (fun q7 => (kqK2 (fun q8 => (kqM2_c2 hC h6 (by omega) (fun M20 h9 => (y_fX5_hearPlain_b158 hC h9))))))))) (kqM2_c2 hC h6 (by omega) (fun M21 h10 => (kqI2 (kqB22 (y_DX5_findEnds hC (by omega) h10) (fun M23 L24 h11 => (y_fX5_hearPlain_b158 hC h11))) (y_fX5_hearPlain_b158 hC h10))))) (kqB22 (y_DX5_hearHead hC (by omega) h6) (fun M25 L26 h12 => (y_fX5_hearPlain_b158 hC h12)))))))))))))))) (kqM2_c2 hC h (by omega) (fun M27 h13 => (kqS2 h13))))
theorem y_fX5_hear_b175 {P : mwM → mwL → Prop} (hC : CPc2 P) {fu : Nat} {k : Nat} {a1 : Int32} {M : mwM} {L : mwL} (h : P M L) : kq3 P (fX5_hear_b175 fu k a1 M L) := by
  unfold fX5_hear_b175
  exact (kqS3 h)
theorem y_fX5_hear_b151 {P : mwM → mwL → Prop} (hC : CPc2 P) {fu : Nat} {k : Nat} {a1 : Int32} (hk_k : 4 ≤ k ∧ k ≤ 689) {M : mwM} {L : mwL} (h : P M L) : kq3 P (fX5_hear_b151 fu k a1 M L) := by
  unfold fX5_hear_b151
  exact (kqB33 (y_DX5_stuffedEnd hC h) (fun r19 M17 L18 h1 => (kqI3 (kqI3 (y_fX5_hear_b175 hC h1) (kqM3_c2 hC h1 (by omega) (fun M22 h2 => (y_fX5_hear_b175 hC h2)))) (y_fX5_hear_b175 hC h1))))
theorem y_fX5_hear_b124 {P : mwM → mwL → Prop} (hC : CPc2 P) {fu : Nat} {k : Nat} {a1 : Int32} (hk_k : 4 ≤ k ∧ k ≤ 689) {M : mwM} {L : mwL} (h : P M L) : kq3 P (fX5_hear_b124 fu k a1 M L) := by
  unfold fX5_hear_b124
  exact (kqB33 (y_DX5_stuffedEnd hC h) (fun r13 M11 L12 h1 => (kqI3 (kqI3 (kqM3_c2 hC h1 (by omega) (fun M16 h2 => (y_fX5_hear_b175 hC h2))) (y_fX5_hear_b151 hC (by omega) h1)) (y_fX5_hear_b151 hC (by omega) h1))))
theorem y_fX5_hear_b119 {P : mwM → mwL → Prop} (hC : CPc2 P) {fu : Nat} {k : Nat} {a1 : Int32} {s0 : Int32} {s1 : Int32} (hk_k : 4 ≤ k ∧ k ≤ 689) {M : mwM} {L : mwL} (h : P M L) : kq3 P (fX5_hear_b119 fu k a1 s0 s1 M L) := by
  unfold fX5_hear_b119
  exact (kqI3 (kqS3 h) (y_fX5_hear_b124 hC (by omega) h))
theorem y_fX5_hear_b61 {P : mwM → mwL → Prop} (hC : CPc2 P) {fu : Nat} {k : Nat} {a1 : Int32} {s1 : Int32} (hk_k : 4 ≤ k ∧ k ≤ 689) {M : mwM} {L : mwL} (h : P M L) : kq3 P (fX5_hear_b61 fu k a1 s1 M L) := by
  unfold fX5_hear_b61
  exact (kqM3_c2 hC h (by omega) (fun M1 h1 => (kqM3_c2 hC h1 (by omega) (fun M2 h2 => (kqL3 (fun x3 => (kqM3_c2 hC h2 (by omega) (fun M4 h3 => (kqB23 (y_DX5_hearPlain hC (by omega) h3) (fun M5 L6 h4 => (kqI3 (kqI3 (kqI3 (y_fX5_hear_b119 hC (by omega) h4) (y_fX5_hear_b119 hC (by omega) h4)) (y_fX5_hear_b124 hC (by omega) h4)) (y_fX5_hear_b124 hC (by omega) h4))))))))))))
theorem y_DX5_hear {P : mwM → mwL → Prop} (hC : CPc2 P) {fu : Nat} {k : Nat} {a1 : Int32} (hk_k : 4 ≤ k ∧ k ≤ 689) {M : mwM} {L : mwL} (h : P M L) : kq3 P (DX5_hear fu k a1 M L) := by
  unfold DX5_hear
  exact (kqI3 (kqB33 (y_DX5_hearFixed hC (by omega) h) (fun r35 M33 L34 h1 => (kqS3 h1))) (kqI3 (kqB33 (y_DX5_hearTail hC (by omega) h) (fun r32 M30 L31 h2 => (kqS3 h2))) (kqI3 (kqB33 (y_DX5_hearStuffBit hC (by omega) h) (fun r29 M27 L28 h3 => (kqS3 h3))) (kqI3 (y_fX5_hear_b61 hC (by omega) h) (y_fX5_hear_b61 hC (by omega) h)))))
theorem y_fX9_clear_i32 {P : mwM → mwL → Prop} (hC : CPc2 P) {fu : Nat} {r32 : (Int32 × mwM × mwL) → Option (mwM × mwL)} {v1 : Int32} (hr32 : ∀ s, P s.2.1 s.2.2 → kq2 P (r32 s)) {M : mwM} {L : mwL} (h : P M L) : kq2 P (fX9_clear_i32 fu r32 v1 M L) := by
  unfold fX9_clear_i32
  exact (kqI2 (kqS2 h) (kqK2 (fun q1 => (kqM2_c2 hC h (by omega) (fun M4 h2 => (kqL2 (fun x5 => (hr32 (x5, M4, L) h2))))))))
theorem y_fX9_clear_h32 {P : mwM → mwL → Prop} (hC : CPc2 P) {fu : Nat} : ∀ n s, P s.2.1 s.2.2 → kq2 P (fX9_clear_h32 fu n s) := by
  intro n
  induction n with
  | zero => intro s _; exact kqN2
  | succ n ih =>
    intro s h
    show kq2 P (fX9_clear_i32 fu (fX9_clear_h32 fu n) s.1 s.2.1 s.2.2)
    exact y_fX9_clear_i32 hC ih h
theorem y_DX9_clear {P : mwM → mwL → Prop} (hC : CPc2 P) {fu : Nat} {M : mwM} {L : mwL} (h : P M L) : kq2 P (DX9_clear fu M L) := by
  unfold DX9_clear
  exact (kqM2_c2 hC h (by omega) (fun M6 h1 => (kqM2_c2 hC h1 (by omega) (fun M7 h2 => (kqM2_c2 hC h2 (by omega) (fun M8 h3 => (kqM2_c2 hC h3 (by omega) (fun M9 h4 => (kqM2_c2 hC h4 (by omega) (fun M10 h5 => (kqM2_c2 hC h5 (by omega) (fun M11 h6 => (y_fX9_clear_h32 hC _ (0, M11, L) h6)))))))))))))
theorem y_fX9_make_b22 {P : mwM → mwL → Prop} (hC : CPc2 P) {fu : Nat} {a1 : Int32} {a2 : Int32} {a3 : Nat} {n3 : Nat} {a4 : Int32} {M : mwM} {L : mwL} (h : P M L) : kq2 P (fX9_make_b22 fu a1 a2 a3 n3 a4 M L) := by
  unfold fX9_make_b22
  exact (kqS2 h)
theorem y_fX9_make_i93 {P : mwM → mwL → Prop} (hC : CPc2 P) {fu : Nat} {a1 : Int32} {a2 : Int32} {a3 : Nat} {n3 : Nat} {a4 : Int32} {r93 : (Int32 × mwM × mwL) → Option (mwM × mwL)} {v5 : Int32} (hr93 : ∀ s, P s.2.1 s.2.2 → kq2 P (r93 s)) {M : mwM} {L : mwL} (h : P M L) : kq2 P (fX9_make_i93 fu a1 a2 a3 n3 a4 r93 v5 M L) := by
  unfold fX9_make_i93
  exact (kqI2 (kqS2 h) (kqK2 (fun q1 => (kqK2 (fun q2 => (kqK2 (fun q3 => (kqM2_c2 hC h (by omega) (fun M13 h4 => (kqL2 (fun x14 => (hr93 (x14, M13, L) h4))))))))))))
theorem y_fX9_make_h93 {P : mwM → mwL → Prop} (hC : CPc2 P) {fu : Nat} {a1 : Int32} {a2 : Int32} {a3 : Nat} {n3 : Nat} {a4 : Int32} : ∀ n s, P s.2.1 s.2.2 → kq2 P (fX9_make_h93 fu a1 a2 a3 n3 a4 n s) := by
  intro n
  induction n with
  | zero => intro s _; exact kqN2
  | succ n ih =>
    intro s h
    show kq2 P (fX9_make_i93 fu a1 a2 a3 n3 a4 (fX9_make_h93 fu a1 a2 a3 n3 a4 n) s.1 s.2.1 s.2.2)
    exact y_fX9_make_i93 hC ih h
theorem y_fX9_make_b64 {P : mwM → mwL → Prop} (hC : CPc2 P) {fu : Nat} {a1 : Int32} {a2 : Int32} {a3 : Nat} {n3 : Nat} {a4 : Int32} {s1 : Int32} {s2 : Int32} {M : mwM} {L : mwL} (h : P M L) : kq2 P (fX9_make_b64 fu a1 a2 a3 n3 a4 s1 s2 M L) := by
  unfold fX9_make_b64
  exact (kqK2 (fun q1 => (kqM2_c2 hC h (by omega) (fun M2 h2 => (kqK2 (fun q3 => (kqM2_c2 hC h2 (by omega) (fun M5 h4 => (kqK2 (fun q5 => (kqM2_c2 hC h4 (by omega) (fun M8 h6 => (y_fX9_make_h93 hC _ (0, M8, L) h6)))))))))))))
theorem y_DX9_make {P : mwM → mwL → Prop} (hC : CPc2 P) {fu : Nat} {a1 : Int32} {a2 : Int32} {a3 : Nat} {n3 : Nat} {a4 : Int32} {M : mwM} {L : mwL} (h : P M L) : kq2 P (DX9_make fu a1 a2 a3 n3 a4 M L) := by
  unfold DX9_make
  exact (kqI2 (y_fX9_make_b22 hC h) (kqI2 (y_fX9_make_b22 hC h) (kqI2 (kqM2_c2 hC h (by omega) (fun M18 h1 => (kqK2 (fun q2 => (kqM2_c2 hC h1 (by omega) (fun M21 h3 => (kqI2 (y_fX9_make_b64 hC h3) (y_fX9_make_b64 hC h3)))))))) (y_fX9_make_b22 hC h))))
theorem y_fX9_isQuestion_b17 {P : mwM → mwL → Prop} (hC : CPc2 P) {fu : Nat} {a1 : Int32} {s0 : Int32} {M : mwM} {L : mwL} (h : P M L) : kq3 P (fX9_isQuestion_b17 fu a1 s0 M L) := by
  unfold fX9_isQuestion_b17
  exact (kq_mzz3 (kqS3 h))
theorem y_DX9_isQuestion {P : mwM → mwL → Prop} (hC : CPc2 P) {fu : Nat} {a1 : Int32} {M : mwM} {L : mwL} (h : P M L) : kq3 P (DX9_isQuestion fu a1 M L) := by
  unfold DX9_isQuestion
  exact (kqK3 (fun q1 => (kqI3 (y_fX9_isQuestion_b17 hC h) (y_fX9_isQuestion_b17 hC h))))
theorem y_DX9_controllerOf {P : mwM → mwL → Prop} (hC : CPc2 P) {fu : Nat} {a1 : Int32} {M : mwM} {L : mwL} (h : P M L) : kq3 P (DX9_controllerOf fu a1 M L) := by
  unfold DX9_controllerOf
  exact (kqK3 (fun q1 => (kqK3 (fun q2 => (kqS3 h)))))
theorem y_fX9_isToTester_b37 {P : mwM → mwL → Prop} (hC : CPc2 P) {fu : Nat} {a1 : Int32} {s0 : Int32} {M : mwM} {L : mwL} (h : P M L) : kq3 P (fX9_isToTester_b37 fu a1 s0 M L) := by
  unfold fX9_isToTester_b37
  exact (kq_mzz3 (kqS3 h))
theorem y_fX9_isToTester_b29 {P : mwM → mwL → Prop} (hC : CPc2 P) {fu : Nat} {a1 : Int32} {s0 : Int32} {s1 : Int32} {M : mwM} {L : mwL} (h : P M L) : kq3 P (fX9_isToTester_b29 fu a1 s0 s1 M L) := by
  unfold fX9_isToTester_b29
  exact (kqI3 (y_fX9_isToTester_b37 hC h) (y_fX9_isToTester_b37 hC h))
theorem y_DX9_isToTester {P : mwM → mwL → Prop} (hC : CPc2 P) {fu : Nat} {a1 : Int32} {M : mwM} {L : mwL} (h : P M L) : kq3 P (DX9_isToTester fu a1 M L) := by
  unfold DX9_isToTester
  exact (kqK3 (fun q1 => (kqB33 (y_DX9_isQuestion hC h) (fun r7 M5 L6 h2 => (kqK3 (fun q3 => (kqI3 (y_fX9_isToTester_b29 hC h2) (y_fX9_isToTester_b29 hC h2))))))))
theorem y_DX9_lose {P : mwM → mwL → Prop} (hC : CPc2 P) {fu : Nat} {a1 : Int32} {M : mwM} {L : mwL} (h : P M L) : kq2 P (DX9_lose fu a1 M L) := by
  unfold DX9_lose
  exact (kqK2 (fun q1 => (kqM2_c2 hC h (by omega) (fun M3 h2 => (kqS2 h2)))))
theorem y_fX9_receiveNext_b28 {P : mwM → mwL → Prop} (hC : CPc2 P) {fu : Nat} {a1 : Int32} {a2 : Int32} {M : mwM} {L : mwL} (h : P M L) : kq3 P (fX9_receiveNext_b28 fu a1 a2 M L) := by
  unfold fX9_receiveNext_b28
  exact (kqS3 h)
theorem y_DX9_receiveNext {P : mwM → mwL → Prop} (hC : CPc2 P) {fu : Nat} {a1 : Int32} {a2 : Int32} {M : mwM} {L : mwL} (h : P M L) : kq3 P (DX9_receiveNext fu a1 a2 M L) := by
  unfold DX9_receiveNext
  exact (kqL3 (fun x2 => (kqK3 (fun q1 => (kqI3 (kqK3 (fun q2 => (kqI3 (kqK3 (fun q3 => (kqI3 (kqK3 (fun q4 => (kqK3 (fun q5 => (kqM3_c2 hC h (by omega) (fun M15 h6 => (kqK3 (fun q7 => (kqM3_c2 hC h6 (by omega) (fun M19 h8 => (kqK3 (fun q9 => (kqM3_c2 hC h8 (by omega) (fun M22 h10 => (kqK3 (fun q11 => (kqK3 (fun q12 => (kqI3 (kqK3 (fun q13 => (kqM3_c2 hC h10 (by omega) (fun M30 h14 => (kqS3 h14))))) (kqS3 h10)))))))))))))))))))) (kqK3 (fun q15 => (kqM3_c2 hC h (by omega) (fun M33 h16 => (kqM3_c2 hC h16 (by omega) (fun M34 h17 => (kqS3 h17)))))))))) (y_fX9_receiveNext_b28 hC h)))) (y_fX9_receiveNext_b28 hC h))))))
theorem y_DX9_makeFrame {P : mwM → mwL → Prop} (hC : CPc2 P) {fu : Nat} {a1 : Int32} {a2 : Int32} {a3 : Int32} {M : mwM} {L : mwL} (h : P M L) : kq2 P (DX9_makeFrame fu a1 a2 a3 M L) := by
  unfold DX9_makeFrame
  exact (kqI2 (kqK2 (fun q1 => (kqM2_c2 hC h (by omega) (fun M4 h2 => (kqK2 (fun q3 => (kqM2_c2 hC h2 (by omega) (fun M7 h4 => (kqK2 (fun q5 => (kqM2_c2 hC h4 (by omega) (fun M10 h6 => (kqK2 (fun q7 => (kqM2_c2 hC h6 (by omega) (fun M13 h8 => (kqM2_c2 hC h8 (by omega) (fun M14 h9 => (kqS2 h9))))))))))))))))))) (kqS2 h))
theorem y_fX9_receive_b42 {P : mwM → mwL → Prop} (hC : CPc2 P) {fu : Nat} {a1 : Int32} {M : mwM} {L : mwL} (h : P M L) : kq3 P (fX9_receive_b42 fu a1 M L) := by
  unfold fX9_receive_b42
  exact (kqS3 h)
theorem y_fX9_receive_b91 {P : mwM → mwL → Prop} (hC : CPc2 P) {fu : Nat} {a1 : Int32} {v2 : Int32} {v3 : Int32} {M : mwM} {L : mwL} (h : P M L) : kq3 P (fX9_receive_b91 fu a1 v2 v3 M L) := by
  unfold fX9_receive_b91
  exact (kqK3 (fun q1 => (kqI3 (kqK3 (fun q2 => (kqM3_c2 hC h (by omega) (fun M23 h3 => (kqS3 h3))))) (kqK3 (fun q4 => (kqM3_c2 hC h (by omega) (fun M6 h5 => (kqK3 (fun q6 => (kqM3_c2 hC h5 (by omega) (fun M9 h7 => (kqK3 (fun q8 => (kqM3_c2 hC h7 (by omega) (fun M12 h9 => (kqK3 (fun q10 => (kqM3_c2 hC h9 (by omega) (fun M15 h11 => (kqK3 (fun q12 => (kqM3_c2 hC h11 (by omega) (fun M18 h13 => (kqB23 (y_DX9_makeFrame hC h13) (fun M19 L20 h14 => (kqS3 h14))))))))))))))))))))))))))
theorem y_DX9_receive {P : mwM → mwL → Prop} (hC : CPc2 P) {fu : Nat} {a1 : Int32} {M : mwM} {L : mwL} (h : P M L) : kq3 P (DX9_receive fu a1 M L) := by
  unfold DX9_receive
  exact (kqK3 (fun q1 => (kqL3 (fun x26 => (kqK3 (fun q2 => (kqI3 (kqK3 (fun q3 => (kqI3 (kqK3 (fun q4 => (kqM3_c2 hC h (by omega) (fun M49 h5 => (y_fX9_receive_b42 hC h5))))) (y_fX9_receive_b42 hC h)))) (kqK3 (fun q6 => (kqI3 (kqK3 (fun q7 => (kqB33 (y_DX9_receiveNext hC h) (fun r43 M41 L42 h8 => (kqS3 h8))))) (kqL3 (fun x34 => (kqK3 (fun q9 => (kqI3 (kqM3_c2 hC h (by omega) (fun M38 h10 => (y_fX9_receive_b91 hC h10))) (y_fX9_receive_b91 hC h))))))))))))))))
theorem y_fX9_reach_b54 {P : mwM → mwL → Prop} (hC : CPc2 P) {fu : Nat} {a1 : Int32} {a2 : Int32} {r2 : (Int32 × mwM × mwL) → Option (Int32 × mwM × mwL)} {v3 : Int32} (hr2 : ∀ s, P s.2.1 s.2.2 → kq3 P (r2 s)) {M : mwM} {L : mwL} (h : P M L) : kq3 P (fX9_reach_b54 fu a1 a2 r2 v3 M L) := by
  unfold fX9_reach_b54
  exact (kqL3 (fun x19 => (hr2 (x19, M, L) h)))
theorem y_fX9_reach_i2 {P : mwM → mwL → Prop} (hC : CPc2 P) {fu : Nat} {a1 : Int32} {a2 : Int32} {r2 : (Int32 × mwM × mwL) → Option (Int32 × mwM × mwL)} {v3 : Int32} (hr2 : ∀ s, P s.2.1 s.2.2 → kq3 P (r2 s)) {M : mwM} {L : mwL} (h : P M L) : kq3 P (fX9_reach_i2 fu a1 a2 r2 v3 M L) := by
  unfold fX9_reach_i2
  exact (kqI3 (kqS3 h) (kqK3 (fun q1 => (kqI3 (kqB33 (y_DX9_controllerOf hC h) (fun r7 M5 L6 h2 => (kqI3 (kqB33 (y_DX9_isToTester hC h2) (fun r11 M9 L10 h3 => (kqI3 (kqK3 (fun q4 => (kqM3_c2 hC h3 (by omega) (fun M15 h5 => (kqB33 (y_DX9_receive hC h5) (fun r18 M16 L17 h6 => (kqS3 h6))))))) (y_fX9_reach_b54 hC hr2 h3)))) (y_fX9_reach_b54 hC hr2 h2)))) (y_fX9_reach_b54 hC hr2 h)))))
theorem y_fX9_reach_h2 {P : mwM → mwL → Prop} (hC : CPc2 P) {fu : Nat} {a1 : Int32} {a2 : Int32} : ∀ n s, P s.2.1 s.2.2 → kq3 P (fX9_reach_h2 fu a1 a2 n s) := by
  intro n
  induction n with
  | zero => intro s _; exact kqN3
  | succ n ih =>
    intro s h
    show kq3 P (fX9_reach_i2 fu a1 a2 (fX9_reach_h2 fu a1 a2 n) s.1 s.2.1 s.2.2)
    exact y_fX9_reach_i2 hC ih h
theorem y_DX9_reach {P : mwM → mwL → Prop} (hC : CPc2 P) {fu : Nat} {a1 : Int32} {a2 : Int32} {M : mwM} {L : mwL} (h : P M L) : kq3 P (DX9_reach fu a1 a2 M L) := by
  unfold DX9_reach
  exact (y_fX9_reach_h2 hC _ (0, M, L) h)
theorem y_fX9_begin_b50 {P : mwM → mwL → Prop} (hC : CPc2 P) {fu : Nat} {a1 : Int32} {s2 : Int32} {M : mwM} {L : mwL} (h : P M L) : kq2 P (fX9_begin_b50 fu a1 s2 M L) := by
  unfold fX9_begin_b50
  exact (kqK2 (fun q1 => (kqM2_c2 hC h (by omega) (fun M7 h2 => (kqK2 (fun q3 => (kqM2_c2 hC h2 (by omega) (fun M10 h4 => (kqS2 h4)))))))))
theorem y_fX9_begin_b29 {P : mwM → mwL → Prop} (hC : CPc2 P) {fu : Nat} {a1 : Int32} {v2 : Int32} {s1 : Int32} {M : mwM} {L : mwL} (h : P M L) : kq2 P (fX9_begin_b29 fu a1 v2 s1 M L) := by
  unfold fX9_begin_b29
  exact (kqB22 (y_DX9_makeFrame hC h) (fun M2 L3 h1 => (kqI2 (y_fX9_begin_b50 hC h1) (y_fX9_begin_b50 hC h1))))
theorem y_fX9_begin_b18 {P : mwM → mwL → Prop} (hC : CPc2 P) {fu : Nat} {a1 : Int32} {s0 : Int32} {M : mwM} {L : mwL} (h : P M L) : kq2 P (fX9_begin_b18 fu a1 s0 M L) := by
  unfold fX9_begin_b18
  exact (kqI2 (y_fX9_begin_b29 hC h) (y_fX9_begin_b29 hC h))
theorem y_DX9_begin {P : mwM → mwL → Prop} (hC : CPc2 P) {fu : Nat} {a1 : Int32} {M : mwM} {L : mwL} (h : P M L) : kq2 P (DX9_begin fu a1 M L) := by
  unfold DX9_begin
  exact (kqK2 (fun q1 => (kqI2 (y_fX9_begin_b18 hC h) (y_fX9_begin_b18 hC h))))
theorem y_fX9_goOn_b105 {P : mwM → mwL → Prop} (hC : CPc2 P) {fu : Nat} {a1 : Int32} {a2 : Int32} {M : mwM} {L : mwL} (h : P M L) : kq2 P (fX9_goOn_b105 fu a1 a2 M L) := by
  unfold fX9_goOn_b105
  exact (kqS2 h)
theorem y_fX9_goOn_i27 {P : mwM → mwL → Prop} (hC : CPc2 P) {fu : Nat} {a1 : Int32} {a2 : Int32} {r27 : (Int32 × Int32 × mwM × mwL) → Option (mwM × mwL)} {v3 : Int32} {v4 : Int32} (hr27 : ∀ s, P s.2.2.1 s.2.2.2 → kq2 P (r27 s)) {M : mwM} {L : mwL} (h : P M L) : kq2 P (fX9_goOn_i27 fu a1 a2 r27 v3 v4 M L) := by
  unfold fX9_goOn_i27
  exact (kqI2 (kqK2 (fun q1 => (kqM2_c2 hC h (by omega) (fun M4 h2 => (y_fX9_goOn_b105 hC h2))))) (kqB22 (y_DX9_makeFrame hC h) (fun M6 L7 h3 => (kqL2 (fun x8 => (kqL2 (fun x9 => (hr27 (x8, x9, M6, L7) h3))))))))
theorem y_fX9_goOn_h27 {P : mwM → mwL → Prop} (hC : CPc2 P) {fu : Nat} {a1 : Int32} {a2 : Int32} : ∀ n s, P s.2.2.1 s.2.2.2 → kq2 P (fX9_goOn_h27 fu a1 a2 n s) := by
  intro n
  induction n with
  | zero => intro s _; exact kqN2
  | succ n ih =>
    intro s h
    show kq2 P (fX9_goOn_i27 fu a1 a2 (fX9_goOn_h27 fu a1 a2 n) s.1 s.2.1 s.2.2.1 s.2.2.2)
    exact y_fX9_goOn_i27 hC ih h
theorem y_DX9_goOn {P : mwM → mwL → Prop} (hC : CPc2 P) {fu : Nat} {a1 : Int32} {a2 : Int32} {M : mwM} {L : mwL} (h : P M L) : kq2 P (DX9_goOn fu a1 a2 M L) := by
  unfold DX9_goOn
  exact (kqK2 (fun q1 => (kqI2 (kqK2 (fun q2 => (kqL2 (fun x25 => (y_fX9_goOn_h27 hC _ (x25, 1, M, L) h))))) (kqK2 (fun q3 => (kqI2 (kqK2 (fun q4 => (kqI2 (y_fX9_goOn_b105 hC h) (kqK2 (fun q5 => (kqM2_c2 hC h (by omega) (fun M21 h6 => (kqM2_c2 hC h6 (by omega) (fun M22 h7 => (y_fX9_goOn_b105 hC h7)))))))))) (y_fX9_goOn_b105 hC h)))))))
theorem y_fX9_tick_b154 {P : mwM → mwL → Prop} (hC : CPc2 P) {fu : Nat} {a1 : Int32} {r107 : (Int32 × mwM × mwL) → Option (mwM × mwL)} {v2 : Int32} (hr107 : ∀ s, P s.2.1 s.2.2 → kq2 P (r107 s)) {M : mwM} {L : mwL} (h : P M L) : kq2 P (fX9_tick_b154 fu a1 r107 v2 M L) := by
  unfold fX9_tick_b154
  exact (kqL2 (fun x30 => (hr107 (x30, M, L) h)))
theorem y_fX9_tick_i107 {P : mwM → mwL → Prop} (hC : CPc2 P) {fu : Nat} {a1 : Int32} {r107 : (Int32 × mwM × mwL) → Option (mwM × mwL)} {v2 : Int32} (hr107 : ∀ s, P s.2.1 s.2.2 → kq2 P (r107 s)) {M : mwM} {L : mwL} (h : P M L) : kq2 P (fX9_tick_i107 fu a1 r107 v2 M L) := by
  unfold fX9_tick_i107
  exact (kqI2 (kqM2_c2 hC h (by omega) (fun M19 h1 => (kqS2 h1))) (kqK2 (fun q2 => (kqI2 (kqK2 (fun q3 => (kqI2 (y_fX9_tick_b154 hC hr107 h) (kqK2 (fun q4 => (kqM2_c2 hC h (by omega) (fun M28 h5 => (kqM2_c2 hC h5 (by omega) (fun M29 h6 => (y_fX9_tick_b154 hC hr107 h6)))))))))) (y_fX9_tick_b154 hC hr107 h)))))
theorem y_fX9_tick_h107 {P : mwM → mwL → Prop} (hC : CPc2 P) {fu : Nat} {a1 : Int32} : ∀ n s, P s.2.1 s.2.2 → kq2 P (fX9_tick_h107 fu a1 n s) := by
  intro n
  induction n with
  | zero => intro s _; exact kqN2
  | succ n ih =>
    intro s h
    show kq2 P (fX9_tick_i107 fu a1 (fX9_tick_h107 fu a1 n) s.1 s.2.1 s.2.2)
    exact y_fX9_tick_i107 hC ih h
theorem y_fX9_tick_b105 {P : mwM → mwL → Prop} (hC : CPc2 P) {fu : Nat} {a1 : Int32} {M : mwM} {L : mwL} (h : P M L) : kq2 P (fX9_tick_b105 fu a1 M L) := by
  unfold fX9_tick_b105
  exact (y_fX9_tick_h107 hC _ (0, M, L) h)
theorem y_fX9_tick_i64 {P : mwM → mwL → Prop} (hC : CPc2 P) {fu : Nat} {a1 : Int32} {r64 : (mwM × mwL) → Option (mwM × mwL)} (hr64 : ∀ s, P s.1 s.2 → kq2 P (r64 s)) {M : mwM} {L : mwL} (h : P M L) : kq2 P (fX9_tick_i64 fu a1 r64 M L) := by
  unfold fX9_tick_i64
  exact (kqI2 (y_fX9_tick_b105 hC h) (kqK2 (fun q1 => (kqI2 (y_fX9_tick_b105 hC h) (kqM2_c2 hC h (by omega) (fun M17 h2 => (hr64 (M17, L) h2)))))))
theorem y_fX9_tick_h64 {P : mwM → mwL → Prop} (hC : CPc2 P) {fu : Nat} {a1 : Int32} : ∀ n s, P s.1 s.2 → kq2 P (fX9_tick_h64 fu a1 n s) := by
  intro n
  induction n with
  | zero => intro s _; exact kqN2
  | succ n ih =>
    intro s h
    show kq2 P (fX9_tick_i64 fu a1 (fX9_tick_h64 fu a1 n) s.1 s.2)
    exact y_fX9_tick_i64 hC ih h
theorem y_fX9_tick_i44 {P : mwM → mwL → Prop} (hC : CPc2 P) {fu : Nat} {a1 : Int32} {r44 : (Int32 × mwM × mwL) → Option (mwM × mwL)} {v2 : Int32} (hr44 : ∀ s, P s.2.1 s.2.2 → kq2 P (r44 s)) {M : mwM} {L : mwL} (h : P M L) : kq2 P (fX9_tick_i44 fu a1 r44 v2 M L) := by
  unfold fX9_tick_i44
  exact (kqI2 (y_fX9_tick_h64 hC _ (M, L) h) (kqB22 (y_DX9_goOn hC h) (fun M10 L11 h1 => (kqL2 (fun x12 => (hr44 (x12, M10, L11) h1))))))
theorem y_fX9_tick_h44 {P : mwM → mwL → Prop} (hC : CPc2 P) {fu : Nat} {a1 : Int32} : ∀ n s, P s.2.1 s.2.2 → kq2 P (fX9_tick_h44 fu a1 n s) := by
  intro n
  induction n with
  | zero => intro s _; exact kqN2
  | succ n ih =>
    intro s h
    show kq2 P (fX9_tick_i44 fu a1 (fX9_tick_h44 fu a1 n) s.1 s.2.1 s.2.2)
    exact y_fX9_tick_i44 hC ih h
theorem y_fX9_tick_b31 {P : mwM → mwL → Prop} (hC : CPc2 P) {fu : Nat} {a1 : Int32} {r7 : (Int32 × mwM × mwL) → Option (mwM × mwL)} {v2 : Int32} (hr7 : ∀ s, P s.2.1 s.2.2 → kq2 P (r7 s)) {M : mwM} {L : mwL} (h : P M L) : kq2 P (fX9_tick_b31 fu a1 r7 v2 M L) := by
  unfold fX9_tick_b31
  exact (kqL2 (fun x8 => (hr7 (x8, M, L) h)))
theorem y_fX9_tick_i7 {P : mwM → mwL → Prop} (hC : CPc2 P) {fu : Nat} {a1 : Int32} {r7 : (Int32 × mwM × mwL) → Option (mwM × mwL)} {v2 : Int32} (hr7 : ∀ s, P s.2.1 s.2.2 → kq2 P (r7 s)) {M : mwM} {L : mwL} (h : P M L) : kq2 P (fX9_tick_i7 fu a1 r7 v2 M L) := by
  unfold fX9_tick_i7
  exact (kqI2 (kqL2 (fun x2 => (y_fX9_tick_h44 hC _ (x2, M, L) h))) (kqK2 (fun q1 => (kqI2 (kqB22 (y_DX9_begin hC h) (fun M6 L7 h2 => (y_fX9_tick_b31 hC hr7 h2))) (y_fX9_tick_b31 hC hr7 h)))))
theorem y_fX9_tick_h7 {P : mwM → mwL → Prop} (hC : CPc2 P) {fu : Nat} {a1 : Int32} : ∀ n s, P s.2.1 s.2.2 → kq2 P (fX9_tick_h7 fu a1 n s) := by
  intro n
  induction n with
  | zero => intro s _; exact kqN2
  | succ n ih =>
    intro s h
    show kq2 P (fX9_tick_i7 fu a1 (fX9_tick_h7 fu a1 n) s.1 s.2.1 s.2.2)
    exact y_fX9_tick_i7 hC ih h
theorem y_DX9_tick {P : mwM → mwL → Prop} (hC : CPc2 P) {fu : Nat} {a1 : Int32} {M : mwM} {L : mwL} (h : P M L) : kq2 P (DX9_tick fu a1 M L) := by
  unfold DX9_tick
  exact (kqL2 (fun x31 => (y_fX9_tick_h7 hC _ (x31, M, L) h)))
theorem y_fX9_writeOctets_b184 {P : mwM → mwL → Prop} (hC : CPc2 P) {fu : Nat} {a1 : Int32} {r113 : (Int32 × Int32 × Int32 × Int32 × mwM × mwL) → Option (mwM × mwL)} {v2 : Int32} {v5 : Int32} {v6 : Int32} {v7 : Int32} {s1 : Int32} {s2 : Int32} (hr113 : ∀ s, P s.2.2.2.2.1 s.2.2.2.2.2 → kq2 P (r113 s)) {M : mwM} {L : mwL} (h : P M L) : kq2 P (fX9_writeOctets_b184 fu a1 r113 v2 v5 v6 v7 s1 s2 M L) := by
  unfold fX9_writeOctets_b184
  exact (kqK2 (fun q1 => (kqM2_c2 hC h (by omega) (fun M18 h2 => (kqL2 (fun x19 => (hr113 (v2, v5, v6, x19, M18, L) h2)))))))
theorem y_fX9_writeOctets_b153 {P : mwM → mwL → Prop} (hC : CPc2 P) {fu : Nat} {a1 : Int32} {r113 : (Int32 × Int32 × Int32 × Int32 × mwM × mwL) → Option (mwM × mwL)} {v2 : Int32} {v5 : Int32} {v6 : Int32} {v7 : Int32} {s0 : Int32} (hr113 : ∀ s, P s.2.2.2.2.1 s.2.2.2.2.2 → kq2 P (r113 s)) {M : mwM} {L : mwL} (h : P M L) : kq2 P (fX9_writeOctets_b153 fu a1 r113 v2 v5 v6 v7 s0 M L) := by
  unfold fX9_writeOctets_b153
  exact (kqI2 (y_fX9_writeOctets_b184 hC hr113 h) (kqK2 (fun q1 => (kqK2 (fun q2 => (y_fX9_writeOctets_b184 hC hr113 h))))))
theorem y_fX9_writeOctets_b152 {P : mwM → mwL → Prop} (hC : CPc2 P) {fu : Nat} {a1 : Int32} {r113 : (Int32 × Int32 × Int32 × Int32 × mwM × mwL) → Option (mwM × mwL)} {v2 : Int32} {v5 : Int32} {v6 : Int32} {v7 : Int32} (hr113 : ∀ s, P s.2.2.2.2.1 s.2.2.2.2.2 → kq2 P (r113 s)) {M : mwM} {L : mwL} (h : P M L) : kq2 P (fX9_writeOctets_b152 fu a1 r113 v2 v5 v6 v7 M L) := by
  unfold fX9_writeOctets_b152
  exact (y_fX9_writeOctets_b153 hC hr113 h)
theorem y_fX9_writeOctets_i113 {P : mwM → mwL → Prop} (hC : CPc2 P) {fu : Nat} {a1 : Int32} {r113 : (Int32 × Int32 × Int32 × Int32 × mwM × mwL) → Option (mwM × mwL)} {v2 : Int32} {v5 : Int32} {v6 : Int32} {v7 : Int32} (hr113 : ∀ s, P s.2.2.2.2.1 s.2.2.2.2.2 → kq2 P (r113 s)) {M : mwM} {L : mwL} (h : P M L) : kq2 P (fX9_writeOctets_i113 fu a1 r113 v2 v5 v6 v7 M L) := by
  unfold fX9_writeOctets_i113
  exact (kqI2 (kqS2 h) (kqI2 (y_fX9_writeOctets_b152 hC hr113 h) (kqI2 (y_fX9_writeOctets_b152 hC hr113 h) (kqK2 (fun q1 => (kqI2 (y_fX9_writeOctets_b152 hC hr113 h) (y_fX9_writeOctets_b153 hC hr113 h)))))))
theorem y_fX9_writeOctets_h113 {P : mwM → mwL → Prop} (hC : CPc2 P) {fu : Nat} {a1 : Int32} : ∀ n s, P s.2.2.2.2.1 s.2.2.2.2.2 → kq2 P (fX9_writeOctets_h113 fu a1 n s) := by
  intro n
  induction n with
  | zero => intro s _; exact kqN2
  | succ n ih =>
    intro s h
    show kq2 P (fX9_writeOctets_i113 fu a1 (fX9_writeOctets_h113 fu a1 n) s.1 s.2.1 s.2.2.1 s.2.2.2.1 s.2.2.2.2.1 s.2.2.2.2.2)
    exact y_fX9_writeOctets_i113 hC ih h
theorem y_fX9_writeOctets_b92 {P : mwM → mwL → Prop} (hC : CPc2 P) {fu : Nat} {a1 : Int32} {v2 : Int32} {v3 : Int32} {v4 : Int32} {v5 : Int32} {s0 : Int32} {M : mwM} {L : mwL} (h : P M L) : kq2 P (fX9_writeOctets_b92 fu a1 v2 v3 v4 v5 s0 M L) := by
  unfold fX9_writeOctets_b92
  exact (kqM2_c2 hC h (by omega) (fun M7 h1 => (y_fX9_writeOctets_h113 hC _ (v2, v5, s0, 0, M7, L) h1)))
theorem y_fX9_writeOctets_b69 {P : mwM → mwL → Prop} (hC : CPc2 P) {fu : Nat} {a1 : Int32} {v2 : Int32} {v3 : Int32} {v4 : Int32} {s0 : Int32} {M : mwM} {L : mwL} (h : P M L) : kq2 P (fX9_writeOctets_b69 fu a1 v2 v3 v4 s0 M L) := by
  unfold fX9_writeOctets_b69
  exact (kqI2 (y_fX9_writeOctets_b92 hC h) (kqI2 (y_fX9_writeOctets_b92 hC h) (y_fX9_writeOctets_b92 hC h)))
theorem y_fX9_writeOctets_b42 {P : mwM → mwL → Prop} (hC : CPc2 P) {fu : Nat} {a1 : Int32} {v2 : Int32} {v3 : Int32} {s0 : Int32} {M : mwM} {L : mwL} (h : P M L) : kq2 P (fX9_writeOctets_b42 fu a1 v2 v3 s0 M L) := by
  unfold fX9_writeOctets_b42
  exact (kqI2 (kqK2 (fun q1 => (y_fX9_writeOctets_b69 hC h))) (y_fX9_writeOctets_b69 hC h))
theorem y_DX9_writeOctets {P : mwM → mwL → Prop} (hC : CPc2 P) {fu : Nat} {a1 : Int32} {M : mwM} {L : mwL} (h : P M L) : kq2 P (DX9_writeOctets fu a1 M L) := by
  unfold DX9_writeOctets
  exact (kqK2 (fun q1 => (kqL2 (fun x22 => (kqK2 (fun q2 => (kqL2 (fun x25 => (kqI2 (kqK2 (fun q3 => (y_fX9_writeOctets_b42 hC h))) (kqK2 (fun q4 => (y_fX9_writeOctets_b42 hC h))))))))))))
theorem y_DX10_clear {P : mwM → mwL → Prop} (hC : CPc2 P) {fu : Nat} {M : mwM} {L : mwL} (h : P M L) : kq2 P (DX10_clear fu M L) := by
  unfold DX10_clear
  exact (kqM2_c2 hC h (by omega) (fun M1 h1 => (kqM2_c2 hC h1 (by omega) (fun M2 h2 => (kqM2_c2 hC h2 (by omega) (fun M3 h3 => (kqM2_c2 hC h3 (by omega) (fun M4 h4 => (kqS2 h4)))))))))
theorem y_DX10_forget {P : mwM → mwL → Prop} (hC : CPc2 P) {fu : Nat} {a1 : Int32} {M : mwM} {L : mwL} (h : P M L) : kq2 P (DX10_forget fu a1 M L) := by
  unfold DX10_forget
  exact (kqK2 (fun q1 => (kqM2_c2 hC h (by omega) (fun M3 h2 => (kqK2 (fun q3 => (kqM2_c2 hC h2 (by omega) (fun M6 h4 => (kqK2 (fun q5 => (kqM2_c2 hC h4 (by omega) (fun M9 h6 => (kqK2 (fun q7 => (kqM2_c2 hC h6 (by omega) (fun M12 h8 => (kqK2 (fun q9 => (kqM2_c2 hC h8 (by omega) (fun M15 h10 => (kqS2 h10)))))))))))))))))))))
