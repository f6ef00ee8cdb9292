/-! FRAMES: printed by frp.py -/
theorem y_DX12_thrown {P : mwM → mwL → Prop} (hC : CPrb P) {fu : Nat} {M : mwM} {L : mwL} (h : P M L) : kq3 P (DX12_thrown fu M L) := by
  unfold DX12_thrown
  exact (kqS3 h)
theorem y_fX12_nodes_i108 {P : mwM → mwL → Prop} (hC : CPrb P) {fu : Nat} {a1 : Int32} {r108 : (Int32 × mwM × mwL) → Option (mwM × mwL)} {v2 : Int32} (hr108 : ∀ s, P s.2.1 s.2.2 → kq2 P (r108 s)) {M : mwM} {L : mwL} (h : P M L) : kq2 P (fX12_nodes_i108 fu a1 r108 v2 M L) := by
  unfold fX12_nodes_i108
  exact (kqI2 (kqS2 h) (kqK2 (fun q1 => (kqM2_rb hC h (by omega) (fun M19 h2 => (kqL2 (fun x20 => (hr108 (x20, M19, L) h2))))))))
theorem y_fX12_nodes_h108 {P : mwM → mwL → Prop} (hC : CPrb P) {fu : Nat} {a1 : Int32} : ∀ n s, P s.2.1 s.2.2 → kq2 P (fX12_nodes_h108 fu a1 n s) := by
  intro n
  induction n with
  | zero => intro s _; exact kqN2
  | succ n ih =>
    intro s h
    show kq2 P (fX12_nodes_i108 fu a1 (fX12_nodes_h108 fu a1 n) s.1 s.2.1 s.2.2)
    exact y_fX12_nodes_i108 hC ih h
theorem y_fX12_nodes_i73 {P : mwM → mwL → Prop} (hC : CPrb P) {fu : Nat} {a1 : Int32} {r73 : (Int32 × mwM × mwL) → Option (mwM × mwL)} {v2 : Int32} (hr73 : ∀ s, P s.2.1 s.2.2 → kq2 P (r73 s)) {M : mwM} {L : mwL} (h : P M L) : kq2 P (fX12_nodes_i73 fu a1 r73 v2 M L) := by
  unfold fX12_nodes_i73
  exact (kqI2 (y_fX12_nodes_h108 hC _ (0, M, L) h) (kqK2 (fun q1 => (kqM2_rb hC h (by omega) (fun M11 h2 => (kqK2 (fun q3 => (kqM2_rb hC h2 (by omega) (fun M13 h4 => (kqK2 (fun q5 => (kqM2_rb hC h4 (by omega) (fun M15 h6 => (kqL2 (fun x16 => (hr73 (x16, M15, L) h6))))))))))))))))
theorem y_fX12_nodes_h73 {P : mwM → mwL → Prop} (hC : CPrb P) {fu : Nat} {a1 : Int32} : ∀ n s, P s.2.1 s.2.2 → kq2 P (fX12_nodes_h73 fu a1 n s) := by
  intro n
  induction n with
  | zero => intro s _; exact kqN2
  | succ n ih =>
    intro s h
    show kq2 P (fX12_nodes_i73 fu a1 (fX12_nodes_h73 fu a1 n) s.1 s.2.1 s.2.2)
    exact y_fX12_nodes_i73 hC ih h
theorem y_fX12_nodes_b30 {P : mwM → mwL → Prop} (hC : CPrb P) {fu : Nat} {a1 : Int32} {s1 : Int32} {M : mwM} {L : mwL} (h : P M L) : kq2 P (fX12_nodes_b30 fu a1 s1 M L) := by
  unfold fX12_nodes_b30
  exact (kqM2_rb hC h (by omega) (fun M1 h1 => (kqI2 (kqM2_rb hC h1 (by omega) (fun M3 h2 => (kqM2_rb hC h2 (by omega) (fun M4 h3 => (kqM2_rb hC h3 (by omega) (fun M5 h4 => (kqM2_rb hC h4 (by omega) (fun M6 h5 => (kqM2_rb hC h5 (by omega) (fun M7 h6 => (kqM2_rb hC h6 (by omega) (fun M8 h7 => (y_fX12_nodes_h73 hC _ (0, M8, L) h7))))))))))))) (kqS2 h1))))
theorem y_DX12_nodes {P : mwM → mwL → Prop} (hC : CPrb P) {fu : Nat} {a1 : Int32} {M : mwM} {L : mwL} (h : P M L) : kq2 P (DX12_nodes fu a1 M L) := by
  unfold DX12_nodes
  exact (kqM2_rb hC h (by omega) (fun M21 h1 => (kqM2_rb hC h1 (by omega) (fun M22 h2 => (kqI2 (kqI2 (y_fX12_nodes_b30 hC h2) (y_fX12_nodes_b30 hC h2)) (y_fX12_nodes_b30 hC h2))))))
theorem y_fX12_octetsOf_b24 {P : mwM → mwL → Prop} (hC : CPrb P) {fu : Nat} {a1 : Int32} {a2 : Int32} {s0 : Int32} {M : mwM} {L : mwL} (h : P M L) : kq3 P (fX12_octetsOf_b24 fu a1 a2 s0 M L) := by
  unfold fX12_octetsOf_b24
  exact (kqS3 h)
theorem y_fX12_octetsOf_b103 {P : mwM → mwL → Prop} (hC : CPrb P) {fu : Nat} {a1 : Int32} {a2 : Int32} {s0 : Int32} {M : mwM} {L : mwL} (h : P M L) : kq3 P (fX12_octetsOf_b103 fu a1 a2 s0 M L) := by
  unfold fX12_octetsOf_b103
  exact (kqS3 h)
theorem y_DX12_octetsOf {P : mwM → mwL → Prop} (hC : CPrb P) {fu : Nat} {a1 : Int32} {a2 : Int32} {M : mwM} {L : mwL} (h : P M L) : kq3 P (DX12_octetsOf fu a1 a2 M L) := by
  unfold DX12_octetsOf
  exact (kqI3 (kqI3 (kqI3 (kqI3 (y_fX12_octetsOf_b103 hC h) (kqI3 (y_fX12_octetsOf_b103 hC h) (kqI3 (y_fX12_octetsOf_b103 hC h) (kqI3 (y_fX12_octetsOf_b103 hC h) (kqI3 (y_fX12_octetsOf_b103 hC h) (kqI3 (y_fX12_octetsOf_b103 hC h) (y_fX12_octetsOf_b103 hC h))))))) (y_fX12_octetsOf_b103 hC h)) (kqI3 (y_fX12_octetsOf_b24 hC h) (y_fX12_octetsOf_b24 hC h))) (kqS3 h))
theorem y_fX12_noNode_b17 {P : mwM → mwL → Prop} (hC : CPrb P) {fu : Nat} {a1 : Int32} {s0 : Int32} {M : mwM} {L : mwL} (h : P M L) : kq3 P (fX12_noNode_b17 fu a1 s0 M L) := by
  unfold fX12_noNode_b17
  exact (kq_mzz3 (kqS3 h))
theorem y_fX12_noNode_b12 {P : mwM → mwL → Prop} (hC : CPrb P) {fu : Nat} {a1 : Int32} {M : mwM} {L : mwL} (h : P M L) : kq3 P (fX12_noNode_b12 fu a1 M L) := by
  unfold fX12_noNode_b12
  exact (y_fX12_noNode_b17 hC h)
theorem y_DX12_noNode {P : mwM → mwL → Prop} (hC : CPrb P) {fu : Nat} {a1 : Int32} {M : mwM} {L : mwL} (h : P M L) : kq3 P (DX12_noNode fu a1 M L) := by
  unfold DX12_noNode
  exact (kqI3 (y_fX12_noNode_b12 hC h) (kqI3 (y_fX12_noNode_b17 hC h) (y_fX12_noNode_b12 hC h)))
theorem y_fX12_send_i154 {P : mwM → mwL → Prop} (hC : CPrb P) {fu : Nat} {a1 : Int32} {a2 : Int32} {a3 : Int32} {a4 : Int32} {r154 : (Int32 × mwM × mwL) → Option (Int32 × mwM × mwL)} {v6 : Int32} (hr154 : ∀ s, P s.2.1 s.2.2 → kq3 P (r154 s)) {M : mwM} {L : mwL} (h : P M L) : kq3 P (fX12_send_i154 fu a1 a2 a3 a4 r154 v6 M L) := by
  unfold fX12_send_i154
  exact (kqI3 (kqM3_rb hC h (by omega) (fun M21 h1 => (kqS3 h1))) (kqK3 (fun q2 => (kqM3_rb hC h (by omega) (fun M23 h3 => (kqL3 (fun x24 => (hr154 (x24, M23, L) h3))))))))
theorem y_fX12_send_h154 {P : mwM → mwL → Prop} (hC : CPrb P) {fu : Nat} {a1 : Int32} {a2 : Int32} {a3 : Int32} {a4 : Int32} : ∀ n s, P s.2.1 s.2.2 → kq3 P (fX12_send_h154 fu a1 a2 a3 a4 n s) := by
  intro n
  induction n with
  | zero => intro s _; exact kqN3
  | succ n ih =>
    intro s h
    show kq3 P (fX12_send_i154 fu a1 a2 a3 a4 (fX12_send_h154 fu a1 a2 a3 a4 n) s.1 s.2.1 s.2.2)
    exact y_fX12_send_i154 hC ih h
theorem y_fX12_send_b88 {P : mwM → mwL → Prop} (hC : CPrb P) {fu : Nat} {a1 : Int32} {a2 : Int32} {a3 : Int32} {a4 : Int32} {s1 : Int32} {M : mwM} {L : mwL} (h : P M L) : kq3 P (fX12_send_b88 fu a1 a2 a3 a4 s1 M L) := by
  unfold fX12_send_b88
  exact (kqM3_rb hC h (by omega) (fun M8 h1 => (kqI3 (kqK3 (fun q2 => (kqM3_rb hC h1 (by omega) (fun M11 h3 => (kqK3 (fun q4 => (kqM3_rb hC h3 (by omega) (fun M13 h5 => (kqK3 (fun q6 => (kqM3_rb hC h5 (by omega) (fun M15 h7 => (kqK3 (fun q8 => (kqM3_rb hC h7 (by omega) (fun M17 h9 => (kqK3 (fun q10 => (kqM3_rb hC h9 (by omega) (fun M19 h11 => (y_fX12_send_h154 hC _ (0, M19, L) h11))))))))))))))))))))) (kqS3 h1))))
theorem y_fX12_send_b49 {P : mwM → mwL → Prop} (hC : CPrb P) {fu : Nat} {a1 : Int32} {a2 : Int32} {a3 : Int32} {a4 : Int32} {s0 : Int32} {M : mwM} {L : mwL} (h : P M L) : kq3 P (fX12_send_b49 fu a1 a2 a3 a4 s0 M L) := by
  unfold fX12_send_b49
  exact (kqB33 (y_DX12_noNode hC h) (fun r4 M2 L3 h1 => (kqI3 (kqI3 (y_fX12_send_b88 hC h1) (kqI3 (y_fX12_send_b88 hC h1) (y_fX12_send_b88 hC h1))) (y_fX12_send_b88 hC h1))))
theorem y_fX12_send_b48 {P : mwM → mwL → Prop} (hC : CPrb P) {fu : Nat} {a1 : Int32} {a2 : Int32} {a3 : Int32} {a4 : Int32} {M : mwM} {L : mwL} (h : P M L) : kq3 P (fX12_send_b48 fu a1 a2 a3 a4 M L) := by
  unfold fX12_send_b48
  exact (y_fX12_send_b49 hC h)
theorem y_fX12_send_b41 {P : mwM → mwL → Prop} (hC : CPrb P) {fu : Nat} {a1 : Int32} {a2 : Int32} {a3 : Int32} {a4 : Int32} {s1 : Int32} {M : mwM} {L : mwL} (h : P M L) : kq3 P (fX12_send_b41 fu a1 a2 a3 a4 s1 M L) := by
  unfold fX12_send_b41
  exact (kqI3 (y_fX12_send_b48 hC h) (y_fX12_send_b49 hC h))
theorem y_DX12_send {P : mwM → mwL → Prop} (hC : CPrb P) {fu : Nat} {a1 : Int32} {a2 : Int32} {a3 : Int32} {a4 : Int32} {M : mwM} {L : mwL} (h : P M L) : kq3 P (DX12_send fu a1 a2 a3 a4 M L) := by
  unfold DX12_send
  exact (kqI3 (y_fX12_send_b48 hC h) (kqI3 (y_fX12_send_b48 hC h) (kqI3 (y_fX12_send_b48 hC h) (kqI3 (y_fX12_send_b48 hC h) (kqI3 (y_fX12_send_b48 hC h) (kqI3 (y_fX12_send_b41 hC h) (y_fX12_send_b41 hC h)))))))
theorem y_fX12_noFrame_b17 {P : mwM → mwL → Prop} (hC : CPrb P) {fu : Nat} {a1 : Int32} {s0 : Int32} {M : mwM} {L : mwL} (h : P M L) : kq3 P (fX12_noFrame_b17 fu a1 s0 M L) := by
  unfold fX12_noFrame_b17
  exact (kq_mzz3 (kqS3 h))
theorem y_fX12_noFrame_b12 {P : mwM → mwL → Prop} (hC : CPrb P) {fu : Nat} {a1 : Int32} {M : mwM} {L : mwL} (h : P M L) : kq3 P (fX12_noFrame_b12 fu a1 M L) := by
  unfold fX12_noFrame_b12
  exact (y_fX12_noFrame_b17 hC h)
theorem y_DX12_noFrame {P : mwM → mwL → Prop} (hC : CPrb P) {fu : Nat} {a1 : Int32} {M : mwM} {L : mwL} (h : P M L) : kq3 P (DX12_noFrame fu a1 M L) := by
  unfold DX12_noFrame
  exact (kqI3 (y_fX12_noFrame_b12 hC h) (kqI3 (y_fX12_noFrame_b17 hC h) (y_fX12_noFrame_b12 hC h)))
theorem y_fX12_octet_b126 {P : mwM → mwL → Prop} (hC : CPrb P) {fu : Nat} {a1 : Int32} {a2 : Int32} {a3 : Int32} {M : mwM} {L : mwL} (h : P M L) : kq2 P (fX12_octet_b126 fu a1 a2 a3 M L) := by
  unfold fX12_octet_b126
  exact (kqS2 h)
theorem y_fX12_octet_b104 {P : mwM → mwL → Prop} (hC : CPrb P) {fu : Nat} {a1 : Int32} {a2 : Int32} {a3 : Int32} {s1 : Int32} {M : mwM} {L : mwL} (h : P M L) : kq2 P (fX12_octet_b104 fu a1 a2 a3 s1 M L) := by
  unfold fX12_octet_b104
  exact (kqM2_rb hC h (by omega) (fun M1 h1 => (kqI2 (kqK2 (fun q2 => (kqM2_rb hC h1 (by omega) (fun M4 h3 => (y_fX12_octet_b126 hC h3))))) (y_fX12_octet_b126 hC h1))))
theorem y_fX12_octet_b18 {P : mwM → mwL → Prop} (hC : CPrb P) {fu : Nat} {a1 : Int32} {a2 : Int32} {a3 : Int32} {M : mwM} {L : mwL} (h : P M L) : kq2 P (fX12_octet_b18 fu a1 a2 a3 M L) := by
  unfold fX12_octet_b18
  exact (y_fX12_octet_b104 hC h)
theorem y_fX12_octet_b56 {P : mwM → mwL → Prop} (hC : CPrb P) {fu : Nat} {a1 : Int32} {a2 : Int32} {a3 : Int32} {M : mwM} {L : mwL} (h : P M L) : kq2 P (fX12_octet_b56 fu a1 a2 a3 M L) := by
  unfold fX12_octet_b56
  exact (y_fX12_octet_b104 hC h)
theorem y_fX12_octet_b99 {P : mwM → mwL → Prop} (hC : CPrb P) {fu : Nat} {a1 : Int32} {a2 : Int32} {a3 : Int32} {M : mwM} {L : mwL} (h : P M L) : kq2 P (fX12_octet_b99 fu a1 a2 a3 M L) := by
  unfold fX12_octet_b99
  exact (y_fX12_octet_b104 hC h)
theorem y_fX12_octet_b103 {P : mwM → mwL → Prop} (hC : CPrb P) {fu : Nat} {a1 : Int32} {a2 : Int32} {a3 : Int32} {M : mwM} {L : mwL} (h : P M L) : kq2 P (fX12_octet_b103 fu a1 a2 a3 M L) := by
  unfold fX12_octet_b103
  exact (y_fX12_octet_b104 hC h)
theorem y_DX12_octet {P : mwM → mwL → Prop} (hC : CPrb P) {fu : Nat} {a1 : Int32} {a2 : Int32} {a3 : Int32} {M : mwM} {L : mwL} (h : P M L) : kq2 P (DX12_octet fu a1 a2 a3 M L) := by
  unfold DX12_octet
  exact (kqM2_rb hC h (by omega) (fun M5 h1 => (kqB32 (y_DX12_noFrame hC h1) (fun r8 M6 L7 h2 => (kqI2 (kqI2 (kqK2 (fun q3 => (kqK2 (fun q4 => (kqB32 (y_DX12_octetsOf hC h2) (fun r15 M13 L14 h5 => (kqI2 (kqI2 (y_fX12_octet_b56 hC h5) (kqI2 (kqK2 (fun q6 => (kqI2 (kqK2 (fun q7 => (kqK2 (fun q8 => (kqI2 (kqK2 (fun q9 => (kqK2 (fun q10 => (kqI2 (y_fX12_octet_b99 hC h5) (y_fX12_octet_b103 hC h5)))))) (y_fX12_octet_b103 hC h5)))))) (y_fX12_octet_b99 hC h5)))) (y_fX12_octet_b56 hC h5))) (y_fX12_octet_b104 hC h5)))))))) (y_fX12_octet_b18 hC h2)) (y_fX12_octet_b18 hC h2))))))
theorem y_fX12_bits_i4 {P : mwM → mwL → Prop} (hC : CPrb P) {fu : Nat} {a1 : Int32} {a2 : Int32} {r4 : (Int32 × mwM × mwL) → Option (mwM × mwL)} {v3 : Int32} (hr4 : ∀ s, P s.2.1 s.2.2 → kq2 P (r4 s)) {M : mwM} {L : mwL} (h : P M L) : kq2 P (fX12_bits_i4 fu a1 a2 r4 v3 M L) := by
  unfold fX12_bits_i4
  exact (kqI2 (kqS2 h) (kqK2 (fun q1 => (kqM2_rb hC h (by omega) (fun M3 h2 => (kqM2_rb hC h2 (by omega) (fun M4 h3 => (kqL2 (fun x5 => (hr4 (x5, M4, L) h3))))))))))
theorem y_fX12_bits_h4 {P : mwM → mwL → Prop} (hC : CPrb P) {fu : Nat} {a1 : Int32} {a2 : Int32} : ∀ n s, P s.2.1 s.2.2 → kq2 P (fX12_bits_h4 fu a1 a2 n s) := by
  intro n
  induction n with
  | zero => intro s _; exact kqN2
  | succ n ih =>
    intro s h
    show kq2 P (fX12_bits_i4 fu a1 a2 (fX12_bits_h4 fu a1 a2 n) s.1 s.2.1 s.2.2)
    exact y_fX12_bits_i4 hC ih h
theorem y_DX12_bits {P : mwM → mwL → Prop} (hC : CPrb P) {fu : Nat} {a1 : Int32} {a2 : Int32} {M : mwM} {L : mwL} (h : P M L) : kq2 P (DX12_bits fu a1 a2 M L) := by
  unfold DX12_bits
  exact (kqL2 (fun x6 => (y_fX12_bits_h4 hC _ (x6, M, L) h)))
theorem y_fX12_writePlain_i201 {P : mwM → mwL → Prop} (hC : CPrb P) {fu : Nat} {a1 : Int32} {r201 : (Int32 × mwM × mwL) → Option (mwM × mwL)} {v5 : Int32} (hr201 : ∀ s, P s.2.1 s.2.2 → kq2 P (r201 s)) {M : mwM} {L : mwL} (h : P M L) : kq2 P (fX12_writePlain_i201 fu a1 r201 v5 M L) := by
  unfold fX12_writePlain_i201
  exact (kqK2 (fun q1 => (kqK2 (fun q2 => (kqB32 (y_DX12_octetsOf hC h) (fun r42 M40 L41 h3 => (kqI2 (kqS2 h3) (kqK2 (fun q4 => (kqB22 (y_DX12_bits hC h3) (fun M45 L46 h5 => (kqL2 (fun x47 => (hr201 (x47, M45, L46) h5))))))))))))))
theorem y_fX12_writePlain_h201 {P : mwM → mwL → Prop} (hC : CPrb P) {fu : Nat} {a1 : Int32} : ∀ n s, P s.2.1 s.2.2 → kq2 P (fX12_writePlain_h201 fu a1 n s) := by
  intro n
  induction n with
  | zero => intro s _; exact kqN2
  | succ n ih =>
    intro s h
    show kq2 P (fX12_writePlain_i201 fu a1 (fX12_writePlain_h201 fu a1 n) s.1 s.2.1 s.2.2)
    exact y_fX12_writePlain_i201 hC ih h
theorem y_fX12_writePlain_b187 {P : mwM → mwL → Prop} (hC : CPrb P) {fu : Nat} {a1 : Int32} {M : mwM} {L : mwL} (h : P M L) : kq2 P (fX12_writePlain_b187 fu a1 M L) := by
  unfold fX12_writePlain_b187
  exact (kqK2 (fun q1 => (kqB22 (y_DX12_bits hC h) (fun M36 L37 h2 => (y_fX12_writePlain_h201 hC _ (0, M36, L37) h2)))))
theorem y_fX12_writePlain_b184 {P : mwM → mwL → Prop} (hC : CPrb P) {fu : Nat} {a1 : Int32} {s1 : Int32} {s2 : Int32} {M : mwM} {L : mwL} (h : P M L) : kq2 P (fX12_writePlain_b184 fu a1 s1 s2 M L) := by
  unfold fX12_writePlain_b184
  exact (kqB22 (y_DX12_bits hC h) (fun M33 L34 h1 => (y_fX12_writePlain_b187 hC h1)))
theorem y_fX12_writePlain_b159 {P : mwM → mwL → Prop} (hC : CPrb P) {fu : Nat} {a1 : Int32} {v2 : Int32} {v3 : Int32} {M : mwM} {L : mwL} (h : P M L) : kq2 P (fX12_writePlain_b159 fu a1 v2 v3 M L) := by
  unfold fX12_writePlain_b159
  exact (kqI2 (kqI2 (y_fX12_writePlain_b184 hC h) (y_fX12_writePlain_b184 hC h)) (kqB22 (y_DX12_bits hC h) (fun M31 L32 h1 => (y_fX12_writePlain_b187 hC h1))))
theorem y_fX12_writePlain_b100 {P : mwM → mwL → Prop} (hC : CPrb P) {fu : Nat} {a1 : Int32} {v2 : Int32} {v3 : Int32} {v4 : Int32} {s1 : Int32} {M : mwM} {L : mwL} (h : P M L) : kq2 P (fX12_writePlain_b100 fu a1 v2 v3 v4 s1 M L) := by
  unfold fX12_writePlain_b100
  exact (kqB22 (y_DX12_bits hC h) (fun M13 L14 h1 => (kqI2 (kqB22 (y_DX12_bits hC h1) (fun M16 L17 h2 => (kqB22 (y_DX12_bits hC h2) (fun M18 L19 h3 => (y_fX12_writePlain_b159 hC h3))))) (kqB22 (y_DX12_bits hC h1) (fun M20 L21 h4 => (kqB22 (y_DX12_bits hC h4) (fun M22 L23 h5 => (kqK2 (fun q6 => (kqB22 (y_DX12_bits hC h5) (fun M25 L26 h7 => (kqB22 (y_DX12_bits hC h7) (fun M27 L28 h8 => (y_fX12_writePlain_b159 hC h8))))))))))))))
theorem y_fX12_writePlain_b64 {P : mwM → mwL → Prop} (hC : CPrb P) {fu : Nat} {a1 : Int32} {v2 : Int32} {v3 : Int32} {s0 : Int32} {M : mwM} {L : mwL} (h : P M L) : kq2 P (fX12_writePlain_b64 fu a1 v2 v3 s0 M L) := by
  unfold fX12_writePlain_b64
  exact (kqM2_rb hC h (by omega) (fun M7 h1 => (kqB22 (y_DX12_bits hC h1) (fun M8 L9 h2 => (kqI2 (kqK2 (fun q3 => (y_fX12_writePlain_b100 hC h2))) (kqK2 (fun q4 => (y_fX12_writePlain_b100 hC h2))))))))
theorem y_fX12_writePlain_b48 {P : mwM → mwL → Prop} (hC : CPrb P) {fu : Nat} {a1 : Int32} {v2 : Int32} {s0 : Int32} {M : mwM} {L : mwL} (h : P M L) : kq2 P (fX12_writePlain_b48 fu a1 v2 s0 M L) := by
  unfold fX12_writePlain_b48
  exact (kqK2 (fun q1 => (kqI2 (y_fX12_writePlain_b64 hC h) (y_fX12_writePlain_b64 hC h))))
theorem y_fX12_writePlain_b43 {P : mwM → mwL → Prop} (hC : CPrb P) {fu : Nat} {a1 : Int32} {v2 : Int32} {M : mwM} {L : mwL} (h : P M L) : kq2 P (fX12_writePlain_b43 fu a1 v2 M L) := by
  unfold fX12_writePlain_b43
  exact (y_fX12_writePlain_b48 hC h)
theorem y_fX12_writePlain_b22 {P : mwM → mwL → Prop} (hC : CPrb P) {fu : Nat} {a1 : Int32} {s0 : Int32} {M : mwM} {L : mwL} (h : P M L) : kq2 P (fX12_writePlain_b22 fu a1 s0 M L) := by
  unfold fX12_writePlain_b22
  exact (kqK2 (fun q1 => (kqI2 (y_fX12_writePlain_b43 hC h) (kqK2 (fun q2 => (kqI2 (y_fX12_writePlain_b43 hC h) (y_fX12_writePlain_b48 hC h)))))))
theorem y_DX12_writePlain {P : mwM → mwL → Prop} (hC : CPrb P) {fu : Nat} {a1 : Int32} {M : mwM} {L : mwL} (h : P M L) : kq2 P (DX12_writePlain fu a1 M L) := by
  unfold DX12_writePlain
  exact (kqM2_rb hC h (by omega) (fun M48 h1 => (kqK2 (fun q2 => (kqI2 (y_fX12_writePlain_b22 hC h1) (y_fX12_writePlain_b22 hC h1))))))
theorem y_fX12_checkOf_b89 {P : mwM → mwL → Prop} (hC : CPrb P) {fu : Nat} {a1 : Int32} {r48 : (Int32 × Int32 × Int32 × Int32 × mwM × mwL) → Option (Int32 × mwM × mwL)} {v2 : Int32} {v3 : Int32} {v4 : Int32} {v5 : Int32} (hr48 : ∀ s, P s.2.2.2.2.1 s.2.2.2.2.2 → kq3 P (r48 s)) {M : mwM} {L : mwL} (h : P M L) : kq3 P (fX12_checkOf_b89 fu a1 r48 v2 v3 v4 v5 M L) := by
  unfold fX12_checkOf_b89
  exact (kqL3 (fun x11 => (hr48 (v2, v3, v4, x11, M, L) h)))
theorem y_fX12_checkOf_i48 {P : mwM → mwL → Prop} (hC : CPrb P) {fu : Nat} {a1 : Int32} {r48 : (Int32 × Int32 × Int32 × Int32 × mwM × mwL) → Option (Int32 × mwM × mwL)} {v2 : Int32} {v3 : Int32} {v4 : Int32} {v5 : Int32} (hr48 : ∀ s, P s.2.2.2.2.1 s.2.2.2.2.2 → kq3 P (r48 s)) {M : mwM} {L : mwL} (h : P M L) : kq3 P (fX12_checkOf_i48 fu a1 r48 v2 v3 v4 v5 M L) := by
  unfold fX12_checkOf_i48
  exact (kqI3 (kqS3 h) (kq_mnz3 (kqL3 (fun x5 => (kq_mnz3 (kqL3 (fun x7 => (kqK3 (fun q1 => (kqI3 (y_fX12_checkOf_b89 hC hr48 h) (kqL3 (fun x10 => (y_fX12_checkOf_b89 hC hr48 h)))))))))))))
theorem y_fX12_checkOf_h48 {P : mwM → mwL → Prop} (hC : CPrb P) {fu : Nat} {a1 : Int32} : ∀ n s, P s.2.2.2.2.1 s.2.2.2.2.2 → kq3 P (fX12_checkOf_h48 fu a1 n s) := by
  intro n
  induction n with
  | zero => intro s _; exact kqN3
  | succ n ih =>
    intro s h
    show kq3 P (fX12_checkOf_i48 fu a1 (fX12_checkOf_h48 fu a1 n) s.1 s.2.1 s.2.2.1 s.2.2.2.1 s.2.2.2.2.1 s.2.2.2.2.2)
    exact y_fX12_checkOf_i48 hC ih h
theorem y_fX12_checkOf_b43 {P : mwM → mwL → Prop} (hC : CPrb P) {fu : Nat} {a1 : Int32} {v2 : Int32} {v3 : Int32} {s0 : Int32} {M : mwM} {L : mwL} (h : P M L) : kq3 P (fX12_checkOf_b43 fu a1 v2 v3 s0 M L) := by
  unfold fX12_checkOf_b43
  exact (y_fX12_checkOf_h48 hC _ (v2, v3, s0, 0, M, L) h)
theorem y_fX12_checkOf_b25 {P : mwM → mwL → Prop} (hC : CPrb P) {fu : Nat} {a1 : Int32} {s0 : Int32} {M : mwM} {L : mwL} (h : P M L) : kq3 P (fX12_checkOf_b25 fu a1 s0 M L) := by
  unfold fX12_checkOf_b25
  exact (kqL3 (fun x1 => (kqI3 (y_fX12_checkOf_b43 hC h) (y_fX12_checkOf_b43 hC h))))
theorem y_DX12_checkOf {P : mwM → mwL → Prop} (hC : CPrb P) {fu : Nat} {a1 : Int32} {M : mwM} {L : mwL} (h : P M L) : kq3 P (DX12_checkOf fu a1 M L) := by
  unfold DX12_checkOf
  exact (kqI3 (y_fX12_checkOf_b25 hC h) (kqI3 (y_fX12_checkOf_b25 hC h) (y_fX12_checkOf_b25 hC h)))
theorem y_DX12_check {P : mwM → mwL → Prop} (hC : CPrb P) {fu : Nat} {a1 : Int32} {M : mwM} {L : mwL} (h : P M L) : kq2 P (DX12_check fu a1 M L) := by
  unfold DX12_check
  exact (kqK2 (fun q1 => (kqM2_rb hC h (by omega) (fun M2 h2 => (kqM2_rb hC h2 (by omega) (fun M3 h3 => (kqS2 h3)))))))
theorem y_DX12_put {P : mwM → mwL → Prop} (hC : CPrb P) {fu : Nat} {a1 : Int32} {a2 : Int32} {M : mwM} {L : mwL} (h : P M L) : kq2 P (DX12_put fu a1 a2 M L) := by
  unfold DX12_put
  exact (kqK2 (fun q1 => (kqM2_rb hC h (by omega) (fun M2 h2 => (kqK2 (fun q3 => (kqM2_rb hC h2 (by omega) (fun M4 h4 => (kqM2_rb hC h4 (by omega) (fun M5 h5 => (kqS2 h5)))))))))))
theorem y_fX12_five_b63 {P : mwM → mwL → Prop} (hC : CPrb P) {fu : Nat} {s0 : Int32} {M : mwM} {L : mwL} (h : P M L) : kq3 P (fX12_five_b63 fu s0 M L) := by
  unfold fX12_five_b63
  exact (kq_mzz3 (kqS3 h))
theorem y_fX12_five_b53 {P : mwM → mwL → Prop} (hC : CPrb P) {fu : Nat} {v1 : Int32} {M : mwM} {L : mwL} (h : P M L) : kq3 P (fX12_five_b53 fu v1 M L) := by
  unfold fX12_five_b53
  exact (kqI3 (y_fX12_five_b63 hC h) (y_fX12_five_b63 hC h))
theorem y_fX12_five_i9 {P : mwM → mwL → Prop} (hC : CPrb P) {fu : Nat} {r9 : (Int32 × Int32 × mwM × mwL) → Option (Int32 × mwM × mwL)} {v1 : Int32} {v2 : Int32} (hr9 : ∀ s, P s.2.2.1 s.2.2.2 → kq3 P (r9 s)) {M : mwM} {L : mwL} (h : P M L) : kq3 P (fX12_five_i9 fu r9 v1 v2 M L) := by
  unfold fX12_five_i9
  exact (kqI3 (y_fX12_five_b53 hC h) (kqK3 (fun q1 => (kqK3 (fun q2 => (kqI3 (kqK3 (fun q3 => (kqI3 (kqI3 (y_fX12_five_b53 hC h) (kqL3 (fun x8 => (kqL3 (fun x9 => (hr9 (x8, x9, M, L) h)))))) (y_fX12_five_b53 hC h)))) (y_fX12_five_b53 hC h)))))))
theorem y_fX12_five_h9 {P : mwM → mwL → Prop} (hC : CPrb P) {fu : Nat} : ∀ n s, P s.2.2.1 s.2.2.2 → kq3 P (fX12_five_h9 fu n s) := by
  intro n
  induction n with
  | zero => intro s _; exact kqN3
  | succ n ih =>
    intro s h
    show kq3 P (fX12_five_i9 fu (fX12_five_h9 fu n) s.1 s.2.1 s.2.2.1 s.2.2.2)
    exact y_fX12_five_i9 hC ih h
theorem y_DX12_five {P : mwM → mwL → Prop} (hC : CPrb P) {fu : Nat} {M : mwM} {L : mwL} (h : P M L) : kq3 P (DX12_five fu M L) := by
  unfold DX12_five
  exact (kqL3 (fun x12 => (y_fX12_five_h9 hC _ (1, x12, M, L) h)))
theorem y_DX12_parity {P : mwM → mwL → Prop} (hC : CPrb P) {fu : Nat} {a1 : Int32} {M : mwM} {L : mwL} (h : P M L) : kq3 P (DX12_parity fu a1 M L) := by
  unfold DX12_parity
  exact (kqS3 h)
theorem y_DX12_countOf {P : mwM → mwL → Prop} (hC : CPrb P) {fu : Nat} {a1 : Int32} {M : mwM} {L : mwL} (h : P M L) : kq3 P (DX12_countOf fu a1 M L) := by
  unfold DX12_countOf
  exact (kqL3 (fun x2 => (kqL3 (fun x4 => (kqB33 (y_DX12_parity hC h) (fun r7 M5 L6 h1 => (kqS3 h1)))))))
theorem y_fX12_writeTail_b91 {P : mwM → mwL → Prop} (hC : CPrb P) {fu : Nat} {a1 : Int32} {a2 : Int32} {r30 : (Int32 × Int32 × mwM × mwL) → Option (mwM × mwL)} {v3 : Int32} {v4 : Int32} {s1 : Int32} (hr30 : ∀ s, P s.2.2.1 s.2.2.2 → kq2 P (r30 s)) {M : mwM} {L : mwL} (h : P M L) : kq2 P (fX12_writeTail_b91 fu a1 a2 r30 v3 v4 s1 M L) := by
  unfold fX12_writeTail_b91
  exact (kqB22 (y_DX12_put hC h) (fun M15 L16 h1 => (kqL2 (fun x17 => (hr30 (v3, x17, M15, L16) h1)))))
theorem y_fX12_writeTail_b63 {P : mwM → mwL → Prop} (hC : CPrb P) {fu : Nat} {a1 : Int32} {a2 : Int32} {r30 : (Int32 × Int32 × mwM × mwL) → Option (mwM × mwL)} {v3 : Int32} {v4 : Int32} (hr30 : ∀ s, P s.2.2.1 s.2.2.2 → kq2 P (r30 s)) {M : mwM} {L : mwL} (h : P M L) : kq2 P (fX12_writeTail_b63 fu a1 a2 r30 v3 v4 M L) := by
  unfold fX12_writeTail_b63
  exact (kqI2 (y_fX12_writeTail_b91 hC hr30 h) (y_fX12_writeTail_b91 hC hr30 h))
theorem y_fX12_writeTail_i30 {P : mwM → mwL → Prop} (hC : CPrb P) {fu : Nat} {a1 : Int32} {a2 : Int32} {r30 : (Int32 × Int32 × mwM × mwL) → Option (mwM × mwL)} {v3 : Int32} {v4 : Int32} (hr30 : ∀ s, P s.2.2.1 s.2.2.2 → kq2 P (r30 s)) {M : mwM} {L : mwL} (h : P M L) : kq2 P (fX12_writeTail_i30 fu a1 a2 r30 v3 v4 M L) := by
  unfold fX12_writeTail_i30
  exact (kqI2 (kqS2 h) (kqI2 (kqK2 (fun q1 => (kqB22 (y_DX12_put hC h) (fun M12 L13 h2 => (y_fX12_writeTail_b63 hC hr30 h2))))) (y_fX12_writeTail_b63 hC hr30 h)))
theorem y_fX12_writeTail_h30 {P : mwM → mwL → Prop} (hC : CPrb P) {fu : Nat} {a1 : Int32} {a2 : Int32} : ∀ n s, P s.2.2.1 s.2.2.2 → kq2 P (fX12_writeTail_h30 fu a1 a2 n s) := by
  intro n
  induction n with
  | zero => intro s _; exact kqN2
  | succ n ih =>
    intro s h
    show kq2 P (fX12_writeTail_i30 fu a1 a2 (fX12_writeTail_h30 fu a1 a2 n) s.1 s.2.1 s.2.2.1 s.2.2.2)
    exact y_fX12_writeTail_i30 hC ih h
theorem y_fX12_writeTail_i2 {P : mwM → mwL → Prop} (hC : CPrb P) {fu : Nat} {a1 : Int32} {a2 : Int32} {r2 : (Int32 × mwM × mwL) → Option (mwM × mwL)} {v3 : Int32} (hr2 : ∀ s, P s.2.1 s.2.2 → kq2 P (r2 s)) {M : mwM} {L : mwL} (h : P M L) : kq2 P (fX12_writeTail_i2 fu a1 a2 r2 v3 M L) := by
  unfold fX12_writeTail_i2
  exact (kqI2 (kqB32 (y_DX12_checkOf hC h) (fun r4 M2 L3 h1 => (y_fX12_writeTail_h30 hC _ (r4, 0, M2, L3) h1))) (kqB22 (y_DX12_check hC h) (fun M5 L6 h2 => (kqL2 (fun x7 => (hr2 (x7, M5, L6) h2))))))
theorem y_fX12_writeTail_h2 {P : mwM → mwL → Prop} (hC : CPrb P) {fu : Nat} {a1 : Int32} {a2 : Int32} : ∀ n s, P s.2.1 s.2.2 → kq2 P (fX12_writeTail_h2 fu a1 a2 n s) := by
  intro n
  induction n with
  | zero => intro s _; exact kqN2
  | succ n ih =>
    intro s h
    show kq2 P (fX12_writeTail_i2 fu a1 a2 (fX12_writeTail_h2 fu a1 a2 n) s.1 s.2.1 s.2.2)
    exact y_fX12_writeTail_i2 hC ih h
theorem y_DX12_writeTail {P : mwM → mwL → Prop} (hC : CPrb P) {fu : Nat} {a1 : Int32} {a2 : Int32} {M : mwM} {L : mwL} (h : P M L) : kq2 P (DX12_writeTail fu a1 a2 M L) := by
  unfold DX12_writeTail
  exact (y_fX12_writeTail_h2 hC _ (3, M, L) h)
theorem y_fX12_writeAnew_i292 {P : mwM → mwL → Prop} (hC : CPrb P) {fu : Nat} {a1 : Int32} {r292 : (Int32 × mwM × mwL) → Option (mwM × mwL)} {v8 : Int32} (hr292 : ∀ s, P s.2.1 s.2.2 → kq2 P (r292 s)) {M : mwM} {L : mwL} (h : P M L) : kq2 P (fX12_writeAnew_i292 fu a1 r292 v8 M L) := by
  unfold fX12_writeAnew_i292
  exact (kqI2 (kqS2 h) (kqB22 (y_DX12_put hC h) (fun M56 L57 h1 => (kqL2 (fun x58 => (hr292 (x58, M56, L57) h1))))))
theorem y_fX12_writeAnew_h292 {P : mwM → mwL → Prop} (hC : CPrb P) {fu : Nat} {a1 : Int32} : ∀ n s, P s.2.1 s.2.2 → kq2 P (fX12_writeAnew_h292 fu a1 n s) := by
  intro n
  induction n with
  | zero => intro s _; exact kqN2
  | succ n ih =>
    intro s h
    show kq2 P (fX12_writeAnew_i292 fu a1 (fX12_writeAnew_h292 fu a1 n) s.1 s.2.1 s.2.2)
    exact y_fX12_writeAnew_i292 hC ih h
theorem y_fX12_writeAnew_b289 {P : mwM → mwL → Prop} (hC : CPrb P) {fu : Nat} {a1 : Int32} {M : mwM} {L : mwL} (h : P M L) : kq2 P (fX12_writeAnew_b289 fu a1 M L) := by
  unfold fX12_writeAnew_b289
  exact (y_fX12_writeAnew_h292 hC _ (0, M, L) h)
theorem y_fX12_writeAnew_b268 {P : mwM → mwL → Prop} (hC : CPrb P) {fu : Nat} {a1 : Int32} {r165 : (Int32 × Int32 × Int32 × Int32 × Int32 × Int32 × mwM × mwL) → Option (mwM × mwL)} {v2 : Int32} {v3 : Int32} {v4 : Int32} {v5 : Int32} {v7 : Int32} {v8 : Int32} (hr165 : ∀ s, P s.2.2.2.2.2.2.1 s.2.2.2.2.2.2.2 → kq2 P (r165 s)) {M : mwM} {L : mwL} (h : P M L) : kq2 P (fX12_writeAnew_b268 fu a1 r165 v2 v3 v4 v5 v7 v8 M L) := by
  unfold fX12_writeAnew_b268
  exact (kqL2 (fun x54 => (hr165 (v2, v3, v4, v5, v7, x54, M, L) h)))
theorem y_fX12_writeAnew_b238 {P : mwM → mwL → Prop} (hC : CPrb P) {fu : Nat} {a1 : Int32} {r165 : (Int32 × Int32 × Int32 × Int32 × Int32 × Int32 × mwM × mwL) → Option (mwM × mwL)} {v2 : Int32} {v3 : Int32} {v4 : Int32} {v5 : Int32} {v7 : Int32} {v8 : Int32} (hr165 : ∀ s, P s.2.2.2.2.2.2.1 s.2.2.2.2.2.2.2 → kq2 P (r165 s)) {M : mwM} {L : mwL} (h : P M L) : kq2 P (fX12_writeAnew_b238 fu a1 r165 v2 v3 v4 v5 v7 v8 M L) := by
  unfold fX12_writeAnew_b238
  exact (kqK2 (fun q1 => (kqB22 (y_DX12_put hC h) (fun M48 L49 h2 => (kqK2 (fun q3 => (kqB22 (y_DX12_check hC h2) (fun M51 L52 h4 => (kqL2 (fun x53 => (y_fX12_writeAnew_b268 hC hr165 h4)))))))))))
theorem y_fX12_writeAnew_b215 {P : mwM → mwL → Prop} (hC : CPrb P) {fu : Nat} {a1 : Int32} {r165 : (Int32 × Int32 × Int32 × Int32 × Int32 × Int32 × mwM × mwL) → Option (mwM × mwL)} {v2 : Int32} {v3 : Int32} {v4 : Int32} {v5 : Int32} {v7 : Int32} {v8 : Int32} {s1 : Int32} (hr165 : ∀ s, P s.2.2.2.2.2.2.1 s.2.2.2.2.2.2.2 → kq2 P (r165 s)) {M : mwM} {L : mwL} (h : P M L) : kq2 P (fX12_writeAnew_b215 fu a1 r165 v2 v3 v4 v5 v7 v8 s1 M L) := by
  unfold fX12_writeAnew_b215
  exact (kqM2_rb hC h (by omega) (fun M40 h1 => (kqB32 (y_DX12_five hC h1) (fun r43 M41 L42 h2 => (kqI2 (y_fX12_writeAnew_b268 hC hr165 h2) (kqI2 (y_fX12_writeAnew_b238 hC hr165 h2) (kqI2 (y_fX12_writeAnew_b268 hC hr165 h2) (y_fX12_writeAnew_b238 hC hr165 h2))))))))
theorem y_fX12_writeAnew_i165 {P : mwM → mwL → Prop} (hC : CPrb P) {fu : Nat} {a1 : Int32} {r165 : (Int32 × Int32 × Int32 × Int32 × Int32 × Int32 × mwM × mwL) → Option (mwM × mwL)} {v2 : Int32} {v3 : Int32} {v4 : Int32} {v5 : Int32} {v7 : Int32} {v8 : Int32} (hr165 : ∀ s, P s.2.2.2.2.2.2.1 s.2.2.2.2.2.2.2 → kq2 P (r165 s)) {M : mwM} {L : mwL} (h : P M L) : kq2 P (fX12_writeAnew_i165 fu a1 r165 v2 v3 v4 v5 v7 v8 M L) := by
  unfold fX12_writeAnew_i165
  exact (kqI2 (kqI2 (y_fX12_writeAnew_b289 hC h) (kqB32 (y_DX12_countOf hC h) (fun r30 M28 L29 h1 => (kqB22 (y_DX12_writeTail hC h1) (fun M31 L32 h2 => (y_fX12_writeAnew_b289 hC h2)))))) (kqK2 (fun q3 => (kqB22 (y_DX12_put hC h) (fun M34 L35 h4 => (kqK2 (fun q5 => (kqB22 (y_DX12_check hC h4) (fun M37 L38 h6 => (kqI2 (y_fX12_writeAnew_b215 hC hr165 h6) (y_fX12_writeAnew_b215 hC hr165 h6)))))))))))
theorem y_fX12_writeAnew_h165 {P : mwM → mwL → Prop} (hC : CPrb P) {fu : Nat} {a1 : Int32} : ∀ n s, P s.2.2.2.2.2.2.1 s.2.2.2.2.2.2.2 → kq2 P (fX12_writeAnew_h165 fu a1 n s) := by
  intro n
  induction n with
  | zero => intro s _; exact kqN2
  | succ n ih =>
    intro s h
    show kq2 P (fX12_writeAnew_i165 fu a1 (fX12_writeAnew_h165 fu a1 n) s.1 s.2.1 s.2.2.1 s.2.2.2.1 s.2.2.2.2.1 s.2.2.2.2.2.1 s.2.2.2.2.2.2.1 s.2.2.2.2.2.2.2)
    exact y_fX12_writeAnew_i165 hC ih h
theorem y_fX12_writeAnew_b162 {P : mwM → mwL → Prop} (hC : CPrb P) {fu : Nat} {a1 : Int32} {v2 : Int32} {v3 : Int32} {v4 : Int32} {v5 : Int32} {v7 : Int32} {M : mwM} {L : mwL} (h : P M L) : kq2 P (fX12_writeAnew_b162 fu a1 v2 v3 v4 v5 v7 M L) := by
  unfold fX12_writeAnew_b162
  exact (y_fX12_writeAnew_h165 hC _ (v2, v3, v4, v5, v7, 0, M, L) h)
theorem y_fX12_writeAnew_i105 {P : mwM → mwL → Prop} (hC : CPrb P) {fu : Nat} {a1 : Int32} {r105 : (Int32 × Int32 × Int32 × Int32 × Int32 × mwM × mwL) → Option (mwM × mwL)} {v2 : Int32} {v3 : Int32} {v4 : Int32} {v5 : Int32} {v6 : Int32} (hr105 : ∀ s, P s.2.2.2.2.2.1 s.2.2.2.2.2.2 → kq2 P (r105 s)) {M : mwM} {L : mwL} (h : P M L) : kq2 P (fX12_writeAnew_i105 fu a1 r105 v2 v3 v4 v5 v6 M L) := by
  unfold fX12_writeAnew_i105
  exact (kqI2 (kqB32 (y_DX12_checkOf hC h) (fun r16 M14 L15 h1 => (kqM2_rb hC h1 (by omega) (fun M17 h2 => (kqL2 (fun x18 => (kqI2 (kqB22 (y_DX12_bits hC h2) (fun M20 L21 h3 => (y_fX12_writeAnew_b162 hC h3))) (y_fX12_writeAnew_b162 hC h2)))))))) (kqK2 (fun q4 => (kqB22 (y_DX12_check hC h) (fun M23 L24 h5 => (kqL2 (fun x25 => (hr105 (v2, v3, v4, v5, x25, M23, L24) h5))))))))
theorem y_fX12_writeAnew_h105 {P : mwM → mwL → Prop} (hC : CPrb P) {fu : Nat} {a1 : Int32} : ∀ n s, P s.2.2.2.2.2.1 s.2.2.2.2.2.2 → kq2 P (fX12_writeAnew_h105 fu a1 n s) := by
  intro n
  induction n with
  | zero => intro s _; exact kqN2
  | succ n ih =>
    intro s h
    show kq2 P (fX12_writeAnew_i105 fu a1 (fX12_writeAnew_h105 fu a1 n) s.1 s.2.1 s.2.2.1 s.2.2.2.1 s.2.2.2.2.1 s.2.2.2.2.2.1 s.2.2.2.2.2.2)
    exact y_fX12_writeAnew_i105 hC ih h
theorem y_fX12_writeAnew_b87 {P : mwM → mwL → Prop} (hC : CPrb P) {fu : Nat} {a1 : Int32} {v2 : Int32} {v3 : Int32} {s0 : Int32} {M : mwM} {L : mwL} (h : P M L) : kq2 P (fX12_writeAnew_b87 fu a1 v2 v3 s0 M L) := by
  unfold fX12_writeAnew_b87
  exact (kqM2_rb hC h (by omega) (fun M11 h1 => (kqM2_rb hC h1 (by omega) (fun M12 h2 => (y_fX12_writeAnew_h105 hC _ (v2, v3, s0, 0, 0, M12, L) h2)))))
theorem y_fX12_writeAnew_b50 {P : mwM → mwL → Prop} (hC : CPrb P) {fu : Nat} {a1 : Int32} {v2 : Int32} {s0 : Int32} {M : mwM} {L : mwL} (h : P M L) : kq2 P (fX12_writeAnew_b50 fu a1 v2 s0 M L) := by
  unfold fX12_writeAnew_b50
  exact (kqI2 (y_fX12_writeAnew_b87 hC h) (kqK2 (fun q1 => (kqK2 (fun q2 => (kqB32 (y_DX12_octetsOf hC h) (fun r9 M7 L8 h3 => (kqI2 (y_fX12_writeAnew_b87 hC h3) (y_fX12_writeAnew_b87 hC h3)))))))))
theorem y_fX12_writeAnew_b30 {P : mwM → mwL → Prop} (hC : CPrb P) {fu : Nat} {a1 : Int32} {s0 : Int32} {M : mwM} {L : mwL} (h : P M L) : kq2 P (fX12_writeAnew_b30 fu a1 s0 M L) := by
  unfold fX12_writeAnew_b30
  exact (kqK2 (fun q1 => (kqI2 (y_fX12_writeAnew_b50 hC h) (y_fX12_writeAnew_b50 hC h))))
theorem y_fX12_writeAnew_b25 {P : mwM → mwL → Prop} (hC : CPrb P) {fu : Nat} {a1 : Int32} {M : mwM} {L : mwL} (h : P M L) : kq2 P (fX12_writeAnew_b25 fu a1 M L) := by
  unfold fX12_writeAnew_b25
  exact (y_fX12_writeAnew_b30 hC h)
theorem y_DX12_writeAnew {P : mwM → mwL → Prop} (hC : CPrb P) {fu : Nat} {a1 : Int32} {M : mwM} {L : mwL} (h : P M L) : kq2 P (DX12_writeAnew fu a1 M L) := by
  unfold DX12_writeAnew
  exact (kqB22 (y_DX12_writePlain hC h) (fun M59 L60 h1 => (kqK2 (fun q2 => (kqI2 (y_fX12_writeAnew_b25 hC h1) (kqK2 (fun q3 => (kqI2 (y_fX12_writeAnew_b25 hC h1) (y_fX12_writeAnew_b30 hC h1)))))))))
theorem y_fX12_write_b13 {P : mwM → mwL → Prop} (hC : CPrb P) {fu : Nat} {a1 : Int32} {M : mwM} {L : mwL} (h : P M L) : kq2 P (fX12_write_b13 fu a1 M L) := by
  unfold fX12_write_b13
  exact (kqM2_rb hC h (by omega) (fun M1 h1 => (kqS2 h1)))
theorem y_DX12_write {P : mwM → mwL → Prop} (hC : CPrb P) {fu : Nat} {a1 : Int32} {M : mwM} {L : mwL} (h : P M L) : kq2 P (DX12_write fu a1 M L) := by
  unfold DX12_write
  exact (kqI2 (y_fX12_write_b13 hC h) (kqB22 (y_DX12_writeAnew hC h) (fun M3 L4 h1 => (y_fX12_write_b13 hC h1))))
theorem y_fX12_first_b184 {P : mwM → mwL → Prop} (hC : CPrb P) {fu : Nat} {a1 : Int32} {r7 : (Int32 × Int32 × Int32 × mwM × mwL) → Option (Int32 × mwM × mwL)} {v2 : Int32} {v3 : Int32} {v4 : Int32} (hr7 : ∀ s, P s.2.2.2.1 s.2.2.2.2 → kq3 P (r7 s)) {M : mwM} {L : mwL} (h : P M L) : kq3 P (fX12_first_b184 fu a1 r7 v2 v3 v4 M L) := by
  unfold fX12_first_b184
  exact (kqL3 (fun x28 => (hr7 (v2, v3, x28, M, L) h)))
theorem y_fX12_first_i155 {P : mwM → mwL → Prop} (hC : CPrb P) {fu : Nat} {a1 : Int32} {r7 : (Int32 × Int32 × Int32 × mwM × mwL) → Option (Int32 × mwM × mwL)} {r155 : (Int32 × Int32 × Int32 × Int32 × mwM × mwL) → Option (Int32 × mwM × mwL)} {v2 : Int32} {v3 : Int32} {v4 : Int32} {v7 : Int32} (hr7 : ∀ s, P s.2.2.2.1 s.2.2.2.2 → kq3 P (r7 s)) (hr155 : ∀ s, P s.2.2.2.2.1 s.2.2.2.2.2 → kq3 P (r155 s)) {M : mwM} {L : mwL} (h : P M L) : kq3 P (fX12_first_i155 fu a1 r7 r155 v2 v3 v4 v7 M L) := by
  unfold fX12_first_i155
  exact (kqI3 (y_fX12_first_b184 hC hr7 h) (kqK3 (fun q1 => (kqK3 (fun q2 => (kqM3_rb hC h (by omega) (fun M26 h3 => (kqL3 (fun x27 => (hr155 (v2, v3, v4, x27, M26, L) h3))))))))))
theorem y_fX12_first_h155 {P : mwM → mwL → Prop} (hC : CPrb P) {fu : Nat} {a1 : Int32} {r7 : (Int32 × Int32 × Int32 × mwM × mwL) → Option (Int32 × mwM × mwL)} (hr7 : ∀ s, P s.2.2.2.1 s.2.2.2.2 → kq3 P (r7 s)) : ∀ n s, P s.2.2.2.2.1 s.2.2.2.2.2 → kq3 P (fX12_first_h155 fu a1 r7 n s) := by
  intro n
  induction n with
  | zero => intro s _; exact kqN3
  | succ n ih =>
    intro s h
    show kq3 P (fX12_first_i155 fu a1 r7 (fX12_first_h155 fu a1 r7 n) s.1 s.2.1 s.2.2.1 s.2.2.2.1 s.2.2.2.2.1 s.2.2.2.2.2)
    exact y_fX12_first_i155 hC hr7 ih h
theorem y_fX12_first_b134 {P : mwM → mwL → Prop} (hC : CPrb P) {fu : Nat} {a1 : Int32} {r7 : (Int32 × Int32 × Int32 × mwM × mwL) → Option (Int32 × mwM × mwL)} {v2 : Int32} {v3 : Int32} {v4 : Int32} {s0 : Int32} (hr7 : ∀ s, P s.2.2.2.1 s.2.2.2.2 → kq3 P (r7 s)) {M : mwM} {L : mwL} (h : P M L) : kq3 P (fX12_first_b134 fu a1 r7 v2 v3 v4 s0 M L) := by
  unfold fX12_first_b134
  exact (kqI3 (y_fX12_first_b184 hC hr7 h) (kqL3 (fun x22 => (y_fX12_first_h155 hC hr7 _ (v4, x22, v4, 0, M, L) h))))
theorem y_fX12_first_b129 {P : mwM → mwL → Prop} (hC : CPrb P) {fu : Nat} {a1 : Int32} {r7 : (Int32 × Int32 × Int32 × mwM × mwL) → Option (Int32 × mwM × mwL)} {v2 : Int32} {v3 : Int32} {v4 : Int32} (hr7 : ∀ s, P s.2.2.2.1 s.2.2.2.2 → kq3 P (r7 s)) {M : mwM} {L : mwL} (h : P M L) : kq3 P (fX12_first_b129 fu a1 r7 v2 v3 v4 M L) := by
  unfold fX12_first_b129
  exact (y_fX12_first_b134 hC hr7 h)
theorem y_fX12_first_b133 {P : mwM → mwL → Prop} (hC : CPrb P) {fu : Nat} {a1 : Int32} {r7 : (Int32 × Int32 × Int32 × mwM × mwL) → Option (Int32 × mwM × mwL)} {v2 : Int32} {v3 : Int32} {v4 : Int32} (hr7 : ∀ s, P s.2.2.2.1 s.2.2.2.2 → kq3 P (r7 s)) {M : mwM} {L : mwL} (h : P M L) : kq3 P (fX12_first_b133 fu a1 r7 v2 v3 v4 M L) := by
  unfold fX12_first_b133
  exact (y_fX12_first_b134 hC hr7 h)
theorem y_fX12_first_b92 {P : mwM → mwL → Prop} (hC : CPrb P) {fu : Nat} {a1 : Int32} {r7 : (Int32 × Int32 × Int32 × mwM × mwL) → Option (Int32 × mwM × mwL)} {v2 : Int32} {v3 : Int32} {v4 : Int32} {v5 : Int32} (hr7 : ∀ s, P s.2.2.2.1 s.2.2.2.2 → kq3 P (r7 s)) {M : mwM} {L : mwL} (h : P M L) : kq3 P (fX12_first_b92 fu a1 r7 v2 v3 v4 v5 M L) := by
  unfold fX12_first_b92
  exact (kqI3 (y_fX12_first_b129 hC hr7 h) (kqI3 (y_fX12_first_b133 hC hr7 h) (kqI3 (y_fX12_first_b133 hC hr7 h) (kqK3 (fun q1 => (kqK3 (fun q2 => (kqI3 (y_fX12_first_b133 hC hr7 h) (y_fX12_first_b129 hC hr7 h)))))))))
theorem y_fX12_first_i49 {P : mwM → mwL → Prop} (hC : CPrb P) {fu : Nat} {a1 : Int32} {r7 : (Int32 × Int32 × Int32 × mwM × mwL) → Option (Int32 × mwM × mwL)} {r49 : (Int32 × Int32 × Int32 × Int32 × mwM × mwL) → Option (Int32 × mwM × mwL)} {v2 : Int32} {v3 : Int32} {v4 : Int32} {v5 : Int32} (hr7 : ∀ s, P s.2.2.2.1 s.2.2.2.2 → kq3 P (r7 s)) (hr49 : ∀ s, P s.2.2.2.2.1 s.2.2.2.2.2 → kq3 P (r49 s)) {M : mwM} {L : mwL} (h : P M L) : kq3 P (fX12_first_i49 fu a1 r7 r49 v2 v3 v4 v5 M L) := by
  unfold fX12_first_i49
  exact (kqI3 (y_fX12_first_b92 hC hr7 h) (kqI3 (y_fX12_first_b92 hC hr7 h) (kqI3 (y_fX12_first_b92 hC hr7 h) (kqK3 (fun q1 => (kqK3 (fun q2 => (kqI3 (kqL3 (fun x14 => (hr49 (v2, v3, v4, x14, M, L) h))) (y_fX12_first_b92 hC hr7 h)))))))))
theorem y_fX12_first_h49 {P : mwM → mwL → Prop} (hC : CPrb P) {fu : Nat} {a1 : Int32} {r7 : (Int32 × Int32 × Int32 × mwM × mwL) → Option (Int32 × mwM × mwL)} (hr7 : ∀ s, P s.2.2.2.1 s.2.2.2.2 → kq3 P (r7 s)) : ∀ n s, P s.2.2.2.2.1 s.2.2.2.2.2 → kq3 P (fX12_first_h49 fu a1 r7 n s) := by
  intro n
  induction n with
  | zero => intro s _; exact kqN3
  | succ n ih =>
    intro s h
    show kq3 P (fX12_first_i49 fu a1 r7 (fX12_first_h49 fu a1 r7 n) s.1 s.2.1 s.2.2.1 s.2.2.2.1 s.2.2.2.2.1 s.2.2.2.2.2)
    exact y_fX12_first_i49 hC hr7 ih h
theorem y_fX12_first_i7 {P : mwM → mwL → Prop} (hC : CPrb P) {fu : Nat} {a1 : Int32} {r7 : (Int32 × Int32 × Int32 × mwM × mwL) → Option (Int32 × mwM × mwL)} {v2 : Int32} {v3 : Int32} {v4 : Int32} (hr7 : ∀ s, P s.2.2.2.1 s.2.2.2.2 → kq3 P (r7 s)) {M : mwM} {L : mwL} (h : P M L) : kq3 P (fX12_first_i7 fu a1 r7 v2 v3 v4 M L) := by
  unfold fX12_first_i7
  exact (kqI3 (kqS3 h) (kqK3 (fun q1 => (kqI3 (kqK3 (fun q2 => (kqI3 (kqB23 (y_DX12_writePlain hC h) (fun M6 L7 h3 => (y_fX12_first_h49 hC hr7 _ (v2, v3, v4, 0, M6, L7) h3))) (y_fX12_first_b184 hC hr7 h)))) (y_fX12_first_b184 hC hr7 h)))))
theorem y_fX12_first_h7 {P : mwM → mwL → Prop} (hC : CPrb P) {fu : Nat} {a1 : Int32} : ∀ n s, P s.2.2.2.1 s.2.2.2.2 → kq3 P (fX12_first_h7 fu a1 n s) := by
  intro n
  induction n with
  | zero => intro s _; exact kqN3
  | succ n ih =>
    intro s h
    show kq3 P (fX12_first_i7 fu a1 (fX12_first_h7 fu a1 n) s.1 s.2.1 s.2.2.1 s.2.2.2.1 s.2.2.2.2)
    exact y_fX12_first_i7 hC ih h
theorem y_DX12_first {P : mwM → mwL → Prop} (hC : CPrb P) {fu : Nat} {a1 : Int32} {M : mwM} {L : mwL} (h : P M L) : kq3 P (DX12_first fu a1 M L) := by
  unfold DX12_first
  exact (y_fX12_first_h7 hC _ (((-1)), 0, 0, M, L) h)
theorem y_fX12_waiting_b69 {P : mwM → mwL → Prop} (hC : CPrb P) {fu : Nat} {a1 : Int32} {v2 : Int32} {M : mwM} {L : mwL} (h : P M L) : kq3 P (fX12_waiting_b69 fu a1 v2 M L) := by
  unfold fX12_waiting_b69
  exact (kqS3 h)
theorem y_fX12_waiting_b62 {P : mwM → mwL → Prop} (hC : CPrb P) {fu : Nat} {a1 : Int32} {r21 : (Int32 × Int32 × mwM × mwL) → Option (Int32 × mwM × mwL)} {v3 : Int32} {s0 : Int32} (hr21 : ∀ s, P s.2.2.1 s.2.2.2 → kq3 P (r21 s)) {M : mwM} {L : mwL} (h : P M L) : kq3 P (fX12_waiting_b62 fu a1 r21 v3 s0 M L) := by
  unfold fX12_waiting_b62
  exact (kqL3 (fun x8 => (hr21 (s0, x8, M, L) h)))
theorem y_fX12_waiting_b61 {P : mwM → mwL → Prop} (hC : CPrb P) {fu : Nat} {a1 : Int32} {r21 : (Int32 × Int32 × mwM × mwL) → Option (Int32 × mwM × mwL)} {v2 : Int32} {v3 : Int32} (hr21 : ∀ s, P s.2.2.1 s.2.2.2 → kq3 P (r21 s)) {M : mwM} {L : mwL} (h : P M L) : kq3 P (fX12_waiting_b61 fu a1 r21 v2 v3 M L) := by
  unfold fX12_waiting_b61
  exact (y_fX12_waiting_b62 hC hr21 h)
theorem y_fX12_waiting_i21 {P : mwM → mwL → Prop} (hC : CPrb P) {fu : Nat} {a1 : Int32} {r21 : (Int32 × Int32 × mwM × mwL) → Option (Int32 × mwM × mwL)} {v2 : Int32} {v3 : Int32} (hr21 : ∀ s, P s.2.2.1 s.2.2.2 → kq3 P (r21 s)) {M : mwM} {L : mwL} (h : P M L) : kq3 P (fX12_waiting_i21 fu a1 r21 v2 v3 M L) := by
  unfold fX12_waiting_i21
  exact (kqI3 (y_fX12_waiting_b69 hC h) (kqI3 (kqK3 (fun q1 => (kqI3 (kqK3 (fun q2 => (kqI3 (y_fX12_waiting_b62 hC hr21 h) (y_fX12_waiting_b61 hC hr21 h)))) (y_fX12_waiting_b61 hC hr21 h)))) (y_fX12_waiting_b69 hC h)))
theorem y_fX12_waiting_h21 {P : mwM → mwL → Prop} (hC : CPrb P) {fu : Nat} {a1 : Int32} : ∀ n s, P s.2.2.1 s.2.2.2 → kq3 P (fX12_waiting_h21 fu a1 n s) := by
  intro n
  induction n with
  | zero => intro s _; exact kqN3
  | succ n ih =>
    intro s h
    show kq3 P (fX12_waiting_i21 fu a1 (fX12_waiting_h21 fu a1 n) s.1 s.2.1 s.2.2.1 s.2.2.2)
    exact y_fX12_waiting_i21 hC ih h
theorem y_fX12_waiting_b14 {P : mwM → mwL → Prop} (hC : CPrb P) {fu : Nat} {a1 : Int32} {s1 : Int32} {M : mwM} {L : mwL} (h : P M L) : kq3 P (fX12_waiting_b14 fu a1 s1 M L) := by
  unfold fX12_waiting_b14
  exact (kqM3_rb hC h (by omega) (fun M1 h1 => (y_fX12_waiting_h21 hC _ (0, 0, M1, L) h1)))
theorem y_DX12_waiting {P : mwM → mwL → Prop} (hC : CPrb P) {fu : Nat} {a1 : Int32} {M : mwM} {L : mwL} (h : P M L) : kq3 P (DX12_waiting fu a1 M L) := by
  unfold DX12_waiting
  exact (kqB33 (y_DX12_noNode hC h) (fun r11 M9 L10 h1 => (kqI3 (y_fX12_waiting_b14 hC h1) (y_fX12_waiting_b14 hC h1))))
theorem y_fX12_flip_b56 {P : mwM → mwL → Prop} (hC : CPrb P) {fu : Nat} {a1 : Int32} {a2 : Int32} {M : mwM} {L : mwL} (h : P M L) : kq2 P (fX12_flip_b56 fu a1 a2 M L) := by
  unfold fX12_flip_b56
  exact (kqS2 h)
theorem y_fX12_flip_b33 {P : mwM → mwL → Prop} (hC : CPrb P) {fu : Nat} {a1 : Int32} {a2 : Int32} {s1 : Int32} {M : mwM} {L : mwL} (h : P M L) : kq2 P (fX12_flip_b33 fu a1 a2 s1 M L) := by
  unfold fX12_flip_b33
  exact (kqM2_rb hC h (by omega) (fun M1 h1 => (kqI2 (kqK2 (fun q2 => (kqM2_rb hC h1 (by omega) (fun M4 h3 => (y_fX12_flip_b56 hC h3))))) (y_fX12_flip_b56 hC h1))))
theorem y_fX12_flip_b28 {P : mwM → mwL → Prop} (hC : CPrb P) {fu : Nat} {a1 : Int32} {a2 : Int32} {M : mwM} {L : mwL} (h : P M L) : kq2 P (fX12_flip_b28 fu a1 a2 M L) := by
  unfold fX12_flip_b28
  exact (y_fX12_flip_b33 hC h)
theorem y_DX12_flip {P : mwM → mwL → Prop} (hC : CPrb P) {fu : Nat} {a1 : Int32} {a2 : Int32} {M : mwM} {L : mwL} (h : P M L) : kq2 P (DX12_flip fu a1 a2 M L) := by
  unfold DX12_flip
  exact (kqB32 (y_DX12_noNode hC h) (fun r7 M5 L6 h1 => (kqI2 (kqI2 (y_fX12_flip_b28 hC h1) (kqI2 (y_fX12_flip_b33 hC h1) (y_fX12_flip_b28 hC h1))) (y_fX12_flip_b33 hC h1))))
theorem y_DX12_bitAt {P : mwM → mwL → Prop} (hC : CPrb P) {fu : Nat} {a1 : Int32} {a2 : Int32} {M : mwM} {L : mwL} (h : P M L) : kq3 P (DX12_bitAt fu a1 a2 M L) := by
  unfold DX12_bitAt
  exact (kqK3 (fun q1 => (kqS3 h)))
theorem y_fX12_number_i5 {P : mwM → mwL → Prop} (hC : CPrb P) {fu : Nat} {a1 : Int32} {a2 : Int32} {r5 : (Int32 × Int32 × mwM × mwL) → Option (Int32 × mwM × mwL)} {v3 : Int32} {v4 : Int32} (hr5 : ∀ s, P s.2.2.1 s.2.2.2 → kq3 P (r5 s)) {M : mwM} {L : mwL} (h : P M L) : kq3 P (fX12_number_i5 fu a1 a2 r5 v3 v4 M L) := by
  unfold fX12_number_i5
  exact (kqI3 (kqS3 h) (kqK3 (fun q1 => (kqL3 (fun x3 => (kqL3 (fun x4 => (hr5 (x3, x4, M, L) h))))))))
theorem y_fX12_number_h5 {P : mwM → mwL → Prop} (hC : CPrb P) {fu : Nat} {a1 : Int32} {a2 : Int32} : ∀ n s, P s.2.2.1 s.2.2.2 → kq3 P (fX12_number_h5 fu a1 a2 n s) := by
  intro n
  induction n with
  | zero => intro s _; exact kqN3
  | succ n ih =>
    intro s h
    show kq3 P (fX12_number_i5 fu a1 a2 (fX12_number_h5 fu a1 a2 n) s.1 s.2.1 s.2.2.1 s.2.2.2)
    exact y_fX12_number_i5 hC ih h
theorem y_DX12_number {P : mwM → mwL → Prop} (hC : CPrb P) {fu : Nat} {a1 : Int32} {a2 : Int32} {M : mwM} {L : mwL} (h : P M L) : kq3 P (DX12_number fu a1 a2 M L) := by
  unfold DX12_number
  exact (y_fX12_number_h5 hC _ (0, a1, M, L) h)
theorem y_fX12_find_b106 {P : mwM → mwL → Prop} (hC : CPrb P) {fu : Nat} {a1 : Int32} {a2 : Int32} {a3 : Int32} {M : mwM} {L : mwL} (h : P M L) : kq2 P (fX12_find_b106 fu a1 a2 a3 M L) := by
  unfold fX12_find_b106
  exact (kqS2 h)
theorem y_fX12_find_b55 {P : mwM → mwL → Prop} (hC : CPrb P) {fu : Nat} {a1 : Int32} {a2 : Int32} {a3 : Int32} {s1 : Int32} {s2 : Int32} {M : mwM} {L : mwL} (h : P M L) : kq2 P (fX12_find_b55 fu a1 a2 a3 s1 s2 M L) := by
  unfold fX12_find_b55
  exact (kqM2_rb hC h (by omega) (fun M6 h1 => (kqB32 (y_DX12_number hC h1) (fun r9 M7 L8 h2 => (kqM2_rb hC h2 (by omega) (fun M10 h3 => (kqB32 (y_DX12_number hC h3) (fun r13 M11 L12 h4 => (kqM2_rb hC h4 (by omega) (fun M14 h5 => (kqI2 (y_fX12_find_b106 hC h5) (kqB32 (y_DX12_number hC h5) (fun r18 M16 L17 h6 => (kqM2_rb hC h6 (by omega) (fun M19 h7 => (y_fX12_find_b106 hC h7))))))))))))))))
theorem y_fX12_find_b37 {P : mwM → mwL → Prop} (hC : CPrb P) {fu : Nat} {a1 : Int32} {a2 : Int32} {a3 : Int32} {v4 : Int32} {s1 : Int32} {M : mwM} {L : mwL} (h : P M L) : kq2 P (fX12_find_b37 fu a1 a2 a3 v4 s1 M L) := by
  unfold fX12_find_b37
  exact (kqI2 (kqI2 (y_fX12_find_b55 hC h) (y_fX12_find_b55 hC h)) (y_fX12_find_b55 hC h))
theorem y_fX12_find_b25 {P : mwM → mwL → Prop} (hC : CPrb P) {fu : Nat} {a1 : Int32} {a2 : Int32} {a3 : Int32} {s0 : Int32} {M : mwM} {L : mwL} (h : P M L) : kq2 P (fX12_find_b25 fu a1 a2 a3 s0 M L) := by
  unfold fX12_find_b25
  exact (kqI2 (y_fX12_find_b37 hC h) (y_fX12_find_b37 hC h))
theorem y_fX12_find_b15 {P : mwM → mwL → Prop} (hC : CPrb P) {fu : Nat} {a1 : Int32} {a2 : Int32} {a3 : Int32} {s1 : Int32} {M : mwM} {L : mwL} (h : P M L) : kq2 P (fX12_find_b15 fu a1 a2 a3 s1 M L) := by
  unfold fX12_find_b15
  exact (kqK2 (fun q1 => (kqI2 (y_fX12_find_b25 hC h) (y_fX12_find_b25 hC h))))
theorem y_DX12_find {P : mwM → mwL → Prop} (hC : CPrb P) {fu : Nat} {a1 : Int32} {a2 : Int32} {a3 : Int32} {M : mwM} {L : mwL} (h : P M L) : kq2 P (DX12_find fu a1 a2 a3 M L) := by
  unfold DX12_find
  exact (kqI2 (y_fX12_find_b15 hC h) (y_fX12_find_b15 hC h))
theorem y_fX12_bodyAnew_b390 {P : mwM → mwL → Prop} (hC : CPrb P) {fu : Nat} {a1 : Int32} {r48 : (Int32 × Int32 × Int32 × Int32 × Int32 × Int32 × Int32 × mwM × mwL) → Option (Int32 × mwM × mwL)} {v2 : Int32} {v3 : Int32} {v4 : Int32} {v5 : Int32} {v6 : Int32} {v7 : Int32} {v8 : Int32} (hr48 : ∀ s, P s.2.2.2.2.2.2.2.1 s.2.2.2.2.2.2.2.2 → kq3 P (r48 s)) {M : mwM} {L : mwL} (h : P M L) : kq3 P (fX12_bodyAnew_b390 fu a1 r48 v2 v3 v4 v5 v6 v7 v8 M L) := by
  unfold fX12_bodyAnew_b390
  exact (kqL3 (fun x42 => (hr48 (v2, v3, v4, v5, v6, v7, x42, M, L) h)))
theorem y_fX12_bodyAnew_b373 {P : mwM → mwL → Prop} (hC : CPrb P) {fu : Nat} {a1 : Int32} {r48 : (Int32 × Int32 × Int32 × Int32 × Int32 × Int32 × Int32 × mwM × mwL) → Option (Int32 × mwM × mwL)} {v2 : Int32} {v3 : Int32} {v4 : Int32} {v5 : Int32} {v6 : Int32} {v7 : Int32} {v8 : Int32} {s0 : Int32} (hr48 : ∀ s, P s.2.2.2.2.2.2.2.1 s.2.2.2.2.2.2.2.2 → kq3 P (r48 s)) {M : mwM} {L : mwL} (h : P M L) : kq3 P (fX12_bodyAnew_b373 fu a1 r48 v2 v3 v4 v5 v6 v7 v8 s0 M L) := by
  unfold fX12_bodyAnew_b373
  exact (kqI3 (y_fX12_bodyAnew_b390 hC hr48 h) (kqM3_rb hC h (by omega) (fun M41 h1 => (kqS3 h1))))
theorem y_fX12_bodyAnew_b372 {P : mwM → mwL → Prop} (hC : CPrb P) {fu : Nat} {a1 : Int32} {r48 : (Int32 × Int32 × Int32 × Int32 × Int32 × Int32 × Int32 × mwM × mwL) → Option (Int32 × mwM × mwL)} {v2 : Int32} {v3 : Int32} {v4 : Int32} {v5 : Int32} {v6 : Int32} {v7 : Int32} {v8 : Int32} (hr48 : ∀ s, P s.2.2.2.2.2.2.2.1 s.2.2.2.2.2.2.2.2 → kq3 P (r48 s)) {M : mwM} {L : mwL} (h : P M L) : kq3 P (fX12_bodyAnew_b372 fu a1 r48 v2 v3 v4 v5 v6 v7 v8 M L) := by
  unfold fX12_bodyAnew_b372
  exact (y_fX12_bodyAnew_b373 hC hr48 h)
theorem y_fX12_bodyAnew_b328 {P : mwM → mwL → Prop} (hC : CPrb P) {fu : Nat} {a1 : Int32} {r48 : (Int32 × Int32 × Int32 × Int32 × Int32 × Int32 × Int32 × mwM × mwL) → Option (Int32 × mwM × mwL)} {v2 : Int32} {v3 : Int32} {v4 : Int32} {v5 : Int32} {v6 : Int32} {v7 : Int32} {v8 : Int32} (hr48 : ∀ s, P s.2.2.2.2.2.2.2.1 s.2.2.2.2.2.2.2.2 → kq3 P (r48 s)) {M : mwM} {L : mwL} (h : P M L) : kq3 P (fX12_bodyAnew_b328 fu a1 r48 v2 v3 v4 v5 v6 v7 v8 M L) := by
  unfold fX12_bodyAnew_b328
  exact (kqI3 (kqI3 (kqI3 (y_fX12_bodyAnew_b372 hC hr48 h) (y_fX12_bodyAnew_b373 hC hr48 h)) (y_fX12_bodyAnew_b372 hC hr48 h)) (kqI3 (y_fX12_bodyAnew_b373 hC hr48 h) (y_fX12_bodyAnew_b373 hC hr48 h)))
theorem y_fX12_bodyAnew_b278 {P : mwM → mwL → Prop} (hC : CPrb P) {fu : Nat} {a1 : Int32} {r48 : (Int32 × Int32 × Int32 × Int32 × Int32 × Int32 × Int32 × mwM × mwL) → Option (Int32 × mwM × mwL)} {v2 : Int32} {v3 : Int32} {v4 : Int32} {v5 : Int32} {v6 : Int32} {v7 : Int32} {v8 : Int32} {v10 : Int32} {s0 : Int32} {s1 : Int32} (hr48 : ∀ s, P s.2.2.2.2.2.2.2.1 s.2.2.2.2.2.2.2.2 → kq3 P (r48 s)) {M : mwM} {L : mwL} (h : P M L) : kq3 P (fX12_bodyAnew_b278 fu a1 r48 v2 v3 v4 v5 v6 v7 v8 v10 s0 s1 M L) := by
  unfold fX12_bodyAnew_b278
  exact (kqL3 (fun x27 => (kqI3 (y_fX12_bodyAnew_b328 hC hr48 h) (kqI3 (kqB23 (y_DX12_find hC h) (fun M30 L31 h1 => (kqB33 (y_DX12_octetsOf hC h1) (fun r34 M32 L33 h2 => (kqL3 (fun x35 => (y_fX12_bodyAnew_b328 hC hr48 h2))))))) (y_fX12_bodyAnew_b328 hC hr48 h)))))
theorem y_fX12_bodyAnew_b255 {P : mwM → mwL → Prop} (hC : CPrb P) {fu : Nat} {a1 : Int32} {r48 : (Int32 × Int32 × Int32 × Int32 × Int32 × Int32 × Int32 × mwM × mwL) → Option (Int32 × mwM × mwL)} {v2 : Int32} {v3 : Int32} {v4 : Int32} {v5 : Int32} {v6 : Int32} {v7 : Int32} {v8 : Int32} {v10 : Int32} (hr48 : ∀ s, P s.2.2.2.2.2.2.2.1 s.2.2.2.2.2.2.2.2 → kq3 P (r48 s)) {M : mwM} {L : mwL} (h : P M L) : kq3 P (fX12_bodyAnew_b255 fu a1 r48 v2 v3 v4 v5 v6 v7 v8 v10 M L) := by
  unfold fX12_bodyAnew_b255
  exact (kqI3 (kqI3 (y_fX12_bodyAnew_b278 hC hr48 h) (y_fX12_bodyAnew_b278 hC hr48 h)) (y_fX12_bodyAnew_b278 hC hr48 h))
theorem y_fX12_bodyAnew_b231 {P : mwM → mwL → Prop} (hC : CPrb P) {fu : Nat} {a1 : Int32} {r48 : (Int32 × Int32 × Int32 × Int32 × Int32 × Int32 × Int32 × mwM × mwL) → Option (Int32 × mwM × mwL)} {v2 : Int32} {v3 : Int32} {v4 : Int32} {v5 : Int32} {v6 : Int32} {v7 : Int32} {v8 : Int32} {v9 : Int32} {v10 : Int32} (hr48 : ∀ s, P s.2.2.2.2.2.2.2.1 s.2.2.2.2.2.2.2.2 → kq3 P (r48 s)) {M : mwM} {L : mwL} (h : P M L) : kq3 P (fX12_bodyAnew_b231 fu a1 r48 v2 v3 v4 v5 v6 v7 v8 v9 v10 M L) := by
  unfold fX12_bodyAnew_b231
  exact (kqI3 (kqI3 (y_fX12_bodyAnew_b255 hC hr48 h) (kqI3 (kqS3 h) (y_fX12_bodyAnew_b255 hC hr48 h))) (y_fX12_bodyAnew_b255 hC hr48 h))
theorem y_fX12_bodyAnew_b229 {P : mwM → mwL → Prop} (hC : CPrb P) {fu : Nat} {a1 : Int32} {r48 : (Int32 × Int32 × Int32 × Int32 × Int32 × Int32 × Int32 × mwM × mwL) → Option (Int32 × mwM × mwL)} {v2 : Int32} {v3 : Int32} {v4 : Int32} {v5 : Int32} {v6 : Int32} {v8 : Int32} {v9 : Int32} {v10 : Int32} {s0 : Int32} (hr48 : ∀ s, P s.2.2.2.2.2.2.2.1 s.2.2.2.2.2.2.2.2 → kq3 P (r48 s)) {M : mwM} {L : mwL} (h : P M L) : kq3 P (fX12_bodyAnew_b229 fu a1 r48 v2 v3 v4 v5 v6 v8 v9 v10 s0 M L) := by
  unfold fX12_bodyAnew_b229
  exact (y_fX12_bodyAnew_b231 hC hr48 h)
theorem y_fX12_bodyAnew_b196 {P : mwM → mwL → Prop} (hC : CPrb P) {fu : Nat} {a1 : Int32} {r48 : (Int32 × Int32 × Int32 × Int32 × Int32 × Int32 × Int32 × mwM × mwL) → Option (Int32 × mwM × mwL)} {v2 : Int32} {v3 : Int32} {v4 : Int32} {v5 : Int32} {v6 : Int32} {v7 : Int32} {v8 : Int32} {v9 : Int32} {s0 : Int32} (hr48 : ∀ s, P s.2.2.2.2.2.2.2.1 s.2.2.2.2.2.2.2.2 → kq3 P (r48 s)) {M : mwM} {L : mwL} (h : P M L) : kq3 P (fX12_bodyAnew_b196 fu a1 r48 v2 v3 v4 v5 v6 v7 v8 v9 s0 M L) := by
  unfold fX12_bodyAnew_b196
  exact (kqI3 (y_fX12_bodyAnew_b231 hC hr48 h) (kqI3 (kqI3 (y_fX12_bodyAnew_b229 hC hr48 h) (y_fX12_bodyAnew_b229 hC hr48 h)) (y_fX12_bodyAnew_b231 hC hr48 h)))
theorem y_fX12_bodyAnew_b184 {P : mwM → mwL → Prop} (hC : CPrb P) {fu : Nat} {a1 : Int32} {r48 : (Int32 × Int32 × Int32 × Int32 × Int32 × Int32 × Int32 × mwM × mwL) → Option (Int32 × mwM × mwL)} {v2 : Int32} {v3 : Int32} {v4 : Int32} {v5 : Int32} {v6 : Int32} {v7 : Int32} {v8 : Int32} {v9 : Int32} (hr48 : ∀ s, P s.2.2.2.2.2.2.2.1 s.2.2.2.2.2.2.2.2 → kq3 P (r48 s)) {M : mwM} {L : mwL} (h : P M L) : kq3 P (fX12_bodyAnew_b184 fu a1 r48 v2 v3 v4 v5 v6 v7 v8 v9 M L) := by
  unfold fX12_bodyAnew_b184
  exact (kqI3 (y_fX12_bodyAnew_b196 hC hr48 h) (y_fX12_bodyAnew_b196 hC hr48 h))
theorem y_fX12_bodyAnew_b182 {P : mwM → mwL → Prop} (hC : CPrb P) {fu : Nat} {a1 : Int32} {r48 : (Int32 × Int32 × Int32 × Int32 × Int32 × Int32 × Int32 × mwM × mwL) → Option (Int32 × mwM × mwL)} {v2 : Int32} {v3 : Int32} {v4 : Int32} {v5 : Int32} {v7 : Int32} {v8 : Int32} {v9 : Int32} {s0 : Int32} (hr48 : ∀ s, P s.2.2.2.2.2.2.2.1 s.2.2.2.2.2.2.2.2 → kq3 P (r48 s)) {M : mwM} {L : mwL} (h : P M L) : kq3 P (fX12_bodyAnew_b182 fu a1 r48 v2 v3 v4 v5 v7 v8 v9 s0 M L) := by
  unfold fX12_bodyAnew_b182
  exact (y_fX12_bodyAnew_b184 hC hr48 h)
theorem y_fX12_bodyAnew_b135 {P : mwM → mwL → Prop} (hC : CPrb P) {fu : Nat} {a1 : Int32} {r48 : (Int32 × Int32 × Int32 × Int32 × Int32 × Int32 × Int32 × mwM × mwL) → Option (Int32 × mwM × mwL)} {v2 : Int32} {v5 : Int32} {v6 : Int32} {v7 : Int32} {v8 : Int32} {v9 : Int32} {s0 : Int32} (hr48 : ∀ s, P s.2.2.2.2.2.2.2.1 s.2.2.2.2.2.2.2.2 → kq3 P (r48 s)) {M : mwM} {L : mwL} (h : P M L) : kq3 P (fX12_bodyAnew_b135 fu a1 r48 v2 v5 v6 v7 v8 v9 s0 M L) := by
  unfold fX12_bodyAnew_b135
  exact (kqK3 (fun q1 => (kqM3_rb hC h (by omega) (fun M14 h2 => (kqM3_rb hC h2 (by omega) (fun M15 h3 => (kqI3 (kqI3 (y_fX12_bodyAnew_b182 hC hr48 h3) (y_fX12_bodyAnew_b182 hC hr48 h3)) (y_fX12_bodyAnew_b184 hC hr48 h3))))))))
theorem y_fX12_bodyAnew_i48 {P : mwM → mwL → Prop} (hC : CPrb P) {fu : Nat} {a1 : Int32} {r48 : (Int32 × Int32 × Int32 × Int32 × Int32 × Int32 × Int32 × mwM × mwL) → Option (Int32 × mwM × mwL)} {v2 : Int32} {v3 : Int32} {v4 : Int32} {v5 : Int32} {v6 : Int32} {v7 : Int32} {v8 : Int32} (hr48 : ∀ s, P s.2.2.2.2.2.2.2.1 s.2.2.2.2.2.2.2.2 → kq3 P (r48 s)) {M : mwM} {L : mwL} (h : P M L) : kq3 P (fX12_bodyAnew_i48 fu a1 r48 v2 v3 v4 v5 v6 v7 v8 M L) := by
  unfold fX12_bodyAnew_i48
  exact (kqI3 (kqS3 h) (kqB33 (y_DX12_bitAt hC h) (fun r4 M2 L3 h1 => (kqB23 (y_DX12_check hC h1) (fun M5 L6 h2 => (kqI3 (kqI3 (kqS3 h2) (kqM3_rb hC h2 (by omega) (fun M10 h3 => (kqI3 (kqM3_rb hC h3 (by omega) (fun M12 h4 => (kqS3 h4))) (y_fX12_bodyAnew_b390 hC hr48 h3))))) (kqI3 (y_fX12_bodyAnew_b135 hC hr48 h2) (y_fX12_bodyAnew_b135 hC hr48 h2))))))))
theorem y_fX12_bodyAnew_h48 {P : mwM → mwL → Prop} (hC : CPrb P) {fu : Nat} {a1 : Int32} : ∀ n s, P s.2.2.2.2.2.2.2.1 s.2.2.2.2.2.2.2.2 → kq3 P (fX12_bodyAnew_h48 fu a1 n s) := by
  intro n
  induction n with
  | zero => intro s _; exact kqN3
  | succ n ih =>
    intro s h
    show kq3 P (fX12_bodyAnew_i48 fu a1 (fX12_bodyAnew_h48 fu a1 n) s.1 s.2.1 s.2.2.1 s.2.2.2.1 s.2.2.2.2.1 s.2.2.2.2.2.1 s.2.2.2.2.2.2.1 s.2.2.2.2.2.2.2.1 s.2.2.2.2.2.2.2.2)
    exact y_fX12_bodyAnew_i48 hC ih h
theorem y_DX12_bodyAnew {P : mwM → mwL → Prop} (hC : CPrb P) {fu : Nat} {a1 : Int32} {M : mwM} {L : mwL} (h : P M L) : kq3 P (DX12_bodyAnew fu a1 M L) := by
  unfold DX12_bodyAnew
  exact (kqK3 (fun q1 => (kqL3 (fun x44 => (kqM3_rb hC h (by omega) (fun M45 h2 => (kqM3_rb hC h2 (by omega) (fun M46 h3 => (kqM3_rb hC h3 (by omega) (fun M47 h4 => (kqM3_rb hC h4 (by omega) (fun M48 h5 => (y_fX12_bodyAnew_h48 hC _ (x44, 1, 0, 20000, 0, 0, 0, M48, L) h5)))))))))))))
theorem y_fX12_body_i96 {P : mwM → mwL → Prop} (hC : CPrb P) {fu : Nat} {a1 : Int32} {r96 : (Int32 × mwM × mwL) → Option (Int32 × mwM × mwL)} {v3 : Int32} (hr96 : ∀ s, P s.2.1 s.2.2 → kq3 P (r96 s)) {M : mwM} {L : mwL} (h : P M L) : kq3 P (fX12_body_i96 fu a1 r96 v3 M L) := by
  unfold fX12_body_i96
  exact (kqI3 (kqS3 h) (kqK3 (fun q1 => (kqK3 (fun q2 => (kqM3_rb hC h (by omega) (fun M17 h3 => (kqL3 (fun x18 => (hr96 (x18, M17, L) h3))))))))))
theorem y_fX12_body_h96 {P : mwM → mwL → Prop} (hC : CPrb P) {fu : Nat} {a1 : Int32} : ∀ n s, P s.2.1 s.2.2 → kq3 P (fX12_body_h96 fu a1 n s) := by
  intro n
  induction n with
  | zero => intro s _; exact kqN3
  | succ n ih =>
    intro s h
    show kq3 P (fX12_body_i96 fu a1 (fX12_body_h96 fu a1 n) s.1 s.2.1 s.2.2)
    exact y_fX12_body_i96 hC ih h
theorem y_fX12_body_b66 {P : mwM → mwL → Prop} (hC : CPrb P) {fu : Nat} {a1 : Int32} {v2 : Int32} {M : mwM} {L : mwL} (h : P M L) : kq3 P (fX12_body_b66 fu a1 v2 M L) := by
  unfold fX12_body_b66
  exact (kqI3 (kqB33 (y_DX12_bodyAnew hC h) (fun r10 M8 L9 h1 => (kqM3_rb hC h1 (by omega) (fun M11 h2 => (kqK3 (fun q3 => (kqM3_rb hC h2 (by omega) (fun M13 h4 => (y_fX12_body_h96 hC _ (0, M13, L9) h4))))))))) (kqS3 h))
theorem y_fX12_body_b59 {P : mwM → mwL → Prop} (hC : CPrb P) {fu : Nat} {a1 : Int32} {r21 : (Int32 × Int32 × mwM × mwL) → Option (Int32 × mwM × mwL)} {v3 : Int32} {s0 : Int32} (hr21 : ∀ s, P s.2.2.1 s.2.2.2 → kq3 P (r21 s)) {M : mwM} {L : mwL} (h : P M L) : kq3 P (fX12_body_b59 fu a1 r21 v3 s0 M L) := by
  unfold fX12_body_b59
  exact (kqL3 (fun x6 => (hr21 (s0, x6, M, L) h)))
theorem y_fX12_body_i21 {P : mwM → mwL → Prop} (hC : CPrb P) {fu : Nat} {a1 : Int32} {r21 : (Int32 × Int32 × mwM × mwL) → Option (Int32 × mwM × mwL)} {v2 : Int32} {v3 : Int32} (hr21 : ∀ s, P s.2.2.1 s.2.2.2 → kq3 P (r21 s)) {M : mwM} {L : mwL} (h : P M L) : kq3 P (fX12_body_i21 fu a1 r21 v2 v3 M L) := by
  unfold fX12_body_i21
  exact (kqI3 (y_fX12_body_b66 hC h) (kqI3 (y_fX12_body_b66 hC h) (kqK3 (fun q1 => (kqK3 (fun q2 => (kqI3 (y_fX12_body_b59 hC hr21 h) (y_fX12_body_b59 hC hr21 h))))))))
theorem y_fX12_body_h21 {P : mwM → mwL → Prop} (hC : CPrb P) {fu : Nat} {a1 : Int32} : ∀ n s, P s.2.2.1 s.2.2.2 → kq3 P (fX12_body_h21 fu a1 n s) := by
  intro n
  induction n with
  | zero => intro s _; exact kqN3
  | succ n ih =>
    intro s h
    show kq3 P (fX12_body_i21 fu a1 (fX12_body_h21 fu a1 n) s.1 s.2.1 s.2.2.1 s.2.2.2)
    exact y_fX12_body_i21 hC ih h
theorem y_fX12_body_b18 {P : mwM → mwL → Prop} (hC : CPrb P) {fu : Nat} {a1 : Int32} {s0 : Int32} {M : mwM} {L : mwL} (h : P M L) : kq3 P (fX12_body_b18 fu a1 s0 M L) := by
  unfold fX12_body_b18
  exact (y_fX12_body_h21 hC _ (s0, 0, M, L) h)
theorem y_DX12_body {P : mwM → mwL → Prop} (hC : CPrb P) {fu : Nat} {a1 : Int32} {M : mwM} {L : mwL} (h : P M L) : kq3 P (DX12_body fu a1 M L) := by
  unfold DX12_body
  exact (kqK3 (fun q1 => (kqI3 (y_fX12_body_b18 hC h) (y_fX12_body_b18 hC h))))
theorem y_fX12_width_b44 {P : mwM → mwL → Prop} (hC : CPrb P) {fu : Nat} {s0 : Int32} {M : mwM} {L : mwL} (h : P M L) : kq3 P (fX12_width_b44 fu s0 M L) := by
  unfold fX12_width_b44
  exact (kqS3 h)
theorem y_fX12_width_b21 {P : mwM → mwL → Prop} (hC : CPrb P) {fu : Nat} {M : mwM} {L : mwL} (h : P M L) : kq3 P (fX12_width_b21 fu M L) := by
  unfold fX12_width_b21
  exact (kqB33 (y_DX12_octetsOf hC h) (fun r3 M1 L2 h1 => (kqI3 (y_fX12_width_b44 hC h1) (y_fX12_width_b44 hC h1))))
theorem y_DX12_width {P : mwM → mwL → Prop} (hC : CPrb P) {fu : Nat} {M : mwM} {L : mwL} (h : P M L) : kq3 P (DX12_width fu M L) := by
  unfold DX12_width
  exact (kqI3 (y_fX12_width_b21 hC h) (kqI3 (y_fX12_width_b21 hC h) (y_fX12_width_b44 hC h)))
theorem y_fX12_tail_b18 {P : mwM → mwL → Prop} (hC : CPrb P) {fu : Nat} {M : mwM} {L : mwL} (h : P M L) : kq3 P (fX12_tail_b18 fu M L) := by
  unfold fX12_tail_b18
  exact (kqB33 (y_DX12_width hC h) (fun r3 M1 L2 h1 => (kqL3 (fun x4 => (kqS3 h1)))))
theorem y_DX12_tail {P : mwM → mwL → Prop} (hC : CPrb P) {fu : Nat} {M : mwM} {L : mwL} (h : P M L) : kq3 P (DX12_tail fu M L) := by
  unfold DX12_tail
  exact (kqI3 (y_fX12_tail_b18 hC h) (kqI3 (y_fX12_tail_b18 hC h) (kqS3 h)))
theorem y_fX12_right_b92 {P : mwM → mwL → Prop} (hC : CPrb P) {fu : Nat} {a1 : Int32} {s0 : Int32} {M : mwM} {L : mwL} (h : P M L) : kq3 P (fX12_right_b92 fu a1 s0 M L) := by
  unfold fX12_right_b92
  exact (kq_mzz3 (kqS3 h))
theorem y_fX12_right_i48 {P : mwM → mwL → Prop} (hC : CPrb P) {fu : Nat} {a1 : Int32} {r48 : (Int32 × Int32 × mwM × mwL) → Option (Int32 × mwM × mwL)} {v3 : Int32} {v4 : Int32} (hr48 : ∀ s, P s.2.2.1 s.2.2.2 → kq3 P (r48 s)) {M : mwM} {L : mwL} (h : P M L) : kq3 P (fX12_right_i48 fu a1 r48 v3 v4 M L) := by
  unfold fX12_right_i48
  exact (kqI3 (kqB33 (y_DX12_checkOf hC h) (fun r12 M10 L11 h1 => (kqI3 (y_fX12_right_b92 hC h1) (y_fX12_right_b92 hC h1)))) (kqK3 (fun q2 => (kqB23 (y_DX12_check hC h) (fun M15 L16 h3 => (kqL3 (fun x17 => (hr48 (v3, x17, M15, L16) h3))))))))
theorem y_fX12_right_h48 {P : mwM → mwL → Prop} (hC : CPrb P) {fu : Nat} {a1 : Int32} : ∀ n s, P s.2.2.1 s.2.2.2 → kq3 P (fX12_right_h48 fu a1 n s) := by
  intro n
  induction n with
  | zero => intro s _; exact kqN3
  | succ n ih =>
    intro s h
    show kq3 P (fX12_right_i48 fu a1 (fX12_right_h48 fu a1 n) s.1 s.2.1 s.2.2.1 s.2.2.2)
    exact y_fX12_right_i48 hC ih h
theorem y_fX12_right_b177 {P : mwM → mwL → Prop} (hC : CPrb P) {fu : Nat} {a1 : Int32} {s0 : Int32} {M : mwM} {L : mwL} (h : P M L) : kq3 P (fX12_right_b177 fu a1 s0 M L) := by
  unfold fX12_right_b177
  exact (kq_mzz3 (kqS3 h))
theorem y_fX12_right_b157 {P : mwM → mwL → Prop} (hC : CPrb P) {fu : Nat} {a1 : Int32} {r99 : (Int32 × Int32 × Int32 × Int32 × mwM × mwL) → Option (Int32 × mwM × mwL)} {v2 : Int32} {v3 : Int32} {v4 : Int32} {v5 : Int32} (hr99 : ∀ s, P s.2.2.2.2.1 s.2.2.2.2.2 → kq3 P (r99 s)) {M : mwM} {L : mwL} (h : P M L) : kq3 P (fX12_right_b157 fu a1 r99 v2 v3 v4 v5 M L) := by
  unfold fX12_right_b157
  exact (kqL3 (fun x37 => (hr99 (v2, v3, v4, x37, M, L) h)))
theorem y_fX12_right_b154 {P : mwM → mwL → Prop} (hC : CPrb P) {fu : Nat} {a1 : Int32} {r99 : (Int32 × Int32 × Int32 × Int32 × mwM × mwL) → Option (Int32 × mwM × mwL)} {v2 : Int32} {v3 : Int32} {v4 : Int32} {v5 : Int32} (hr99 : ∀ s, P s.2.2.2.2.1 s.2.2.2.2.2 → kq3 P (r99 s)) {M : mwM} {L : mwL} (h : P M L) : kq3 P (fX12_right_b154 fu a1 r99 v2 v3 v4 v5 M L) := by
  unfold fX12_right_b154
  exact (kqL3 (fun x36 => (y_fX12_right_b157 hC hr99 h)))
theorem y_fX12_right_i99 {P : mwM → mwL → Prop} (hC : CPrb P) {fu : Nat} {a1 : Int32} {r99 : (Int32 × Int32 × Int32 × Int32 × mwM × mwL) → Option (Int32 × mwM × mwL)} {v2 : Int32} {v3 : Int32} {v4 : Int32} {v5 : Int32} (hr99 : ∀ s, P s.2.2.2.2.1 s.2.2.2.2.2 → kq3 P (r99 s)) {M : mwM} {L : mwL} (h : P M L) : kq3 P (fX12_right_i99 fu a1 r99 v2 v3 v4 v5 M L) := by
  unfold fX12_right_i99
  exact (kqB33 (y_DX12_tail hC h) (fun r21 M19 L20 h1 => (kqI3 (kqB33 (y_DX12_checkOf hC h1) (fun r25 M23 L24 h2 => (kqI3 (y_fX12_right_b177 hC h2) (y_fX12_right_b177 hC h2)))) (kqI3 (y_fX12_right_b157 hC hr99 h1) (kqB33 (y_DX12_bitAt hC h1) (fun r31 M29 L30 h3 => (kqI3 (kqL3 (fun x33 => (y_fX12_right_b154 hC hr99 h3))) (kqB23 (y_DX12_check hC h3) (fun M34 L35 h4 => (y_fX12_right_b154 hC hr99 h4))))))))))
theorem y_fX12_right_h99 {P : mwM → mwL → Prop} (hC : CPrb P) {fu : Nat} {a1 : Int32} : ∀ n s, P s.2.2.2.2.1 s.2.2.2.2.2 → kq3 P (fX12_right_h99 fu a1 n s) := by
  intro n
  induction n with
  | zero => intro s _; exact kqN3
  | succ n ih =>
    intro s h
    show kq3 P (fX12_right_i99 fu a1 (fX12_right_h99 fu a1 n) s.1 s.2.1 s.2.2.1 s.2.2.2.1 s.2.2.2.2.1 s.2.2.2.2.2)
    exact y_fX12_right_i99 hC ih h
theorem y_fX12_right_b19 {P : mwM → mwL → Prop} (hC : CPrb P) {fu : Nat} {a1 : Int32} {v2 : Int32} {v3 : Int32} {M : mwM} {L : mwL} (h : P M L) : kq3 P (fX12_right_b19 fu a1 v2 v3 M L) := by
  unfold fX12_right_b19
  exact (kqB33 (y_DX12_tail hC h) (fun r3 M1 L2 h1 => (kqI3 (kqB33 (y_DX12_number hC h1) (fun r7 M5 L6 h2 => (kqM3_rb hC h2 (by omega) (fun M8 h3 => (y_fX12_right_h48 hC _ (r7, 0, M8, L6) h3))))) (y_fX12_right_h99 hC _ (v2, v3, 0, 0, M1, L2) h1))))
theorem y_DX12_right {P : mwM → mwL → Prop} (hC : CPrb P) {fu : Nat} {a1 : Int32} {M : mwM} {L : mwL} (h : P M L) : kq3 P (DX12_right fu a1 M L) := by
  unfold DX12_right
  exact (kqB33 (y_DX12_width hC h) (fun r41 M39 L40 h1 => (kqB33 (y_DX12_tail hC h1) (fun r44 M42 L43 h2 => (kqI3 (y_fX12_right_b19 hC h2) (kqM3_rb hC h2 (by omega) (fun M46 h3 => (y_fX12_right_b19 hC h3))))))))
theorem y_fX12_read_b19 {P : mwM → mwL → Prop} (hC : CPrb P) {fu : Nat} {a1 : Int32} {v2 : Int32} {M : mwM} {L : mwL} (h : P M L) : kq3 P (fX12_read_b19 fu a1 v2 M L) := by
  unfold fX12_read_b19
  exact (kqS3 h)
theorem y_fX12_read_b87 {P : mwM → mwL → Prop} (hC : CPrb P) {fu : Nat} {a1 : Int32} {s0 : Int32} {M : mwM} {L : mwL} (h : P M L) : kq3 P (fX12_read_b87 fu a1 s0 M L) := by
  unfold fX12_read_b87
  exact (kqS3 h)
theorem y_fX12_read_b154 {P : mwM → mwL → Prop} (hC : CPrb P) {fu : Nat} {a1 : Int32} {s0 : Int32} {M : mwM} {L : mwL} (h : P M L) : kq3 P (fX12_read_b154 fu a1 s0 M L) := by
  unfold fX12_read_b154
  exact (kqS3 h)
theorem y_fX12_read_b153 {P : mwM → mwL → Prop} (hC : CPrb P) {fu : Nat} {a1 : Int32} {M : mwM} {L : mwL} (h : P M L) : kq3 P (fX12_read_b153 fu a1 M L) := by
  unfold fX12_read_b153
  exact (y_fX12_read_b154 hC h)
theorem y_fX12_read_b131 {P : mwM → mwL → Prop} (hC : CPrb P) {fu : Nat} {a1 : Int32} {v5 : Int32} {v6 : Int32} {M : mwM} {L : mwL} (h : P M L) : kq3 P (fX12_read_b131 fu a1 v5 v6 M L) := by
  unfold fX12_read_b131
  exact (kqI3 (kqB33 (y_DX12_countOf hC h) (fun r11 M9 L10 h1 => (kqI3 (y_fX12_read_b153 hC h1) (y_fX12_read_b154 hC h1)))) (y_fX12_read_b153 hC h))
theorem y_fX12_read_i94 {P : mwM → mwL → Prop} (hC : CPrb P) {fu : Nat} {a1 : Int32} {r94 : (Int32 × Int32 × Int32 × mwM × mwL) → Option (Int32 × mwM × mwL)} {v5 : Int32} {v6 : Int32} {v7 : Int32} (hr94 : ∀ s, P s.2.2.2.1 s.2.2.2.2 → kq3 P (r94 s)) {M : mwM} {L : mwL} (h : P M L) : kq3 P (fX12_read_i94 fu a1 r94 v5 v6 v7 M L) := by
  unfold fX12_read_i94
  exact (kqI3 (y_fX12_read_b131 hC h) (kqI3 (kqB33 (y_DX12_bitAt hC h) (fun r5 M3 L4 h1 => (kqL3 (fun x6 => (kqL3 (fun x7 => (hr94 (v5, x6, x7, M3, L4) h1))))))) (y_fX12_read_b131 hC h)))
theorem y_fX12_read_h94 {P : mwM → mwL → Prop} (hC : CPrb P) {fu : Nat} {a1 : Int32} : ∀ n s, P s.2.2.2.1 s.2.2.2.2 → kq3 P (fX12_read_h94 fu a1 n s) := by
  intro n
  induction n with
  | zero => intro s _; exact kqN3
  | succ n ih =>
    intro s h
    show kq3 P (fX12_read_i94 fu a1 (fX12_read_h94 fu a1 n) s.1 s.2.1 s.2.2.1 s.2.2.2.1 s.2.2.2.2)
    exact y_fX12_read_i94 hC ih h
theorem y_fX12_read_b191 {P : mwM → mwL → Prop} (hC : CPrb P) {fu : Nat} {a1 : Int32} {s0 : Int32} {M : mwM} {L : mwL} (h : P M L) : kq3 P (fX12_read_b191 fu a1 s0 M L) := by
  unfold fX12_read_b191
  exact (kqS3 h)
theorem y_fX12_read_b218 {P : mwM → mwL → Prop} (hC : CPrb P) {fu : Nat} {a1 : Int32} {s0 : Int32} {M : mwM} {L : mwL} (h : P M L) : kq3 P (fX12_read_b218 fu a1 s0 M L) := by
  unfold fX12_read_b218
  exact (kqS3 h)
theorem y_fX12_read_b232 {P : mwM → mwL → Prop} (hC : CPrb P) {fu : Nat} {a1 : Int32} {s0 : Int32} {M : mwM} {L : mwL} (h : P M L) : kq3 P (fX12_read_b232 fu a1 s0 M L) := by
  unfold fX12_read_b232
  exact (kqS3 h)
theorem y_DX12_read {P : mwM → mwL → Prop} (hC : CPrb P) {fu : Nat} {a1 : Int32} {M : mwM} {L : mwL} (h : P M L) : kq3 P (DX12_read fu a1 M L) := by
  unfold DX12_read
  exact (kqB33 (y_DX12_body hC h) (fun r15 M13 L14 h1 => (kqI3 (kqI3 (y_fX12_read_b19 hC h1) (kqK3 (fun q2 => (kqL3 (fun x19 => (kqB33 (y_DX12_bitAt hC h1) (fun r22 M20 L21 h3 => (kqL3 (fun x23 => (kqI3 (kqB33 (y_DX12_tail hC h3) (fun r27 M25 L26 h4 => (kqI3 (kqB33 (y_DX12_tail hC h4) (fun r31 M29 L30 h5 => (kqL3 (fun x32 => (kqI3 (kqS3 h5) (kqI3 (kqI3 (y_fX12_read_b191 hC h5) (y_fX12_read_b191 hC h5)) (kqI3 (kqS3 h5) (kqI3 (kqB33 (y_DX12_right hC h5) (fun r40 M38 L39 h6 => (kqI3 (y_fX12_read_b218 hC h6) (y_fX12_read_b218 hC h6)))) (kqI3 (y_fX12_read_b232 hC h5) (y_fX12_read_b232 hC h5)))))))))) (kqI3 (kqB33 (y_DX12_bitAt hC h4) (fun r47 M45 L46 h7 => (kqI3 (y_fX12_read_b87 hC h7) (y_fX12_read_b87 hC h7)))) (y_fX12_read_h94 hC _ (x23, 0, 1, M25, L26) h4))))) (kqS3 h3))))))))))) (y_fX12_read_b19 hC h1))))
theorem y_fX12_answers_b52 {P : mwM → mwL → Prop} (hC : CPrb P) {fu : Nat} {a1 : Int32} {s0 : Int32} {M : mwM} {L : mwL} (h : P M L) : kq3 P (fX12_answers_b52 fu a1 s0 M L) := by
  unfold fX12_answers_b52
  exact (kq_mzz3 (kqS3 h))
theorem y_fX12_answers_b51 {P : mwM → mwL → Prop} (hC : CPrb P) {fu : Nat} {a1 : Int32} {M : mwM} {L : mwL} (h : P M L) : kq3 P (fX12_answers_b51 fu a1 M L) := by
  unfold fX12_answers_b51
  exact (y_fX12_answers_b52 hC h)
theorem y_DX12_answers {P : mwM → mwL → Prop} (hC : CPrb P) {fu : Nat} {a1 : Int32} {M : mwM} {L : mwL} (h : P M L) : kq3 P (DX12_answers fu a1 M L) := by
  unfold DX12_answers
  exact (kqB33 (y_DX12_body hC h) (fun r4 M2 L3 h1 => (kqI3 (kqI3 (y_fX12_answers_b51 hC h1) (kqK3 (fun q2 => (kqB33 (y_DX12_tail hC h1) (fun r10 M8 L9 h3 => (kqI3 (kqB33 (y_DX12_right hC h3) (fun r14 M12 L13 h4 => (kqI3 (y_fX12_answers_b51 hC h4) (y_fX12_answers_b52 hC h4)))) (y_fX12_answers_b51 hC h3))))))) (y_fX12_answers_b51 hC h1))))
theorem y_fX12_take_i151 {P : mwM → mwL → Prop} (hC : CPrb P) {fu : Nat} {a1 : Int32} {r151 : (Int32 × Int32 × Int32 × mwM × mwL) → Option (mwM × mwL)} {v3 : Int32} {v4 : Int32} {v5 : Int32} (hr151 : ∀ s, P s.2.2.2.1 s.2.2.2.2 → kq2 P (r151 s)) {M : mwM} {L : mwL} (h : P M L) : kq2 P (fX12_take_i151 fu a1 r151 v3 v4 v5 M L) := by
  unfold fX12_take_i151
  exact (kqI2 (kqM2_rb hC h (by omega) (fun M2 h1 => (kqS2 h1))) (kqB32 (y_DX12_number hC h) (fun r5 M3 L4 h2 => (kqK2 (fun q3 => (kqM2_rb hC h2 (by omega) (fun M7 h4 => (kqL2 (fun x8 => (hr151 (v3, v4, x8, M7, L4) h4))))))))))
theorem y_fX12_take_h151 {P : mwM → mwL → Prop} (hC : CPrb P) {fu : Nat} {a1 : Int32} : ∀ n s, P s.2.2.2.1 s.2.2.2.2 → kq2 P (fX12_take_h151 fu a1 n s) := by
  intro n
  induction n with
  | zero => intro s _; exact kqN2
  | succ n ih =>
    intro s h
    show kq2 P (fX12_take_i151 fu a1 (fX12_take_h151 fu a1 n) s.1 s.2.1 s.2.2.1 s.2.2.2.1 s.2.2.2.2)
    exact y_fX12_take_i151 hC ih h
theorem y_fX12_take_b146 {P : mwM → mwL → Prop} (hC : CPrb P) {fu : Nat} {a1 : Int32} {v3 : Int32} {s0 : Int32} {M : mwM} {L : mwL} (h : P M L) : kq2 P (fX12_take_b146 fu a1 v3 s0 M L) := by
  unfold fX12_take_b146
  exact (y_fX12_take_h151 hC _ (v3, s0, 0, M, L) h)
theorem y_DX12_take {P : mwM → mwL → Prop} (hC : CPrb P) {fu : Nat} {a1 : Int32} {M : mwM} {L : mwL} (h : P M L) : kq2 P (DX12_take fu a1 M L) := by
  unfold DX12_take
  exact (kqB32 (y_DX12_body hC h) (fun r11 M9 L10 h1 => (kqK2 (fun q2 => (kqK2 (fun q3 => (kqI2 (kqK2 (fun q4 => (kqM2_rb hC h1 (by omega) (fun M16 h5 => (kqK2 (fun q6 => (kqM2_rb hC h5 (by omega) (fun M18 h7 => (kqK2 (fun q8 => (kqM2_rb hC h7 (by omega) (fun M20 h9 => (kqK2 (fun q10 => (kqM2_rb hC h9 (by omega) (fun M22 h11 => (kqK2 (fun q12 => (kqM2_rb hC h11 (by omega) (fun M24 h13 => (kqB32 (y_DX12_octetsOf hC h13) (fun r27 M25 L26 h14 => (kqI2 (y_fX12_take_b146 hC h14) (kqI2 (y_fX12_take_b146 hC h14) (kqI2 (y_fX12_take_b146 hC h14) (y_fX12_take_b146 hC h14)))))))))))))))))))))))))) (kqS2 h1))))))))
theorem y_fX12_puts_b23 {P : mwM → mwL → Prop} (hC : CPrb P) {fu : Nat} {a1 : Int32} {s0 : Int32} {M : mwM} {L : mwL} (h : P M L) : kq3 P (fX12_puts_b23 fu a1 s0 M L) := by
  unfold fX12_puts_b23
  exact (kqS3 h)
theorem y_fX12_puts_b79 {P : mwM → mwL → Prop} (hC : CPrb P) {fu : Nat} {a1 : Int32} {s0 : Int32} {M : mwM} {L : mwL} (h : P M L) : kq3 P (fX12_puts_b79 fu a1 s0 M L) := by
  unfold fX12_puts_b79
  exact (kqS3 h)
theorem y_fX12_puts_b95 {P : mwM → mwL → Prop} (hC : CPrb P) {fu : Nat} {a1 : Int32} {s0 : Int32} {M : mwM} {L : mwL} (h : P M L) : kq3 P (fX12_puts_b95 fu a1 s0 M L) := by
  unfold fX12_puts_b95
  exact (kqS3 h)
theorem y_DX12_puts {P : mwM → mwL → Prop} (hC : CPrb P) {fu : Nat} {a1 : Int32} {M : mwM} {L : mwL} (h : P M L) : kq3 P (DX12_puts fu a1 M L) := by
  unfold DX12_puts
  exact (kqK3 (fun q1 => (kqI3 (kqB33 (y_DX12_first hC h) (fun r20 M18 L19 h2 => (kqI3 (y_fX12_puts_b23 hC h2) (y_fX12_puts_b23 hC h2)))) (kqK3 (fun q3 => (kqI3 (kqK3 (fun q4 => (kqB23 (y_DX12_write hC h) (fun M14 L15 h5 => (kqK3 (fun q6 => (kqK3 (fun q7 => (kqS3 h5))))))))) (kqK3 (fun q8 => (kqI3 (kqB33 (y_DX12_answers hC h) (fun r11 M9 L10 h9 => (kqI3 (y_fX12_puts_b79 hC h9) (y_fX12_puts_b79 hC h9)))) (kqK3 (fun q10 => (kqI3 (y_fX12_puts_b95 hC h) (y_fX12_puts_b95 hC h)))))))))))))
theorem y_DX12_see {P : mwM → mwL → Prop} (hC : CPrb P) {fu : Nat} {a1 : Int32} {a2 : Int32} {M : mwM} {L : mwL} (h : P M L) : kq2 P (DX12_see fu a1 a2 M L) := by
  unfold DX12_see
  exact (kqK2 (fun q1 => (kqK2 (fun q2 => (kqM2_rb hC h (by omega) (fun M3 h3 => (kqK2 (fun q4 => (kqK2 (fun q5 => (kqM2_rb hC h3 (by omega) (fun M6 h6 => (kqS2 h6)))))))))))))
theorem y_DX12_wrong {P : mwM → mwL → Prop} (hC : CPrb P) {fu : Nat} {a1 : Int32} {a2 : Int32} {M : mwM} {L : mwL} (h : P M L) : kq2 P (DX12_wrong fu a1 a2 M L) := by
  unfold DX12_wrong
  exact (kqK2 (fun q1 => (kqM2_rb hC h (by omega) (fun M2 h2 => (kqK2 (fun q3 => (kqM2_rb hC h2 (by omega) (fun M4 h4 => (kqK2 (fun q5 => (kqM2_rb hC h4 (by omega) (fun M6 h6 => (kqM2_rb hC h6 (by omega) (fun M7 h7 => (kqK2 (fun q8 => (kqM2_rb hC h7 (by omega) (fun M9 h9 => (kqK2 (fun q10 => (kqM2_rb hC h9 (by omega) (fun M11 h11 => (kqS2 h11)))))))))))))))))))))))
theorem y_DX12_go {P : mwM → mwL → Prop} (hC : CPrb P) {fu : Nat} {a1 : Int32} {a2 : Int32} {a3 : Int32} {M : mwM} {L : mwL} (h : P M L) : kq2 P (DX12_go fu a1 a2 a3 M L) := by
  unfold DX12_go
  exact (kqK2 (fun q1 => (kqM2_rb hC h (by omega) (fun M2 h2 => (kqK2 (fun q3 => (kqM2_rb hC h2 (by omega) (fun M4 h4 => (kqS2 h4)))))))))
theorem y_fX12_sent_b202 {P : mwM → mwL → Prop} (hC : CPrb P) {fu : Nat} {a1 : Int32} {a2 : Int32} {M : mwM} {L : mwL} (h : P M L) : kq2 P (fX12_sent_b202 fu a1 a2 M L) := by
  unfold fX12_sent_b202
  exact (kqS2 h)
theorem y_fX12_sent_b143 {P : mwM → mwL → Prop} (hC : CPrb P) {fu : Nat} {a1 : Int32} {a2 : Int32} {v3 : Int32} {v4 : Int32} {M : mwM} {L : mwL} (h : P M L) : kq2 P (fX12_sent_b143 fu a1 a2 v3 v4 M L) := by
  unfold fX12_sent_b143
  exact (kqI2 (kqK2 (fun q1 => (kqM2_rb hC h (by omega) (fun M14 h2 => (kqK2 (fun q3 => (kqM2_rb hC h2 (by omega) (fun M16 h4 => (kqK2 (fun q5 => (kqM2_rb hC h4 (by omega) (fun M18 h6 => (kqM2_rb hC h6 (by omega) (fun M19 h7 => (kqB22 (y_DX12_go hC h7) (fun M20 L21 h8 => (y_fX12_sent_b202 hC h8))))))))))))))))) (y_fX12_sent_b202 hC h))
theorem y_fX12_sent_b137 {P : mwM → mwL → Prop} (hC : CPrb P) {fu : Nat} {a1 : Int32} {a2 : Int32} {s2 : Int32} {M : mwM} {L : mwL} (h : P M L) : kq2 P (fX12_sent_b137 fu a1 a2 s2 M L) := by
  unfold fX12_sent_b137
  exact (kqB22 (y_DX12_wrong hC h) (fun M10 L11 h1 => (y_fX12_sent_b202 hC h1)))
theorem y_fX12_sent_b125 {P : mwM → mwL → Prop} (hC : CPrb P) {fu : Nat} {a1 : Int32} {a2 : Int32} {v6 : Int32} {M : mwM} {L : mwL} (h : P M L) : kq2 P (fX12_sent_b125 fu a1 a2 v6 M L) := by
  unfold fX12_sent_b125
  exact (kqI2 (y_fX12_sent_b137 hC h) (y_fX12_sent_b137 hC h))
theorem y_fX12_sent_b84 {P : mwM → mwL → Prop} (hC : CPrb P) {fu : Nat} {a1 : Int32} {a2 : Int32} {v3 : Int32} {v4 : Int32} {v5 : Int32} {s0 : Int32} {M : mwM} {L : mwL} (h : P M L) : kq2 P (fX12_sent_b84 fu a1 a2 v3 v4 v5 s0 M L) := by
  unfold fX12_sent_b84
  exact (kqI2 (kqI2 (kqK2 (fun q1 => (kqI2 (y_fX12_sent_b143 hC h) (y_fX12_sent_b125 hC h)))) (kqI2 (y_fX12_sent_b125 hC h) (y_fX12_sent_b143 hC h))) (kqK2 (fun q2 => (kqM2_rb hC h (by omega) (fun M8 h3 => (y_fX12_sent_b202 hC h3))))))
theorem y_fX12_sent_b65 {P : mwM → mwL → Prop} (hC : CPrb P) {fu : Nat} {a1 : Int32} {a2 : Int32} {v3 : Int32} {v4 : Int32} {s0 : Int32} {M : mwM} {L : mwL} (h : P M L) : kq2 P (fX12_sent_b65 fu a1 a2 v3 v4 s0 M L) := by
  unfold fX12_sent_b65
  exact (kqI2 (y_fX12_sent_b84 hC h) (y_fX12_sent_b84 hC h))
theorem y_fX12_sent_b64 {P : mwM → mwL → Prop} (hC : CPrb P) {fu : Nat} {a1 : Int32} {a2 : Int32} {v3 : Int32} {v4 : Int32} {M : mwM} {L : mwL} (h : P M L) : kq2 P (fX12_sent_b64 fu a1 a2 v3 v4 M L) := by
  unfold fX12_sent_b64
  exact (y_fX12_sent_b65 hC h)
theorem y_DX12_sent {P : mwM → mwL → Prop} (hC : CPrb P) {fu : Nat} {a1 : Int32} {a2 : Int32} {M : mwM} {L : mwL} (h : P M L) : kq2 P (DX12_sent fu a1 a2 M L) := by
  unfold DX12_sent
  exact (kqK2 (fun q1 => (kqL2 (fun x23 => (kqB22 (y_DX12_write hC h) (fun M24 L25 h2 => (kqK2 (fun q3 => (kqL2 (fun x27 => (kqB22 (y_DX12_see hC h2) (fun M28 L29 h4 => (kqI2 (y_fX12_sent_b64 hC h4) (kqK2 (fun q5 => (kqI2 (kqK2 (fun q6 => (kqI2 (kqI2 (y_fX12_sent_b65 hC h4) (y_fX12_sent_b64 hC h4)) (y_fX12_sent_b64 hC h4)))) (y_fX12_sent_b64 hC h4)))))))))))))))))
theorem y_fX12_pauses_b90 {P : mwM → mwL → Prop} (hC : CPrb P) {fu : Nat} {a1 : Int32} {a2 : Int32} {M : mwM} {L : mwL} (h : P M L) : kq2 P (fX12_pauses_b90 fu a1 a2 M L) := by
  unfold fX12_pauses_b90
  exact (kqS2 h)
theorem y_fX12_pauses_b70 {P : mwM → mwL → Prop} (hC : CPrb P) {fu : Nat} {a1 : Int32} {a2 : Int32} {s2 : Int32} {M : mwM} {L : mwL} (h : P M L) : kq2 P (fX12_pauses_b70 fu a1 a2 s2 M L) := by
  unfold fX12_pauses_b70
  exact (kqK2 (fun q1 => (kqM2_rb hC h (by omega) (fun M18 h2 => (y_fX12_pauses_b90 hC h2)))))
theorem y_fX12_pauses_b22 {P : mwM → mwL → Prop} (hC : CPrb P) {fu : Nat} {a1 : Int32} {a2 : Int32} {M : mwM} {L : mwL} (h : P M L) : kq2 P (fX12_pauses_b22 fu a1 a2 M L) := by
  unfold fX12_pauses_b22
  exact (kqI2 (kqK2 (fun q1 => (kqM2_rb hC h (by omega) (fun M7 h2 => (kqB22 (y_DX12_see hC h2) (fun M8 L9 h3 => (kqB32 (y_DX12_first hC h3) (fun r12 M10 L11 h4 => (kqK2 (fun q5 => (kqM2_rb hC h4 (by omega) (fun M14 h6 => (kqK2 (fun q7 => (kqI2 (y_fX12_pauses_b70 hC h6) (y_fX12_pauses_b70 hC h6)))))))))))))))) (kqK2 (fun q8 => (kqI2 (kqK2 (fun q9 => (kqM2_rb hC h (by omega) (fun M5 h10 => (y_fX12_pauses_b90 hC h10))))) (y_fX12_pauses_b90 hC h)))))
theorem y_DX12_pauses {P : mwM → mwL → Prop} (hC : CPrb P) {fu : Nat} {a1 : Int32} {a2 : Int32} {M : mwM} {L : mwL} (h : P M L) : kq2 P (DX12_pauses fu a1 a2 M L) := by
  unfold DX12_pauses
  exact (kqI2 (kqK2 (fun q1 => (kqI2 (y_fX12_pauses_b22 hC h) (kqB22 (y_DX12_wrong hC h) (fun M22 L23 h2 => (y_fX12_pauses_b90 hC h2)))))) (y_fX12_pauses_b22 hC h))
theorem y_fX12_sees_b294 {P : mwM → mwL → Prop} (hC : CPrb P) {fu : Nat} {a1 : Int32} {a2 : Int32} {M : mwM} {L : mwL} (h : P M L) : kq2 P (fX12_sees_b294 fu a1 a2 M L) := by
  unfold fX12_sees_b294
  exact (kqS2 h)
theorem y_fX12_sees_b139 {P : mwM → mwL → Prop} (hC : CPrb P) {fu : Nat} {a1 : Int32} {a2 : Int32} {M : mwM} {L : mwL} (h : P M L) : kq2 P (fX12_sees_b139 fu a1 a2 M L) := by
  unfold fX12_sees_b139
  exact (y_fX12_sees_b294 hC h)
theorem y_fX12_sees_b181 {P : mwM → mwL → Prop} (hC : CPrb P) {fu : Nat} {a1 : Int32} {a2 : Int32} {s2 : Int32} {M : mwM} {L : mwL} (h : P M L) : kq2 P (fX12_sees_b181 fu a1 a2 s2 M L) := by
  unfold fX12_sees_b181
  exact (kqK2 (fun q1 => (kqM2_rb hC h (by omega) (fun M39 h2 => (y_fX12_sees_b294 hC h2)))))
theorem y_fX12_sees_b241 {P : mwM → mwL → Prop} (hC : CPrb P) {fu : Nat} {a1 : Int32} {a2 : Int32} {s2 : Int32} {M : mwM} {L : mwL} (h : P M L) : kq2 P (fX12_sees_b241 fu a1 a2 s2 M L) := by
  unfold fX12_sees_b241
  exact (kqB22 (y_DX12_wrong hC h) (fun M45 L46 h1 => (y_fX12_sees_b294 hC h1)))
theorem y_fX12_sees_b277 {P : mwM → mwL → Prop} (hC : CPrb P) {fu : Nat} {a1 : Int32} {a2 : Int32} {M : mwM} {L : mwL} (h : P M L) : kq2 P (fX12_sees_b277 fu a1 a2 M L) := by
  unfold fX12_sees_b277
  exact (kqK2 (fun q1 => (kqI2 (kqB22 (y_DX12_pauses hC h) (fun M55 L56 h2 => (y_fX12_sees_b294 hC h2))) (y_fX12_sees_b294 hC h))))
theorem y_fX12_sees_b247 {P : mwM → mwL → Prop} (hC : CPrb P) {fu : Nat} {a1 : Int32} {a2 : Int32} {M : mwM} {L : mwL} (h : P M L) : kq2 P (fX12_sees_b247 fu a1 a2 M L) := by
  unfold fX12_sees_b247
  exact (kqK2 (fun q1 => (kqI2 (kqK2 (fun q2 => (kqI2 (kqB22 (y_DX12_go hC h) (fun M51 L52 h3 => (y_fX12_sees_b294 hC h3))) (y_fX12_sees_b277 hC h)))) (y_fX12_sees_b277 hC h))))
theorem y_fX12_sees_b211 {P : mwM → mwL → Prop} (hC : CPrb P) {fu : Nat} {a1 : Int32} {a2 : Int32} {M : mwM} {L : mwL} (h : P M L) : kq2 P (fX12_sees_b211 fu a1 a2 M L) := by
  unfold fX12_sees_b211
  exact (kqK2 (fun q1 => (kqI2 (kqI2 (kqK2 (fun q2 => (kqI2 (y_fX12_sees_b241 hC h) (y_fX12_sees_b241 hC h)))) (y_fX12_sees_b247 hC h)) (y_fX12_sees_b247 hC h))))
theorem y_fX12_sees_b56 {P : mwM → mwL → Prop} (hC : CPrb P) {fu : Nat} {a1 : Int32} {a2 : Int32} {M : mwM} {L : mwL} (h : P M L) : kq2 P (fX12_sees_b56 fu a1 a2 M L) := by
  unfold fX12_sees_b56
  exact (kqK2 (fun q1 => (kqI2 (kqB22 (y_DX12_sent hC h) (fun M36 L37 h2 => (y_fX12_sees_b294 hC h2))) (kqK2 (fun q3 => (kqI2 (kqB22 (y_DX12_see hC h) (fun M22 L23 h4 => (kqB32 (y_DX12_read hC h4) (fun r26 M24 L25 h5 => (kqI2 (kqB22 (y_DX12_take hC h5) (fun M34 L35 h6 => (y_fX12_sees_b139 hC h6))) (kqI2 (kqB22 (y_DX12_go hC h5) (fun M32 L33 h7 => (y_fX12_sees_b139 hC h7))) (kqI2 (y_fX12_sees_b139 hC h5) (kqB22 (y_DX12_wrong hC h5) (fun M30 L31 h8 => (y_fX12_sees_b139 hC h8)))))))))) (kqK2 (fun q9 => (kqK2 (fun q10 => (kqM2_rb hC h (by omega) (fun M12 h11 => (kqK2 (fun q12 => (kqI2 (kqK2 (fun q13 => (kqI2 (y_fX12_sees_b181 hC h11) (y_fX12_sees_b181 hC h11)))) (kqK2 (fun q14 => (kqI2 (kqI2 (kqB22 (y_DX12_go hC h11) (fun M18 L19 h15 => (y_fX12_sees_b294 hC h15))) (y_fX12_sees_b211 hC h11)) (y_fX12_sees_b211 hC h11)))))))))))))))))))
theorem y_fX12_sees_b48 {P : mwM → mwL → Prop} (hC : CPrb P) {fu : Nat} {a1 : Int32} {a2 : Int32} {v3 : Int32} {s2 : Int32} {M : mwM} {L : mwL} (h : P M L) : kq2 P (fX12_sees_b48 fu a1 a2 v3 s2 M L) := by
  unfold fX12_sees_b48
  exact (kqK2 (fun q1 => (kqM2_rb hC h (by omega) (fun M3 h2 => (kqK2 (fun q3 => (kqM2_rb hC h2 (by omega) (fun M5 h4 => (y_fX12_sees_b56 hC h4)))))))))
theorem y_fX12_sees_b33 {P : mwM → mwL → Prop} (hC : CPrb P) {fu : Nat} {a1 : Int32} {a2 : Int32} {v3 : Int32} {M : mwM} {L : mwL} (h : P M L) : kq2 P (fX12_sees_b33 fu a1 a2 v3 M L) := by
  unfold fX12_sees_b33
  exact (kqI2 (y_fX12_sees_b48 hC h) (y_fX12_sees_b48 hC h))
theorem y_DX12_sees {P : mwM → mwL → Prop} (hC : CPrb P) {fu : Nat} {a1 : Int32} {a2 : Int32} {M : mwM} {L : mwL} (h : P M L) : kq2 P (DX12_sees fu a1 a2 M L) := by
  unfold DX12_sees
  exact (kqK2 (fun q1 => (kqI2 (kqK2 (fun q2 => (kqM2_rb hC h (by omega) (fun M60 h3 => (kqB32 (y_DX12_first hC h3) (fun r63 M61 L62 h4 => (kqI2 (kqI2 (kqS2 h4) (y_fX12_sees_b33 hC h4)) (y_fX12_sees_b33 hC h4)))))))) (y_fX12_sees_b56 hC h))))
theorem y_fX12_run_b143 {P : mwM → mwL → Prop} (hC : CPrb P) {fu : Nat} {a1 : Int32} {r45 : (Int32 × Int32 × mwM × mwL) → Option (Int32 × mwM × mwL)} {r103 : (Int32 × Int32 × Int32 × Int32 × mwM × mwL) → Option (Int32 × mwM × mwL)} {v2 : Int32} {v3 : Int32} {v4 : Int32} {v5 : Int32} {s1 : Int32} {s2 : Int32} (hr45 : ∀ s, P s.2.2.1 s.2.2.2 → kq3 P (r45 s)) (hr103 : ∀ s, P s.2.2.2.2.1 s.2.2.2.2.2 → kq3 P (r103 s)) {M : mwM} {L : mwL} (h : P M L) : kq3 P (fX12_run_b143 fu a1 r45 r103 v2 v3 v4 v5 s1 s2 M L) := by
  unfold fX12_run_b143
  exact (kqB23 (y_DX12_sees hC h) (fun M18 L19 h1 => (kqL3 (fun x20 => (hr103 (v2, v3, v4, x20, M18, L19) h1)))))
theorem y_fX12_run_i103 {P : mwM → mwL → Prop} (hC : CPrb P) {fu : Nat} {a1 : Int32} {r45 : (Int32 × Int32 × mwM × mwL) → Option (Int32 × mwM × mwL)} {r103 : (Int32 × Int32 × Int32 × Int32 × mwM × mwL) → Option (Int32 × mwM × mwL)} {v2 : Int32} {v3 : Int32} {v4 : Int32} {v5 : Int32} (hr45 : ∀ s, P s.2.2.1 s.2.2.2 → kq3 P (r45 s)) (hr103 : ∀ s, P s.2.2.2.2.1 s.2.2.2.2.2 → kq3 P (r103 s)) {M : mwM} {L : mwL} (h : P M L) : kq3 P (fX12_run_i103 fu a1 r45 r103 v2 v3 v4 v5 M L) := by
  unfold fX12_run_i103
  exact (kqI3 (kqM3_rb hC h (by omega) (fun M14 h1 => (kqL3 (fun x15 => (hr45 (v2, x15, M14, L) h1))))) (kqK3 (fun q2 => (kqI3 (y_fX12_run_b143 hC hr45 hr103 h) (y_fX12_run_b143 hC hr45 hr103 h)))))
theorem y_fX12_run_h103 {P : mwM → mwL → Prop} (hC : CPrb P) {fu : Nat} {a1 : Int32} {r45 : (Int32 × Int32 × mwM × mwL) → Option (Int32 × mwM × mwL)} (hr45 : ∀ s, P s.2.2.1 s.2.2.2 → kq3 P (r45 s)) : ∀ n s, P s.2.2.2.2.1 s.2.2.2.2.2 → kq3 P (fX12_run_h103 fu a1 r45 n s) := by
  intro n
  induction n with
  | zero => intro s _; exact kqN3
  | succ n ih =>
    intro s h
    show kq3 P (fX12_run_i103 fu a1 r45 (fX12_run_h103 fu a1 r45 n) s.1 s.2.1 s.2.2.1 s.2.2.2.1 s.2.2.2.2.1 s.2.2.2.2.2)
    exact y_fX12_run_i103 hC hr45 ih h
theorem y_fX12_run_b80 {P : mwM → mwL → Prop} (hC : CPrb P) {fu : Nat} {a1 : Int32} {r45 : (Int32 × Int32 × mwM × mwL) → Option (Int32 × mwM × mwL)} {r56 : (Int32 × Int32 × Int32 × Int32 × mwM × mwL) → Option (Int32 × mwM × mwL)} {v2 : Int32} {v3 : Int32} {v5 : Int32} {s0 : Int32} (hr45 : ∀ s, P s.2.2.1 s.2.2.2 → kq3 P (r45 s)) (hr56 : ∀ s, P s.2.2.2.2.1 s.2.2.2.2.2 → kq3 P (r56 s)) {M : mwM} {L : mwL} (h : P M L) : kq3 P (fX12_run_b80 fu a1 r45 r56 v2 v3 v5 s0 M L) := by
  unfold fX12_run_b80
  exact (kqL3 (fun x12 => (hr56 (v2, v3, s0, x12, M, L) h)))
theorem y_fX12_run_i56 {P : mwM → mwL → Prop} (hC : CPrb P) {fu : Nat} {a1 : Int32} {r45 : (Int32 × Int32 × mwM × mwL) → Option (Int32 × mwM × mwL)} {r56 : (Int32 × Int32 × Int32 × Int32 × mwM × mwL) → Option (Int32 × mwM × mwL)} {v2 : Int32} {v3 : Int32} {v4 : Int32} {v5 : Int32} (hr45 : ∀ s, P s.2.2.1 s.2.2.2 → kq3 P (r45 s)) (hr56 : ∀ s, P s.2.2.2.2.1 s.2.2.2.2.2 → kq3 P (r56 s)) {M : mwM} {L : mwL} (h : P M L) : kq3 P (fX12_run_i56 fu a1 r45 r56 v2 v3 v4 v5 M L) := by
  unfold fX12_run_i56
  exact (kqI3 (kqK3 (fun q1 => (kqM3_rb hC h (by omega) (fun M7 h2 => (y_fX12_run_h103 hC hr45 _ (v2, v3, v4, 0, M7, L) h2))))) (kqB33 (y_DX12_puts hC h) (fun r10 M8 L9 h3 => (kqI3 (y_fX12_run_b80 hC hr45 hr56 h3) (y_fX12_run_b80 hC hr45 hr56 h3)))))
theorem y_fX12_run_h56 {P : mwM → mwL → Prop} (hC : CPrb P) {fu : Nat} {a1 : Int32} {r45 : (Int32 × Int32 × mwM × mwL) → Option (Int32 × mwM × mwL)} (hr45 : ∀ s, P s.2.2.1 s.2.2.2 → kq3 P (r45 s)) : ∀ n s, P s.2.2.2.2.1 s.2.2.2.2.2 → kq3 P (fX12_run_h56 fu a1 r45 n s) := by
  intro n
  induction n with
  | zero => intro s _; exact kqN3
  | succ n ih =>
    intro s h
    show kq3 P (fX12_run_i56 fu a1 r45 (fX12_run_h56 fu a1 r45 n) s.1 s.2.1 s.2.2.1 s.2.2.2.1 s.2.2.2.2.1 s.2.2.2.2.2)
    exact y_fX12_run_i56 hC hr45 ih h
theorem y_fX12_run_i45 {P : mwM → mwL → Prop} (hC : CPrb P) {fu : Nat} {a1 : Int32} {r45 : (Int32 × Int32 × mwM × mwL) → Option (Int32 × mwM × mwL)} {v2 : Int32} {v3 : Int32} (hr45 : ∀ s, P s.2.2.1 s.2.2.2 → kq3 P (r45 s)) {M : mwM} {L : mwL} (h : P M L) : kq3 P (fX12_run_i45 fu a1 r45 v2 v3 M L) := by
  unfold fX12_run_i45
  exact (kqI3 (kqS3 h) (y_fX12_run_h56 hC hr45 _ (v2, v3, 1, 0, M, L) h))
theorem y_fX12_run_h45 {P : mwM → mwL → Prop} (hC : CPrb P) {fu : Nat} {a1 : Int32} : ∀ n s, P s.2.2.1 s.2.2.2 → kq3 P (fX12_run_h45 fu a1 n s) := by
  intro n
  induction n with
  | zero => intro s _; exact kqN3
  | succ n ih =>
    intro s h
    show kq3 P (fX12_run_i45 fu a1 (fX12_run_h45 fu a1 n) s.1 s.2.1 s.2.2.1 s.2.2.2)
    exact y_fX12_run_i45 hC ih h
theorem y_fX12_run_b26 {P : mwM → mwL → Prop} (hC : CPrb P) {fu : Nat} {a1 : Int32} {s1 : Int32} {M : mwM} {L : mwL} (h : P M L) : kq3 P (fX12_run_b26 fu a1 s1 M L) := by
  unfold fX12_run_b26
  exact (kqM3_rb hC h (by omega) (fun M1 h1 => (kqI3 (kqL3 (fun x3 => (y_fX12_run_h45 hC _ (x3, 0, M1, L) h1))) (kqS3 h1))))
theorem y_DX12_run {P : mwM → mwL → Prop} (hC : CPrb P) {fu : Nat} {a1 : Int32} {M : mwM} {L : mwL} (h : P M L) : kq3 P (DX12_run fu a1 M L) := by
  unfold DX12_run
  exact (kqI3 (kqI3 (y_fX12_run_b26 hC h) (y_fX12_run_b26 hC h)) (y_fX12_run_b26 hC h))
theorem y_fX12_bit_b38 {P : mwM → mwL → Prop} (hC : CPrb P) {fu : Nat} {a1 : Int32} {s0 : Int32} {M : mwM} {L : mwL} (h : P M L) : kq3 P (fX12_bit_b38 fu a1 s0 M L) := by
  unfold fX12_bit_b38
  exact (kqS3 h)
theorem y_fX12_bit_b18 {P : mwM → mwL → Prop} (hC : CPrb P) {fu : Nat} {a1 : Int32} {s1 : Int32} {M : mwM} {L : mwL} (h : P M L) : kq3 P (fX12_bit_b18 fu a1 s1 M L) := by
  unfold fX12_bit_b18
  exact (kqM3_rb hC h (by omega) (fun M1 h1 => (kqI3 (kqK3 (fun q2 => (y_fX12_bit_b38 hC h1))) (y_fX12_bit_b38 hC h1))))
theorem y_fX12_bit_b13 {P : mwM → mwL → Prop} (hC : CPrb P) {fu : Nat} {a1 : Int32} {M : mwM} {L : mwL} (h : P M L) : kq3 P (fX12_bit_b13 fu a1 M L) := by
  unfold fX12_bit_b13
  exact (y_fX12_bit_b18 hC h)
theorem y_DX12_bit {P : mwM → mwL → Prop} (hC : CPrb P) {fu : Nat} {a1 : Int32} {M : mwM} {L : mwL} (h : P M L) : kq3 P (DX12_bit fu a1 M L) := by
  unfold DX12_bit
  exact (kqI3 (y_fX12_bit_b13 hC h) (kqI3 (y_fX12_bit_b18 hC h) (y_fX12_bit_b13 hC h)))
theorem y_fX12_state_b34 {P : mwM → mwL → Prop} (hC : CPrb P) {fu : Nat} {a1 : Int32} {s0 : Int32} {M : mwM} {L : mwL} (h : P M L) : kq3 P (fX12_state_b34 fu a1 s0 M L) := by
  unfold fX12_state_b34
  exact (kqS3 h)
theorem y_fX12_state_b14 {P : mwM → mwL → Prop} (hC : CPrb P) {fu : Nat} {a1 : Int32} {s1 : Int32} {M : mwM} {L : mwL} (h : P M L) : kq3 P (fX12_state_b14 fu a1 s1 M L) := by
  unfold fX12_state_b14
  exact (kqM3_rb hC h (by omega) (fun M1 h1 => (kqI3 (kqK3 (fun q2 => (y_fX12_state_b34 hC h1))) (y_fX12_state_b34 hC h1))))
theorem y_DX12_state {P : mwM → mwL → Prop} (hC : CPrb P) {fu : Nat} {a1 : Int32} {M : mwM} {L : mwL} (h : P M L) : kq3 P (DX12_state fu a1 M L) := by
  unfold DX12_state
  exact (kqB33 (y_DX12_noNode hC h) (fun r6 M4 L5 h1 => (kqI3 (y_fX12_state_b14 hC h1) (y_fX12_state_b14 hC h1))))
theorem y_fX12_done_b81 {P : mwM → mwL → Prop} (hC : CPrb P) {fu : Nat} {a1 : Int32} {a2 : Int32} {s0 : Int32} {M : mwM} {L : mwL} (h : P M L) : kq3 P (fX12_done_b81 fu a1 a2 s0 M L) := by
  unfold fX12_done_b81
  exact (kqS3 h)
theorem y_fX12_done_b50 {P : mwM → mwL → Prop} (hC : CPrb P) {fu : Nat} {a1 : Int32} {a2 : Int32} {s1 : Int32} {M : mwM} {L : mwL} (h : P M L) : kq3 P (fX12_done_b50 fu a1 a2 s1 M L) := by
  unfold fX12_done_b50
  exact (kqM3_rb hC h (by omega) (fun M5 h1 => (kqI3 (kqI3 (kqK3 (fun q2 => (y_fX12_done_b81 hC h1))) (kqK3 (fun q3 => (y_fX12_done_b81 hC h1)))) (kqS3 h1))))
theorem y_fX12_done_b32 {P : mwM → mwL → Prop} (hC : CPrb P) {fu : Nat} {a1 : Int32} {a2 : Int32} {M : mwM} {L : mwL} (h : P M L) : kq3 P (fX12_done_b32 fu a1 a2 M L) := by
  unfold fX12_done_b32
  exact (y_fX12_done_b50 hC h)
theorem y_fX12_done_b45 {P : mwM → mwL → Prop} (hC : CPrb P) {fu : Nat} {a1 : Int32} {a2 : Int32} {M : mwM} {L : mwL} (h : P M L) : kq3 P (fX12_done_b45 fu a1 a2 M L) := by
  unfold fX12_done_b45
  exact (y_fX12_done_b50 hC h)
theorem y_fX12_done_b19 {P : mwM → mwL → Prop} (hC : CPrb P) {fu : Nat} {a1 : Int32} {a2 : Int32} {M : mwM} {L : mwL} (h : P M L) : kq3 P (fX12_done_b19 fu a1 a2 M L) := by
  unfold fX12_done_b19
  exact (kqI3 (y_fX12_done_b32 hC h) (kqI3 (kqI3 (y_fX12_done_b45 hC h) (kqI3 (y_fX12_done_b50 hC h) (y_fX12_done_b45 hC h))) (y_fX12_done_b32 hC h)))
theorem y_DX12_done {P : mwM → mwL → Prop} (hC : CPrb P) {fu : Nat} {a1 : Int32} {a2 : Int32} {M : mwM} {L : mwL} (h : P M L) : kq3 P (DX12_done fu a1 a2 M L) := by
  unfold DX12_done
  exact (kqM3_rb hC h (by omega) (fun M10 h1 => (kqI3 (kqI3 (kqS3 h1) (y_fX12_done_b19 hC h1)) (y_fX12_done_b19 hC h1))))
theorem y_fX12_took_b45 {P : mwM → mwL → Prop} (hC : CPrb P) {fu : Nat} {a1 : Int32} {a2 : Int32} {M : mwM} {L : mwL} (h : P M L) : kq3 P (fX12_took_b45 fu a1 a2 M L) := by
  unfold fX12_took_b45
  exact (kqS3 h)
theorem y_fX12_took_b39 {P : mwM → mwL → Prop} (hC : CPrb P) {fu : Nat} {a1 : Int32} {a2 : Int32} {r5 : (Int32 × Int32 × mwM × mwL) → Option (Int32 × mwM × mwL)} {v3 : Int32} {v4 : Int32} (hr5 : ∀ s, P s.2.2.1 s.2.2.2 → kq3 P (r5 s)) {M : mwM} {L : mwL} (h : P M L) : kq3 P (fX12_took_b39 fu a1 a2 r5 v3 v4 M L) := by
  unfold fX12_took_b39
  exact (kqL3 (fun x7 => (hr5 (v3, x7, M, L) h)))
theorem y_fX12_took_i5 {P : mwM → mwL → Prop} (hC : CPrb P) {fu : Nat} {a1 : Int32} {a2 : Int32} {r5 : (Int32 × Int32 × mwM × mwL) → Option (Int32 × mwM × mwL)} {v3 : Int32} {v4 : Int32} (hr5 : ∀ s, P s.2.2.1 s.2.2.2 → kq3 P (r5 s)) {M : mwM} {L : mwL} (h : P M L) : kq3 P (fX12_took_i5 fu a1 a2 r5 v3 v4 M L) := by
  unfold fX12_took_i5
  exact (kqI3 (y_fX12_took_b45 hC h) (kqI3 (y_fX12_took_b45 hC h) (kqK3 (fun q1 => (kqI3 (kqI3 (kqS3 h) (kqL3 (fun x6 => (y_fX12_took_b39 hC hr5 h)))) (y_fX12_took_b39 hC hr5 h))))))
theorem y_fX12_took_h5 {P : mwM → mwL → Prop} (hC : CPrb P) {fu : Nat} {a1 : Int32} {a2 : Int32} : ∀ n s, P s.2.2.1 s.2.2.2 → kq3 P (fX12_took_h5 fu a1 a2 n s) := by
  intro n
  induction n with
  | zero => intro s _; exact kqN3
  | succ n ih =>
    intro s h
    show kq3 P (fX12_took_i5 fu a1 a2 (fX12_took_h5 fu a1 a2 n) s.1 s.2.1 s.2.2.1 s.2.2.2)
    exact y_fX12_took_i5 hC ih h
theorem y_DX12_took {P : mwM → mwL → Prop} (hC : CPrb P) {fu : Nat} {a1 : Int32} {a2 : Int32} {M : mwM} {L : mwL} (h : P M L) : kq3 P (DX12_took fu a1 a2 M L) := by
  unfold DX12_took
  exact (y_fX12_took_h5 hC _ (a2, 0, M, L) h)
theorem y_fX12_taken_b70 {P : mwM → mwL → Prop} (hC : CPrb P) {fu : Nat} {a1 : Int32} {a2 : Int32} {a3 : Int32} {r41 : (Int32 × Int32 × mwM × mwL) → Option (Int32 × mwM × mwL)} {v5 : Int32} {s0 : Int32} (hr41 : ∀ s, P s.2.2.1 s.2.2.2 → kq3 P (r41 s)) {M : mwM} {L : mwL} (h : P M L) : kq3 P (fX12_taken_b70 fu a1 a2 a3 r41 v5 s0 M L) := by
  unfold fX12_taken_b70
  exact (kqL3 (fun x8 => (hr41 (s0, x8, M, L) h)))
theorem y_fX12_taken_i41 {P : mwM → mwL → Prop} (hC : CPrb P) {fu : Nat} {a1 : Int32} {a2 : Int32} {a3 : Int32} {r41 : (Int32 × Int32 × mwM × mwL) → Option (Int32 × mwM × mwL)} {v4 : Int32} {v5 : Int32} (hr41 : ∀ s, P s.2.2.1 s.2.2.2 → kq3 P (r41 s)) {M : mwM} {L : mwL} (h : P M L) : kq3 P (fX12_taken_i41 fu a1 a2 a3 r41 v4 v5 M L) := by
  unfold fX12_taken_i41
  exact (kqI3 (kqS3 h) (kqK3 (fun q1 => (kqI3 (y_fX12_taken_b70 hC hr41 h) (y_fX12_taken_b70 hC hr41 h)))))
theorem y_fX12_taken_h41 {P : mwM → mwL → Prop} (hC : CPrb P) {fu : Nat} {a1 : Int32} {a2 : Int32} {a3 : Int32} : ∀ n s, P s.2.2.1 s.2.2.2 → kq3 P (fX12_taken_h41 fu a1 a2 a3 n s) := by
  intro n
  induction n with
  | zero => intro s _; exact kqN3
  | succ n ih =>
    intro s h
    show kq3 P (fX12_taken_i41 fu a1 a2 a3 (fX12_taken_h41 fu a1 a2 a3 n) s.1 s.2.1 s.2.2.1 s.2.2.2)
    exact y_fX12_taken_i41 hC ih h
theorem y_fX12_taken_b200 {P : mwM → mwL → Prop} (hC : CPrb P) {fu : Nat} {a1 : Int32} {a2 : Int32} {a3 : Int32} {s0 : Int32} {M : mwM} {L : mwL} (h : P M L) : kq3 P (fX12_taken_b200 fu a1 a2 a3 s0 M L) := by
  unfold fX12_taken_b200
  exact (kqS3 h)
theorem y_fX12_taken_b114 {P : mwM → mwL → Prop} (hC : CPrb P) {fu : Nat} {a1 : Int32} {a2 : Int32} {a3 : Int32} {v4 : Int32} {s1 : Int32} {M : mwM} {L : mwL} (h : P M L) : kq3 P (fX12_taken_b114 fu a1 a2 a3 v4 s1 M L) := by
  unfold fX12_taken_b114
  exact (kqM3_rb hC h (by omega) (fun M15 h1 => (kqI3 (kqI3 (kqK3 (fun q2 => (kqS3 h1))) (kqI3 (kqK3 (fun q3 => (y_fX12_taken_b200 hC h1))) (kqI3 (kqK3 (fun q4 => (y_fX12_taken_b200 hC h1))) (kqI3 (kqK3 (fun q5 => (kqK3 (fun q6 => (kqB33 (y_DX12_octetsOf hC h1) (fun r26 M24 L25 h7 => (y_fX12_taken_b200 hC h7))))))) (kqK3 (fun q8 => (y_fX12_taken_b200 hC h1))))))) (kqS3 h1))))
theorem y_fX12_taken_b109 {P : mwM → mwL → Prop} (hC : CPrb P) {fu : Nat} {a1 : Int32} {a2 : Int32} {a3 : Int32} {v4 : Int32} {M : mwM} {L : mwL} (h : P M L) : kq3 P (fX12_taken_b109 fu a1 a2 a3 v4 M L) := by
  unfold fX12_taken_b109
  exact (y_fX12_taken_b114 hC h)
theorem y_fX12_taken_b81 {P : mwM → mwL → Prop} (hC : CPrb P) {fu : Nat} {a1 : Int32} {a2 : Int32} {a3 : Int32} {M : mwM} {L : mwL} (h : P M L) : kq3 P (fX12_taken_b81 fu a1 a2 a3 M L) := by
  unfold fX12_taken_b81
  exact (kqB33 (y_DX12_took hC h) (fun r11 M9 L10 h1 => (kqI3 (y_fX12_taken_b114 hC h1) (kqI3 (y_fX12_taken_b109 hC h1) (kqI3 (y_fX12_taken_b114 hC h1) (y_fX12_taken_b109 hC h1))))))
theorem y_fX12_taken_b14 {P : mwM → mwL → Prop} (hC : CPrb P) {fu : Nat} {a1 : Int32} {a2 : Int32} {a3 : Int32} {s1 : Int32} {M : mwM} {L : mwL} (h : P M L) : kq3 P (fX12_taken_b14 fu a1 a2 a3 s1 M L) := by
  unfold fX12_taken_b14
  exact (kqM3_rb hC h (by omega) (fun M1 h1 => (kqI3 (kqI3 (kqI3 (y_fX12_taken_h41 hC _ (0, 0, M1, L) h1) (y_fX12_taken_b81 hC h1)) (y_fX12_taken_b81 hC h1)) (kqS3 h1))))
theorem y_DX12_taken {P : mwM → mwL → Prop} (hC : CPrb P) {fu : Nat} {a1 : Int32} {a2 : Int32} {a3 : Int32} {M : mwM} {L : mwL} (h : P M L) : kq3 P (DX12_taken fu a1 a2 a3 M L) := by
  unfold DX12_taken
  exact (kqB33 (y_DX12_noNode hC h) (fun r32 M30 L31 h1 => (kqI3 (y_fX12_taken_b14 hC h1) (y_fX12_taken_b14 hC h1))))
theorem y_fX12_takenOctet_b91 {P : mwM → mwL → Prop} (hC : CPrb P) {fu : Nat} {a1 : Int32} {a2 : Int32} {a3 : Int32} {s0 : Int32} {M : mwM} {L : mwL} (h : P M L) : kq3 P (fX12_takenOctet_b91 fu a1 a2 a3 s0 M L) := by
  unfold fX12_takenOctet_b91
  exact (kqS3 h)
theorem y_fX12_takenOctet_b61 {P : mwM → mwL → Prop} (hC : CPrb P) {fu : Nat} {a1 : Int32} {a2 : Int32} {a3 : Int32} {v4 : Int32} {s1 : Int32} {M : mwM} {L : mwL} (h : P M L) : kq3 P (fX12_takenOctet_b61 fu a1 a2 a3 v4 s1 M L) := by
  unfold fX12_takenOctet_b61
  exact (kqM3_rb hC h (by omega) (fun M9 h1 => (kqI3 (kqK3 (fun q2 => (y_fX12_takenOctet_b91 hC h1))) (y_fX12_takenOctet_b91 hC h1))))
theorem y_fX12_takenOctet_b31 {P : mwM → mwL → Prop} (hC : CPrb P) {fu : Nat} {a1 : Int32} {a2 : Int32} {a3 : Int32} {v4 : Int32} {M : mwM} {L : mwL} (h : P M L) : kq3 P (fX12_takenOctet_b31 fu a1 a2 a3 v4 M L) := by
  unfold fX12_takenOctet_b31
  exact (y_fX12_takenOctet_b61 hC h)
theorem y_fX12_takenOctet_b18 {P : mwM → mwL → Prop} (hC : CPrb P) {fu : Nat} {a1 : Int32} {a2 : Int32} {a3 : Int32} {s0 : Int32} {M : mwM} {L : mwL} (h : P M L) : kq3 P (fX12_takenOctet_b18 fu a1 a2 a3 s0 M L) := by
  unfold fX12_takenOctet_b18
  exact (kqI3 (y_fX12_takenOctet_b31 hC h) (kqI3 (kqK3 (fun q1 => (kqK3 (fun q2 => (kqB33 (y_DX12_octetsOf hC h) (fun r7 M5 L6 h3 => (kqI3 (y_fX12_takenOctet_b61 hC h3) (y_fX12_takenOctet_b61 hC h3)))))))) (y_fX12_takenOctet_b31 hC h)))
theorem y_DX12_takenOctet {P : mwM → mwL → Prop} (hC : CPrb P) {fu : Nat} {a1 : Int32} {a2 : Int32} {a3 : Int32} {M : mwM} {L : mwL} (h : P M L) : kq3 P (DX12_takenOctet fu a1 a2 a3 M L) := by
  unfold DX12_takenOctet
  exact (kqB33 (y_DX12_noNode hC h) (fun r14 M12 L13 h1 => (kqI3 (kqB33 (y_DX12_took hC h1) (fun r18 M16 L17 h2 => (y_fX12_takenOctet_b18 hC h2))) (y_fX12_takenOctet_b18 hC h1))))
theorem y_fX12_error_b95 {P : mwM → mwL → Prop} (hC : CPrb P) {fu : Nat} {a1 : Int32} {a2 : Int32} {s0 : Int32} {M : mwM} {L : mwL} (h : P M L) : kq3 P (fX12_error_b95 fu a1 a2 s0 M L) := by
  unfold fX12_error_b95
  exact (kqS3 h)
theorem y_fX12_error_b50 {P : mwM → mwL → Prop} (hC : CPrb P) {fu : Nat} {a1 : Int32} {a2 : Int32} {s1 : Int32} {M : mwM} {L : mwL} (h : P M L) : kq3 P (fX12_error_b50 fu a1 a2 s1 M L) := by
  unfold fX12_error_b50
  exact (kqM3_rb hC h (by omega) (fun M5 h1 => (kqI3 (kqI3 (kqK3 (fun q2 => (y_fX12_error_b95 hC h1))) (kqI3 (kqK3 (fun q3 => (y_fX12_error_b95 hC h1))) (kqK3 (fun q4 => (y_fX12_error_b95 hC h1))))) (kqS3 h1))))
theorem y_fX12_error_b32 {P : mwM → mwL → Prop} (hC : CPrb P) {fu : Nat} {a1 : Int32} {a2 : Int32} {M : mwM} {L : mwL} (h : P M L) : kq3 P (fX12_error_b32 fu a1 a2 M L) := by
  unfold fX12_error_b32
  exact (y_fX12_error_b50 hC h)
theorem y_fX12_error_b45 {P : mwM → mwL → Prop} (hC : CPrb P) {fu : Nat} {a1 : Int32} {a2 : Int32} {M : mwM} {L : mwL} (h : P M L) : kq3 P (fX12_error_b45 fu a1 a2 M L) := by
  unfold fX12_error_b45
  exact (y_fX12_error_b50 hC h)
theorem y_fX12_error_b19 {P : mwM → mwL → Prop} (hC : CPrb P) {fu : Nat} {a1 : Int32} {a2 : Int32} {M : mwM} {L : mwL} (h : P M L) : kq3 P (fX12_error_b19 fu a1 a2 M L) := by
  unfold fX12_error_b19
  exact (kqI3 (y_fX12_error_b32 hC h) (kqI3 (kqI3 (y_fX12_error_b45 hC h) (kqI3 (y_fX12_error_b50 hC h) (y_fX12_error_b45 hC h))) (y_fX12_error_b32 hC h)))
theorem y_DX12_error {P : mwM → mwL → Prop} (hC : CPrb P) {fu : Nat} {a1 : Int32} {a2 : Int32} {M : mwM} {L : mwL} (h : P M L) : kq3 P (DX12_error fu a1 a2 M L) := by
  unfold DX12_error
  exact (kqM3_rb hC h (by omega) (fun M12 h1 => (kqI3 (kqI3 (kqS3 h1) (y_fX12_error_b19 hC h1)) (y_fX12_error_b19 hC h1))))
theorem y_fX13_anew_i145 {P : mwM → mwL → Prop} (hC : CPrb P) {fu : Nat} {k : Nat} {a1 : Int32} {r145 : (Int32 × mwM × mwL) → Option (mwM × mwL)} {v2 : Int32} (hr145 : ∀ s, P s.2.1 s.2.2 → kq2 P (r145 s)) (hk_k : 964 ≤ k ∧ k < 1577 ∧ (k - 964) % 53 = 0) {M : mwM} {L : mwL} (h : P M L) : kq2 P (fX13_anew_i145 fu k a1 r145 v2 M L) := by
  unfold fX13_anew_i145
  exact (kqI2 (kqS2 h) (kqK2 (fun q1 => (kqW2_rb hC h (by omega) (fun L25 h2 => (kqL2 (fun x26 => (hr145 (x26, M, L25) h2))))))))
theorem y_fX13_anew_h145 {P : mwM → mwL → Prop} (hC : CPrb P) {fu : Nat} {k : Nat} {a1 : Int32} (hk_k : 964 ≤ k ∧ k < 1577 ∧ (k - 964) % 53 = 0) : ∀ n s, P s.2.1 s.2.2 → kq2 P (fX13_anew_h145 fu k a1 n s) := by
  intro n
  induction n with
  | zero => intro s _; exact kqN2
  | succ n ih =>
    intro s h
    show kq2 P (fX13_anew_i145 fu k a1 (fX13_anew_h145 fu k a1 n) s.1 s.2.1 s.2.2)
    exact y_fX13_anew_i145 hC ih hk_k h
theorem y_fX13_anew_i109 {P : mwM → mwL → Prop} (hC : CPrb P) {fu : Nat} {k : Nat} {a1 : Int32} {r109 : (Int32 × mwM × mwL) → Option (mwM × mwL)} {v2 : Int32} (hr109 : ∀ s, P s.2.1 s.2.2 → kq2 P (r109 s)) (hk_k : 964 ≤ k ∧ k < 1577 ∧ (k - 964) % 53 = 0) {M : mwM} {L : mwL} (h : P M L) : kq2 P (fX13_anew_i109 fu k a1 r109 v2 M L) := by
  unfold fX13_anew_i109
  exact (kqI2 (y_fX13_anew_h145 hC (by omega) _ (0, M, L) h) (kqK2 (fun q1 => (kqM2_rb hC h (by omega) (fun M17 h2 => (kqK2 (fun q3 => (kqM2_rb hC h2 (by omega) (fun M19 h4 => (kqK2 (fun q5 => (kqM2_rb hC h4 (by omega) (fun M21 h6 => (kqL2 (fun x22 => (hr109 (x22, M21, L) h6))))))))))))))))
theorem y_fX13_anew_h109 {P : mwM → mwL → Prop} (hC : CPrb P) {fu : Nat} {k : Nat} {a1 : Int32} (hk_k : 964 ≤ k ∧ k < 1577 ∧ (k - 964) % 53 = 0) : ∀ n s, P s.2.1 s.2.2 → kq2 P (fX13_anew_h109 fu k a1 n s) := by
  intro n
  induction n with
  | zero => intro s _; exact kqN2
  | succ n ih =>
    intro s h
    show kq2 P (fX13_anew_i109 fu k a1 (fX13_anew_h109 fu k a1 n) s.1 s.2.1 s.2.2)
    exact y_fX13_anew_i109 hC ih hk_k h
theorem y_fX13_anew_i52 {P : mwM → mwL → Prop} (hC : CPrb P) {fu : Nat} {k : Nat} {a1 : Int32} {r52 : (Int32 × mwM × mwL) → Option (mwM × mwL)} {v2 : Int32} (hr52 : ∀ s, P s.2.1 s.2.2 → kq2 P (r52 s)) (hk_k : 964 ≤ k ∧ k < 1577 ∧ (k - 964) % 53 = 0) {M : mwM} {L : mwL} (h : P M L) : kq2 P (fX13_anew_i52 fu k a1 r52 v2 M L) := by
  unfold fX13_anew_i52
  exact (kqI2 (y_fX13_anew_h109 hC (by omega) _ (0, M, L) h) (kqK2 (fun q1 => (kqM2_rb hC h (by omega) (fun M3 h2 => (kqK2 (fun q3 => (kqW2_rb hC h2 (by omega) (fun L5 h4 => (kqK2 (fun q5 => (kqW2_rb hC h4 (by omega) (fun L7 h6 => (kqK2 (fun q7 => (kqM2_rb hC h6 (by omega) (fun M9 h8 => (kqK2 (fun q9 => (kqM2_rb hC h8 (by omega) (fun M11 h10 => (kqK2 (fun q11 => (kqM2_rb hC h10 (by omega) (fun M13 h12 => (kqL2 (fun x14 => (hr52 (x14, M13, L7) h12))))))))))))))))))))))))))))
theorem y_fX13_anew_h52 {P : mwM → mwL → Prop} (hC : CPrb P) {fu : Nat} {k : Nat} {a1 : Int32} (hk_k : 964 ≤ k ∧ k < 1577 ∧ (k - 964) % 53 = 0) : ∀ n s, P s.2.1 s.2.2 → kq2 P (fX13_anew_h52 fu k a1 n s) := by
  intro n
  induction n with
  | zero => intro s _; exact kqN2
  | succ n ih =>
    intro s h
    show kq2 P (fX13_anew_i52 fu k a1 (fX13_anew_h52 fu k a1 n) s.1 s.2.1 s.2.2)
    exact y_fX13_anew_i52 hC ih hk_k h
theorem y_DX13_anew {P : mwM → mwL → Prop} (hC : CPra P) {fu : Nat} {k : Nat} {a1 : Int32} (hk_k : 964 ≤ k ∧ k < 1577 ∧ (k - 964) % 53 = 0) {M : mwM} {L : mwL} (h : P M L) : kq2 P (DX13_anew fu k a1 M L) := by
  unfold DX13_anew
  exact (kqM2_ra hC h (by omega) (fun M27 h1 => (kqM2_ra hC h1 (by omega) (fun M28 h2 => (kqM2_ra hC h2 (by omega) (fun M29 h3 => (kqM2_ra hC h3 (by omega) (fun M30 h4 => (kqM2_ra hC h4 (by omega) (fun M31 h5 => (kqM2_ra hC h5 (by omega) (fun M32 h6 => (kqW2_ra hC h6 (by omega) (fun L33 h7 => (kqM2_ra hC h7 (by omega) (fun M34 h8 => (kqM2_ra hC h8 (by omega) (fun M35 h9 => (kqM2_ra hC h9 (by omega) (fun M36 h10 => (y_fX13_anew_h52 (cab hC) (by omega) _ (0, M36, L33) h10)))))))))))))))))))))
theorem y_DX13_put {P : mwM → mwL → Prop} (hC : CPrb P) {fu : Nat} {k : Nat} {a1 : Int32} {a2 : Int64} (hk_k : 964 ≤ k ∧ k < 1577 ∧ (k - 964) % 53 = 0) {M : mwM} {L : mwL} (h : P M L) : kq2 P (DX13_put fu k a1 a2 M L) := by
  unfold DX13_put
  exact (kqK2 (fun q1 => (kqW2_rb hC h (by omega) (fun L2 h2 => (kqS2 h2)))))
theorem y_fX13_none_b17 {P : mwM → mwL → Prop} (hC : CPrb P) {fu : Nat} {k : Nat} {a1 : Int32} {s0 : Int32} {M : mwM} {L : mwL} (h : P M L) : kq3 P (fX13_none_b17 fu k a1 s0 M L) := by
  unfold fX13_none_b17
  exact (kq_mzz3 (kqS3 h))
theorem y_fX13_none_b12 {P : mwM → mwL → Prop} (hC : CPrb P) {fu : Nat} {k : Nat} {a1 : Int32} {M : mwM} {L : mwL} (h : P M L) : kq3 P (fX13_none_b12 fu k a1 M L) := by
  unfold fX13_none_b12
  exact (y_fX13_none_b17 hC h)
theorem y_DX13_none {P : mwM → mwL → Prop} (hC : CPrb P) {fu : Nat} {k : Nat} {a1 : Int32} {M : mwM} {L : mwL} (h : P M L) : kq3 P (DX13_none fu k a1 M L) := by
  unfold DX13_none
  exact (kqI3 (y_fX13_none_b12 hC h) (kqI3 (y_fX13_none_b17 hC h) (y_fX13_none_b12 hC h)))
theorem y_fX13_mark_b15 {P : mwM → mwL → Prop} (hC : CPrb P) {fu : Nat} {k : Nat} {a1 : Int32} {s0 : Int32} {M : mwM} {L : mwL} (h : P M L) : kq3 P (fX13_mark_b15 fu k a1 s0 M L) := by
  unfold fX13_mark_b15
  exact (kq_mzz3 (kqS3 h))
theorem y_DX13_mark {P : mwM → mwL → Prop} (hC : CPrb P) {fu : Nat} {k : Nat} {a1 : Int32} {M : mwM} {L : mwL} (h : P M L) : kq3 P (DX13_mark fu k a1 M L) := by
  unfold DX13_mark
  exact (kqK3 (fun q1 => (kqI3 (y_fX13_mark_b15 hC h) (y_fX13_mark_b15 hC h))))
theorem y_fX13_state_b43 {P : mwM → mwL → Prop} (hC : CPrb P) {fu : Nat} {k : Nat} {a1 : Int32} {a2 : Int32} {M : mwM} {L : mwL} (h : P M L) : kq3 P (fX13_state_b43 fu k a1 a2 M L) := by
  unfold fX13_state_b43
  exact (kqS3 h)
theorem y_DX13_state {P : mwM → mwL → Prop} (hC : CPra P) {fu : Nat} {k : Nat} {a1 : Int32} {a2 : Int32} (hk_k : 964 ≤ k ∧ k < 1577 ∧ (k - 964) % 53 = 0) {M : mwM} {L : mwL} (h : P M L) : kq3 P (DX13_state fu k a1 a2 M L) := by
  unfold DX13_state
  exact (kqM3_ra hC h (by omega) (fun M1 h1 => (kqB33 (y_DX13_none (cab hC) h1) (fun r4 M2 L3 h2 => (kqI3 (kqI3 (y_fX13_state_b43 (cab hC) h2) (kqI3 (y_fX13_state_b43 (cab hC) h2) (kqB33 (y_DX13_mark (cab hC) h2) (fun r10 M8 L9 h3 => (kqI3 (kqK3 (fun q4 => (kqI3 (y_fX13_state_b43 (cab hC) h3) (kqI3 (kqI3 (kqS3 h3) (kqM3_ra hC h3 (by omega) (fun M16 h5 => (kqK3 (fun q6 => (kqM3_ra hC h5 (by omega) (fun M18 h7 => (kqK3 (fun q8 => (kqM3_ra hC h7 (by omega) (fun M20 h9 => (kqK3 (fun q10 => (kqK3 (fun q11 => (kqM3_ra hC h9 (by omega) (fun M23 h12 => (kqS3 h12)))))))))))))))))) (kqS3 h3))))) (y_fX13_state_b43 (cab hC) h3)))))) (kqS3 h2))))))
theorem y_fX13_edge_b29 {P : mwM → mwL → Prop} (hC : CPrb P) {fu : Nat} {k : Nat} {a1 : Int32} {a2 : Int32} {a3 : Int32} {a4 : Int32} {M : mwM} {L : mwL} (h : P M L) : kq3 P (fX13_edge_b29 fu k a1 a2 a3 a4 M L) := by
  unfold fX13_edge_b29
  exact (kqS3 h)
theorem y_fX13_edge_b136 {P : mwM → mwL → Prop} (hC : CPrb P) {fu : Nat} {k : Nat} {a1 : Int32} {a2 : Int32} {a3 : Int32} {a4 : Int32} {M : mwM} {L : mwL} (h : P M L) : kq3 P (fX13_edge_b136 fu k a1 a2 a3 a4 M L) := by
  unfold fX13_edge_b136
  exact (kqS3 h)
theorem y_fX13_edge_b104 {P : mwM → mwL → Prop} (hC : CPrb P) {fu : Nat} {k : Nat} {a1 : Int32} {a2 : Int32} {a3 : Int32} {a4 : Int32} {v5 : Int32} {s0 : Int32} (hk_k : 964 ≤ k ∧ k < 1577 ∧ (k - 964) % 53 = 0) {M : mwM} {L : mwL} (h : P M L) : kq3 P (fX13_edge_b104 fu k a1 a2 a3 a4 v5 s0 M L) := by
  unfold fX13_edge_b104
  exact (kqK3 (fun q1 => (kqI3 (y_fX13_edge_b136 hC h) (kqK3 (fun q2 => (kqI3 (y_fX13_edge_b136 hC h) (kqI3 (y_fX13_edge_b136 hC h) (kqI3 (y_fX13_edge_b136 hC h) (kqI3 (kqI3 (kqS3 h) (kqM3_rb hC h (by omega) (fun M16 h3 => (kqK3 (fun q4 => (kqM3_rb hC h3 (by omega) (fun M18 h5 => (kqK3 (fun q6 => (kqM3_rb hC h5 (by omega) (fun M20 h7 => (kqK3 (fun q8 => (kqM3_rb hC h7 (by omega) (fun M22 h9 => (kqK3 (fun q10 => (kqM3_rb hC h9 (by omega) (fun M24 h11 => (kqS3 h11)))))))))))))))))))) (kqS3 h))))))))))
theorem y_fX13_edge_b99 {P : mwM → mwL → Prop} (hC : CPrb P) {fu : Nat} {k : Nat} {a1 : Int32} {a2 : Int32} {a3 : Int32} {a4 : Int32} {v5 : Int32} (hk_k : 964 ≤ k ∧ k < 1577 ∧ (k - 964) % 53 = 0) {M : mwM} {L : mwL} (h : P M L) : kq3 P (fX13_edge_b99 fu k a1 a2 a3 a4 v5 M L) := by
  unfold fX13_edge_b99
  exact (y_fX13_edge_b104 hC (by omega) h)
theorem y_fX13_edge_b103 {P : mwM → mwL → Prop} (hC : CPrb P) {fu : Nat} {k : Nat} {a1 : Int32} {a2 : Int32} {a3 : Int32} {a4 : Int32} {v5 : Int32} (hk_k : 964 ≤ k ∧ k < 1577 ∧ (k - 964) % 53 = 0) {M : mwM} {L : mwL} (h : P M L) : kq3 P (fX13_edge_b103 fu k a1 a2 a3 a4 v5 M L) := by
  unfold fX13_edge_b103
  exact (y_fX13_edge_b104 hC (by omega) h)
theorem y_fX13_edge_b61 {P : mwM → mwL → Prop} (hC : CPrb P) {fu : Nat} {k : Nat} {a1 : Int32} {a2 : Int32} {a3 : Int32} {a4 : Int32} {s0 : Int32} (hk_k : 964 ≤ k ∧ k < 1577 ∧ (k - 964) % 53 = 0) {M : mwM} {L : mwL} (h : P M L) : kq3 P (fX13_edge_b61 fu k a1 a2 a3 a4 s0 M L) := by
  unfold fX13_edge_b61
  exact (kqI3 (y_fX13_edge_b99 hC (by omega) h) (kqI3 (y_fX13_edge_b103 hC (by omega) h) (kqI3 (y_fX13_edge_b103 hC (by omega) h) (kqI3 (y_fX13_edge_b103 hC (by omega) h) (kqI3 (y_fX13_edge_b103 hC (by omega) h) (y_fX13_edge_b99 hC (by omega) h))))))
theorem y_fX13_edge_b60 {P : mwM → mwL → Prop} (hC : CPrb P) {fu : Nat} {k : Nat} {a1 : Int32} {a2 : Int32} {a3 : Int32} {a4 : Int32} (hk_k : 964 ≤ k ∧ k < 1577 ∧ (k - 964) % 53 = 0) {M : mwM} {L : mwL} (h : P M L) : kq3 P (fX13_edge_b60 fu k a1 a2 a3 a4 M L) := by
  unfold fX13_edge_b60
  exact (y_fX13_edge_b61 hC (by omega) h)
theorem y_fX13_edge_b56 {P : mwM → mwL → Prop} (hC : CPrb P) {fu : Nat} {k : Nat} {a1 : Int32} {a2 : Int32} {a3 : Int32} {a4 : Int32} (hk_k : 964 ≤ k ∧ k < 1577 ∧ (k - 964) % 53 = 0) {M : mwM} {L : mwL} (h : P M L) : kq3 P (fX13_edge_b56 fu k a1 a2 a3 a4 M L) := by
  unfold fX13_edge_b56
  exact (y_fX13_edge_b61 hC (by omega) h)
theorem y_fX13_edge_b42 {P : mwM → mwL → Prop} (hC : CPrb P) {fu : Nat} {k : Nat} {a1 : Int32} {a2 : Int32} {a3 : Int32} {a4 : Int32} (hk_k : 964 ≤ k ∧ k < 1577 ∧ (k - 964) % 53 = 0) {M : mwM} {L : mwL} (h : P M L) : kq3 P (fX13_edge_b42 fu k a1 a2 a3 a4 M L) := by
  unfold fX13_edge_b42
  exact (kqI3 (y_fX13_edge_b60 hC (by omega) h) (kqI3 (y_fX13_edge_b60 hC (by omega) h) (y_fX13_edge_b56 hC (by omega) h)))
theorem y_DX13_edge {P : mwM → mwL → Prop} (hC : CPrb P) {fu : Nat} {k : Nat} {a1 : Int32} {a2 : Int32} {a3 : Int32} {a4 : Int32} (hk_k : 964 ≤ k ∧ k < 1577 ∧ (k - 964) % 53 = 0) {M : mwM} {L : mwL} (h : P M L) : kq3 P (DX13_edge fu k a1 a2 a3 a4 M L) := by
  unfold DX13_edge
  exact (kqM3_rb hC h (by omega) (fun M25 h1 => (kqB33 (y_DX13_none hC h1) (fun r28 M26 L27 h2 => (kqI3 (kqB33 (y_DX13_none hC h2) (fun r32 M30 L31 h3 => (kqI3 (kqI3 (y_fX13_edge_b29 hC h3) (kqI3 (y_fX13_edge_b29 hC h3) (kqI3 (y_fX13_edge_b42 hC (by omega) h3) (kqI3 (y_fX13_edge_b56 hC (by omega) h3) (y_fX13_edge_b42 hC (by omega) h3))))) (y_fX13_edge_b29 hC h3)))) (y_fX13_edge_b29 hC h2))))))
theorem y_fX13_act_b47 {P : mwM → mwL → Prop} (hC : CPrb P) {fu : Nat} {k : Nat} {a1 : Int32} {a2 : Int32} {a3 : Int32} {a4 : Int64} {M : mwM} {L : mwL} (h : P M L) : kq3 P (fX13_act_b47 fu k a1 a2 a3 a4 M L) := by
  unfold fX13_act_b47
  exact (kqS3 h)
theorem y_fX13_act_b81 {P : mwM → mwL → Prop} (hC : CPrb P) {fu : Nat} {k : Nat} {a1 : Int32} {a2 : Int32} {a3 : Int32} {a4 : Int64} {M : mwM} {L : mwL} (h : P M L) : kq3 P (fX13_act_b81 fu k a1 a2 a3 a4 M L) := by
  unfold fX13_act_b81
  exact (kqS3 h)
theorem y_fX13_act_b84 {P : mwM → mwL → Prop} (hC : CPrb P) {fu : Nat} {k : Nat} {a1 : Int32} {a2 : Int32} {a3 : Int32} {a4 : Int64} (hk_k : 964 ≤ k ∧ k < 1577 ∧ (k - 964) % 53 = 0) {M : mwM} {L : mwL} (h : P M L) : kq3 P (fX13_act_b84 fu k a1 a2 a3 a4 M L) := by
  unfold fX13_act_b84
  exact (kqI3 (kqI3 (kqS3 h) (kqK3 (fun q1 => (kqM3_rb hC h (by omega) (fun M16 h2 => (kqK3 (fun q3 => (kqM3_rb hC h2 (by omega) (fun M18 h4 => (kqK3 (fun q5 => (kqM3_rb hC h4 (by omega) (fun M20 h6 => (kqK3 (fun q7 => (kqW3_rb hC h6 (by omega) (fun L22 h8 => (kqM3_rb hC h8 (by omega) (fun M23 h9 => (kqS3 h9)))))))))))))))))))) (kqS3 h))
theorem y_fX13_act_b44 {P : mwM → mwL → Prop} (hC : CPrb P) {fu : Nat} {k : Nat} {a1 : Int32} {a2 : Int32} {a3 : Int32} {a4 : Int64} {v6 : Int32} {s1 : Int32} (hk_k : 964 ≤ k ∧ k < 1577 ∧ (k - 964) % 53 = 0) {M : mwM} {L : mwL} (h : P M L) : kq3 P (fX13_act_b44 fu k a1 a2 a3 a4 v6 s1 M L) := by
  unfold fX13_act_b44
  exact (kqI3 (kqI3 (y_fX13_act_b81 hC h) (kqI3 (y_fX13_act_b81 hC h) (kqI3 (y_fX13_act_b81 hC h) (kqI3 (y_fX13_act_b81 hC h) (kqI3 (kqB33 (y_DX13_mark hC h) (fun r11 M9 L10 h1 => (kqI3 (y_fX13_act_b84 hC (by omega) h1) (y_fX13_act_b81 hC h1)))) (y_fX13_act_b84 hC (by omega) h)))))) (y_fX13_act_b47 hC h))
theorem y_fX13_act_b20 {P : mwM → mwL → Prop} (hC : CPrb P) {fu : Nat} {k : Nat} {a1 : Int32} {a2 : Int32} {a3 : Int32} {a4 : Int64} {s0 : Int32} (hk_k : 964 ≤ k ∧ k < 1577 ∧ (k - 964) % 53 = 0) {M : mwM} {L : mwL} (h : P M L) : kq3 P (fX13_act_b20 fu k a1 a2 a3 a4 s0 M L) := by
  unfold fX13_act_b20
  exact (kqI3 (y_fX13_act_b47 hC h) (kqI3 (y_fX13_act_b44 hC (by omega) h) (y_fX13_act_b44 hC (by omega) h)))
theorem y_fX13_act_b15 {P : mwM → mwL → Prop} (hC : CPrb P) {fu : Nat} {k : Nat} {a1 : Int32} {a2 : Int32} {a3 : Int32} {a4 : Int64} (hk_k : 964 ≤ k ∧ k < 1577 ∧ (k - 964) % 53 = 0) {M : mwM} {L : mwL} (h : P M L) : kq3 P (fX13_act_b15 fu k a1 a2 a3 a4 M L) := by
  unfold fX13_act_b15
  exact (y_fX13_act_b20 hC (by omega) h)
theorem y_DX13_act {P : mwM → mwL → Prop} (hC : CPrb P) {fu : Nat} {k : Nat} {a1 : Int32} {a2 : Int32} {a3 : Int32} {a4 : Int64} (hk_k : 964 ≤ k ∧ k < 1577 ∧ (k - 964) % 53 = 0) {M : mwM} {L : mwL} (h : P M L) : kq3 P (DX13_act fu k a1 a2 a3 a4 M L) := by
  unfold DX13_act
  exact (kqM3_rb hC h (by omega) (fun M24 h1 => (kqI3 (y_fX13_act_b15 hC (by omega) h1) (kqI3 (y_fX13_act_b15 hC (by omega) h1) (y_fX13_act_b20 hC (by omega) h1)))))
theorem y_fX13_data_b15 {P : mwM → mwL → Prop} (hC : CPrb P) {fu : Nat} {k : Nat} {a1 : Int64} {s1 : Int32} (hk_k : 964 ≤ k ∧ k < 1577 ∧ (k - 964) % 53 = 0) {M : mwM} {L : mwL} (h : P M L) : kq3 P (fX13_data_b15 fu k a1 s1 M L) := by
  unfold fX13_data_b15
  exact (kqM3_rb hC h (by omega) (fun M1 h1 => (kqI3 (kqK3 (fun q2 => (kqW3_rb hC h1 (by omega) (fun L4 h3 => (kqM3_rb hC h3 (by omega) (fun M5 h4 => (kqS3 h4))))))) (kqS3 h1))))
theorem y_DX13_data {P : mwM → mwL → Prop} (hC : CPrb P) {fu : Nat} {k : Nat} {a1 : Int64} (hk_k : 964 ≤ k ∧ k < 1577 ∧ (k - 964) % 53 = 0) {M : mwM} {L : mwL} (h : P M L) : kq3 P (DX13_data fu k a1 M L) := by
  unfold DX13_data
  exact (kqI3 (y_fX13_data_b15 hC (by omega) h) (y_fX13_data_b15 hC (by omega) h))
theorem y_fX13_after_b17 {P : mwM → mwL → Prop} (hC : CPrb P) {fu : Nat} {k : Nat} {a1 : Int32} {a2 : Int64} {M : mwM} {L : mwL} (h : P M L) : kq3 P (fX13_after_b17 fu k a1 a2 M L) := by
  unfold fX13_after_b17
  exact (kqS3 h)
theorem y_fX13_after_b41 {P : mwM → mwL → Prop} (hC : CPrb P) {fu : Nat} {k : Nat} {a1 : Int32} {a2 : Int64} {M : mwM} {L : mwL} (h : P M L) : kq3 P (fX13_after_b41 fu k a1 a2 M L) := by
  unfold fX13_after_b41
  exact (kqS3 h)
theorem y_DX13_after {P : mwM → mwL → Prop} (hC : CPrb P) {fu : Nat} {k : Nat} {a1 : Int32} {a2 : Int64} (hk_k : 964 ≤ k ∧ k < 1577 ∧ (k - 964) % 53 = 0) {M : mwM} {L : mwL} (h : P M L) : kq3 P (DX13_after fu k a1 a2 M L) := by
  unfold DX13_after
  exact (kqM3_rb hC h (by omega) (fun M1 h1 => (kqI3 (y_fX13_after_b17 hC h1) (kqB33 (y_DX13_none hC h1) (fun r5 M3 L4 h2 => (kqI3 (kqB33 (y_DX13_mark hC h2) (fun r9 M7 L8 h3 => (kqI3 (kqI3 (y_fX13_after_b41 hC h3) (kqI3 (kqI3 (kqK3 (fun q4 => (kqW3_rb hC h3 (by omega) (fun L15 h5 => (kqS3 h5))))) (kqS3 h3)) (y_fX13_after_b41 hC h3))) (y_fX13_after_b41 hC h3)))) (y_fX13_after_b17 hC h2)))))))
theorem y_DX13_note {P : mwM → mwL → Prop} (hC : CPrb P) {fu : Nat} {k : Nat} {a1 : Int32} {a2 : Int32} {a3 : Int64} (hk_k : 964 ≤ k ∧ k < 1577 ∧ (k - 964) % 53 = 0) {M : mwM} {L : mwL} (h : P M L) : kq2 P (DX13_note fu k a1 a2 a3 M L) := by
  unfold DX13_note
  exact (kqI2 (kqS2 h) (kqK2 (fun q1 => (kqM2_rb hC h (by omega) (fun M3 h2 => (kqK2 (fun q3 => (kqM2_rb hC h2 (by omega) (fun M5 h4 => (kqK2 (fun q5 => (kqM2_rb hC h4 (by omega) (fun M7 h6 => (kqM2_rb hC h6 (by omega) (fun M8 h7 => (kqS2 h7))))))))))))))))
theorem y_fX13_doActs_b102 {P : mwM → mwL → Prop} (hC : CPrb P) {fu : Nat} {k : Nat} {a1 : Int32} {a2 : Int32} {r2 : (Int32 × mwM × mwL) → Option (mwM × mwL)} {v3 : Int32} (hr2 : ∀ s, P s.2.1 s.2.2 → kq2 P (r2 s)) {M : mwM} {L : mwL} (h : P M L) : kq2 P (fX13_doActs_b102 fu k a1 a2 r2 v3 M L) := by
  unfold fX13_doActs_b102
  exact (kqL2 (fun x21 => (hr2 (x21, M, L) h)))
theorem y_fX13_doActs_b79 {P : mwM → mwL → Prop} (hC : CPrb P) {fu : Nat} {k : Nat} {a1 : Int32} {a2 : Int32} {r2 : (Int32 × mwM × mwL) → Option (mwM × mwL)} {v3 : Int32} {s1 : Int32} {s2 : Int64} (hr2 : ∀ s, P s.2.1 s.2.2 → kq2 P (r2 s)) (hk_k : 964 ≤ k ∧ k < 1577 ∧ (k - 964) % 53 = 0) {M : mwM} {L : mwL} (h : P M L) : kq2 P (fX13_doActs_b79 fu k a1 a2 r2 v3 s1 s2 M L) := by
  unfold fX13_doActs_b79
  exact (kqK2 (fun q1 => (kqW2_rb hC h (by omega) (fun L15 h2 => (kqK2 (fun q3 => (kqK2 (fun q4 => (kqK2 (fun q5 => (kqB22 (y_DX13_note hC (by omega) h2) (fun M19 L20 h6 => (y_fX13_doActs_b102 hC hr2 h6)))))))))))))
theorem y_fX13_doActs_i2 {P : mwM → mwL → Prop} (hC : CPrb P) {fu : Nat} {k : Nat} {a1 : Int32} {a2 : Int32} {r2 : (Int32 × mwM × mwL) → Option (mwM × mwL)} {v3 : Int32} (hr2 : ∀ s, P s.2.1 s.2.2 → kq2 P (r2 s)) (hk_k : 964 ≤ k ∧ k < 1577 ∧ (k - 964) % 53 = 0) {M : mwM} {L : mwL} (h : P M L) : kq2 P (fX13_doActs_i2 fu k a1 a2 r2 v3 M L) := by
  unfold fX13_doActs_i2
  exact (kqI2 (kqS2 h) (kqK2 (fun q1 => (kqI2 (kqK2 (fun q2 => (kqI2 (kqK2 (fun q3 => (kqK2 (fun q4 => (kqI2 (kqK2 (fun q5 => (y_fX13_doActs_b79 hC hr2 (by omega) h))) (kqK2 (fun q6 => (kqK2 (fun q7 => (kqK2 (fun q8 => (y_fX13_doActs_b79 hC hr2 (by omega) h)))))))))))) (y_fX13_doActs_b102 hC hr2 h)))) (y_fX13_doActs_b102 hC hr2 h)))))
theorem y_fX13_doActs_h2 {P : mwM → mwL → Prop} (hC : CPrb P) {fu : Nat} {k : Nat} {a1 : Int32} {a2 : Int32} (hk_k : 964 ≤ k ∧ k < 1577 ∧ (k - 964) % 53 = 0) : ∀ n s, P s.2.1 s.2.2 → kq2 P (fX13_doActs_h2 fu k a1 a2 n s) := by
  intro n
  induction n with
  | zero => intro s _; exact kqN2
  | succ n ih =>
    intro s h
    show kq2 P (fX13_doActs_i2 fu k a1 a2 (fX13_doActs_h2 fu k a1 a2 n) s.1 s.2.1 s.2.2)
    exact y_fX13_doActs_i2 hC ih hk_k h
theorem y_DX13_doActs {P : mwM → mwL → Prop} (hC : CPrb P) {fu : Nat} {k : Nat} {a1 : Int32} {a2 : Int32} (hk_k : 964 ≤ k ∧ k < 1577 ∧ (k - 964) % 53 = 0) {M : mwM} {L : mwL} (h : P M L) : kq2 P (DX13_doActs fu k a1 a2 M L) := by
  unfold DX13_doActs
  exact (y_fX13_doActs_h2 hC (by omega) _ (0, M, L) h)
theorem y_fX13_inside_i2 {P : mwM → mwL → Prop} (hC : CPrb P) {fu : Nat} {k : Nat} {a1 : Int32} {a2 : Int32} {r2 : (Int32 × mwM × mwL) → Option (Int32 × mwM × mwL)} {v3 : Int32} (hr2 : ∀ s, P s.2.1 s.2.2 → kq3 P (r2 s)) {M : mwM} {L : mwL} (h : P M L) : kq3 P (fX13_inside_i2 fu k a1 a2 r2 v3 M L) := by
  unfold fX13_inside_i2
  exact (kqI3 (kqS3 h) (kqK3 (fun q1 => (kqL3 (fun x3 => (kqI3 (kqS3 h) (hr2 (x3, M, L) h)))))))
theorem y_fX13_inside_h2 {P : mwM → mwL → Prop} (hC : CPrb P) {fu : Nat} {k : Nat} {a1 : Int32} {a2 : Int32} : ∀ n s, P s.2.1 s.2.2 → kq3 P (fX13_inside_h2 fu k a1 a2 n s) := by
  intro n
  induction n with
  | zero => intro s _; exact kqN3
  | succ n ih =>
    intro s h
    show kq3 P (fX13_inside_i2 fu k a1 a2 (fX13_inside_h2 fu k a1 a2 n) s.1 s.2.1 s.2.2)
    exact y_fX13_inside_i2 hC ih h
theorem y_DX13_inside {P : mwM → mwL → Prop} (hC : CPrb P) {fu : Nat} {k : Nat} {a1 : Int32} {a2 : Int32} {M : mwM} {L : mwL} (h : P M L) : kq3 P (DX13_inside fu k a1 a2 M L) := by
  unfold DX13_inside
  exact (y_fX13_inside_h2 hC _ (a1, M, L) h)
theorem y_fX13_child_b41 {P : mwM → mwL → Prop} (hC : CPrb P) {fu : Nat} {k : Nat} {a1 : Int32} {a2 : Int32} {v3 : Int32} {M : mwM} {L : mwL} (h : P M L) : kq3 P (fX13_child_b41 fu k a1 a2 v3 M L) := by
  unfold fX13_child_b41
  exact (kqS3 h)
theorem y_fX13_child_b43 {P : mwM → mwL → Prop} (hC : CPrb P) {fu : Nat} {k : Nat} {a1 : Int32} {a2 : Int32} {r2 : (Int32 × mwM × mwL) → Option (Int32 × mwM × mwL)} {v3 : Int32} (hr2 : ∀ s, P s.2.1 s.2.2 → kq3 P (r2 s)) {M : mwM} {L : mwL} (h : P M L) : kq3 P (fX13_child_b43 fu k a1 a2 r2 v3 M L) := by
  unfold fX13_child_b43
  exact (kqL3 (fun x11 => (hr2 (x11, M, L) h)))
theorem y_fX13_child_i2 {P : mwM → mwL → Prop} (hC : CPrb P) {fu : Nat} {k : Nat} {a1 : Int32} {a2 : Int32} {r2 : (Int32 × mwM × mwL) → Option (Int32 × mwM × mwL)} {v3 : Int32} (hr2 : ∀ s, P s.2.1 s.2.2 → kq3 P (r2 s)) {M : mwM} {L : mwL} (h : P M L) : kq3 P (fX13_child_i2 fu k a1 a2 r2 v3 M L) := by
  unfold fX13_child_i2
  exact (kqI3 (kqS3 h) (kqK3 (fun q1 => (kqI3 (kqB33 (y_DX13_mark hC h) (fun r6 M4 L5 h2 => (kqI3 (kqI3 (y_fX13_child_b41 hC h2) (kqK3 (fun q3 => (kqI3 (y_fX13_child_b43 hC hr2 h2) (y_fX13_child_b41 hC h2))))) (y_fX13_child_b43 hC hr2 h2)))) (y_fX13_child_b43 hC hr2 h)))))
theorem y_fX13_child_h2 {P : mwM → mwL → Prop} (hC : CPrb P) {fu : Nat} {k : Nat} {a1 : Int32} {a2 : Int32} : ∀ n s, P s.2.1 s.2.2 → kq3 P (fX13_child_h2 fu k a1 a2 n s) := by
  intro n
  induction n with
  | zero => intro s _; exact kqN3
  | succ n ih =>
    intro s h
    show kq3 P (fX13_child_i2 fu k a1 a2 (fX13_child_h2 fu k a1 a2 n) s.1 s.2.1 s.2.2)
    exact y_fX13_child_i2 hC ih h
theorem y_DX13_child {P : mwM → mwL → Prop} (hC : CPrb P) {fu : Nat} {k : Nat} {a1 : Int32} {a2 : Int32} {M : mwM} {L : mwL} (h : P M L) : kq3 P (DX13_child fu k a1 a2 M L) := by
  unfold DX13_child
  exact (y_fX13_child_h2 hC _ (1, M, L) h)
theorem y_fX13_ask_b16 {P : mwM → mwL → Prop} (hC : CPrb P) {fu : Nat} {a1 : Int32} {a2 : Int64} {a3 : Int64} {s0 : Int64} {M : mwM} {L : mwL} (h : P M L) : kq3 P (fX13_ask_b16 fu a1 a2 a3 s0 M L) := by
  unfold fX13_ask_b16
  exact (kqS3 h)
theorem y_fX13_ask_b33 {P : mwM → mwL → Prop} (hC : CPrb P) {fu : Nat} {a1 : Int32} {a2 : Int64} {a3 : Int64} {s0 : Int64} {M : mwM} {L : mwL} (h : P M L) : kq3 P (fX13_ask_b33 fu a1 a2 a3 s0 M L) := by
  unfold fX13_ask_b33
  exact (kqS3 h)
theorem y_fX13_ask_b50 {P : mwM → mwL → Prop} (hC : CPrb P) {fu : Nat} {a1 : Int32} {a2 : Int64} {a3 : Int64} {s0 : Int64} {M : mwM} {L : mwL} (h : P M L) : kq3 P (fX13_ask_b50 fu a1 a2 a3 s0 M L) := by
  unfold fX13_ask_b50
  exact (kqS3 h)
theorem y_fX13_ask_b67 {P : mwM → mwL → Prop} (hC : CPrb P) {fu : Nat} {a1 : Int32} {a2 : Int64} {a3 : Int64} {s0 : Int64} {M : mwM} {L : mwL} (h : P M L) : kq3 P (fX13_ask_b67 fu a1 a2 a3 s0 M L) := by
  unfold fX13_ask_b67
  exact (kqS3 h)
theorem y_fX13_ask_b86 {P : mwM → mwL → Prop} (hC : CPrb P) {fu : Nat} {a1 : Int32} {a2 : Int64} {a3 : Int64} {s0 : Int64} {M : mwM} {L : mwL} (h : P M L) : kq3 P (fX13_ask_b86 fu a1 a2 a3 s0 M L) := by
  unfold fX13_ask_b86
  exact (kqS3 h)
theorem y_fX13_ask_b104 {P : mwM → mwL → Prop} (hC : CPrb P) {fu : Nat} {a1 : Int32} {a2 : Int64} {a3 : Int64} {s0 : Int64} {M : mwM} {L : mwL} (h : P M L) : kq3 P (fX13_ask_b104 fu a1 a2 a3 s0 M L) := by
  unfold fX13_ask_b104
  exact (kqS3 h)
theorem y_DX13_ask {P : mwM → mwL → Prop} (hC : CPrb P) {fu : Nat} {a1 : Int32} {a2 : Int64} {a3 : Int64} {M : mwM} {L : mwL} (h : P M L) : kq3 P (DX13_ask fu a1 a2 a3 M L) := by
  unfold DX13_ask
  exact (kqI3 (kqI3 (y_fX13_ask_b16 hC h) (y_fX13_ask_b16 hC h)) (kqI3 (kqI3 (y_fX13_ask_b33 hC h) (y_fX13_ask_b33 hC h)) (kqI3 (kqI3 (y_fX13_ask_b50 hC h) (y_fX13_ask_b50 hC h)) (kqI3 (kqI3 (y_fX13_ask_b67 hC h) (y_fX13_ask_b67 hC h)) (kqI3 (kq_mnzL3 (kqI3 (y_fX13_ask_b86 hC h) (y_fX13_ask_b86 hC h))) (kq_mnzL3 (kqI3 (y_fX13_ask_b104 hC h) (y_fX13_ask_b104 hC h))))))))
theorem y_fX13_holds_b144 {P : mwM → mwL → Prop} (hC : CPrb P) {fu : Nat} {k : Nat} {a1 : Int32} {v7 : Int32} {M : mwM} {L : mwL} (h : P M L) : kq3 P (fX13_holds_b144 fu k a1 v7 M L) := by
  unfold fX13_holds_b144
  exact (kq_mzz3 (kqS3 h))
theorem y_fX13_holds_b120 {P : mwM → mwL → Prop} (hC : CPrb P) {fu : Nat} {k : Nat} {a1 : Int32} {s0 : Int32} (hk_k : 964 ≤ k ∧ k < 1577 ∧ (k - 964) % 53 = 0) {M : mwM} {L : mwL} (h : P M L) : kq3 P (fX13_holds_b120 fu k a1 s0 M L) := by
  unfold fX13_holds_b120
  exact (kqI3 (kqK3 (fun q1 => (kqM3_rb hC h (by omega) (fun M15 h2 => (y_fX13_holds_b144 hC h2))))) (kqK3 (fun q3 => (kqM3_rb hC h (by omega) (fun M17 h4 => (y_fX13_holds_b144 hC h4))))))
theorem y_fX13_holds_b119 {P : mwM → mwL → Prop} (hC : CPrb P) {fu : Nat} {k : Nat} {a1 : Int32} (hk_k : 964 ≤ k ∧ k < 1577 ∧ (k - 964) % 53 = 0) {M : mwM} {L : mwL} (h : P M L) : kq3 P (fX13_holds_b119 fu k a1 M L) := by
  unfold fX13_holds_b119
  exact (y_fX13_holds_b120 hC (by omega) h)
theorem y_fX13_holds_b85 {P : mwM → mwL → Prop} (hC : CPrb P) {fu : Nat} {k : Nat} {a1 : Int32} {v2 : Int32} {v4 : Int64} {v6 : Int32} (hk_k : 964 ≤ k ∧ k < 1577 ∧ (k - 964) % 53 = 0) {M : mwM} {L : mwL} (h : P M L) : kq3 P (fX13_holds_b85 fu k a1 v2 v4 v6 M L) := by
  unfold fX13_holds_b85
  exact (kqI3 (kqK3 (fun q1 => (kqB33 (y_DX13_ask hC h) (fun r11 M9 L10 h2 => (kqI3 (y_fX13_holds_b120 hC (by omega) h2) (y_fX13_holds_b119 hC (by omega) h2)))))) (y_fX13_holds_b119 hC (by omega) h))
theorem y_fX13_holds_b61 {P : mwM → mwL → Prop} (hC : CPrb P) {fu : Nat} {k : Nat} {a1 : Int32} {v2 : Int32} {v4 : Int64} {s0 : Int32} (hk_k : 964 ≤ k ∧ k < 1577 ∧ (k - 964) % 53 = 0) {M : mwM} {L : mwL} (h : P M L) : kq3 P (fX13_holds_b61 fu k a1 v2 v4 s0 M L) := by
  unfold fX13_holds_b61
  exact (kqI3 (y_fX13_holds_b85 hC (by omega) h) (kqM3_rb hC h (by omega) (fun M4 h1 => (kqB23 (y_DX13_note hC (by omega) h1) (fun M5 L6 h2 => (y_fX13_holds_b85 hC (by omega) h2))))))
theorem y_fX13_holds_b60 {P : mwM → mwL → Prop} (hC : CPrb P) {fu : Nat} {k : Nat} {a1 : Int32} {v2 : Int32} {v4 : Int64} (hk_k : 964 ≤ k ∧ k < 1577 ∧ (k - 964) % 53 = 0) {M : mwM} {L : mwL} (h : P M L) : kq3 P (fX13_holds_b60 fu k a1 v2 v4 M L) := by
  unfold fX13_holds_b60
  exact (y_fX13_holds_b61 hC (by omega) h)
theorem y_fX13_holds_b39 {P : mwM → mwL → Prop} (hC : CPrb P) {fu : Nat} {k : Nat} {a1 : Int32} {v2 : Int32} {s0 : Int64} (hk_k : 964 ≤ k ∧ k < 1577 ∧ (k - 964) % 53 = 0) {M : mwM} {L : mwL} (h : P M L) : kq3 P (fX13_holds_b39 fu k a1 v2 s0 M L) := by
  unfold fX13_holds_b39
  exact (kqI3 (y_fX13_holds_b60 hC (by omega) h) (kqI3 (y_fX13_holds_b61 hC (by omega) h) (y_fX13_holds_b60 hC (by omega) h)))
theorem y_DX13_holds {P : mwM → mwL → Prop} (hC : CPrb P) {fu : Nat} {k : Nat} {a1 : Int32} (hk_k : 964 ≤ k ∧ k < 1577 ∧ (k - 964) % 53 = 0) {M : mwM} {L : mwL} (h : P M L) : kq3 P (DX13_holds fu k a1 M L) := by
  unfold DX13_holds
  exact (kqK3 (fun q1 => (kqL3 (fun x20 => (kqI3 (kqS3 h) (kqL3 (fun x22 => (kqI3 (kqK3 (fun q2 => (y_fX13_holds_b39 hC (by omega) h))) (y_fX13_holds_b39 hC (by omega) h)))))))))
theorem y_fX13_saysSource_b48 {P : mwM → mwL → Prop} (hC : CPrb P) {fu : Nat} {k : Nat} {a1 : Int32} {a2 : Int32} {s0 : Int32} {M : mwM} {L : mwL} (h : P M L) : kq3 P (fX13_saysSource_b48 fu k a1 a2 s0 M L) := by
  unfold fX13_saysSource_b48
  exact (kq_mzz3 (kqS3 h))
theorem y_DX13_saysSource {P : mwM → mwL → Prop} (hC : CPrb P) {fu : Nat} {k : Nat} {a1 : Int32} {a2 : Int32} {M : mwM} {L : mwL} (h : P M L) : kq3 P (DX13_saysSource fu k a1 a2 M L) := by
  unfold DX13_saysSource
  exact (kqK3 (fun q1 => (kqK3 (fun q2 => (kqI3 (kqK3 (fun q3 => (kqK3 (fun q4 => (kqI3 (y_fX13_saysSource_b48 hC h) (y_fX13_saysSource_b48 hC h)))))) (kqI3 (y_fX13_saysSource_b48 hC h) (y_fX13_saysSource_b48 hC h)))))))
theorem y_fX13_saysTarget_b25 {P : mwM → mwL → Prop} (hC : CPrb P) {fu : Nat} {k : Nat} {a1 : Int32} {a2 : Int32} {s0 : Int32} {M : mwM} {L : mwL} (h : P M L) : kq3 P (fX13_saysTarget_b25 fu k a1 a2 s0 M L) := by
  unfold fX13_saysTarget_b25
  exact (kq_mzz3 (kqS3 h))
theorem y_fX13_saysTarget_b61 {P : mwM → mwL → Prop} (hC : CPrb P) {fu : Nat} {k : Nat} {a1 : Int32} {a2 : Int32} {s0 : Int32} {M : mwM} {L : mwL} (h : P M L) : kq3 P (fX13_saysTarget_b61 fu k a1 a2 s0 M L) := by
  unfold fX13_saysTarget_b61
  exact (kq_mzz3 (kqS3 h))
theorem y_fX13_saysTarget_b60 {P : mwM → mwL → Prop} (hC : CPrb P) {fu : Nat} {k : Nat} {a1 : Int32} {a2 : Int32} {M : mwM} {L : mwL} (h : P M L) : kq3 P (fX13_saysTarget_b60 fu k a1 a2 M L) := by
  unfold fX13_saysTarget_b60
  exact (y_fX13_saysTarget_b61 hC h)
theorem y_DX13_saysTarget {P : mwM → mwL → Prop} (hC : CPrb P) {fu : Nat} {k : Nat} {a1 : Int32} {a2 : Int32} {M : mwM} {L : mwL} (h : P M L) : kq3 P (DX13_saysTarget fu k a1 a2 M L) := by
  unfold DX13_saysTarget
  exact (kqK3 (fun q1 => (kqK3 (fun q2 => (kqI3 (kqK3 (fun q3 => (kqK3 (fun q4 => (kqI3 (kqK3 (fun q5 => (kqK3 (fun q6 => (kqI3 (y_fX13_saysTarget_b60 hC h) (y_fX13_saysTarget_b61 hC h)))))) (y_fX13_saysTarget_b60 hC h)))))) (kqI3 (y_fX13_saysTarget_b25 hC h) (y_fX13_saysTarget_b25 hC h)))))))
theorem y_fX13_waitsFor_b90 {P : mwM → mwL → Prop} (hC : CPrb P) {fu : Nat} {k : Nat} {a1 : Int32} {s0 : Int32} {M : mwM} {L : mwL} (h : P M L) : kq3 P (fX13_waitsFor_b90 fu k a1 s0 M L) := by
  unfold fX13_waitsFor_b90
  exact (kq_mzz3 (kqS3 h))
theorem y_fX13_waitsFor_b89 {P : mwM → mwL → Prop} (hC : CPrb P) {fu : Nat} {k : Nat} {a1 : Int32} {M : mwM} {L : mwL} (h : P M L) : kq3 P (fX13_waitsFor_b89 fu k a1 M L) := by
  unfold fX13_waitsFor_b89
  exact (y_fX13_waitsFor_b90 hC h)
theorem y_fX13_waitsFor_b70 {P : mwM → mwL → Prop} (hC : CPrb P) {fu : Nat} {k : Nat} {a1 : Int32} {r7 : (Int32 × Int32 × Int32 × mwM × mwL) → Option (Int32 × mwM × mwL)} {v2 : Int32} {v4 : Int32} {s0 : Int32} (hr7 : ∀ s, P s.2.2.2.1 s.2.2.2.2 → kq3 P (r7 s)) {M : mwM} {L : mwL} (h : P M L) : kq3 P (fX13_waitsFor_b70 fu k a1 r7 v2 v4 s0 M L) := by
  unfold fX13_waitsFor_b70
  exact (kqL3 (fun x18 => (hr7 (v2, s0, x18, M, L) h)))
theorem y_fX13_waitsFor_b69 {P : mwM → mwL → Prop} (hC : CPrb P) {fu : Nat} {k : Nat} {a1 : Int32} {r7 : (Int32 × Int32 × Int32 × mwM × mwL) → Option (Int32 × mwM × mwL)} {v2 : Int32} {v4 : Int32} (hr7 : ∀ s, P s.2.2.2.1 s.2.2.2.2 → kq3 P (r7 s)) {M : mwM} {L : mwL} (h : P M L) : kq3 P (fX13_waitsFor_b69 fu k a1 r7 v2 v4 M L) := by
  unfold fX13_waitsFor_b69
  exact (y_fX13_waitsFor_b70 hC hr7 h)
theorem y_fX13_waitsFor_b65 {P : mwM → mwL → Prop} (hC : CPrb P) {fu : Nat} {k : Nat} {a1 : Int32} {r7 : (Int32 × Int32 × Int32 × mwM × mwL) → Option (Int32 × mwM × mwL)} {v2 : Int32} {v4 : Int32} (hr7 : ∀ s, P s.2.2.2.1 s.2.2.2.2 → kq3 P (r7 s)) {M : mwM} {L : mwL} (h : P M L) : kq3 P (fX13_waitsFor_b65 fu k a1 r7 v2 v4 M L) := by
  unfold fX13_waitsFor_b65
  exact (y_fX13_waitsFor_b70 hC hr7 h)
theorem y_fX13_waitsFor_b35 {P : mwM → mwL → Prop} (hC : CPrb P) {fu : Nat} {k : Nat} {a1 : Int32} {r7 : (Int32 × Int32 × Int32 × mwM × mwL) → Option (Int32 × mwM × mwL)} {v3 : Int32} {v4 : Int32} {s0 : Int32} (hr7 : ∀ s, P s.2.2.2.1 s.2.2.2.2 → kq3 P (r7 s)) {M : mwM} {L : mwL} (h : P M L) : kq3 P (fX13_waitsFor_b35 fu k a1 r7 v3 v4 s0 M L) := by
  unfold fX13_waitsFor_b35
  exact (kqI3 (y_fX13_waitsFor_b69 hC hr7 h) (kqB33 (y_DX13_saysSource hC h) (fun r13 M11 L12 h1 => (kqI3 (y_fX13_waitsFor_b65 hC hr7 h1) (kqK3 (fun q2 => (kqK3 (fun q3 => (kqI3 (y_fX13_waitsFor_b69 hC hr7 h1) (y_fX13_waitsFor_b65 hC hr7 h1))))))))))
theorem y_fX13_waitsFor_b30 {P : mwM → mwL → Prop} (hC : CPrb P) {fu : Nat} {k : Nat} {a1 : Int32} {r7 : (Int32 × Int32 × Int32 × mwM × mwL) → Option (Int32 × mwM × mwL)} {v3 : Int32} {v4 : Int32} (hr7 : ∀ s, P s.2.2.2.1 s.2.2.2.2 → kq3 P (r7 s)) {M : mwM} {L : mwL} (h : P M L) : kq3 P (fX13_waitsFor_b30 fu k a1 r7 v3 v4 M L) := by
  unfold fX13_waitsFor_b30
  exact (y_fX13_waitsFor_b35 hC hr7 h)
theorem y_fX13_waitsFor_i7 {P : mwM → mwL → Prop} (hC : CPrb P) {fu : Nat} {k : Nat} {a1 : Int32} {r7 : (Int32 × Int32 × Int32 × mwM × mwL) → Option (Int32 × mwM × mwL)} {v2 : Int32} {v3 : Int32} {v4 : Int32} (hr7 : ∀ s, P s.2.2.2.1 s.2.2.2.2 → kq3 P (r7 s)) {M : mwM} {L : mwL} (h : P M L) : kq3 P (fX13_waitsFor_i7 fu k a1 r7 v2 v3 v4 M L) := by
  unfold fX13_waitsFor_i7
  exact (kqI3 (kqI3 (y_fX13_waitsFor_b89 hC h) (kqI3 (y_fX13_waitsFor_b89 hC h) (y_fX13_waitsFor_b90 hC h))) (kqI3 (kqB33 (y_DX13_saysSource hC h) (fun r8 M5 L6 h1 => (kqI3 (y_fX13_waitsFor_b35 hC hr7 h1) (y_fX13_waitsFor_b30 hC hr7 h1)))) (y_fX13_waitsFor_b30 hC hr7 h)))
theorem y_fX13_waitsFor_h7 {P : mwM → mwL → Prop} (hC : CPrb P) {fu : Nat} {k : Nat} {a1 : Int32} : ∀ n s, P s.2.2.2.1 s.2.2.2.2 → kq3 P (fX13_waitsFor_h7 fu k a1 n s) := by
  intro n
  induction n with
  | zero => intro s _; exact kqN3
  | succ n ih =>
    intro s h
    show kq3 P (fX13_waitsFor_i7 fu k a1 (fX13_waitsFor_h7 fu k a1 n) s.1 s.2.1 s.2.2.1 s.2.2.2.1 s.2.2.2.2)
    exact y_fX13_waitsFor_i7 hC ih h
theorem y_DX13_waitsFor {P : mwM → mwL → Prop} (hC : CPrb P) {fu : Nat} {k : Nat} {a1 : Int32} {M : mwM} {L : mwL} (h : P M L) : kq3 P (DX13_waitsFor fu k a1 M L) := by
  unfold DX13_waitsFor
  exact (y_fX13_waitsFor_h7 hC _ (0, 1, 1, M, L) h)
theorem y_fX13_domain_b129 {P : mwM → mwL → Prop} (hC : CPrb P) {fu : Nat} {k : Nat} {a1 : Int32} {r4 : (Int32 × Int32 × mwM × mwL) → Option (Int32 × mwM × mwL)} {v3 : Int32} {s0 : Int32} (hr4 : ∀ s, P s.2.2.1 s.2.2.2 → kq3 P (r4 s)) {M : mwM} {L : mwL} (h : P M L) : kq3 P (fX13_domain_b129 fu k a1 r4 v3 s0 M L) := by
  unfold fX13_domain_b129
  exact (kqL3 (fun x28 => (hr4 (s0, x28, M, L) h)))
theorem y_fX13_domain_b119 {P : mwM → mwL → Prop} (hC : CPrb P) {fu : Nat} {k : Nat} {a1 : Int32} {r4 : (Int32 × Int32 × mwM × mwL) → Option (Int32 × mwM × mwL)} {v2 : Int32} {v3 : Int32} {v4 : Int32} (hr4 : ∀ s, P s.2.2.1 s.2.2.2 → kq3 P (r4 s)) {M : mwM} {L : mwL} (h : P M L) : kq3 P (fX13_domain_b119 fu k a1 r4 v2 v3 v4 M L) := by
  unfold fX13_domain_b119
  exact (kqI3 (y_fX13_domain_b129 hC hr4 h) (y_fX13_domain_b129 hC hr4 h))
theorem y_fX13_domain_b113 {P : mwM → mwL → Prop} (hC : CPrb P) {fu : Nat} {k : Nat} {a1 : Int32} {r4 : (Int32 × Int32 × mwM × mwL) → Option (Int32 × mwM × mwL)} {r46 : (Int32 × Int32 × Int32 × Int32 × mwM × mwL) → Option (Int32 × mwM × mwL)} {v2 : Int32} {v3 : Int32} {v4 : Int32} {v5 : Int32} (hr4 : ∀ s, P s.2.2.1 s.2.2.2 → kq3 P (r4 s)) (hr46 : ∀ s, P s.2.2.2.2.1 s.2.2.2.2.2 → kq3 P (r46 s)) {M : mwM} {L : mwL} (h : P M L) : kq3 P (fX13_domain_b113 fu k a1 r4 r46 v2 v3 v4 v5 M L) := by
  unfold fX13_domain_b113
  exact (kqL3 (fun x26 => (hr46 (v2, v3, v4, x26, M, L) h)))
theorem y_fX13_domain_b84 {P : mwM → mwL → Prop} (hC : CPrb P) {fu : Nat} {k : Nat} {a1 : Int32} {r4 : (Int32 × Int32 × mwM × mwL) → Option (Int32 × mwM × mwL)} {r46 : (Int32 × Int32 × Int32 × Int32 × mwM × mwL) → Option (Int32 × mwM × mwL)} {v2 : Int32} {v3 : Int32} {v4 : Int32} {v5 : Int32} (hr4 : ∀ s, P s.2.2.1 s.2.2.2 → kq3 P (r4 s)) (hr46 : ∀ s, P s.2.2.2.2.1 s.2.2.2.2.2 → kq3 P (r46 s)) {M : mwM} {L : mwL} (h : P M L) : kq3 P (fX13_domain_b84 fu k a1 r4 r46 v2 v3 v4 v5 M L) := by
  unfold fX13_domain_b84
  exact (kqI3 (y_fX13_domain_b113 hC hr4 hr46 h) (kqB33 (y_DX13_saysTarget hC h) (fun r20 M18 L19 h1 => (kqI3 (y_fX13_domain_b113 hC hr4 hr46 h1) (kqK3 (fun q2 => (kqB33 (y_DX13_inside hC h1) (fun r25 M23 L24 h3 => (y_fX13_domain_b113 hC hr4 hr46 h3)))))))))
theorem y_fX13_domain_i46 {P : mwM → mwL → Prop} (hC : CPrb P) {fu : Nat} {k : Nat} {a1 : Int32} {r4 : (Int32 × Int32 × mwM × mwL) → Option (Int32 × mwM × mwL)} {r46 : (Int32 × Int32 × Int32 × Int32 × mwM × mwL) → Option (Int32 × mwM × mwL)} {v2 : Int32} {v3 : Int32} {v4 : Int32} {v5 : Int32} (hr4 : ∀ s, P s.2.2.1 s.2.2.2 → kq3 P (r4 s)) (hr46 : ∀ s, P s.2.2.2.2.1 s.2.2.2.2.2 → kq3 P (r46 s)) {M : mwM} {L : mwL} (h : P M L) : kq3 P (fX13_domain_i46 fu k a1 r4 r46 v2 v3 v4 v5 M L) := by
  unfold fX13_domain_i46
  exact (kqI3 (y_fX13_domain_b119 hC hr4 h) (kqI3 (y_fX13_domain_b119 hC hr4 h) (kqB33 (y_DX13_saysSource hC h) (fun r11 M9 L10 h1 => (kqI3 (y_fX13_domain_b84 hC hr4 hr46 h1) (kqK3 (fun q2 => (kqB33 (y_DX13_inside hC h1) (fun r16 M14 L15 h3 => (y_fX13_domain_b84 hC hr4 hr46 h3))))))))))
theorem y_fX13_domain_h46 {P : mwM → mwL → Prop} (hC : CPrb P) {fu : Nat} {k : Nat} {a1 : Int32} {r4 : (Int32 × Int32 × mwM × mwL) → Option (Int32 × mwM × mwL)} (hr4 : ∀ s, P s.2.2.1 s.2.2.2 → kq3 P (r4 s)) : ∀ n s, P s.2.2.2.2.1 s.2.2.2.2.2 → kq3 P (fX13_domain_h46 fu k a1 r4 n s) := by
  intro n
  induction n with
  | zero => intro s _; exact kqN3
  | succ n ih =>
    intro s h
    show kq3 P (fX13_domain_i46 fu k a1 r4 (fX13_domain_h46 fu k a1 r4 n) s.1 s.2.1 s.2.2.1 s.2.2.2.1 s.2.2.2.2.1 s.2.2.2.2.2)
    exact y_fX13_domain_i46 hC hr4 ih h
theorem y_fX13_domain_b41 {P : mwM → mwL → Prop} (hC : CPrb P) {fu : Nat} {k : Nat} {a1 : Int32} {r4 : (Int32 × Int32 × mwM × mwL) → Option (Int32 × mwM × mwL)} {v2 : Int32} {v3 : Int32} {s0 : Int32} (hr4 : ∀ s, P s.2.2.1 s.2.2.2 → kq3 P (r4 s)) {M : mwM} {L : mwL} (h : P M L) : kq3 P (fX13_domain_b41 fu k a1 r4 v2 v3 s0 M L) := by
  unfold fX13_domain_b41
  exact (y_fX13_domain_h46 hC hr4 _ (v2, v3, s0, 1, M, L) h)
theorem y_fX13_domain_b40 {P : mwM → mwL → Prop} (hC : CPrb P) {fu : Nat} {k : Nat} {a1 : Int32} {r4 : (Int32 × Int32 × mwM × mwL) → Option (Int32 × mwM × mwL)} {v2 : Int32} {v3 : Int32} (hr4 : ∀ s, P s.2.2.1 s.2.2.2 → kq3 P (r4 s)) {M : mwM} {L : mwL} (h : P M L) : kq3 P (fX13_domain_b40 fu k a1 r4 v2 v3 M L) := by
  unfold fX13_domain_b40
  exact (y_fX13_domain_b41 hC hr4 h)
theorem y_fX13_domain_i4 {P : mwM → mwL → Prop} (hC : CPrb P) {fu : Nat} {k : Nat} {a1 : Int32} {r4 : (Int32 × Int32 × mwM × mwL) → Option (Int32 × mwM × mwL)} {v2 : Int32} {v3 : Int32} (hr4 : ∀ s, P s.2.2.1 s.2.2.2 → kq3 P (r4 s)) {M : mwM} {L : mwL} (h : P M L) : kq3 P (fX13_domain_i4 fu k a1 r4 v2 v3 M L) := by
  unfold fX13_domain_i4
  exact (kqI3 (kqS3 h) (kqK3 (fun q1 => (kqI3 (kqK3 (fun q2 => (kqK3 (fun q3 => (kqI3 (y_fX13_domain_b40 hC hr4 h) (y_fX13_domain_b41 hC hr4 h)))))) (y_fX13_domain_b40 hC hr4 h)))))
theorem y_fX13_domain_h4 {P : mwM → mwL → Prop} (hC : CPrb P) {fu : Nat} {k : Nat} {a1 : Int32} : ∀ n s, P s.2.2.1 s.2.2.2 → kq3 P (fX13_domain_h4 fu k a1 n s) := by
  intro n
  induction n with
  | zero => intro s _; exact kqN3
  | succ n ih =>
    intro s h
    show kq3 P (fX13_domain_i4 fu k a1 (fX13_domain_h4 fu k a1 n) s.1 s.2.1 s.2.2.1 s.2.2.2)
    exact y_fX13_domain_i4 hC ih h
theorem y_DX13_domain {P : mwM → mwL → Prop} (hC : CPrb P) {fu : Nat} {k : Nat} {a1 : Int32} {M : mwM} {L : mwL} (h : P M L) : kq3 P (DX13_domain fu k a1 M L) := by
  unfold DX13_domain
  exact (y_fX13_domain_h4 hC _ (0, 1, M, L) h)
theorem y_fX13_findExits_b38 {P : mwM → mwL → Prop} (hC : CPrb P) {fu : Nat} {k : Nat} {a1 : Int32} {r2 : (Int32 × mwM × mwL) → Option (mwM × mwL)} {v2 : Int32} {s1 : Int32} {s2 : Int32} (hr2 : ∀ s, P s.2.1 s.2.2 → kq2 P (r2 s)) (hk_k : 964 ≤ k ∧ k < 1577 ∧ (k - 964) % 53 = 0) {M : mwM} {L : mwL} (h : P M L) : kq2 P (fX13_findExits_b38 fu k a1 r2 v2 s1 s2 M L) := by
  unfold fX13_findExits_b38
  exact (kqK2 (fun q1 => (kqM2_rb hC h (by omega) (fun M9 h2 => (kqL2 (fun x10 => (hr2 (x10, M9, L) h2)))))))
theorem y_fX13_findExits_b37 {P : mwM → mwL → Prop} (hC : CPrb P) {fu : Nat} {k : Nat} {a1 : Int32} {r2 : (Int32 × mwM × mwL) → Option (mwM × mwL)} {v2 : Int32} {s1 : Int32} (hr2 : ∀ s, P s.2.1 s.2.2 → kq2 P (r2 s)) (hk_k : 964 ≤ k ∧ k < 1577 ∧ (k - 964) % 53 = 0) {M : mwM} {L : mwL} (h : P M L) : kq2 P (fX13_findExits_b37 fu k a1 r2 v2 s1 M L) := by
  unfold fX13_findExits_b37
  exact (y_fX13_findExits_b38 hC hr2 (by omega) h)
theorem y_fX13_findExits_i2 {P : mwM → mwL → Prop} (hC : CPrb P) {fu : Nat} {k : Nat} {a1 : Int32} {r2 : (Int32 × mwM × mwL) → Option (mwM × mwL)} {v2 : Int32} (hr2 : ∀ s, P s.2.1 s.2.2 → kq2 P (r2 s)) (hk_k : 964 ≤ k ∧ k < 1577 ∧ (k - 964) % 53 = 0) {M : mwM} {L : mwL} (h : P M L) : kq2 P (fX13_findExits_i2 fu k a1 r2 v2 M L) := by
  unfold fX13_findExits_i2
  exact (kqI2 (kqS2 h) (kqK2 (fun q1 => (kqI2 (y_fX13_findExits_b37 hC hr2 (by omega) h) (kqB32 (y_DX13_inside hC h) (fun r6 M4 L5 h2 => (kqI2 (y_fX13_findExits_b37 hC hr2 (by omega) h2) (y_fX13_findExits_b38 hC hr2 (by omega) h2))))))))
theorem y_fX13_findExits_h2 {P : mwM → mwL → Prop} (hC : CPrb P) {fu : Nat} {k : Nat} {a1 : Int32} (hk_k : 964 ≤ k ∧ k < 1577 ∧ (k - 964) % 53 = 0) : ∀ n s, P s.2.1 s.2.2 → kq2 P (fX13_findExits_h2 fu k a1 n s) := by
  intro n
  induction n with
  | zero => intro s _; exact kqN2
  | succ n ih =>
    intro s h
    show kq2 P (fX13_findExits_i2 fu k a1 (fX13_findExits_h2 fu k a1 n) s.1 s.2.1 s.2.2)
    exact y_fX13_findExits_i2 hC ih hk_k h
theorem y_DX13_findExits {P : mwM → mwL → Prop} (hC : CPrb P) {fu : Nat} {k : Nat} {a1 : Int32} (hk_k : 964 ≤ k ∧ k < 1577 ∧ (k - 964) % 53 = 0) {M : mwM} {L : mwL} (h : P M L) : kq2 P (DX13_findExits fu k a1 M L) := by
  unfold DX13_findExits
  exact (y_fX13_findExits_h2 hC (by omega) _ (1, M, L) h)
theorem y_fX13_choose_b317 {P : mwM → mwL → Prop} (hC : CPrb P) {fu : Nat} {k : Nat} {a1 : Int32} {r128 : (Int32 × mwM × mwL) → Option (Int32 × mwM × mwL)} {r134 : (Int32 × Int32 × mwM × mwL) → Option (Int32 × mwM × mwL)} {v2 : Int32} {v3 : Int32} (hr128 : ∀ s, P s.2.1 s.2.2 → kq3 P (r128 s)) (hr134 : ∀ s, P s.2.2.1 s.2.2.2 → kq3 P (r134 s)) {M : mwM} {L : mwL} (h : P M L) : kq3 P (fX13_choose_b317 fu k a1 r128 r134 v2 v3 M L) := by
  unfold fX13_choose_b317
  exact (kqL3 (fun x61 => (hr134 (v2, x61, M, L) h)))
theorem y_fX13_choose_b287 {P : mwM → mwL → Prop} (hC : CPrb P) {fu : Nat} {k : Nat} {a1 : Int32} {r128 : (Int32 × mwM × mwL) → Option (Int32 × mwM × mwL)} {r134 : (Int32 × Int32 × mwM × mwL) → Option (Int32 × mwM × mwL)} {v2 : Int32} {v3 : Int32} {v4 : Int32} (hr128 : ∀ s, P s.2.1 s.2.2 → kq3 P (r128 s)) (hr134 : ∀ s, P s.2.2.1 s.2.2.2 → kq3 P (r134 s)) (hk_k : 964 ≤ k ∧ k < 1577 ∧ (k - 964) % 53 = 0) {M : mwM} {L : mwL} (h : P M L) : kq3 P (fX13_choose_b287 fu k a1 r128 r134 v2 v3 v4 M L) := by
  unfold fX13_choose_b287
  exact (kqI3 (y_fX13_choose_b317 hC hr128 hr134 h) (kqK3 (fun q1 => (kqK3 (fun q2 => (kqM3_rb hC h (by omega) (fun M59 h3 => (kqM3_rb hC h3 (by omega) (fun M60 h4 => (y_fX13_choose_b317 hC hr128 hr134 h4))))))))))
theorem y_fX13_choose_b280 {P : mwM → mwL → Prop} (hC : CPrb P) {fu : Nat} {k : Nat} {a1 : Int32} {r128 : (Int32 × mwM × mwL) → Option (Int32 × mwM × mwL)} {r134 : (Int32 × Int32 × mwM × mwL) → Option (Int32 × mwM × mwL)} {r235 : (Int32 × Int32 × Int32 × Int32 × mwM × mwL) → Option (Int32 × mwM × mwL)} {v2 : Int32} {v3 : Int32} {v4 : Int32} {v5 : Int32} {s1 : Int32} {s2 : Int32} (hr128 : ∀ s, P s.2.1 s.2.2 → kq3 P (r128 s)) (hr134 : ∀ s, P s.2.2.1 s.2.2.2 → kq3 P (r134 s)) (hr235 : ∀ s, P s.2.2.2.2.1 s.2.2.2.2.2 → kq3 P (r235 s)) (hk_k : 964 ≤ k ∧ k < 1577 ∧ (k - 964) % 53 = 0) {M : mwM} {L : mwL} (h : P M L) : kq3 P (fX13_choose_b280 fu k a1 r128 r134 r235 v2 v3 v4 v5 s1 s2 M L) := by
  unfold fX13_choose_b280
  exact (kqK3 (fun q1 => (kqM3_rb hC h (by omega) (fun M54 h2 => (kqL3 (fun x55 => (hr235 (v2, v3, v4, x55, M54, L) h2)))))))
theorem y_fX13_choose_b275 {P : mwM → mwL → Prop} (hC : CPrb P) {fu : Nat} {k : Nat} {a1 : Int32} {r128 : (Int32 × mwM × mwL) → Option (Int32 × mwM × mwL)} {r134 : (Int32 × Int32 × mwM × mwL) → Option (Int32 × mwM × mwL)} {r235 : (Int32 × Int32 × Int32 × Int32 × mwM × mwL) → Option (Int32 × mwM × mwL)} {v2 : Int32} {v3 : Int32} {v4 : Int32} {v5 : Int32} {s1 : Int32} (hr128 : ∀ s, P s.2.1 s.2.2 → kq3 P (r128 s)) (hr134 : ∀ s, P s.2.2.1 s.2.2.2 → kq3 P (r134 s)) (hr235 : ∀ s, P s.2.2.2.2.1 s.2.2.2.2.2 → kq3 P (r235 s)) (hk_k : 964 ≤ k ∧ k < 1577 ∧ (k - 964) % 53 = 0) {M : mwM} {L : mwL} (h : P M L) : kq3 P (fX13_choose_b275 fu k a1 r128 r134 r235 v2 v3 v4 v5 s1 M L) := by
  unfold fX13_choose_b275
  exact (y_fX13_choose_b280 hC hr128 hr134 hr235 (by omega) h)
theorem y_fX13_choose_i235 {P : mwM → mwL → Prop} (hC : CPrb P) {fu : Nat} {k : Nat} {a1 : Int32} {r128 : (Int32 × mwM × mwL) → Option (Int32 × mwM × mwL)} {r134 : (Int32 × Int32 × mwM × mwL) → Option (Int32 × mwM × mwL)} {r235 : (Int32 × Int32 × Int32 × Int32 × mwM × mwL) → Option (Int32 × mwM × mwL)} {v2 : Int32} {v3 : Int32} {v4 : Int32} {v5 : Int32} (hr128 : ∀ s, P s.2.1 s.2.2 → kq3 P (r128 s)) (hr134 : ∀ s, P s.2.2.1 s.2.2.2 → kq3 P (r134 s)) (hr235 : ∀ s, P s.2.2.2.2.1 s.2.2.2.2.2 → kq3 P (r235 s)) (hk_k : 964 ≤ k ∧ k < 1577 ∧ (k - 964) % 53 = 0) {M : mwM} {L : mwL} (h : P M L) : kq3 P (fX13_choose_i235 fu k a1 r128 r134 r235 v2 v3 v4 v5 M L) := by
  unfold fX13_choose_i235
  exact (kqI3 (y_fX13_choose_b287 hC hr128 hr134 (by omega) h) (kqI3 (y_fX13_choose_b287 hC hr128 hr134 (by omega) h) (kqK3 (fun q1 => (kqI3 (kqK3 (fun q2 => (kqI3 (y_fX13_choose_b280 hC hr128 hr134 hr235 (by omega) h) (y_fX13_choose_b275 hC hr128 hr134 hr235 (by omega) h)))) (y_fX13_choose_b275 hC hr128 hr134 hr235 (by omega) h))))))
theorem y_fX13_choose_h235 {P : mwM → mwL → Prop} (hC : CPrb P) {fu : Nat} {k : Nat} {a1 : Int32} {r128 : (Int32 × mwM × mwL) → Option (Int32 × mwM × mwL)} {r134 : (Int32 × Int32 × mwM × mwL) → Option (Int32 × mwM × mwL)} (hr128 : ∀ s, P s.2.1 s.2.2 → kq3 P (r128 s)) (hr134 : ∀ s, P s.2.2.1 s.2.2.2 → kq3 P (r134 s)) (hk_k : 964 ≤ k ∧ k < 1577 ∧ (k - 964) % 53 = 0) : ∀ n s, P s.2.2.2.2.1 s.2.2.2.2.2 → kq3 P (fX13_choose_h235 fu k a1 r128 r134 n s) := by
  intro n
  induction n with
  | zero => intro s _; exact kqN3
  | succ n ih =>
    intro s h
    show kq3 P (fX13_choose_i235 fu k a1 r128 r134 (fX13_choose_h235 fu k a1 r128 r134 n) s.1 s.2.1 s.2.2.1 s.2.2.2.1 s.2.2.2.2.1 s.2.2.2.2.2)
    exact y_fX13_choose_i235 hC hr128 hr134 ih hk_k h
theorem y_fX13_choose_b224 {P : mwM → mwL → Prop} (hC : CPrb P) {fu : Nat} {k : Nat} {a1 : Int32} {r128 : (Int32 × mwM × mwL) → Option (Int32 × mwM × mwL)} {r134 : (Int32 × Int32 × mwM × mwL) → Option (Int32 × mwM × mwL)} {r185 : (Int32 × Int32 × Int32 × Int32 × mwM × mwL) → Option (Int32 × mwM × mwL)} {v2 : Int32} {v3 : Int32} {v5 : Int32} {s0 : Int32} (hr128 : ∀ s, P s.2.1 s.2.2 → kq3 P (r128 s)) (hr134 : ∀ s, P s.2.2.1 s.2.2.2 → kq3 P (r134 s)) (hr185 : ∀ s, P s.2.2.2.2.1 s.2.2.2.2.2 → kq3 P (r185 s)) {M : mwM} {L : mwL} (h : P M L) : kq3 P (fX13_choose_b224 fu k a1 r128 r134 r185 v2 v3 v5 s0 M L) := by
  unfold fX13_choose_b224
  exact (kqL3 (fun x46 => (hr185 (v2, v3, s0, x46, M, L) h)))
theorem y_fX13_choose_b223 {P : mwM → mwL → Prop} (hC : CPrb P) {fu : Nat} {k : Nat} {a1 : Int32} {r128 : (Int32 × mwM × mwL) → Option (Int32 × mwM × mwL)} {r134 : (Int32 × Int32 × mwM × mwL) → Option (Int32 × mwM × mwL)} {r185 : (Int32 × Int32 × Int32 × Int32 × mwM × mwL) → Option (Int32 × mwM × mwL)} {v2 : Int32} {v3 : Int32} {v5 : Int32} (hr128 : ∀ s, P s.2.1 s.2.2 → kq3 P (r128 s)) (hr134 : ∀ s, P s.2.2.1 s.2.2.2 → kq3 P (r134 s)) (hr185 : ∀ s, P s.2.2.2.2.1 s.2.2.2.2.2 → kq3 P (r185 s)) {M : mwM} {L : mwL} (h : P M L) : kq3 P (fX13_choose_b223 fu k a1 r128 r134 r185 v2 v3 v5 M L) := by
  unfold fX13_choose_b223
  exact (y_fX13_choose_b224 hC hr128 hr134 hr185 h)
theorem y_fX13_choose_b219 {P : mwM → mwL → Prop} (hC : CPrb P) {fu : Nat} {k : Nat} {a1 : Int32} {r128 : (Int32 × mwM × mwL) → Option (Int32 × mwM × mwL)} {r134 : (Int32 × Int32 × mwM × mwL) → Option (Int32 × mwM × mwL)} {r185 : (Int32 × Int32 × Int32 × Int32 × mwM × mwL) → Option (Int32 × mwM × mwL)} {v2 : Int32} {v3 : Int32} {v5 : Int32} (hr128 : ∀ s, P s.2.1 s.2.2 → kq3 P (r128 s)) (hr134 : ∀ s, P s.2.2.1 s.2.2.2 → kq3 P (r134 s)) (hr185 : ∀ s, P s.2.2.2.2.1 s.2.2.2.2.2 → kq3 P (r185 s)) {M : mwM} {L : mwL} (h : P M L) : kq3 P (fX13_choose_b219 fu k a1 r128 r134 r185 v2 v3 v5 M L) := by
  unfold fX13_choose_b219
  exact (y_fX13_choose_b224 hC hr128 hr134 hr185 h)
theorem y_fX13_choose_i185 {P : mwM → mwL → Prop} (hC : CPrb P) {fu : Nat} {k : Nat} {a1 : Int32} {r128 : (Int32 × mwM × mwL) → Option (Int32 × mwM × mwL)} {r134 : (Int32 × Int32 × mwM × mwL) → Option (Int32 × mwM × mwL)} {r185 : (Int32 × Int32 × Int32 × Int32 × mwM × mwL) → Option (Int32 × mwM × mwL)} {v2 : Int32} {v3 : Int32} {v4 : Int32} {v5 : Int32} (hr128 : ∀ s, P s.2.1 s.2.2 → kq3 P (r128 s)) (hr134 : ∀ s, P s.2.2.1 s.2.2.2 → kq3 P (r134 s)) (hr185 : ∀ s, P s.2.2.2.2.1 s.2.2.2.2.2 → kq3 P (r185 s)) (hk_k : 964 ≤ k ∧ k < 1577 ∧ (k - 964) % 53 = 0) {M : mwM} {L : mwL} (h : P M L) : kq3 P (fX13_choose_i185 fu k a1 r128 r134 r185 v2 v3 v4 v5 M L) := by
  unfold fX13_choose_i185
  exact (kqI3 (y_fX13_choose_h235 hC hr128 hr134 (by omega) _ (v2, v3, v4, 1, M, L) h) (kqI3 (y_fX13_choose_b223 hC hr128 hr134 hr185 h) (kqK3 (fun q1 => (kqI3 (y_fX13_choose_b219 hC hr128 hr134 hr185 h) (kqK3 (fun q2 => (kqI3 (y_fX13_choose_b219 hC hr128 hr134 hr185 h) (y_fX13_choose_b223 hC hr128 hr134 hr185 h)))))))))
theorem y_fX13_choose_h185 {P : mwM → mwL → Prop} (hC : CPrb P) {fu : Nat} {k : Nat} {a1 : Int32} {r128 : (Int32 × mwM × mwL) → Option (Int32 × mwM × mwL)} {r134 : (Int32 × Int32 × mwM × mwL) → Option (Int32 × mwM × mwL)} (hr128 : ∀ s, P s.2.1 s.2.2 → kq3 P (r128 s)) (hr134 : ∀ s, P s.2.2.1 s.2.2.2 → kq3 P (r134 s)) (hk_k : 964 ≤ k ∧ k < 1577 ∧ (k - 964) % 53 = 0) : ∀ n s, P s.2.2.2.2.1 s.2.2.2.2.2 → kq3 P (fX13_choose_h185 fu k a1 r128 r134 n s) := by
  intro n
  induction n with
  | zero => intro s _; exact kqN3
  | succ n ih =>
    intro s h
    show kq3 P (fX13_choose_i185 fu k a1 r128 r134 (fX13_choose_h185 fu k a1 r128 r134 n) s.1 s.2.1 s.2.2.1 s.2.2.2.1 s.2.2.2.2.1 s.2.2.2.2.2)
    exact y_fX13_choose_i185 hC hr128 hr134 ih hk_k h
theorem y_fX13_choose_i134 {P : mwM → mwL → Prop} (hC : CPrb P) {fu : Nat} {k : Nat} {a1 : Int32} {r128 : (Int32 × mwM × mwL) → Option (Int32 × mwM × mwL)} {r134 : (Int32 × Int32 × mwM × mwL) → Option (Int32 × mwM × mwL)} {v2 : Int32} {v3 : Int32} (hr128 : ∀ s, P s.2.1 s.2.2 → kq3 P (r128 s)) (hr134 : ∀ s, P s.2.2.1 s.2.2.2 → kq3 P (r134 s)) (hk_k : 964 ≤ k ∧ k < 1577 ∧ (k - 964) % 53 = 0) {M : mwM} {L : mwL} (h : P M L) : kq3 P (fX13_choose_i134 fu k a1 r128 r134 v2 v3 M L) := by
  unfold fX13_choose_i134
  exact (kqI3 (kqL3 (fun x29 => (hr128 (x29, M, L) h))) (kqK3 (fun q1 => (kqK3 (fun q2 => (kqK3 (fun q3 => (kqI3 (kqK3 (fun q4 => (kqB33 (y_DX13_domain hC h) (fun r37 M35 L36 h5 => (kqB23 (y_DX13_findExits hC (by omega) h5) (fun M38 L39 h6 => (y_fX13_choose_h185 hC hr128 hr134 (by omega) _ (v2, v3, 1, 1, M38, L39) h6))))))) (y_fX13_choose_b317 hC hr128 hr134 h)))))))))
theorem y_fX13_choose_h134 {P : mwM → mwL → Prop} (hC : CPrb P) {fu : Nat} {k : Nat} {a1 : Int32} {r128 : (Int32 × mwM × mwL) → Option (Int32 × mwM × mwL)} (hr128 : ∀ s, P s.2.1 s.2.2 → kq3 P (r128 s)) (hk_k : 964 ≤ k ∧ k < 1577 ∧ (k - 964) % 53 = 0) : ∀ n s, P s.2.2.1 s.2.2.2 → kq3 P (fX13_choose_h134 fu k a1 r128 n s) := by
  intro n
  induction n with
  | zero => intro s _; exact kqN3
  | succ n ih =>
    intro s h
    show kq3 P (fX13_choose_i134 fu k a1 r128 (fX13_choose_h134 fu k a1 r128 n) s.1 s.2.1 s.2.2.1 s.2.2.2)
    exact y_fX13_choose_i134 hC hr128 ih hk_k h
theorem y_fX13_choose_i128 {P : mwM → mwL → Prop} (hC : CPrb P) {fu : Nat} {k : Nat} {a1 : Int32} {r128 : (Int32 × mwM × mwL) → Option (Int32 × mwM × mwL)} {v2 : Int32} (hr128 : ∀ s, P s.2.1 s.2.2 → kq3 P (r128 s)) (hk_k : 964 ≤ k ∧ k < 1577 ∧ (k - 964) % 53 = 0) {M : mwM} {L : mwL} (h : P M L) : kq3 P (fX13_choose_i128 fu k a1 r128 v2 M L) := by
  unfold fX13_choose_i128
  exact (kqI3 (kqS3 h) (y_fX13_choose_h134 hC hr128 (by omega) _ (v2, 0, M, L) h))
