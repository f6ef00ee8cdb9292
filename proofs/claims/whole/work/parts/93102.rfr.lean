/-! FRAMES: printed by frp.py -/
theorem y_DX16_anew {P : mwM → mwL → Prop} (hC : CPrb P) {fu : Nat} {k : Nat} {a1 : Int32} (hk_k : 941 ≤ k ∧ k < 1577 ∧ (k - 941) % 53 = 0) {M : mwM} {L : mwL} (h : P M L) : kq2 P (DX16_anew fu k a1 M L) := by
  unfold DX16_anew
  exact (kqM2_rb hC h (by omega) (fun M5 h1 => (kqM2_rb hC h1 (by omega) (fun M6 h2 => (kqM2_rb hC h2 (by omega) (fun M7 h3 => (kqM2_rb hC h3 (by omega) (fun M8 h4 => (y_fX16_anew_h22 hC (by omega) _ (0, M8, L) h4)))))))))
theorem y_fX16_none_b18 {P : mwM → mwL → Prop} (hC : CPrb P) {fu : Nat} {k : Nat} {a1 : Int32} {s0 : Int32} {M : mwM} {L : mwL} (h : P M L) : kq3 P (fX16_none_b18 fu k a1 s0 M L) := by
  unfold fX16_none_b18
  exact (kq_mzz3 (kqS3 h))
theorem y_fX16_none_b13 {P : mwM → mwL → Prop} (hC : CPrb P) {fu : Nat} {k : Nat} {a1 : Int32} {M : mwM} {L : mwL} (h : P M L) : kq3 P (fX16_none_b13 fu k a1 M L) := by
  unfold fX16_none_b13
  exact (y_fX16_none_b18 hC h)
theorem y_DX16_none {P : mwM → mwL → Prop} (hC : CPrb P) {fu : Nat} {k : Nat} {a1 : Int32} {M : mwM} {L : mwL} (h : P M L) : kq3 P (DX16_none fu k a1 M L) := by
  unfold DX16_none
  exact (kqI3 (y_fX16_none_b13 hC h) (kqI3 (y_fX16_none_b18 hC h) (y_fX16_none_b13 hC h)))
theorem y_DX16_octetsOf {P : mwM → mwL → Prop} (hC : CPrb P) {fu : Nat} {k : Nat} {a1 : Int32} {M : mwM} {L : mwL} (h : P M L) : kq3 P (DX16_octetsOf fu k a1 M L) := by
  unfold DX16_octetsOf
  exact (kqK3 (fun q1 => (kqS3 h)))
theorem y_fX16_part_b156 {P : mwM → mwL → Prop} (hC : CPrb P) {fu : Nat} {k : Nat} {a1 : Int32} {a2 : Int32} {a3 : Int32} {a4 : Int32} {r91 : (Int32 × Int32 × mwM × mwL) → Option (Int32 × mwM × mwL)} {v6 : Int32} {v7 : Int32} (hr91 : ∀ s, P s.2.2.1 s.2.2.2 → kq3 P (r91 s)) {M : mwM} {L : mwL} (h : P M L) : kq3 P (fX16_part_b156 fu k a1 a2 a3 a4 r91 v6 v7 M L) := by
  unfold fX16_part_b156
  exact (kqL3 (fun x26 => (hr91 (v6, x26, M, L) h)))
theorem y_fX16_part_i91 {P : mwM → mwL → Prop} (hC : CPrb P) {fu : Nat} {k : Nat} {a1 : Int32} {a2 : Int32} {a3 : Int32} {a4 : Int32} {r91 : (Int32 × Int32 × mwM × mwL) → Option (Int32 × mwM × mwL)} {v6 : Int32} {v7 : Int32} (hr91 : ∀ s, P s.2.2.1 s.2.2.2 → kq3 P (r91 s)) {M : mwM} {L : mwL} (h : P M L) : kq3 P (fX16_part_i91 fu k a1 a2 a3 a4 r91 v6 v7 M L) := by
  unfold fX16_part_i91
  exact (kqI3 (kqS3 h) (kqK3 (fun q1 => (kqI3 (kqK3 (fun q2 => (kqI3 (kqK3 (fun q3 => (kqI3 (y_fX16_part_b156 hC hr91 h) (kqI3 (kqS3 h) (kqB33 (y_DX16_octetsOf hC h) (fun r24 M22 L23 h4 => (kqL3 (fun x25 => (y_fX16_part_b156 hC hr91 h4))))))))) (y_fX16_part_b156 hC hr91 h)))) (y_fX16_part_b156 hC hr91 h)))))
theorem y_fX16_part_h91 {P : mwM → mwL → Prop} (hC : CPrb P) {fu : Nat} {k : Nat} {a1 : Int32} {a2 : Int32} {a3 : Int32} {a4 : Int32} : ∀ n s, P s.2.2.1 s.2.2.2 → kq3 P (fX16_part_h91 fu k a1 a2 a3 a4 n s) := by
  intro n
  induction n with
  | zero => intro s _; exact kqN3
  | succ n ih =>
    intro s h
    show kq3 P (fX16_part_i91 fu k a1 a2 a3 a4 (fX16_part_h91 fu k a1 a2 a3 a4 n) s.1 s.2.1 s.2.2.1 s.2.2.2)
    exact y_fX16_part_i91 hC ih h
theorem y_fX16_part_b72 {P : mwM → mwL → Prop} (hC : CPrb P) {fu : Nat} {k : Nat} {a1 : Int32} {a2 : Int32} {a3 : Int32} {a4 : Int32} {r9 : (Int32 × Int32 × mwM × mwL) → Option (Int32 × mwM × mwL)} {v5 : Int32} {v6 : Int32} (hr9 : ∀ s, P s.2.2.1 s.2.2.2 → kq3 P (r9 s)) {M : mwM} {L : mwL} (h : P M L) : kq3 P (fX16_part_b72 fu k a1 a2 a3 a4 r9 v5 v6 M L) := by
  unfold fX16_part_b72
  exact (kqL3 (fun x13 => (hr9 (v5, x13, M, L) h)))
theorem y_fX16_part_i9 {P : mwM → mwL → Prop} (hC : CPrb P) {fu : Nat} {k : Nat} {a1 : Int32} {a2 : Int32} {a3 : Int32} {a4 : Int32} {r9 : (Int32 × Int32 × mwM × mwL) → Option (Int32 × mwM × mwL)} {v5 : Int32} {v6 : Int32} (hr9 : ∀ s, P s.2.2.1 s.2.2.2 → kq3 P (r9 s)) {M : mwM} {L : mwL} (h : P M L) : kq3 P (fX16_part_i9 fu k a1 a2 a3 a4 r9 v5 v6 M L) := by
  unfold fX16_part_i9
  exact (kqI3 (kqL3 (fun x3 => (y_fX16_part_h91 hC _ (x3, 1, M, L) h))) (kqK3 (fun q1 => (kqI3 (kqK3 (fun q2 => (kqI3 (kqK3 (fun q3 => (kqI3 (kqI3 (kqS3 h) (kqK3 (fun q4 => (kqL3 (fun x12 => (y_fX16_part_b72 hC hr9 h)))))) (y_fX16_part_b72 hC hr9 h)))) (y_fX16_part_b72 hC hr9 h)))) (y_fX16_part_b72 hC hr9 h)))))
theorem y_fX16_part_h9 {P : mwM → mwL → Prop} (hC : CPrb P) {fu : Nat} {k : Nat} {a1 : Int32} {a2 : Int32} {a3 : Int32} {a4 : Int32} : ∀ n s, P s.2.2.1 s.2.2.2 → kq3 P (fX16_part_h9 fu k a1 a2 a3 a4 n s) := by
  intro n
  induction n with
  | zero => intro s _; exact kqN3
  | succ n ih =>
    intro s h
    show kq3 P (fX16_part_i9 fu k a1 a2 a3 a4 (fX16_part_h9 fu k a1 a2 a3 a4 n) s.1 s.2.1 s.2.2.1 s.2.2.2)
    exact y_fX16_part_i9 hC ih h
theorem y_DX16_part {P : mwM → mwL → Prop} (hC : CPrb P) {fu : Nat} {k : Nat} {a1 : Int32} {a2 : Int32} {a3 : Int32} {a4 : Int32} {M : mwM} {L : mwL} (h : P M L) : kq3 P (DX16_part fu k a1 a2 a3 a4 M L) := by
  unfold DX16_part
  exact (kqL3 (fun x27 => (y_fX16_part_h9 hC _ (x27, 1, M, L) h)))
theorem y_fX16_size_b73 {P : mwM → mwL → Prop} (hC : CPrb P) {fu : Nat} {k : Nat} {a1 : Int32} {r14 : (Int32 × Int32 × Int32 × mwM × mwL) → Option (Int32 × mwM × mwL)} {v2 : Int32} {v3 : Int32} {v4 : Int32} (hr14 : ∀ s, P s.2.2.2.1 s.2.2.2.2 → kq3 P (r14 s)) {M : mwM} {L : mwL} (h : P M L) : kq3 P (fX16_size_b73 fu k a1 r14 v2 v3 v4 M L) := by
  unfold fX16_size_b73
  exact (kqL3 (fun x11 => (hr14 (v2, v3, x11, M, L) h)))
theorem y_fX16_size_b72 {P : mwM → mwL → Prop} (hC : CPrb P) {fu : Nat} {k : Nat} {a1 : Int32} {r14 : (Int32 × Int32 × Int32 × mwM × mwL) → Option (Int32 × mwM × mwL)} {v2 : Int32} {v4 : Int32} {s0 : Int32} (hr14 : ∀ s, P s.2.2.2.1 s.2.2.2.2 → kq3 P (r14 s)) {M : mwM} {L : mwL} (h : P M L) : kq3 P (fX16_size_b72 fu k a1 r14 v2 v4 s0 M L) := by
  unfold fX16_size_b72
  exact (y_fX16_size_b73 hC hr14 h)
theorem y_fX16_size_i14 {P : mwM → mwL → Prop} (hC : CPrb P) {fu : Nat} {k : Nat} {a1 : Int32} {r14 : (Int32 × Int32 × Int32 × mwM × mwL) → Option (Int32 × mwM × mwL)} {v2 : Int32} {v3 : Int32} {v4 : Int32} (hr14 : ∀ s, P s.2.2.2.1 s.2.2.2.2 → kq3 P (r14 s)) {M : mwM} {L : mwL} (h : P M L) : kq3 P (fX16_size_i14 fu k a1 r14 v2 v3 v4 M L) := by
  unfold fX16_size_i14
  exact (kqI3 (kqS3 h) (kqK3 (fun q1 => (kqI3 (kqK3 (fun q2 => (kqI3 (y_fX16_size_b73 hC hr14 h) (kqK3 (fun q3 => (kqB33 (y_DX16_part hC h) (fun r9 M7 L8 h4 => (kqI3 (y_fX16_size_b72 hC hr14 h4) (y_fX16_size_b72 hC hr14 h4))))))))) (y_fX16_size_b73 hC hr14 h)))))
theorem y_fX16_size_h14 {P : mwM → mwL → Prop} (hC : CPrb P) {fu : Nat} {k : Nat} {a1 : Int32} : ∀ n s, P s.2.2.2.1 s.2.2.2.2 → kq3 P (fX16_size_h14 fu k a1 n s) := by
  intro n
  induction n with
  | zero => intro s _; exact kqN3
  | succ n ih =>
    intro s h
    show kq3 P (fX16_size_i14 fu k a1 (fX16_size_h14 fu k a1 n) s.1 s.2.1 s.2.2.1 s.2.2.2.1 s.2.2.2.2)
    exact y_fX16_size_i14 hC ih h
theorem y_DX16_size {P : mwM → mwL → Prop} (hC : CPrb P) {fu : Nat} {k : Nat} {a1 : Int32} {M : mwM} {L : mwL} (h : P M L) : kq3 P (DX16_size fu k a1 M L) := by
  unfold DX16_size
  exact (kqB33 (y_DX16_part hC h) (fun r15 M12 L13 h1 => (y_fX16_size_h14 hC _ (r15, r15, 1, M12, L13) h1)))
theorem y_fX16_bitInGroup_b47 {P : mwM → mwL → Prop} (hC : CPrb P) {fu : Nat} {k : Nat} {a1 : Int32} {s0 : Int32} {M : mwM} {L : mwL} (h : P M L) : kq3 P (fX16_bitInGroup_b47 fu k a1 s0 M L) := by
  unfold fX16_bitInGroup_b47
  exact (kqS3 h)
theorem y_DX16_bitInGroup {P : mwM → mwL → Prop} (hC : CPrb P) {fu : Nat} {k : Nat} {a1 : Int32} {M : mwM} {L : mwL} (h : P M L) : kq3 P (DX16_bitInGroup fu k a1 M L) := by
  unfold DX16_bitInGroup
  exact (kqK3 (fun q1 => (kqL3 (fun x2 => (kqK3 (fun q2 => (kqI3 (kqK3 (fun q3 => (kqB33 (y_DX16_part hC h) (fun r8 M6 L7 h4 => (kqB33 (y_DX16_part hC h4) (fun r11 M9 L10 h5 => (y_fX16_bitInGroup_b47 hC h5))))))) (kqB33 (y_DX16_part hC h) (fun r14 M12 L13 h6 => (y_fX16_bitInGroup_b47 hC h6))))))))))
theorem y_fX16_signal_b27 {P : mwM → mwL → Prop} (hC : CPrb P) {fu : Nat} {k : Nat} {a1 : Int32} {a2 : Int32} {a3 : Int32} {M : mwM} {L : mwL} (h : P M L) : kq3 P (fX16_signal_b27 fu k a1 a2 a3 M L) := by
  unfold fX16_signal_b27
  exact (kqS3 h)
theorem y_DX16_signal {P : mwM → mwL → Prop} (hC : CPrb P) {fu : Nat} {k : Nat} {a1 : Int32} {a2 : Int32} {a3 : Int32} (hk_k : 941 ≤ k ∧ k < 1577 ∧ (k - 941) % 53 = 0) {M : mwM} {L : mwL} (h : P M L) : kq3 P (DX16_signal fu k a1 a2 a3 M L) := by
  unfold DX16_signal
  exact (kqM3_rb hC h (by omega) (fun M1 h1 => (kqI3 (y_fX16_signal_b27 hC h1) (kqI3 (y_fX16_signal_b27 hC h1) (kqI3 (y_fX16_signal_b27 hC h1) (kqI3 (kqI3 (kqS3 h1) (kqI3 (kqM3_rb hC h1 (by omega) (fun M9 h2 => (kqK3 (fun q3 => (kqM3_rb hC h2 (by omega) (fun M11 h4 => (kqK3 (fun q5 => (kqM3_rb hC h4 (by omega) (fun M13 h6 => (kqK3 (fun q7 => (kqM3_rb hC h6 (by omega) (fun M15 h8 => (kqK3 (fun q9 => (kqM3_rb hC h8 (by omega) (fun M17 h10 => (kqK3 (fun q11 => (kqM3_rb hC h10 (by omega) (fun M19 h12 => (kqK3 (fun q13 => (kqM3_rb hC h12 (by omega) (fun M21 h14 => (kqK3 (fun q15 => (kqM3_rb hC h14 (by omega) (fun M23 h16 => (kqK3 (fun q17 => (kqM3_rb hC h16 (by omega) (fun M25 h18 => (kqK3 (fun q19 => (kqM3_rb hC h18 (by omega) (fun M27 h20 => (kqS3 h20))))))))))))))))))))))))))))))))))))))) (kqS3 h1))) (y_fX16_signal_b27 hC h1)))))))
theorem y_fX16_isGroup_b15 {P : mwM → mwL → Prop} (hC : CPrb P) {fu : Nat} {k : Nat} {a1 : Int32} {s0 : Int32} {M : mwM} {L : mwL} (h : P M L) : kq3 P (fX16_isGroup_b15 fu k a1 s0 M L) := by
  unfold fX16_isGroup_b15
  exact (kq_mzz3 (kqS3 h))
theorem y_DX16_isGroup {P : mwM → mwL → Prop} (hC : CPrb P) {fu : Nat} {k : Nat} {a1 : Int32} {M : mwM} {L : mwL} (h : P M L) : kq3 P (DX16_isGroup fu k a1 M L) := by
  unfold DX16_isGroup
  exact (kqK3 (fun q1 => (kqI3 (y_fX16_isGroup_b15 hC h) (y_fX16_isGroup_b15 hC h))))
theorem y_fX16_isFree_b99 {P : mwM → mwL → Prop} (hC : CPrb P) {fu : Nat} {k : Nat} {a1 : Int32} {a2 : Int32} {a3 : Int32} {v4 : Int32} {M : mwM} {L : mwL} (h : P M L) : kq3 P (fX16_isFree_b99 fu k a1 a2 a3 v4 M L) := by
  unfold fX16_isFree_b99
  exact (kq_mzz3 (kqS3 h))
theorem y_fX16_isFree_b91 {P : mwM → mwL → Prop} (hC : CPrb P) {fu : Nat} {k : Nat} {a1 : Int32} {a2 : Int32} {a3 : Int32} {r20 : (Int32 × Int32 × mwM × mwL) → Option (Int32 × mwM × mwL)} {v5 : Int32} {s0 : Int32} (hr20 : ∀ s, P s.2.2.1 s.2.2.2 → kq3 P (r20 s)) {M : mwM} {L : mwL} (h : P M L) : kq3 P (fX16_isFree_b91 fu k a1 a2 a3 r20 v5 s0 M L) := by
  unfold fX16_isFree_b91
  exact (kqL3 (fun x14 => (hr20 (s0, x14, M, L) h)))
theorem y_fX16_isFree_b86 {P : mwM → mwL → Prop} (hC : CPrb P) {fu : Nat} {k : Nat} {a1 : Int32} {a2 : Int32} {a3 : Int32} {r20 : (Int32 × Int32 × mwM × mwL) → Option (Int32 × mwM × mwL)} {v5 : Int32} (hr20 : ∀ s, P s.2.2.1 s.2.2.2 → kq3 P (r20 s)) {M : mwM} {L : mwL} (h : P M L) : kq3 P (fX16_isFree_b86 fu k a1 a2 a3 r20 v5 M L) := by
  unfold fX16_isFree_b86
  exact (y_fX16_isFree_b91 hC hr20 h)
theorem y_fX16_isFree_i20 {P : mwM → mwL → Prop} (hC : CPrb P) {fu : Nat} {k : Nat} {a1 : Int32} {a2 : Int32} {a3 : Int32} {r20 : (Int32 × Int32 × mwM × mwL) → Option (Int32 × mwM × mwL)} {v4 : Int32} {v5 : Int32} (hr20 : ∀ s, P s.2.2.1 s.2.2.2 → kq3 P (r20 s)) {M : mwM} {L : mwL} (h : P M L) : kq3 P (fX16_isFree_i20 fu k a1 a2 a3 r20 v4 v5 M L) := by
  unfold fX16_isFree_i20
  exact (kqI3 (y_fX16_isFree_b99 hC h) (kqI3 (y_fX16_isFree_b99 hC h) (kqB33 (y_DX16_isGroup hC h) (fun r5 M3 L4 h1 => (kqI3 (y_fX16_isFree_b86 hC hr20 h1) (kqK3 (fun q2 => (kqI3 (kqK3 (fun q3 => (kqK3 (fun q4 => (kqI3 (y_fX16_isFree_b86 hC hr20 h1) (kqK3 (fun q5 => (kqI3 (y_fX16_isFree_b91 hC hr20 h1) (y_fX16_isFree_b86 hC hr20 h1))))))))) (y_fX16_isFree_b86 hC hr20 h1)))))))))
theorem y_fX16_isFree_h20 {P : mwM → mwL → Prop} (hC : CPrb P) {fu : Nat} {k : Nat} {a1 : Int32} {a2 : Int32} {a3 : Int32} : ∀ n s, P s.2.2.1 s.2.2.2 → kq3 P (fX16_isFree_h20 fu k a1 a2 a3 n s) := by
  intro n
  induction n with
  | zero => intro s _; exact kqN3
  | succ n ih =>
    intro s h
    show kq3 P (fX16_isFree_i20 fu k a1 a2 a3 (fX16_isFree_h20 fu k a1 a2 a3 n) s.1 s.2.1 s.2.2.1 s.2.2.2)
    exact y_fX16_isFree_i20 hC ih h
theorem y_fX16_isFree_b15 {P : mwM → mwL → Prop} (hC : CPrb P) {fu : Nat} {k : Nat} {a1 : Int32} {a2 : Int32} {a3 : Int32} {s0 : Int32} {M : mwM} {L : mwL} (h : P M L) : kq3 P (fX16_isFree_b15 fu k a1 a2 a3 s0 M L) := by
  unfold fX16_isFree_b15
  exact (y_fX16_isFree_h20 hC _ (s0, 1, M, L) h)
theorem y_DX16_isFree {P : mwM → mwL → Prop} (hC : CPrb P) {fu : Nat} {k : Nat} {a1 : Int32} {a2 : Int32} {a3 : Int32} {M : mwM} {L : mwL} (h : P M L) : kq3 P (DX16_isFree fu k a1 a2 a3 M L) := by
  unfold DX16_isFree
  exact (kqI3 (y_fX16_isFree_b15 hC h) (y_fX16_isFree_b15 hC h))
theorem y_fX16_room_b103 {P : mwM → mwL → Prop} (hC : CPrb P) {fu : Nat} {k : Nat} {a1 : Int32} {a2 : Int32} {v3 : Int32} {M : mwM} {L : mwL} (h : P M L) : kq3 P (fX16_room_b103 fu k a1 a2 v3 M L) := by
  unfold fX16_room_b103
  exact (kqS3 h)
theorem y_fX16_room_b97 {P : mwM → mwL → Prop} (hC : CPrb P) {fu : Nat} {k : Nat} {a1 : Int32} {a2 : Int32} {r19 : (Int32 × Int32 × mwM × mwL) → Option (Int32 × mwM × mwL)} {v3 : Int32} {v4 : Int32} (hr19 : ∀ s, P s.2.2.1 s.2.2.2 → kq3 P (r19 s)) {M : mwM} {L : mwL} (h : P M L) : kq3 P (fX16_room_b97 fu k a1 a2 r19 v3 v4 M L) := by
  unfold fX16_room_b97
  exact (kqL3 (fun x18 => (hr19 (v3, x18, M, L) h)))
theorem y_fX16_room_b96 {P : mwM → mwL → Prop} (hC : CPrb P) {fu : Nat} {k : Nat} {a1 : Int32} {a2 : Int32} {r19 : (Int32 × Int32 × mwM × mwL) → Option (Int32 × mwM × mwL)} {v4 : Int32} {s0 : Int32} (hr19 : ∀ s, P s.2.2.1 s.2.2.2 → kq3 P (r19 s)) {M : mwM} {L : mwL} (h : P M L) : kq3 P (fX16_room_b96 fu k a1 a2 r19 v4 s0 M L) := by
  unfold fX16_room_b96
  exact (y_fX16_room_b97 hC hr19 h)
theorem y_fX16_room_b95 {P : mwM → mwL → Prop} (hC : CPrb P) {fu : Nat} {k : Nat} {a1 : Int32} {a2 : Int32} {r19 : (Int32 × Int32 × mwM × mwL) → Option (Int32 × mwM × mwL)} {v3 : Int32} {v4 : Int32} (hr19 : ∀ s, P s.2.2.1 s.2.2.2 → kq3 P (r19 s)) {M : mwM} {L : mwL} (h : P M L) : kq3 P (fX16_room_b95 fu k a1 a2 r19 v3 v4 M L) := by
  unfold fX16_room_b95
  exact (y_fX16_room_b96 hC hr19 h)
theorem y_fX16_room_b90 {P : mwM → mwL → Prop} (hC : CPrb P) {fu : Nat} {k : Nat} {a1 : Int32} {a2 : Int32} {r19 : (Int32 × Int32 × mwM × mwL) → Option (Int32 × mwM × mwL)} {v4 : Int32} {v5 : Int32} (hr19 : ∀ s, P s.2.2.1 s.2.2.2 → kq3 P (r19 s)) {M : mwM} {L : mwL} (h : P M L) : kq3 P (fX16_room_b90 fu k a1 a2 r19 v4 v5 M L) := by
  unfold fX16_room_b90
  exact (y_fX16_room_b96 hC hr19 h)
theorem y_fX16_room_i19 {P : mwM → mwL → Prop} (hC : CPrb P) {fu : Nat} {k : Nat} {a1 : Int32} {a2 : Int32} {r19 : (Int32 × Int32 × mwM × mwL) → Option (Int32 × mwM × mwL)} {v3 : Int32} {v4 : Int32} (hr19 : ∀ s, P s.2.2.1 s.2.2.2 → kq3 P (r19 s)) {M : mwM} {L : mwL} (h : P M L) : kq3 P (fX16_room_i19 fu k a1 a2 r19 v3 v4 M L) := by
  unfold fX16_room_i19
  exact (kqI3 (y_fX16_room_b103 hC h) (kqI3 (y_fX16_room_b103 hC h) (kqB33 (y_DX16_isGroup hC h) (fun r5 M3 L4 h1 => (kqI3 (y_fX16_room_b97 hC hr19 h1) (kqK3 (fun q2 => (kqI3 (kqK3 (fun q3 => (kqK3 (fun q4 => (kqL3 (fun x11 => (kqB33 (y_DX16_isFree hC h1) (fun r14 M12 L13 h5 => (kqI3 (y_fX16_room_b95 hC hr19 h5) (kqI3 (y_fX16_room_b90 hC hr19 h5) (kqI3 (y_fX16_room_b95 hC hr19 h5) (y_fX16_room_b90 hC hr19 h5)))))))))))) (y_fX16_room_b97 hC hr19 h1)))))))))
theorem y_fX16_room_h19 {P : mwM → mwL → Prop} (hC : CPrb P) {fu : Nat} {k : Nat} {a1 : Int32} {a2 : Int32} : ∀ n s, P s.2.2.1 s.2.2.2 → kq3 P (fX16_room_h19 fu k a1 a2 n s) := by
  intro n
  induction n with
  | zero => intro s _; exact kqN3
  | succ n ih =>
    intro s h
    show kq3 P (fX16_room_i19 fu k a1 a2 (fX16_room_h19 fu k a1 a2 n) s.1 s.2.1 s.2.2.1 s.2.2.2)
    exact y_fX16_room_i19 hC ih h
theorem y_fX16_room_b15 {P : mwM → mwL → Prop} (hC : CPrb P) {fu : Nat} {k : Nat} {a1 : Int32} {a2 : Int32} {s0 : Int32} {M : mwM} {L : mwL} (h : P M L) : kq3 P (fX16_room_b15 fu k a1 a2 s0 M L) := by
  unfold fX16_room_b15
  exact (y_fX16_room_h19 hC _ (s0, 1, M, L) h)
theorem y_DX16_room {P : mwM → mwL → Prop} (hC : CPrb P) {fu : Nat} {k : Nat} {a1 : Int32} {a2 : Int32} {M : mwM} {L : mwL} (h : P M L) : kq3 P (DX16_room fu k a1 a2 M L) := by
  unfold DX16_room
  exact (kqB33 (y_DX16_isFree hC h) (fun r21 M19 L20 h1 => (kqI3 (y_fX16_room_b15 hC h1) (y_fX16_room_b15 hC h1))))
theorem y_fX16_isUsed_b39 {P : mwM → mwL → Prop} (hC : CPrb P) {fu : Nat} {k : Nat} {a1 : Int32} {r4 : (Int32 × Int32 × mwM × mwL) → Option (Int32 × mwM × mwL)} {v3 : Int32} {s0 : Int32} (hr4 : ∀ s, P s.2.2.1 s.2.2.2 → kq3 P (r4 s)) {M : mwM} {L : mwL} (h : P M L) : kq3 P (fX16_isUsed_b39 fu k a1 r4 v3 s0 M L) := by
  unfold fX16_isUsed_b39
  exact (kqL3 (fun x10 => (hr4 (s0, x10, M, L) h)))
theorem y_fX16_isUsed_b38 {P : mwM → mwL → Prop} (hC : CPrb P) {fu : Nat} {k : Nat} {a1 : Int32} {r4 : (Int32 × Int32 × mwM × mwL) → Option (Int32 × mwM × mwL)} {v3 : Int32} (hr4 : ∀ s, P s.2.2.1 s.2.2.2 → kq3 P (r4 s)) {M : mwM} {L : mwL} (h : P M L) : kq3 P (fX16_isUsed_b38 fu k a1 r4 v3 M L) := by
  unfold fX16_isUsed_b38
  exact (y_fX16_isUsed_b39 hC hr4 h)
theorem y_fX16_isUsed_b34 {P : mwM → mwL → Prop} (hC : CPrb P) {fu : Nat} {k : Nat} {a1 : Int32} {r4 : (Int32 × Int32 × mwM × mwL) → Option (Int32 × mwM × mwL)} {v3 : Int32} (hr4 : ∀ s, P s.2.2.1 s.2.2.2 → kq3 P (r4 s)) {M : mwM} {L : mwL} (h : P M L) : kq3 P (fX16_isUsed_b34 fu k a1 r4 v3 M L) := by
  unfold fX16_isUsed_b34
  exact (y_fX16_isUsed_b39 hC hr4 h)
theorem y_fX16_isUsed_i4 {P : mwM → mwL → Prop} (hC : CPrb P) {fu : Nat} {k : Nat} {a1 : Int32} {r4 : (Int32 × Int32 × mwM × mwL) → Option (Int32 × mwM × mwL)} {v2 : Int32} {v3 : Int32} (hr4 : ∀ s, P s.2.2.1 s.2.2.2 → kq3 P (r4 s)) {M : mwM} {L : mwL} (h : P M L) : kq3 P (fX16_isUsed_i4 fu k a1 r4 v2 v3 M L) := by
  unfold fX16_isUsed_i4
  exact (kqI3 (kq_mzz3 (kqS3 h)) (kqI3 (kqB33 (y_DX16_isGroup hC h) (fun r6 M4 L5 h1 => (kqI3 (y_fX16_isUsed_b38 hC hr4 h1) (kqK3 (fun q2 => (kqI3 (y_fX16_isUsed_b34 hC hr4 h1) (y_fX16_isUsed_b38 hC hr4 h1))))))) (y_fX16_isUsed_b34 hC hr4 h)))
theorem y_fX16_isUsed_h4 {P : mwM → mwL → Prop} (hC : CPrb P) {fu : Nat} {k : Nat} {a1 : Int32} : ∀ n s, P s.2.2.1 s.2.2.2 → kq3 P (fX16_isUsed_h4 fu k a1 n s) := by
  intro n
  induction n with
  | zero => intro s _; exact kqN3
  | succ n ih =>
    intro s h
    show kq3 P (fX16_isUsed_i4 fu k a1 (fX16_isUsed_h4 fu k a1 n) s.1 s.2.1 s.2.2.1 s.2.2.2)
    exact y_fX16_isUsed_i4 hC ih h
theorem y_DX16_isUsed {P : mwM → mwL → Prop} (hC : CPrb P) {fu : Nat} {k : Nat} {a1 : Int32} {M : mwM} {L : mwL} (h : P M L) : kq3 P (DX16_isUsed fu k a1 M L) := by
  unfold DX16_isUsed
  exact (y_fX16_isUsed_h4 hC _ (0, 1, M, L) h)
theorem y_fX16_hasOther_b54 {P : mwM → mwL → Prop} (hC : CPrb P) {fu : Nat} {k : Nat} {a1 : Int32} {a2 : Int32} {r5 : (Int32 × Int32 × mwM × mwL) → Option (Int32 × mwM × mwL)} {v4 : Int32} {s0 : Int32} (hr5 : ∀ s, P s.2.2.1 s.2.2.2 → kq3 P (r5 s)) {M : mwM} {L : mwL} (h : P M L) : kq3 P (fX16_hasOther_b54 fu k a1 a2 r5 v4 s0 M L) := by
  unfold fX16_hasOther_b54
  exact (kqL3 (fun x12 => (hr5 (s0, x12, M, L) h)))
theorem y_fX16_hasOther_b53 {P : mwM → mwL → Prop} (hC : CPrb P) {fu : Nat} {k : Nat} {a1 : Int32} {a2 : Int32} {r5 : (Int32 × Int32 × mwM × mwL) → Option (Int32 × mwM × mwL)} {v4 : Int32} (hr5 : ∀ s, P s.2.2.1 s.2.2.2 → kq3 P (r5 s)) {M : mwM} {L : mwL} (h : P M L) : kq3 P (fX16_hasOther_b53 fu k a1 a2 r5 v4 M L) := by
  unfold fX16_hasOther_b53
  exact (y_fX16_hasOther_b54 hC hr5 h)
theorem y_fX16_hasOther_b49 {P : mwM → mwL → Prop} (hC : CPrb P) {fu : Nat} {k : Nat} {a1 : Int32} {a2 : Int32} {r5 : (Int32 × Int32 × mwM × mwL) → Option (Int32 × mwM × mwL)} {v4 : Int32} (hr5 : ∀ s, P s.2.2.1 s.2.2.2 → kq3 P (r5 s)) {M : mwM} {L : mwL} (h : P M L) : kq3 P (fX16_hasOther_b49 fu k a1 a2 r5 v4 M L) := by
  unfold fX16_hasOther_b49
  exact (y_fX16_hasOther_b54 hC hr5 h)
theorem y_fX16_hasOther_i5 {P : mwM → mwL → Prop} (hC : CPrb P) {fu : Nat} {k : Nat} {a1 : Int32} {a2 : Int32} {r5 : (Int32 × Int32 × mwM × mwL) → Option (Int32 × mwM × mwL)} {v3 : Int32} {v4 : Int32} (hr5 : ∀ s, P s.2.2.1 s.2.2.2 → kq3 P (r5 s)) {M : mwM} {L : mwL} (h : P M L) : kq3 P (fX16_hasOther_i5 fu k a1 a2 r5 v3 v4 M L) := by
  unfold fX16_hasOther_i5
  exact (kqI3 (kq_mzz3 (kqS3 h)) (kqI3 (kqB33 (y_DX16_isGroup hC h) (fun r6 M4 L5 h1 => (kqI3 (y_fX16_hasOther_b53 hC hr5 h1) (kqK3 (fun q2 => (kqI3 (kqK3 (fun q3 => (kqI3 (y_fX16_hasOther_b53 hC hr5 h1) (y_fX16_hasOther_b49 hC hr5 h1)))) (y_fX16_hasOther_b53 hC hr5 h1))))))) (y_fX16_hasOther_b49 hC hr5 h)))
theorem y_fX16_hasOther_h5 {P : mwM → mwL → Prop} (hC : CPrb P) {fu : Nat} {k : Nat} {a1 : Int32} {a2 : Int32} : ∀ n s, P s.2.2.1 s.2.2.2 → kq3 P (fX16_hasOther_h5 fu k a1 a2 n s) := by
  intro n
  induction n with
  | zero => intro s _; exact kqN3
  | succ n ih =>
    intro s h
    show kq3 P (fX16_hasOther_i5 fu k a1 a2 (fX16_hasOther_h5 fu k a1 a2 n) s.1 s.2.1 s.2.2.1 s.2.2.2)
    exact y_fX16_hasOther_i5 hC ih h
theorem y_DX16_hasOther {P : mwM → mwL → Prop} (hC : CPrb P) {fu : Nat} {k : Nat} {a1 : Int32} {a2 : Int32} {M : mwM} {L : mwL} (h : P M L) : kq3 P (DX16_hasOther fu k a1 a2 M L) := by
  unfold DX16_hasOther
  exact (y_fX16_hasOther_h5 hC _ (0, 1, M, L) h)
theorem y_fX16_newFrame_b22 {P : mwM → mwL → Prop} (hC : CPrb P) {fu : Nat} {k : Nat} {v1 : Int32} {M : mwM} {L : mwL} (h : P M L) : kq3 P (fX16_newFrame_b22 fu k v1 M L) := by
  unfold fX16_newFrame_b22
  exact (kqS3 h)
theorem y_fX16_newFrame_i2 {P : mwM → mwL → Prop} (hC : CPrb P) {fu : Nat} {k : Nat} {r2 : (Int32 × mwM × mwL) → Option (Int32 × mwM × mwL)} {v1 : Int32} (hr2 : ∀ s, P s.2.1 s.2.2 → kq3 P (r2 s)) {M : mwM} {L : mwL} (h : P M L) : kq3 P (fX16_newFrame_i2 fu k r2 v1 M L) := by
  unfold fX16_newFrame_i2
  exact (kqI3 (y_fX16_newFrame_b22 hC h) (kqB33 (y_DX16_isUsed hC h) (fun r4 M2 L3 h1 => (kqI3 (y_fX16_newFrame_b22 hC h1) (kqL3 (fun x6 => (hr2 (x6, M2, L3) h1)))))))
theorem y_fX16_newFrame_h2 {P : mwM → mwL → Prop} (hC : CPrb P) {fu : Nat} {k : Nat} : ∀ n s, P s.2.1 s.2.2 → kq3 P (fX16_newFrame_h2 fu k n s) := by
  intro n
  induction n with
  | zero => intro s _; exact kqN3
  | succ n ih =>
    intro s h
    show kq3 P (fX16_newFrame_i2 fu k (fX16_newFrame_h2 fu k n) s.1 s.2.1 s.2.2)
    exact y_fX16_newFrame_i2 hC ih h
theorem y_DX16_newFrame {P : mwM → mwL → Prop} (hC : CPrb P) {fu : Nat} {k : Nat} {M : mwM} {L : mwL} (h : P M L) : kq3 P (DX16_newFrame fu k M L) := by
  unfold DX16_newFrame
  exact (y_fX16_newFrame_h2 hC _ (1, M, L) h)
theorem y_fX16_search_b289 {P : mwM → mwL → Prop} (hC : CPrb P) {fu : Nat} {k : Nat} {a1 : Int32} {a2 : Int32} {a3 : Int32} {s0 : Int32} {M : mwM} {L : mwL} (h : P M L) : kq3 P (fX16_search_b289 fu k a1 a2 a3 s0 M L) := by
  unfold fX16_search_b289
  exact (kq_mzz3 (kqS3 h))
theorem y_fX16_search_b278 {P : mwM → mwL → Prop} (hC : CPrb P) {fu : Nat} {k : Nat} {a1 : Int32} {a2 : Int32} {a3 : Int32} {v4 : Int32} {M : mwM} {L : mwL} (h : P M L) : kq3 P (fX16_search_b278 fu k a1 a2 a3 v4 M L) := by
  unfold fX16_search_b278
  exact (kqI3 (y_fX16_search_b289 hC h) (y_fX16_search_b289 hC h))
theorem y_fX16_search_b156 {P : mwM → mwL → Prop} (hC : CPrb P) {fu : Nat} {k : Nat} {a1 : Int32} {a2 : Int32} {a3 : Int32} {r13 : (Int32 × Int32 × mwM × mwL) → Option (Int32 × mwM × mwL)} {v4 : Int32} {v5 : Int32} (hr13 : ∀ s, P s.2.2.1 s.2.2.2 → kq3 P (r13 s)) {M : mwM} {L : mwL} (h : P M L) : kq3 P (fX16_search_b156 fu k a1 a2 a3 r13 v4 v5 M L) := by
  unfold fX16_search_b156
  exact (kqL3 (fun x29 => (hr13 (x29, v5, M, L) h)))
theorem y_fX16_search_b246 {P : mwM → mwL → Prop} (hC : CPrb P) {fu : Nat} {k : Nat} {a1 : Int32} {a2 : Int32} {a3 : Int32} {r13 : (Int32 × Int32 × mwM × mwL) → Option (Int32 × mwM × mwL)} {v4 : Int32} {v5 : Int32} {v6 : Int32} {v8 : Int32} {v9 : Int32} (hr13 : ∀ s, P s.2.2.1 s.2.2.2 → kq3 P (r13 s)) (hk_k : 941 ≤ k ∧ k < 1577 ∧ (k - 941) % 53 = 0) {M : mwM} {L : mwL} (h : P M L) : kq3 P (fX16_search_b246 fu k a1 a2 a3 r13 v4 v5 v6 v8 v9 M L) := by
  unfold fX16_search_b246
  exact (kqK3 (fun q1 => (kqM3_rb hC h (by omega) (fun M48 h2 => (kqK3 (fun q3 => (kqM3_rb hC h2 (by omega) (fun M50 h4 => (kqL3 (fun x51 => (kqK3 (fun q5 => (kqM3_rb hC h4 (by omega) (fun M53 h6 => (hr13 (x51, v5, M53, L) h6)))))))))))))))
theorem y_fX16_search_b209 {P : mwM → mwL → Prop} (hC : CPrb P) {fu : Nat} {k : Nat} {a1 : Int32} {a2 : Int32} {a3 : Int32} {r13 : (Int32 × Int32 × mwM × mwL) → Option (Int32 × mwM × mwL)} {v4 : Int32} {v5 : Int32} {v6 : Int32} {v7 : Int32} {v8 : Int32} {s0 : Int32} (hr13 : ∀ s, P s.2.2.1 s.2.2.2 → kq3 P (r13 s)) (hk_k : 941 ≤ k ∧ k < 1577 ∧ (k - 941) % 53 = 0) {M : mwM} {L : mwL} (h : P M L) : kq3 P (fX16_search_b209 fu k a1 a2 a3 r13 v4 v5 v6 v7 v8 s0 M L) := by
  unfold fX16_search_b209
  exact (kqI3 (kqI3 (kqK3 (fun q1 => (kqM3_rb hC h (by omega) (fun M43 h2 => (kqL3 (fun x44 => (kqK3 (fun q3 => (kqM3_rb hC h2 (by omega) (fun M46 h4 => (y_fX16_search_b246 hC hr13 (by omega) h4))))))))))) (y_fX16_search_b246 hC hr13 (by omega) h)) (hr13 (v4, v5, M, L) h))
theorem y_fX16_search_b183 {P : mwM → mwL → Prop} (hC : CPrb P) {fu : Nat} {k : Nat} {a1 : Int32} {a2 : Int32} {a3 : Int32} {r13 : (Int32 × Int32 × mwM × mwL) → Option (Int32 × mwM × mwL)} {v4 : Int32} {v5 : Int32} {v6 : Int32} {v7 : Int32} {s0 : Int32} (hr13 : ∀ s, P s.2.2.1 s.2.2.2 → kq3 P (r13 s)) (hk_k : 941 ≤ k ∧ k < 1577 ∧ (k - 941) % 53 = 0) {M : mwM} {L : mwL} (h : P M L) : kq3 P (fX16_search_b183 fu k a1 a2 a3 r13 v4 v5 v6 v7 s0 M L) := by
  unfold fX16_search_b183
  exact (kqI3 (y_fX16_search_b209 hC hr13 (by omega) h) (kqK3 (fun q1 => (kqB33 (y_DX16_room hC h) (fun r39 M37 L38 h2 => (y_fX16_search_b209 hC hr13 (by omega) h2))))))
theorem y_fX16_search_b162 {P : mwM → mwL → Prop} (hC : CPrb P) {fu : Nat} {k : Nat} {a1 : Int32} {a2 : Int32} {a3 : Int32} {r13 : (Int32 × Int32 × mwM × mwL) → Option (Int32 × mwM × mwL)} {v4 : Int32} {v5 : Int32} {v6 : Int32} {v7 : Int32} (hr13 : ∀ s, P s.2.2.1 s.2.2.2 → kq3 P (r13 s)) (hk_k : 941 ≤ k ∧ k < 1577 ∧ (k - 941) % 53 = 0) {M : mwM} {L : mwL} (h : P M L) : kq3 P (fX16_search_b162 fu k a1 a2 a3 r13 v4 v5 v6 v7 M L) := by
  unfold fX16_search_b162
  exact (kqI3 (kqB33 (y_DX16_newFrame hC h) (fun r34 M32 L33 h1 => (y_fX16_search_b183 hC hr13 (by omega) h1))) (kqK3 (fun q2 => (y_fX16_search_b183 hC hr13 (by omega) h))))
theorem y_fX16_search_b97 {P : mwM → mwL → Prop} (hC : CPrb P) {fu : Nat} {k : Nat} {a1 : Int32} {a2 : Int32} {a3 : Int32} {r13 : (Int32 × Int32 × mwM × mwL) → Option (Int32 × mwM × mwL)} {v4 : Int32} {v5 : Int32} {v6 : Int32} (hr13 : ∀ s, P s.2.2.1 s.2.2.2 → kq3 P (r13 s)) (hk_k : 941 ≤ k ∧ k < 1577 ∧ (k - 941) % 53 = 0) {M : mwM} {L : mwL} (h : P M L) : kq3 P (fX16_search_b97 fu k a1 a2 a3 r13 v4 v5 v6 M L) := by
  unfold fX16_search_b97
  exact (kqK3 (fun q1 => (kqM3_rb hC h (by omega) (fun M16 h2 => (kqK3 (fun q3 => (kqK3 (fun q4 => (kqM3_rb hC h2 (by omega) (fun M19 h5 => (kqK3 (fun q6 => (kqL3 (fun x21 => (kqI3 (y_fX16_search_b156 hC hr13 h5) (kqI3 (kqI3 (y_fX16_search_b156 hC hr13 h5) (kqB33 (y_DX16_newFrame hC h5) (fun r27 M25 L26 h7 => (kqI3 (y_fX16_search_b156 hC hr13 h7) (y_fX16_search_b162 hC hr13 (by omega) h7))))) (y_fX16_search_b162 hC hr13 (by omega) h5)))))))))))))))))
theorem y_fX16_search_b87 {P : mwM → mwL → Prop} (hC : CPrb P) {fu : Nat} {k : Nat} {a1 : Int32} {a2 : Int32} {a3 : Int32} {r13 : (Int32 × Int32 × mwM × mwL) → Option (Int32 × mwM × mwL)} {v4 : Int32} {v6 : Int32} {s0 : Int32} (hr13 : ∀ s, P s.2.2.1 s.2.2.2 → kq3 P (r13 s)) (hk_k : 941 ≤ k ∧ k < 1577 ∧ (k - 941) % 53 = 0) {M : mwM} {L : mwL} (h : P M L) : kq3 P (fX16_search_b87 fu k a1 a2 a3 r13 v4 v6 s0 M L) := by
  unfold fX16_search_b87
  exact (kqK3 (fun q1 => (kqM3_rb hC h (by omega) (fun M14 h2 => (y_fX16_search_b97 hC hr13 (by omega) h2)))))
theorem y_fX16_search_b85 {P : mwM → mwL → Prop} (hC : CPrb P) {fu : Nat} {k : Nat} {a1 : Int32} {a2 : Int32} {a3 : Int32} {r13 : (Int32 × Int32 × mwM × mwL) → Option (Int32 × mwM × mwL)} {v4 : Int32} {v5 : Int32} {v6 : Int32} (hr13 : ∀ s, P s.2.2.1 s.2.2.2 → kq3 P (r13 s)) (hk_k : 941 ≤ k ∧ k < 1577 ∧ (k - 941) % 53 = 0) {M : mwM} {L : mwL} (h : P M L) : kq3 P (fX16_search_b85 fu k a1 a2 a3 r13 v4 v5 v6 M L) := by
  unfold fX16_search_b85
  exact (y_fX16_search_b87 hC hr13 (by omega) h)
theorem y_fX16_search_i13 {P : mwM → mwL → Prop} (hC : CPrb P) {fu : Nat} {k : Nat} {a1 : Int32} {a2 : Int32} {a3 : Int32} {r13 : (Int32 × Int32 × mwM × mwL) → Option (Int32 × mwM × mwL)} {v4 : Int32} {v5 : Int32} (hr13 : ∀ s, P s.2.2.1 s.2.2.2 → kq3 P (r13 s)) (hk_k : 941 ≤ k ∧ k < 1577 ∧ (k - 941) % 53 = 0) {M : mwM} {L : mwL} (h : P M L) : kq3 P (fX16_search_i13 fu k a1 a2 a3 r13 v4 v5 M L) := by
  unfold fX16_search_i13
  exact (kqI3 (y_fX16_search_b278 hC h) (kqI3 (y_fX16_search_b278 hC h) (kqK3 (fun q1 => (kqL3 (fun x4 => (kqK3 (fun q2 => (kqI3 (y_fX16_search_b97 hC hr13 (by omega) h) (kqK3 (fun q3 => (kqI3 (kqK3 (fun q4 => (kqI3 (y_fX16_search_b85 hC hr13 (by omega) h) (kqK3 (fun q5 => (kqI3 (y_fX16_search_b85 hC hr13 (by omega) h) (y_fX16_search_b87 hC hr13 (by omega) h))))))) (y_fX16_search_b85 hC hr13 (by omega) h)))))))))))))
theorem y_fX16_search_h13 {P : mwM → mwL → Prop} (hC : CPrb P) {fu : Nat} {k : Nat} {a1 : Int32} {a2 : Int32} {a3 : Int32} (hk_k : 941 ≤ k ∧ k < 1577 ∧ (k - 941) % 53 = 0) : ∀ n s, P s.2.2.1 s.2.2.2 → kq3 P (fX16_search_h13 fu k a1 a2 a3 n s) := by
  intro n
  induction n with
  | zero => intro s _; exact kqN3
  | succ n ih =>
    intro s h
    show kq3 P (fX16_search_i13 fu k a1 a2 a3 (fX16_search_h13 fu k a1 a2 a3 n) s.1 s.2.1 s.2.2.1 s.2.2.2)
    exact y_fX16_search_i13 hC ih hk_k h
theorem y_DX16_search {P : mwM → mwL → Prop} (hC : CPrb P) {fu : Nat} {k : Nat} {a1 : Int32} {a2 : Int32} {a3 : Int32} (hk_k : 941 ≤ k ∧ k < 1577 ∧ (k - 941) % 53 = 0) {M : mwM} {L : mwL} (h : P M L) : kq3 P (DX16_search fu k a1 a2 a3 M L) := by
  unfold DX16_search
  exact (kqM3_rb hC h (by omega) (fun M57 h1 => (y_fX16_search_h13 hC (by omega) _ (0, a2, M57, L) h1)))
theorem y_fX16_inTurn_b104 {P : mwM → mwL → Prop} (hC : CPrb P) {fu : Nat} {k : Nat} {a1 : Int32} {a2 : Int32} {r5 : (Int32 × Int32 × mwM × mwL) → Option (Int32 × mwM × mwL)} {v3 : Int32} {v4 : Int32} {v5 : Int32} {v6 : Int32} {v7 : Int32} (hr5 : ∀ s, P s.2.2.1 s.2.2.2 → kq3 P (r5 s)) (hk_k : 941 ≤ k ∧ k < 1577 ∧ (k - 941) % 53 = 0) {M : mwM} {L : mwL} (h : P M L) : kq3 P (fX16_inTurn_b104 fu k a1 a2 r5 v3 v4 v5 v6 v7 M L) := by
  unfold fX16_inTurn_b104
  exact (kqK3 (fun q1 => (kqM3_rb hC h (by omega) (fun M22 h2 => (kqK3 (fun q3 => (kqM3_rb hC h2 (by omega) (fun M24 h4 => (kqL3 (fun x25 => (hr5 (v3, x25, M24, L) h4)))))))))))
theorem y_fX16_inTurn_b70 {P : mwM → mwL → Prop} (hC : CPrb P) {fu : Nat} {k : Nat} {a1 : Int32} {a2 : Int32} {r5 : (Int32 × Int32 × mwM × mwL) → Option (Int32 × mwM × mwL)} {v3 : Int32} {v4 : Int32} {v5 : Int32} {v6 : Int32} {v7 : Int32} (hr5 : ∀ s, P s.2.2.1 s.2.2.2 → kq3 P (r5 s)) (hk_k : 941 ≤ k ∧ k < 1577 ∧ (k - 941) % 53 = 0) {M : mwM} {L : mwL} (h : P M L) : kq3 P (fX16_inTurn_b70 fu k a1 a2 r5 v3 v4 v5 v6 v7 M L) := by
  unfold fX16_inTurn_b70
  exact (kqI3 (y_fX16_inTurn_b104 hC hr5 (by omega) h) (kqB33 (y_DX16_newFrame hC h) (fun r16 M14 L15 h1 => (kqI3 (kqS3 h1) (kqK3 (fun q2 => (kqM3_rb hC h1 (by omega) (fun M19 h3 => (kqL3 (fun x20 => (y_fX16_inTurn_b104 hC hr5 (by omega) h3)))))))))))
theorem y_fX16_inTurn_i29 {P : mwM → mwL → Prop} (hC : CPrb P) {fu : Nat} {k : Nat} {a1 : Int32} {a2 : Int32} {r5 : (Int32 × Int32 × mwM × mwL) → Option (Int32 × mwM × mwL)} {r29 : (Int32 × Int32 × Int32 × Int32 × Int32 × Int32 × mwM × mwL) → Option (Int32 × mwM × mwL)} {v3 : Int32} {v4 : Int32} {v5 : Int32} {v6 : Int32} {v7 : Int32} {v8 : Int32} (hr5 : ∀ s, P s.2.2.1 s.2.2.2 → kq3 P (r5 s)) (hr29 : ∀ s, P s.2.2.2.2.2.2.1 s.2.2.2.2.2.2.2 → kq3 P (r29 s)) (hk_k : 941 ≤ k ∧ k < 1577 ∧ (k - 941) % 53 = 0) {M : mwM} {L : mwL} (h : P M L) : kq3 P (fX16_inTurn_i29 fu k a1 a2 r5 r29 v3 v4 v5 v6 v7 v8 M L) := by
  unfold fX16_inTurn_i29
  exact (kqI3 (y_fX16_inTurn_b70 hC hr5 (by omega) h) (kqI3 (y_fX16_inTurn_b70 hC hr5 (by omega) h) (kqK3 (fun q1 => (kqL3 (fun x7 => (kqK3 (fun q2 => (kqB33 (y_DX16_room hC h) (fun r11 M9 L10 h3 => (kqL3 (fun x12 => (hr29 (v3, v4, v5, r11, x7, x12, M9, L10) h3)))))))))))))
theorem y_fX16_inTurn_h29 {P : mwM → mwL → Prop} (hC : CPrb P) {fu : Nat} {k : Nat} {a1 : Int32} {a2 : Int32} {r5 : (Int32 × Int32 × mwM × mwL) → Option (Int32 × mwM × mwL)} (hr5 : ∀ s, P s.2.2.1 s.2.2.2 → kq3 P (r5 s)) (hk_k : 941 ≤ k ∧ k < 1577 ∧ (k - 941) % 53 = 0) : ∀ n s, P s.2.2.2.2.2.2.1 s.2.2.2.2.2.2.2 → kq3 P (fX16_inTurn_h29 fu k a1 a2 r5 n s) := by
  intro n
  induction n with
  | zero => intro s _; exact kqN3
  | succ n ih =>
    intro s h
    show kq3 P (fX16_inTurn_i29 fu k a1 a2 r5 (fX16_inTurn_h29 fu k a1 a2 r5 n) s.1 s.2.1 s.2.2.1 s.2.2.2.1 s.2.2.2.2.1 s.2.2.2.2.2.1 s.2.2.2.2.2.2.1 s.2.2.2.2.2.2.2)
    exact y_fX16_inTurn_i29 hC hr5 ih hk_k h
theorem y_fX16_inTurn_i5 {P : mwM → mwL → Prop} (hC : CPrb P) {fu : Nat} {k : Nat} {a1 : Int32} {a2 : Int32} {r5 : (Int32 × Int32 × mwM × mwL) → Option (Int32 × mwM × mwL)} {v3 : Int32} {v4 : Int32} (hr5 : ∀ s, P s.2.2.1 s.2.2.2 → kq3 P (r5 s)) (hk_k : 941 ≤ k ∧ k < 1577 ∧ (k - 941) % 53 = 0) {M : mwM} {L : mwL} (h : P M L) : kq3 P (fX16_inTurn_i5 fu k a1 a2 r5 v3 v4 M L) := by
  unfold fX16_inTurn_i5
  exact (kqI3 (kqS3 h) (kqK3 (fun q1 => (kqL3 (fun x3 => (y_fX16_inTurn_h29 hC hr5 (by omega) _ (v3, v4, x3, ((-1)), 0, 0, M, L) h))))))
theorem y_fX16_inTurn_h5 {P : mwM → mwL → Prop} (hC : CPrb P) {fu : Nat} {k : Nat} {a1 : Int32} {a2 : Int32} (hk_k : 941 ≤ k ∧ k < 1577 ∧ (k - 941) % 53 = 0) : ∀ n s, P s.2.2.1 s.2.2.2 → kq3 P (fX16_inTurn_h5 fu k a1 a2 n s) := by
  intro n
  induction n with
  | zero => intro s _; exact kqN3
  | succ n ih =>
    intro s h
    show kq3 P (fX16_inTurn_i5 fu k a1 a2 (fX16_inTurn_h5 fu k a1 a2 n) s.1 s.2.1 s.2.2.1 s.2.2.2)
    exact y_fX16_inTurn_i5 hC ih hk_k h
theorem y_DX16_inTurn {P : mwM → mwL → Prop} (hC : CPrb P) {fu : Nat} {k : Nat} {a1 : Int32} {a2 : Int32} (hk_k : 941 ≤ k ∧ k < 1577 ∧ (k - 941) % 53 = 0) {M : mwM} {L : mwL} (h : P M L) : kq3 P (DX16_inTurn fu k a1 a2 M L) := by
  unfold DX16_inTurn
  exact (y_fX16_inTurn_h5 hC (by omega) _ (a2, 0, M, L) h)
theorem y_fX16_listed_b165 {P : mwM → mwL → Prop} (hC : CPrb P) {fu : Nat} {k : Nat} {a1 : Int32} {r4 : (Int32 × Int32 × mwM × mwL) → Option (Int32 × mwM × mwL)} {r13 : (Int32 × Int32 × Int32 × mwM × mwL) → Option (Int32 × mwM × mwL)} {v2 : Int32} {v4 : Int32} {s0 : Int32} (hr4 : ∀ s, P s.2.2.1 s.2.2.2 → kq3 P (r4 s)) (hr13 : ∀ s, P s.2.2.2.1 s.2.2.2.2 → kq3 P (r13 s)) {M : mwM} {L : mwL} (h : P M L) : kq3 P (fX16_listed_b165 fu k a1 r4 r13 v2 v4 s0 M L) := by
  unfold fX16_listed_b165
  exact (kqL3 (fun x32 => (hr13 (v2, s0, x32, M, L) h)))
theorem y_fX16_listed_b164 {P : mwM → mwL → Prop} (hC : CPrb P) {fu : Nat} {k : Nat} {a1 : Int32} {r4 : (Int32 × Int32 × mwM × mwL) → Option (Int32 × mwM × mwL)} {r13 : (Int32 × Int32 × Int32 × mwM × mwL) → Option (Int32 × mwM × mwL)} {v2 : Int32} {v3 : Int32} {v4 : Int32} (hr4 : ∀ s, P s.2.2.1 s.2.2.2 → kq3 P (r4 s)) (hr13 : ∀ s, P s.2.2.2.1 s.2.2.2.2 → kq3 P (r13 s)) {M : mwM} {L : mwL} (h : P M L) : kq3 P (fX16_listed_b164 fu k a1 r4 r13 v2 v3 v4 M L) := by
  unfold fX16_listed_b164
  exact (y_fX16_listed_b165 hC hr4 hr13 h)
theorem y_fX16_listed_b159 {P : mwM → mwL → Prop} (hC : CPrb P) {fu : Nat} {k : Nat} {a1 : Int32} {r4 : (Int32 × Int32 × mwM × mwL) → Option (Int32 × mwM × mwL)} {r13 : (Int32 × Int32 × Int32 × mwM × mwL) → Option (Int32 × mwM × mwL)} {v2 : Int32} {v4 : Int32} (hr4 : ∀ s, P s.2.2.1 s.2.2.2 → kq3 P (r4 s)) (hr13 : ∀ s, P s.2.2.2.1 s.2.2.2.2 → kq3 P (r13 s)) {M : mwM} {L : mwL} (h : P M L) : kq3 P (fX16_listed_b159 fu k a1 r4 r13 v2 v4 M L) := by
  unfold fX16_listed_b159
  exact (y_fX16_listed_b165 hC hr4 hr13 h)
theorem y_fX16_listed_b127 {P : mwM → mwL → Prop} (hC : CPrb P) {fu : Nat} {k : Nat} {a1 : Int32} {r4 : (Int32 × Int32 × mwM × mwL) → Option (Int32 × mwM × mwL)} {r13 : (Int32 × Int32 × Int32 × mwM × mwL) → Option (Int32 × mwM × mwL)} {v2 : Int32} {v3 : Int32} {v4 : Int32} {v5 : Int32} {s0 : Int32} (hr4 : ∀ s, P s.2.2.1 s.2.2.2 → kq3 P (r4 s)) (hr13 : ∀ s, P s.2.2.2.1 s.2.2.2.2 → kq3 P (r13 s)) {M : mwM} {L : mwL} (h : P M L) : kq3 P (fX16_listed_b127 fu k a1 r4 r13 v2 v3 v4 v5 s0 M L) := by
  unfold fX16_listed_b127
  exact (kqI3 (y_fX16_listed_b164 hC hr4 hr13 h) (kqI3 (y_fX16_listed_b164 hC hr4 hr13 h) (kqI3 (y_fX16_listed_b159 hC hr4 hr13 h) (kqK3 (fun q1 => (kqK3 (fun q2 => (kqI3 (y_fX16_listed_b164 hC hr4 hr13 h) (y_fX16_listed_b159 hC hr4 hr13 h)))))))))
theorem y_fX16_listed_b122 {P : mwM → mwL → Prop} (hC : CPrb P) {fu : Nat} {k : Nat} {a1 : Int32} {r4 : (Int32 × Int32 × mwM × mwL) → Option (Int32 × mwM × mwL)} {r13 : (Int32 × Int32 × Int32 × mwM × mwL) → Option (Int32 × mwM × mwL)} {v2 : Int32} {v3 : Int32} {v4 : Int32} {v5 : Int32} (hr4 : ∀ s, P s.2.2.1 s.2.2.2 → kq3 P (r4 s)) (hr13 : ∀ s, P s.2.2.2.1 s.2.2.2.2 → kq3 P (r13 s)) {M : mwM} {L : mwL} (h : P M L) : kq3 P (fX16_listed_b122 fu k a1 r4 r13 v2 v3 v4 v5 M L) := by
  unfold fX16_listed_b122
  exact (y_fX16_listed_b127 hC hr4 hr13 h)
theorem y_fX16_listed_b126 {P : mwM → mwL → Prop} (hC : CPrb P) {fu : Nat} {k : Nat} {a1 : Int32} {r4 : (Int32 × Int32 × mwM × mwL) → Option (Int32 × mwM × mwL)} {r13 : (Int32 × Int32 × Int32 × mwM × mwL) → Option (Int32 × mwM × mwL)} {v2 : Int32} {v3 : Int32} {v4 : Int32} {v5 : Int32} (hr4 : ∀ s, P s.2.2.1 s.2.2.2 → kq3 P (r4 s)) (hr13 : ∀ s, P s.2.2.2.1 s.2.2.2.2 → kq3 P (r13 s)) {M : mwM} {L : mwL} (h : P M L) : kq3 P (fX16_listed_b126 fu k a1 r4 r13 v2 v3 v4 v5 M L) := by
  unfold fX16_listed_b126
  exact (y_fX16_listed_b127 hC hr4 hr13 h)
theorem y_fX16_listed_b57 {P : mwM → mwL → Prop} (hC : CPrb P) {fu : Nat} {k : Nat} {a1 : Int32} {r4 : (Int32 × Int32 × mwM × mwL) → Option (Int32 × mwM × mwL)} {r13 : (Int32 × Int32 × Int32 × mwM × mwL) → Option (Int32 × mwM × mwL)} {v2 : Int32} {v3 : Int32} {v4 : Int32} {s0 : Int32} (hr4 : ∀ s, P s.2.2.1 s.2.2.2 → kq3 P (r4 s)) (hr13 : ∀ s, P s.2.2.2.1 s.2.2.2.2 → kq3 P (r13 s)) {M : mwM} {L : mwL} (h : P M L) : kq3 P (fX16_listed_b57 fu k a1 r4 r13 v2 v3 v4 s0 M L) := by
  unfold fX16_listed_b57
  exact (kqI3 (y_fX16_listed_b122 hC hr4 hr13 h) (kqK3 (fun q1 => (kqK3 (fun q2 => (kqK3 (fun q3 => (kqI3 (y_fX16_listed_b122 hC hr4 hr13 h) (kqK3 (fun q4 => (kqK3 (fun q5 => (kqK3 (fun q6 => (kqI3 (kqK3 (fun q7 => (kqI3 (y_fX16_listed_b126 hC hr4 hr13 h) (y_fX16_listed_b122 hC hr4 hr13 h)))) (y_fX16_listed_b126 hC hr4 hr13 h))))))))))))))))
theorem y_fX16_listed_b56 {P : mwM → mwL → Prop} (hC : CPrb P) {fu : Nat} {k : Nat} {a1 : Int32} {r4 : (Int32 × Int32 × mwM × mwL) → Option (Int32 × mwM × mwL)} {r13 : (Int32 × Int32 × Int32 × mwM × mwL) → Option (Int32 × mwM × mwL)} {v2 : Int32} {v3 : Int32} {v4 : Int32} (hr4 : ∀ s, P s.2.2.1 s.2.2.2 → kq3 P (r4 s)) (hr13 : ∀ s, P s.2.2.2.1 s.2.2.2.2 → kq3 P (r13 s)) {M : mwM} {L : mwL} (h : P M L) : kq3 P (fX16_listed_b56 fu k a1 r4 r13 v2 v3 v4 M L) := by
  unfold fX16_listed_b56
  exact (y_fX16_listed_b57 hC hr4 hr13 h)
theorem y_fX16_listed_i13 {P : mwM → mwL → Prop} (hC : CPrb P) {fu : Nat} {k : Nat} {a1 : Int32} {r4 : (Int32 × Int32 × mwM × mwL) → Option (Int32 × mwM × mwL)} {r13 : (Int32 × Int32 × Int32 × mwM × mwL) → Option (Int32 × mwM × mwL)} {v2 : Int32} {v3 : Int32} {v4 : Int32} (hr4 : ∀ s, P s.2.2.1 s.2.2.2 → kq3 P (r4 s)) (hr13 : ∀ s, P s.2.2.2.1 s.2.2.2.2 → kq3 P (r13 s)) (hk_k : 941 ≤ k ∧ k < 1577 ∧ (k - 941) % 53 = 0) {M : mwM} {L : mwL} (h : P M L) : kq3 P (fX16_listed_i13 fu k a1 r4 r13 v2 v3 v4 M L) := by
  unfold fX16_listed_i13
  exact (kqI3 (kqI3 (hr4 (v2, v3, M, L) h) (kqK3 (fun q1 => (kqM3_rb hC h (by omega) (fun M5 h2 => (kqL3 (fun x6 => (hr4 (x6, v3, M5, L) h2)))))))) (kqB33 (y_DX16_isGroup hC h) (fun r9 M7 L8 h3 => (kqI3 (y_fX16_listed_b56 hC hr4 hr13 h3) (kqK3 (fun q4 => (kqI3 (kqK3 (fun q5 => (kqI3 (y_fX16_listed_b57 hC hr4 hr13 h3) (y_fX16_listed_b56 hC hr4 hr13 h3)))) (y_fX16_listed_b56 hC hr4 hr13 h3))))))))
theorem y_fX16_listed_h13 {P : mwM → mwL → Prop} (hC : CPrb P) {fu : Nat} {k : Nat} {a1 : Int32} {r4 : (Int32 × Int32 × mwM × mwL) → Option (Int32 × mwM × mwL)} (hr4 : ∀ s, P s.2.2.1 s.2.2.2 → kq3 P (r4 s)) (hk_k : 941 ≤ k ∧ k < 1577 ∧ (k - 941) % 53 = 0) : ∀ n s, P s.2.2.2.1 s.2.2.2.2 → kq3 P (fX16_listed_h13 fu k a1 r4 n s) := by
  intro n
  induction n with
  | zero => intro s _; exact kqN3
  | succ n ih =>
    intro s h
    show kq3 P (fX16_listed_i13 fu k a1 r4 (fX16_listed_h13 fu k a1 r4 n) s.1 s.2.1 s.2.2.1 s.2.2.2.1 s.2.2.2.2)
    exact y_fX16_listed_i13 hC hr4 ih hk_k h
theorem y_fX16_listed_i4 {P : mwM → mwL → Prop} (hC : CPrb P) {fu : Nat} {k : Nat} {a1 : Int32} {r4 : (Int32 × Int32 × mwM × mwL) → Option (Int32 × mwM × mwL)} {v2 : Int32} {v3 : Int32} (hr4 : ∀ s, P s.2.2.1 s.2.2.2 → kq3 P (r4 s)) (hk_k : 941 ≤ k ∧ k < 1577 ∧ (k - 941) % 53 = 0) {M : mwM} {L : mwL} (h : P M L) : kq3 P (fX16_listed_i4 fu k a1 r4 v2 v3 M L) := by
  unfold fX16_listed_i4
  exact (kqI3 (kqS3 h) (y_fX16_listed_h13 hC hr4 (by omega) _ (v2, ((-1)), 1, M, L) h))
theorem y_fX16_listed_h4 {P : mwM → mwL → Prop} (hC : CPrb P) {fu : Nat} {k : Nat} {a1 : Int32} (hk_k : 941 ≤ k ∧ k < 1577 ∧ (k - 941) % 53 = 0) : ∀ n s, P s.2.2.1 s.2.2.2 → kq3 P (fX16_listed_h4 fu k a1 n s) := by
  intro n
  induction n with
  | zero => intro s _; exact kqN3
  | succ n ih =>
    intro s h
    show kq3 P (fX16_listed_i4 fu k a1 (fX16_listed_h4 fu k a1 n) s.1 s.2.1 s.2.2.1 s.2.2.2)
    exact y_fX16_listed_i4 hC ih hk_k h
theorem y_DX16_listed {P : mwM → mwL → Prop} (hC : CPrb P) {fu : Nat} {k : Nat} {a1 : Int32} (hk_k : 941 ≤ k ∧ k < 1577 ∧ (k - 941) % 53 = 0) {M : mwM} {L : mwL} (h : P M L) : kq3 P (DX16_listed fu k a1 M L) := by
  unfold DX16_listed
  exact (y_fX16_listed_h4 hC (by omega) _ (0, 0, M, L) h)
theorem y_fX16_packPeriod_b105 {P : mwM → mwL → Prop} (hC : CPrb P) {fu : Nat} {k : Nat} {a1 : Int32} {a2 : Int64} {v4 : Int32} {v5 : Int32} (hk_k : 941 ≤ k ∧ k < 1577 ∧ (k - 941) % 53 = 0) {M : mwM} {L : mwL} (h : P M L) : kq3 P (fX16_packPeriod_b105 fu k a1 a2 v4 v5 M L) := by
  unfold fX16_packPeriod_b105
  exact (kqM3_rb hC h (by omega) (fun M20 h1 => (kqB33 (y_DX16_inTurn hC (by omega) h1) (fun r23 M21 L22 h2 => (kq_mzz3 (kqS3 h2))))))
theorem y_fX16_packPeriod_i122 {P : mwM → mwL → Prop} (hC : CPrb P) {fu : Nat} {k : Nat} {a1 : Int32} {a2 : Int64} {r122 : (Int32 × Int32 × Int32 × mwM × mwL) → Option (Int32 × mwM × mwL)} {v4 : Int32} {v5 : Int32} {v8 : Int32} (hr122 : ∀ s, P s.2.2.2.1 s.2.2.2.2 → kq3 P (r122 s)) (hk_k : 941 ≤ k ∧ k < 1577 ∧ (k - 941) % 53 = 0) {M : mwM} {L : mwL} (h : P M L) : kq3 P (fX16_packPeriod_i122 fu k a1 a2 r122 v4 v5 v8 M L) := by
  unfold fX16_packPeriod_i122
  exact (kqI3 (kqS3 h) (kqB33 (y_DX16_search hC (by omega) h) (fun r28 M26 L27 h1 => (kqI3 (kqL3 (fun x30 => (hr122 (v4, v5, x30, M26, L27) h1))) (kqS3 h1)))))
theorem y_fX16_packPeriod_h122 {P : mwM → mwL → Prop} (hC : CPrb P) {fu : Nat} {k : Nat} {a1 : Int32} {a2 : Int64} (hk_k : 941 ≤ k ∧ k < 1577 ∧ (k - 941) % 53 = 0) : ∀ n s, P s.2.2.2.1 s.2.2.2.2 → kq3 P (fX16_packPeriod_h122 fu k a1 a2 n s) := by
  intro n
  induction n with
  | zero => intro s _; exact kqN3
  | succ n ih =>
    intro s h
    show kq3 P (fX16_packPeriod_i122 fu k a1 a2 (fX16_packPeriod_h122 fu k a1 a2 n) s.1 s.2.1 s.2.2.1 s.2.2.2.1 s.2.2.2.2)
    exact y_fX16_packPeriod_i122 hC ih hk_k h
theorem y_fX16_packPeriod_b91 {P : mwM → mwL → Prop} (hC : CPrb P) {fu : Nat} {k : Nat} {a1 : Int32} {a2 : Int64} {v4 : Int32} {v5 : Int32} {v6 : Int64} (hk_k : 941 ≤ k ∧ k < 1577 ∧ (k - 941) % 53 = 0) {M : mwM} {L : mwL} (h : P M L) : kq3 P (fX16_packPeriod_b91 fu k a1 a2 v4 v5 v6 M L) := by
  unfold fX16_packPeriod_b91
  exact (kqI3 (y_fX16_packPeriod_b105 hC (by omega) h) (kqI3 (y_fX16_packPeriod_h122 hC (by omega) _ (v4, v5, 0, M, L) h) (y_fX16_packPeriod_b105 hC (by omega) h)))
theorem y_fX16_packPeriod_i63 {P : mwM → mwL → Prop} (hC : CPrb P) {fu : Nat} {k : Nat} {a1 : Int32} {a2 : Int64} {r63 : (Int32 × Int32 × Int64 × Int32 × mwM × mwL) → Option (Int32 × mwM × mwL)} {v4 : Int32} {v5 : Int32} {v6 : Int64} {v8 : Int32} (hr63 : ∀ s, P s.2.2.2.2.1 s.2.2.2.2.2 → kq3 P (r63 s)) (hk_k : 941 ≤ k ∧ k < 1577 ∧ (k - 941) % 53 = 0) {M : mwM} {L : mwL} (h : P M L) : kq3 P (fX16_packPeriod_i63 fu k a1 a2 r63 v4 v5 v6 v8 M L) := by
  unfold fX16_packPeriod_i63
  exact (kqI3 (y_fX16_packPeriod_b91 hC (by omega) h) (kqI3 (y_fX16_packPeriod_b91 hC (by omega) h) (kqL3 (fun x16 => (kqL3 (fun x17 => (hr63 (v4, v5, x16, x17, M, L) h)))))))
theorem y_fX16_packPeriod_h63 {P : mwM → mwL → Prop} (hC : CPrb P) {fu : Nat} {k : Nat} {a1 : Int32} {a2 : Int64} (hk_k : 941 ≤ k ∧ k < 1577 ∧ (k - 941) % 53 = 0) : ∀ n s, P s.2.2.2.2.1 s.2.2.2.2.2 → kq3 P (fX16_packPeriod_h63 fu k a1 a2 n s) := by
  intro n
  induction n with
  | zero => intro s _; exact kqN3
  | succ n ih =>
    intro s h
    show kq3 P (fX16_packPeriod_i63 fu k a1 a2 (fX16_packPeriod_h63 fu k a1 a2 n) s.1 s.2.1 s.2.2.1 s.2.2.2.1 s.2.2.2.2.1 s.2.2.2.2.2)
    exact y_fX16_packPeriod_i63 hC ih hk_k h
theorem y_fX16_packPeriod_b51 {P : mwM → mwL → Prop} (hC : CPrb P) {fu : Nat} {k : Nat} {a1 : Int32} {a2 : Int64} {r13 : (Int32 × Int32 × Int32 × mwM × mwL) → Option (Int32 × mwM × mwL)} {v4 : Int32} {v5 : Int32} {v6 : Int32} (hr13 : ∀ s, P s.2.2.2.1 s.2.2.2.2 → kq3 P (r13 s)) {M : mwM} {L : mwL} (h : P M L) : kq3 P (fX16_packPeriod_b51 fu k a1 a2 r13 v4 v5 v6 M L) := by
  unfold fX16_packPeriod_b51
  exact (kqL3 (fun x13 => (hr13 (v4, v5, x13, M, L) h)))
theorem y_fX16_packPeriod_i13 {P : mwM → mwL → Prop} (hC : CPrb P) {fu : Nat} {k : Nat} {a1 : Int32} {a2 : Int64} {r13 : (Int32 × Int32 × Int32 × mwM × mwL) → Option (Int32 × mwM × mwL)} {v4 : Int32} {v5 : Int32} {v6 : Int32} (hr13 : ∀ s, P s.2.2.2.1 s.2.2.2.2 → kq3 P (r13 s)) (hk_k : 941 ≤ k ∧ k < 1577 ∧ (k - 941) % 53 = 0) {M : mwM} {L : mwL} (h : P M L) : kq3 P (fX16_packPeriod_i13 fu k a1 a2 r13 v4 v5 v6 M L) := by
  unfold fX16_packPeriod_i13
  exact (kqI3 (y_fX16_packPeriod_h63 hC (by omega) _ (v4, v5, 1, 2, M, L) h) (kqB33 (y_DX16_isUsed hC h) (fun r4 M2 L3 h1 => (kqI3 (y_fX16_packPeriod_b51 hC hr13 h1) (kqB33 (y_DX16_hasOther hC h1) (fun r8 M6 L7 h2 => (kqI3 (kqK3 (fun q3 => (kqM3_rb hC h2 (by omega) (fun M11 h4 => (kqL3 (fun x12 => (y_fX16_packPeriod_b51 hC hr13 h4))))))) (y_fX16_packPeriod_b51 hC hr13 h2))))))))
theorem y_fX16_packPeriod_h13 {P : mwM → mwL → Prop} (hC : CPrb P) {fu : Nat} {k : Nat} {a1 : Int32} {a2 : Int64} (hk_k : 941 ≤ k ∧ k < 1577 ∧ (k - 941) % 53 = 0) : ∀ n s, P s.2.2.2.1 s.2.2.2.2 → kq3 P (fX16_packPeriod_h13 fu k a1 a2 n s) := by
  intro n
  induction n with
  | zero => intro s _; exact kqN3
  | succ n ih =>
    intro s h
    show kq3 P (fX16_packPeriod_i13 fu k a1 a2 (fX16_packPeriod_h13 fu k a1 a2 n) s.1 s.2.1 s.2.2.1 s.2.2.2.1 s.2.2.2.2)
    exact y_fX16_packPeriod_i13 hC ih hk_k h
theorem y_DX16_packPeriod {P : mwM → mwL → Prop} (hC : CPrb P) {fu : Nat} {k : Nat} {a1 : Int32} {a2 : Int64} (hk_k : 941 ≤ k ∧ k < 1577 ∧ (k - 941) % 53 = 0) {M : mwM} {L : mwL} (h : P M L) : kq3 P (DX16_packPeriod fu k a1 a2 M L) := by
  unfold DX16_packPeriod
  exact (kqB33 (y_DX16_listed hC (by omega) h) (fun r33 M31 L32 h1 => (y_fX16_packPeriod_h13 hC (by omega) _ (r33, 0, 1, M31, L32) h1)))
theorem y_fX16_frames_b25 {P : mwM → mwL → Prop} (hC : CPrb P) {fu : Nat} {k : Nat} {r4 : (Int32 × Int32 × mwM × mwL) → Option (Int32 × mwM × mwL)} {v2 : Int32} {s0 : Int32} (hr4 : ∀ s, P s.2.2.1 s.2.2.2 → kq3 P (r4 s)) {M : mwM} {L : mwL} (h : P M L) : kq3 P (fX16_frames_b25 fu k r4 v2 s0 M L) := by
  unfold fX16_frames_b25
  exact (kqL3 (fun x7 => (hr4 (s0, x7, M, L) h)))
theorem y_fX16_frames_i4 {P : mwM → mwL → Prop} (hC : CPrb P) {fu : Nat} {k : Nat} {r4 : (Int32 × Int32 × mwM × mwL) → Option (Int32 × mwM × mwL)} {v1 : Int32} {v2 : Int32} (hr4 : ∀ s, P s.2.2.1 s.2.2.2 → kq3 P (r4 s)) {M : mwM} {L : mwL} (h : P M L) : kq3 P (fX16_frames_i4 fu k r4 v1 v2 M L) := by
  unfold fX16_frames_i4
  exact (kqI3 (kqS3 h) (kqB33 (y_DX16_isUsed hC h) (fun r5 M2 L3 h1 => (kqI3 (y_fX16_frames_b25 hC hr4 h1) (y_fX16_frames_b25 hC hr4 h1)))))
theorem y_fX16_frames_h4 {P : mwM → mwL → Prop} (hC : CPrb P) {fu : Nat} {k : Nat} : ∀ n s, P s.2.2.1 s.2.2.2 → kq3 P (fX16_frames_h4 fu k n s) := by
  intro n
  induction n with
  | zero => intro s _; exact kqN3
  | succ n ih =>
    intro s h
    show kq3 P (fX16_frames_i4 fu k (fX16_frames_h4 fu k n) s.1 s.2.1 s.2.2.1 s.2.2.2)
    exact y_fX16_frames_i4 hC ih h
theorem y_DX16_frames {P : mwM → mwL → Prop} (hC : CPrb P) {fu : Nat} {k : Nat} {M : mwM} {L : mwL} (h : P M L) : kq3 P (DX16_frames fu k M L) := by
  unfold DX16_frames
  exact (y_fX16_frames_h4 hC _ (0, 1, M, L) h)
theorem y_fX16_packs_b328 {P : mwM → mwL → Prop} (hC : CPrb P) {fu : Nat} {k : Nat} {a1 : Int64} {s0 : Int32} {M : mwM} {L : mwL} (h : P M L) : kq3 P (fX16_packs_b328 fu k a1 s0 M L) := by
  unfold fX16_packs_b328
  exact (kq_mzz3 (kqS3 h))
theorem y_fX16_packs_b299 {P : mwM → mwL → Prop} (hC : CPrb P) {fu : Nat} {k : Nat} {a1 : Int64} {r196 : (Int32 × mwM × mwL) → Option (Int32 × mwM × mwL)} {v4 : Int32} (hr196 : ∀ s, P s.2.1 s.2.2 → kq3 P (r196 s)) {M : mwM} {L : mwL} (h : P M L) : kq3 P (fX16_packs_b299 fu k a1 r196 v4 M L) := by
  unfold fX16_packs_b299
  exact (hr196 (v4, M, L) h)
theorem y_fX16_packs_b272 {P : mwM → mwL → Prop} (hC : CPrb P) {fu : Nat} {k : Nat} {a1 : Int64} {r196 : (Int32 × mwM × mwL) → Option (Int32 × mwM × mwL)} {r209 : (Int32 × Int32 × Int32 × mwM × mwL) → Option (Int32 × mwM × mwL)} {v3 : Int32} {v5 : Int32} {s0 : Int32} (hr196 : ∀ s, P s.2.1 s.2.2 → kq3 P (r196 s)) (hr209 : ∀ s, P s.2.2.2.1 s.2.2.2.2 → kq3 P (r209 s)) {M : mwM} {L : mwL} (h : P M L) : kq3 P (fX16_packs_b272 fu k a1 r196 r209 v3 v5 s0 M L) := by
  unfold fX16_packs_b272
  exact (kqL3 (fun x75 => (hr209 (v3, s0, x75, M, L) h)))
theorem y_fX16_packs_b270 {P : mwM → mwL → Prop} (hC : CPrb P) {fu : Nat} {k : Nat} {a1 : Int64} {r196 : (Int32 × mwM × mwL) → Option (Int32 × mwM × mwL)} {r209 : (Int32 × Int32 × Int32 × mwM × mwL) → Option (Int32 × mwM × mwL)} {v3 : Int32} {v4 : Int32} {v5 : Int32} (hr196 : ∀ s, P s.2.1 s.2.2 → kq3 P (r196 s)) (hr209 : ∀ s, P s.2.2.2.1 s.2.2.2.2 → kq3 P (r209 s)) {M : mwM} {L : mwL} (h : P M L) : kq3 P (fX16_packs_b270 fu k a1 r196 r209 v3 v4 v5 M L) := by
  unfold fX16_packs_b270
  exact (y_fX16_packs_b272 hC hr196 hr209 h)
theorem y_fX16_packs_i209 {P : mwM → mwL → Prop} (hC : CPrb P) {fu : Nat} {k : Nat} {a1 : Int64} {r196 : (Int32 × mwM × mwL) → Option (Int32 × mwM × mwL)} {r209 : (Int32 × Int32 × Int32 × mwM × mwL) → Option (Int32 × mwM × mwL)} {v3 : Int32} {v4 : Int32} {v5 : Int32} (hr196 : ∀ s, P s.2.1 s.2.2 → kq3 P (r196 s)) (hr209 : ∀ s, P s.2.2.2.1 s.2.2.2.2 → kq3 P (r209 s)) (hk_k : 941 ≤ k ∧ k < 1577 ∧ (k - 941) % 53 = 0) {M : mwM} {L : mwL} (h : P M L) : kq3 P (fX16_packs_i209 fu k a1 r196 r209 v3 v4 v5 M L) := by
  unfold fX16_packs_i209
  exact (kqI3 (kqI3 (y_fX16_packs_b299 hC hr196 h) (kqB33 (y_DX16_packPeriod hC (by omega) h) (fun r62 M60 L61 h1 => (kqI3 (kqS3 h1) (y_fX16_packs_b299 hC hr196 h1))))) (kqB33 (y_DX16_isGroup hC h) (fun r66 M64 L65 h2 => (kqI3 (y_fX16_packs_b270 hC hr196 hr209 h2) (kqK3 (fun q3 => (kqI3 (kqK3 (fun q4 => (kqI3 (y_fX16_packs_b270 hC hr196 hr209 h2) (kqK3 (fun q5 => (kqI3 (y_fX16_packs_b270 hC hr196 hr209 h2) (kqK3 (fun q6 => (y_fX16_packs_b272 hC hr196 hr209 h2))))))))) (y_fX16_packs_b270 hC hr196 hr209 h2))))))))
theorem y_fX16_packs_h209 {P : mwM → mwL → Prop} (hC : CPrb P) {fu : Nat} {k : Nat} {a1 : Int64} {r196 : (Int32 × mwM × mwL) → Option (Int32 × mwM × mwL)} (hr196 : ∀ s, P s.2.1 s.2.2 → kq3 P (r196 s)) (hk_k : 941 ≤ k ∧ k < 1577 ∧ (k - 941) % 53 = 0) : ∀ n s, P s.2.2.2.1 s.2.2.2.2 → kq3 P (fX16_packs_h209 fu k a1 r196 n s) := by
  intro n
  induction n with
  | zero => intro s _; exact kqN3
  | succ n ih =>
    intro s h
    show kq3 P (fX16_packs_i209 fu k a1 r196 (fX16_packs_h209 fu k a1 r196 n) s.1 s.2.1 s.2.2.1 s.2.2.2.1 s.2.2.2.2)
    exact y_fX16_packs_i209 hC hr196 ih hk_k h
theorem y_fX16_packs_i196 {P : mwM → mwL → Prop} (hC : CPrb P) {fu : Nat} {k : Nat} {a1 : Int64} {r196 : (Int32 × mwM × mwL) → Option (Int32 × mwM × mwL)} {v3 : Int32} (hr196 : ∀ s, P s.2.1 s.2.2 → kq3 P (r196 s)) (hk_k : 941 ≤ k ∧ k < 1577 ∧ (k - 941) % 53 = 0) {M : mwM} {L : mwL} (h : P M L) : kq3 P (fX16_packs_i196 fu k a1 r196 v3 M L) := by
  unfold fX16_packs_i196
  exact (kqI3 (kqB33 (y_DX16_frames hC h) (fun r56 M54 L55 h1 => (kqI3 (y_fX16_packs_b328 hC h1) (y_fX16_packs_b328 hC h1)))) (y_fX16_packs_h209 hC hr196 (by omega) _ (v3, 1000001, 1, M, L) h))
theorem y_fX16_packs_h196 {P : mwM → mwL → Prop} (hC : CPrb P) {fu : Nat} {k : Nat} {a1 : Int64} (hk_k : 941 ≤ k ∧ k < 1577 ∧ (k - 941) % 53 = 0) : ∀ n s, P s.2.1 s.2.2 → kq3 P (fX16_packs_h196 fu k a1 n s) := by
  intro n
  induction n with
  | zero => intro s _; exact kqN3
  | succ n ih =>
    intro s h
    show kq3 P (fX16_packs_i196 fu k a1 (fX16_packs_h196 fu k a1 n) s.1 s.2.1 s.2.2)
    exact y_fX16_packs_i196 hC ih hk_k h
theorem y_fX16_packs_b188 {P : mwM → mwL → Prop} (hC : CPrb P) {fu : Nat} {k : Nat} {a1 : Int64} {r77 : (Int32 × mwM × mwL) → Option (Int32 × mwM × mwL)} {v3 : Int32} (hr77 : ∀ s, P s.2.1 s.2.2 → kq3 P (r77 s)) {M : mwM} {L : mwL} (h : P M L) : kq3 P (fX16_packs_b188 fu k a1 r77 v3 M L) := by
  unfold fX16_packs_b188
  exact (kqL3 (fun x52 => (hr77 (x52, M, L) h)))
theorem y_fX16_packs_i77 {P : mwM → mwL → Prop} (hC : CPrb P) {fu : Nat} {k : Nat} {a1 : Int64} {r77 : (Int32 × mwM × mwL) → Option (Int32 × mwM × mwL)} {v3 : Int32} (hr77 : ∀ s, P s.2.1 s.2.2 → kq3 P (r77 s)) (hk_k : 941 ≤ k ∧ k < 1577 ∧ (k - 941) % 53 = 0) {M : mwM} {L : mwL} (h : P M L) : kq3 P (fX16_packs_i77 fu k a1 r77 v3 M L) := by
  unfold fX16_packs_i77
  exact (kqI3 (y_fX16_packs_h196 hC (by omega) _ (0, M, L) h) (kqB33 (y_DX16_isGroup hC h) (fun r25 M23 L24 h1 => (kqI3 (y_fX16_packs_b188 hC hr77 h1) (kqK3 (fun q2 => (kqI3 (kqK3 (fun q3 => (kqI3 (y_fX16_packs_b188 hC hr77 h1) (kqK3 (fun q4 => (kqI3 (y_fX16_packs_b188 hC hr77 h1) (kqK3 (fun q5 => (kqK3 (fun q6 => (kqB33 (y_DX16_hasOther hC h1) (fun r37 M35 L36 h7 => (kqI3 (kqK3 (fun q8 => (kqK3 (fun q9 => (kqK3 (fun q10 => (kqB33 (y_DX16_isFree hC h7) (fun r44 M42 L43 h11 => (kqI3 (y_fX16_packs_b188 hC hr77 h11) (kqK3 (fun q12 => (kqK3 (fun q13 => (kqM3_rb hC h11 (by omega) (fun M48 h14 => (kqK3 (fun q15 => (kqK3 (fun q16 => (kqM3_rb hC h14 (by omega) (fun M51 h17 => (y_fX16_packs_b188 hC hr77 h17)))))))))))))))))))))) (y_fX16_packs_b188 hC hr77 h7)))))))))))))) (y_fX16_packs_b188 hC hr77 h1))))))))
theorem y_fX16_packs_h77 {P : mwM → mwL → Prop} (hC : CPrb P) {fu : Nat} {k : Nat} {a1 : Int64} (hk_k : 941 ≤ k ∧ k < 1577 ∧ (k - 941) % 53 = 0) : ∀ n s, P s.2.1 s.2.2 → kq3 P (fX16_packs_h77 fu k a1 n s) := by
  intro n
  induction n with
  | zero => intro s _; exact kqN3
  | succ n ih =>
    intro s h
    show kq3 P (fX16_packs_i77 fu k a1 (fX16_packs_h77 fu k a1 n) s.1 s.2.1 s.2.2)
    exact y_fX16_packs_i77 hC ih hk_k h
theorem y_fX16_packs_b56 {P : mwM → mwL → Prop} (hC : CPrb P) {fu : Nat} {k : Nat} {a1 : Int64} {r2 : (Int32 × mwM × mwL) → Option (Int32 × mwM × mwL)} {v3 : Int32} {s1 : Int32} {s2 : Int32} (hr2 : ∀ s, P s.2.1 s.2.2 → kq3 P (r2 s)) (hk_k : 941 ≤ k ∧ k < 1577 ∧ (k - 941) % 53 = 0) {M : mwM} {L : mwL} (h : P M L) : kq3 P (fX16_packs_b56 fu k a1 r2 v3 s1 s2 M L) := by
  unfold fX16_packs_b56
  exact (kqK3 (fun q1 => (kqM3_rb hC h (by omega) (fun M17 h2 => (kqK3 (fun q3 => (kqK3 (fun q4 => (kqM3_rb hC h2 (by omega) (fun M20 h5 => (kqL3 (fun x21 => (hr2 (x21, M20, L) h5)))))))))))))
theorem y_fX16_packs_b32 {P : mwM → mwL → Prop} (hC : CPrb P) {fu : Nat} {k : Nat} {a1 : Int64} {r2 : (Int32 × mwM × mwL) → Option (Int32 × mwM × mwL)} {v3 : Int32} {s1 : Int32} {s2 : Int32} (hr2 : ∀ s, P s.2.1 s.2.2 → kq3 P (r2 s)) (hk_k : 941 ≤ k ∧ k < 1577 ∧ (k - 941) % 53 = 0) {M : mwM} {L : mwL} (h : P M L) : kq3 P (fX16_packs_b32 fu k a1 r2 v3 s1 s2 M L) := by
  unfold fX16_packs_b32
  exact (kqK3 (fun q1 => (kqM3_rb hC h (by omega) (fun M10 h2 => (kqB33 (y_DX16_isGroup hC h2) (fun r13 M11 L12 h3 => (kqI3 (y_fX16_packs_b56 hC hr2 (by omega) h3) (kqK3 (fun q4 => (y_fX16_packs_b56 hC hr2 (by omega) h3))))))))))
theorem y_fX16_packs_i2 {P : mwM → mwL → Prop} (hC : CPrb P) {fu : Nat} {k : Nat} {a1 : Int64} {r2 : (Int32 × mwM × mwL) → Option (Int32 × mwM × mwL)} {v3 : Int32} (hr2 : ∀ s, P s.2.1 s.2.2 → kq3 P (r2 s)) (hk_k : 941 ≤ k ∧ k < 1577 ∧ (k - 941) % 53 = 0) {M : mwM} {L : mwL} (h : P M L) : kq3 P (fX16_packs_i2 fu k a1 r2 v3 M L) := by
  unfold fX16_packs_i2
  exact (kqI3 (y_fX16_packs_h77 hC (by omega) _ (1, M, L) h) (kqB33 (y_DX16_isGroup hC h) (fun r4 M2 L3 h1 => (kqI3 (y_fX16_packs_b32 hC hr2 (by omega) h1) (kqB33 (y_DX16_size hC h1) (fun r8 M6 L7 h2 => (y_fX16_packs_b32 hC hr2 (by omega) h2)))))))
theorem y_fX16_packs_h2 {P : mwM → mwL → Prop} (hC : CPrb P) {fu : Nat} {k : Nat} {a1 : Int64} (hk_k : 941 ≤ k ∧ k < 1577 ∧ (k - 941) % 53 = 0) : ∀ n s, P s.2.1 s.2.2 → kq3 P (fX16_packs_h2 fu k a1 n s) := by
  intro n
  induction n with
  | zero => intro s _; exact kqN3
  | succ n ih =>
    intro s h
    show kq3 P (fX16_packs_i2 fu k a1 (fX16_packs_h2 fu k a1 n) s.1 s.2.1 s.2.2)
    exact y_fX16_packs_i2 hC ih hk_k h
theorem y_DX16_packs {P : mwM → mwL → Prop} (hC : CPrb P) {fu : Nat} {k : Nat} {a1 : Int64} (hk_k : 941 ≤ k ∧ k < 1577 ∧ (k - 941) % 53 = 0) {M : mwM} {L : mwL} (h : P M L) : kq3 P (DX16_packs fu k a1 M L) := by
  unfold DX16_packs
  exact (y_fX16_packs_h2 hC (by omega) _ (1, M, L) h)
theorem y_fX16_pack_i160 {P : mwM → mwL → Prop} (hC : CPrb P) {fu : Nat} {k : Nat} {a1 : Int64} {r160 : (Int32 × Int32 × mwM × mwL) → Option (Int32 × mwM × mwL)} {v4 : Int32} {v5 : Int32} (hr160 : ∀ s, P s.2.2.1 s.2.2.2 → kq3 P (r160 s)) (hk_k : 941 ≤ k ∧ k < 1577 ∧ (k - 941) % 53 = 0) {M : mwM} {L : mwL} (h : P M L) : kq3 P (fX16_pack_i160 fu k a1 r160 v4 v5 M L) := by
  unfold fX16_pack_i160
  exact (kqI3 (kqS3 h) (kqK3 (fun q1 => (kqL3 (fun x19 => (kqK3 (fun q2 => (kqK3 (fun q3 => (kqM3_rb hC h (by omega) (fun M22 h4 => (kqK3 (fun q5 => (kqK3 (fun q6 => (kqM3_rb hC h4 (by omega) (fun M25 h7 => (kqK3 (fun q8 => (kqM3_rb hC h7 (by omega) (fun M27 h9 => (kqK3 (fun q10 => (kqK3 (fun q11 => (kqM3_rb hC h9 (by omega) (fun M30 h12 => (kqK3 (fun q13 => (kqB33 (y_DX16_bitInGroup hC h12) (fun r34 M32 L33 h14 => (kqK3 (fun q15 => (kqM3_rb hC h14 (by omega) (fun M36 h16 => (kqL3 (fun x37 => (hr160 (v4, x37, M36, L33) h16))))))))))))))))))))))))))))))))))))))
theorem y_fX16_pack_h160 {P : mwM → mwL → Prop} (hC : CPrb P) {fu : Nat} {k : Nat} {a1 : Int64} (hk_k : 941 ≤ k ∧ k < 1577 ∧ (k - 941) % 53 = 0) : ∀ n s, P s.2.2.1 s.2.2.2 → kq3 P (fX16_pack_h160 fu k a1 n s) := by
  intro n
  induction n with
  | zero => intro s _; exact kqN3
  | succ n ih =>
    intro s h
    show kq3 P (fX16_pack_i160 fu k a1 (fX16_pack_h160 fu k a1 n) s.1 s.2.1 s.2.2.1 s.2.2.2)
    exact y_fX16_pack_i160 hC ih hk_k h
theorem y_fX16_pack_i131 {P : mwM → mwL → Prop} (hC : CPrb P) {fu : Nat} {k : Nat} {a1 : Int64} {r131 : (Int32 × Int32 × mwM × mwL) → Option (Int32 × mwM × mwL)} {v4 : Int32} {v5 : Int32} (hr131 : ∀ s, P s.2.2.1 s.2.2.2 → kq3 P (r131 s)) (hk_k : 941 ≤ k ∧ k < 1577 ∧ (k - 941) % 53 = 0) {M : mwM} {L : mwL} (h : P M L) : kq3 P (fX16_pack_i131 fu k a1 r131 v4 v5 M L) := by
  unfold fX16_pack_i131
  exact (kqI3 (y_fX16_pack_h160 hC (by omega) _ (v4, 1, M, L) h) (kqK3 (fun q1 => (kqM3_rb hC h (by omega) (fun M15 h2 => (kqL3 (fun x16 => (hr131 (v4, x16, M15, L) h2))))))))
theorem y_fX16_pack_h131 {P : mwM → mwL → Prop} (hC : CPrb P) {fu : Nat} {k : Nat} {a1 : Int64} (hk_k : 941 ≤ k ∧ k < 1577 ∧ (k - 941) % 53 = 0) : ∀ n s, P s.2.2.1 s.2.2.2 → kq3 P (fX16_pack_h131 fu k a1 n s) := by
  intro n
  induction n with
  | zero => intro s _; exact kqN3
  | succ n ih =>
    intro s h
    show kq3 P (fX16_pack_i131 fu k a1 (fX16_pack_h131 fu k a1 n) s.1 s.2.1 s.2.2.1 s.2.2.2)
    exact y_fX16_pack_i131 hC ih hk_k h
theorem y_fX16_pack_b120 {P : mwM → mwL → Prop} (hC : CPrb P) {fu : Nat} {k : Nat} {a1 : Int64} {r68 : (Int32 × Int32 × mwM × mwL) → Option (Int32 × mwM × mwL)} {v5 : Int32} {s0 : Int32} (hr68 : ∀ s, P s.2.2.1 s.2.2.2 → kq3 P (r68 s)) {M : mwM} {L : mwL} (h : P M L) : kq3 P (fX16_pack_b120 fu k a1 r68 v5 s0 M L) := by
  unfold fX16_pack_b120
  exact (kqL3 (fun x12 => (hr68 (s0, x12, M, L) h)))
theorem y_fX16_pack_b101 {P : mwM → mwL → Prop} (hC : CPrb P) {fu : Nat} {k : Nat} {a1 : Int64} {r68 : (Int32 × Int32 × mwM × mwL) → Option (Int32 × mwM × mwL)} {v4 : Int32} {v5 : Int32} {s1 : Int32} {s2 : Int32} (hr68 : ∀ s, P s.2.2.1 s.2.2.2 → kq3 P (r68 s)) (hk_k : 941 ≤ k ∧ k < 1577 ∧ (k - 941) % 53 = 0) {M : mwM} {L : mwL} (h : P M L) : kq3 P (fX16_pack_b101 fu k a1 r68 v4 v5 s1 s2 M L) := by
  unfold fX16_pack_b101
  exact (kqK3 (fun q1 => (kqM3_rb hC h (by omega) (fun M7 h2 => (kqB33 (y_DX16_isUsed hC h2) (fun r10 M8 L9 h3 => (kqI3 (y_fX16_pack_b120 hC hr68 h3) (y_fX16_pack_b120 hC hr68 h3))))))))
theorem y_fX16_pack_i68 {P : mwM → mwL → Prop} (hC : CPrb P) {fu : Nat} {k : Nat} {a1 : Int64} {r68 : (Int32 × Int32 × mwM × mwL) → Option (Int32 × mwM × mwL)} {v4 : Int32} {v5 : Int32} (hr68 : ∀ s, P s.2.2.1 s.2.2.2 → kq3 P (r68 s)) (hk_k : 941 ≤ k ∧ k < 1577 ∧ (k - 941) % 53 = 0) {M : mwM} {L : mwL} (h : P M L) : kq3 P (fX16_pack_i68 fu k a1 r68 v4 v5 M L) := by
  unfold fX16_pack_i68
  exact (kqI3 (y_fX16_pack_h131 hC (by omega) _ (v4, 0, M, L) h) (kqB33 (y_DX16_isUsed hC h) (fun r4 M2 L3 h1 => (kqI3 (y_fX16_pack_b101 hC hr68 (by omega) h1) (y_fX16_pack_b101 hC hr68 (by omega) h1)))))
theorem y_fX16_pack_h68 {P : mwM → mwL → Prop} (hC : CPrb P) {fu : Nat} {k : Nat} {a1 : Int64} (hk_k : 941 ≤ k ∧ k < 1577 ∧ (k - 941) % 53 = 0) : ∀ n s, P s.2.2.1 s.2.2.2 → kq3 P (fX16_pack_h68 fu k a1 n s) := by
  intro n
  induction n with
  | zero => intro s _; exact kqN3
  | succ n ih =>
    intro s h
    show kq3 P (fX16_pack_i68 fu k a1 (fX16_pack_h68 fu k a1 n) s.1 s.2.1 s.2.2.1 s.2.2.2)
    exact y_fX16_pack_i68 hC ih hk_k h
theorem y_DX16_pack {P : mwM → mwL → Prop} (hC : CPrb P) {fu : Nat} {k : Nat} {a1 : Int64} (hk_k : 941 ≤ k ∧ k < 1577 ∧ (k - 941) % 53 = 0) {M : mwM} {L : mwL} (h : P M L) : kq3 P (DX16_pack fu k a1 M L) := by
  unfold DX16_pack
  exact (kqM3_rb hC h (by omega) (fun M38 h1 => (kqI3 (kqI3 (kqS3 h1) (kqL3 (fun x41 => (kqM3_rb hC h1 (by omega) (fun M42 h2 => (kqB33 (y_DX16_packs hC (by omega) h2) (fun r45 M43 L44 h3 => (kqI3 (kq_mzz3 (kqM3_rb hC h3 (by omega) (fun M49 h4 => (kqS3 h4)))) (kqM3_rb hC h3 (by omega) (fun M47 h5 => (y_fX16_pack_h68 hC (by omega) _ (0, 1, M47, L44) h5))))))))))) (kqS3 h1))))
theorem y_fX16_isNowhere_b31 {P : mwM → mwL → Prop} (hC : CPrb P) {fu : Nat} {k : Nat} {a1 : Int32} {s0 : Int32} {M : mwM} {L : mwL} (h : P M L) : kq3 P (fX16_isNowhere_b31 fu k a1 s0 M L) := by
  unfold fX16_isNowhere_b31
  exact (kq_mzz3 (kqS3 h))
theorem y_fX16_isNowhere_b26 {P : mwM → mwL → Prop} (hC : CPrb P) {fu : Nat} {k : Nat} {a1 : Int32} {M : mwM} {L : mwL} (h : P M L) : kq3 P (fX16_isNowhere_b26 fu k a1 M L) := by
  unfold fX16_isNowhere_b26
  exact (y_fX16_isNowhere_b31 hC h)
theorem y_DX16_isNowhere {P : mwM → mwL → Prop} (hC : CPrb P) {fu : Nat} {k : Nat} {a1 : Int32} {M : mwM} {L : mwL} (h : P M L) : kq3 P (DX16_isNowhere fu k a1 M L) := by
  unfold DX16_isNowhere
  exact (kqB33 (y_DX16_none hC h) (fun r4 M2 L3 h1 => (kqI3 (kqK3 (fun q2 => (kqI3 (y_fX16_isNowhere_b26 hC h1) (y_fX16_isNowhere_b31 hC h1)))) (y_fX16_isNowhere_b26 hC h1))))
theorem y_fX16_place_b24 {P : mwM → mwL → Prop} (hC : CPrb P) {fu : Nat} {k : Nat} {a1 : Int32} {a2 : Int32} {M : mwM} {L : mwL} (h : P M L) : kq3 P (fX16_place_b24 fu k a1 a2 M L) := by
  unfold fX16_place_b24
  exact (kqS3 h)
theorem y_fX16_place_b92 {P : mwM → mwL → Prop} (hC : CPrb P) {fu : Nat} {k : Nat} {a1 : Int32} {a2 : Int32} {s0 : Int32} {M : mwM} {L : mwL} (h : P M L) : kq3 P (fX16_place_b92 fu k a1 a2 s0 M L) := by
  unfold fX16_place_b92
  exact (kqS3 h)
theorem y_DX16_place {P : mwM → mwL → Prop} (hC : CPrb P) {fu : Nat} {k : Nat} {a1 : Int32} {a2 : Int32} (hk_k : 941 ≤ k ∧ k < 1577 ∧ (k - 941) % 53 = 0) {M : mwM} {L : mwL} (h : P M L) : kq3 P (DX16_place fu k a1 a2 M L) := by
  unfold DX16_place
  exact (kqM3_rb hC h (by omega) (fun M1 h1 => (kqB33 (y_DX16_none hC h1) (fun r4 M2 L3 h2 => (kqI3 (kqI3 (y_fX16_place_b24 hC h2) (kqI3 (kqB33 (y_DX16_isNowhere hC h2) (fun r10 M8 L9 h3 => (kqI3 (kqI3 (kqK3 (fun q4 => (y_fX16_place_b92 hC h3))) (kqI3 (kqK3 (fun q5 => (y_fX16_place_b92 hC h3))) (kqK3 (fun q6 => (kqB33 (y_DX16_size hC h3) (fun r17 M15 L16 h7 => (y_fX16_place_b92 hC h7))))))) (kqS3 h3)))) (y_fX16_place_b24 hC h2))) (kqS3 h2))))))
theorem y_fX16_where_b80 {P : mwM → mwL → Prop} (hC : CPrb P) {fu : Nat} {k : Nat} {a1 : Int32} {a2 : Int32} {s0 : Int32} {M : mwM} {L : mwL} (h : P M L) : kq3 P (fX16_where_b80 fu k a1 a2 s0 M L) := by
  unfold fX16_where_b80
  exact (kqS3 h)
theorem y_DX16_where {P : mwM → mwL → Prop} (hC : CPrb P) {fu : Nat} {k : Nat} {a1 : Int32} {a2 : Int32} {M : mwM} {L : mwL} (h : P M L) : kq3 P (DX16_where fu k a1 a2 M L) := by
  unfold DX16_where
  exact (kqK3 (fun q1 => (kqK3 (fun q2 => (kqK3 (fun q3 => (kqL3 (fun x4 => (kqK3 (fun q4 => (kqI3 (y_fX16_where_b80 hC h) (kqB33 (y_DX16_octetsOf hC h) (fun r9 M7 L8 h5 => (y_fX16_where_b80 hC h5))))))))))))))
theorem y_fX16_write_b83 {P : mwM → mwL → Prop} (hC : CPrb P) {fu : Nat} {k : Nat} {a1 : Int32} {a2 : Int64} {r3 : (Int32 × mwM × mwL) → Option (mwM × mwL)} {v4 : Int32} {s1 : Int32} {s2 : Int32} (hr3 : ∀ s, P s.2.1 s.2.2 → kq2 P (r3 s)) (hk_k : 941 ≤ k ∧ k < 1577 ∧ (k - 941) % 53 = 0) {M : mwM} {L : mwL} (h : P M L) : kq2 P (fX16_write_b83 fu k a1 a2 r3 v4 s1 s2 M L) := by
  unfold fX16_write_b83
  exact (kqK2 (fun q1 => (kqM2_rb hC h (by omega) (fun M14 h2 => (kqL2 (fun x15 => (hr3 (x15, M14, L) h2)))))))
theorem y_fX16_write_i3 {P : mwM → mwL → Prop} (hC : CPrb P) {fu : Nat} {k : Nat} {a1 : Int32} {a2 : Int64} {r3 : (Int32 × mwM × mwL) → Option (mwM × mwL)} {v4 : Int32} (hr3 : ∀ s, P s.2.1 s.2.2 → kq2 P (r3 s)) (hk_k : 941 ≤ k ∧ k < 1577 ∧ (k - 941) % 53 = 0) {M : mwM} {L : mwL} (h : P M L) : kq2 P (fX16_write_i3 fu k a1 a2 r3 v4 M L) := by
  unfold fX16_write_i3
  exact (kqK2 (fun q1 => (kqI2 (kqS2 h) (kqB32 (y_DX16_where hC h) (fun r5 M3 L4 h2 => (kqL2 (fun x6 => (kqI2 (kqK2 (fun q3 => (y_fX16_write_b83 hC hr3 (by omega) h2))) (kqK2 (fun q4 => (y_fX16_write_b83 hC hr3 (by omega) h2)))))))))))
theorem y_fX16_write_h3 {P : mwM → mwL → Prop} (hC : CPrb P) {fu : Nat} {k : Nat} {a1 : Int32} {a2 : Int64} (hk_k : 941 ≤ k ∧ k < 1577 ∧ (k - 941) % 53 = 0) : ∀ n s, P s.2.1 s.2.2 → kq2 P (fX16_write_h3 fu k a1 a2 n s) := by
  intro n
  induction n with
  | zero => intro s _; exact kqN2
  | succ n ih =>
    intro s h
    show kq2 P (fX16_write_i3 fu k a1 a2 (fX16_write_h3 fu k a1 a2 n) s.1 s.2.1 s.2.2)
    exact y_fX16_write_i3 hC ih hk_k h
theorem y_DX16_write {P : mwM → mwL → Prop} (hC : CPrb P) {fu : Nat} {k : Nat} {a1 : Int32} {a2 : Int64} (hk_k : 941 ≤ k ∧ k < 1577 ∧ (k - 941) % 53 = 0) {M : mwM} {L : mwL} (h : P M L) : kq2 P (DX16_write fu k a1 a2 M L) := by
  unfold DX16_write
  exact (y_fX16_write_h3 hC (by omega) _ (0, M, L) h)
theorem y_fX16_put_b58 {P : mwM → mwL → Prop} (hC : CPrb P) {fu : Nat} {k : Nat} {a1 : Int32} {a2 : Int64} (hk_k : 941 ≤ k ∧ k < 1577 ∧ (k - 941) % 53 = 0) {M : mwM} {L : mwL} (h : P M L) : kq2 P (fX16_put_b58 fu k a1 a2 M L) := by
  unfold fX16_put_b58
  exact (kqB22 (y_DX16_write hC (by omega) h) (fun M1 L2 h1 => (kqS2 h1)))
theorem y_DX16_put {P : mwM → mwL → Prop} (hC : CPrb P) {fu : Nat} {k : Nat} {a1 : Int32} {a2 : Int64} (hk_k : 941 ≤ k ∧ k < 1577 ∧ (k - 941) % 53 = 0) {M : mwM} {L : mwL} (h : P M L) : kq2 P (DX16_put fu k a1 a2 M L) := by
  unfold DX16_put
  exact (kqM2_rb hC h (by omega) (fun M3 h1 => (kqB32 (y_DX16_isNowhere hC h1) (fun r6 M4 L5 h2 => (kqI2 (kqK2 (fun q3 => (kqK2 (fun q4 => (kqL2 (fun x10 => (kqK2 (fun q5 => (kqI2 (y_fX16_put_b58 hC (by omega) h2) (kqB32 (y_DX16_isNowhere hC h2) (fun r15 M13 L14 h6 => (kqI2 (kqK2 (fun q7 => (kqB22 (y_DX16_write hC (by omega) h6) (fun M18 L19 h8 => (y_fX16_put_b58 hC (by omega) h8))))) (y_fX16_put_b58 hC (by omega) h6))))))))))))) (kqS2 h2))))))
theorem y_fX16_noFrame_b25 {P : mwM → mwL → Prop} (hC : CPrb P) {fu : Nat} {k : Nat} {a1 : Int32} {s0 : Int32} {M : mwM} {L : mwL} (h : P M L) : kq3 P (fX16_noFrame_b25 fu k a1 s0 M L) := by
  unfold fX16_noFrame_b25
  exact (kq_mzz3 (kqS3 h))
theorem y_fX16_noFrame_b20 {P : mwM → mwL → Prop} (hC : CPrb P) {fu : Nat} {k : Nat} {a1 : Int32} {M : mwM} {L : mwL} (h : P M L) : kq3 P (fX16_noFrame_b20 fu k a1 M L) := by
  unfold fX16_noFrame_b20
  exact (y_fX16_noFrame_b25 hC h)
theorem y_DX16_noFrame {P : mwM → mwL → Prop} (hC : CPrb P) {fu : Nat} {k : Nat} {a1 : Int32} {M : mwM} {L : mwL} (h : P M L) : kq3 P (DX16_noFrame fu k a1 M L) := by
  unfold DX16_noFrame
  exact (kqI3 (y_fX16_noFrame_b20 hC h) (kqI3 (y_fX16_noFrame_b20 hC h) (kqK3 (fun q1 => (kqI3 (y_fX16_noFrame_b25 hC h) (y_fX16_noFrame_b20 hC h))))))
theorem y_fX16_octet_b43 {P : mwM → mwL → Prop} (hC : CPrb P) {fu : Nat} {k : Nat} {a1 : Int32} {a2 : Int32} {s0 : Int32} {M : mwM} {L : mwL} (h : P M L) : kq3 P (fX16_octet_b43 fu k a1 a2 s0 M L) := by
  unfold fX16_octet_b43
  exact (kq_mbb3 (kqS3 h))
theorem y_fX16_octet_b25 {P : mwM → mwL → Prop} (hC : CPrb P) {fu : Nat} {k : Nat} {a1 : Int32} {a2 : Int32} {M : mwM} {L : mwL} (h : P M L) : kq3 P (fX16_octet_b25 fu k a1 a2 M L) := by
  unfold fX16_octet_b25
  exact (y_fX16_octet_b43 hC h)
theorem y_DX16_octet {P : mwM → mwL → Prop} (hC : CPrb P) {fu : Nat} {k : Nat} {a1 : Int32} {a2 : Int32} (hk_k : 941 ≤ k ∧ k < 1577 ∧ (k - 941) % 53 = 0) {M : mwM} {L : mwL} (h : P M L) : kq3 P (DX16_octet fu k a1 a2 M L) := by
  unfold DX16_octet
  exact (kqM3_rb hC h (by omega) (fun M2 h1 => (kqB33 (y_DX16_noFrame hC h1) (fun r5 M3 L4 h2 => (kqI3 (kqI3 (y_fX16_octet_b25 hC h2) (kqI3 (kqK3 (fun q3 => (kqK3 (fun q4 => (y_fX16_octet_b43 hC h2))))) (y_fX16_octet_b25 hC h2))) (y_fX16_octet_b25 hC h2))))))
theorem y_fX17_anew_i156 {P : mwM → mwL → Prop} (hC : CPrb P) {fu : Nat} {a1 : Int32} {r156 : (Int32 × mwM × mwL) → Option (mwM × mwL)} {v2 : Int32} (hr156 : ∀ s, P s.2.1 s.2.2 → kq2 P (r156 s)) {M : mwM} {L : mwL} (h : P M L) : kq2 P (fX17_anew_i156 fu a1 r156 v2 M L) := by
  unfold fX17_anew_i156
  exact (kqI2 (kqS2 h) (kqK2 (fun q1 => (kqM2_rb hC h (by omega) (fun M27 h2 => (kqL2 (fun x28 => (hr156 (x28, M27, L) h2))))))))
theorem y_fX17_anew_h156 {P : mwM → mwL → Prop} (hC : CPrb P) {fu : Nat} {a1 : Int32} : ∀ n s, P s.2.1 s.2.2 → kq2 P (fX17_anew_h156 fu a1 n s) := by
  intro n
  induction n with
  | zero => intro s _; exact kqN2
  | succ n ih =>
    intro s h
    show kq2 P (fX17_anew_i156 fu a1 (fX17_anew_h156 fu a1 n) s.1 s.2.1 s.2.2)
    exact y_fX17_anew_i156 hC ih h
theorem y_fX17_anew_i135 {P : mwM → mwL → Prop} (hC : CPrb P) {fu : Nat} {a1 : Int32} {r135 : (Int32 × mwM × mwL) → Option (mwM × mwL)} {v2 : Int32} (hr135 : ∀ s, P s.2.1 s.2.2 → kq2 P (r135 s)) {M : mwM} {L : mwL} (h : P M L) : kq2 P (fX17_anew_i135 fu a1 r135 v2 M L) := by
  unfold fX17_anew_i135
  exact (kqI2 (y_fX17_anew_h156 hC _ (0, M, L) h) (kqK2 (fun q1 => (kqM2_rb hC h (by omega) (fun M23 h2 => (kqL2 (fun x24 => (hr135 (x24, M23, L) h2))))))))
theorem y_fX17_anew_h135 {P : mwM → mwL → Prop} (hC : CPrb P) {fu : Nat} {a1 : Int32} : ∀ n s, P s.2.1 s.2.2 → kq2 P (fX17_anew_h135 fu a1 n s) := by
  intro n
  induction n with
  | zero => intro s _; exact kqN2
  | succ n ih =>
    intro s h
    show kq2 P (fX17_anew_i135 fu a1 (fX17_anew_h135 fu a1 n) s.1 s.2.1 s.2.2)
    exact y_fX17_anew_i135 hC ih h
theorem y_fX17_anew_i115 {P : mwM → mwL → Prop} (hC : CPrb P) {fu : Nat} {a1 : Int32} {r115 : (Int32 × mwM × mwL) → Option (mwM × mwL)} {v2 : Int32} (hr115 : ∀ s, P s.2.1 s.2.2 → kq2 P (r115 s)) {M : mwM} {L : mwL} (h : P M L) : kq2 P (fX17_anew_i115 fu a1 r115 v2 M L) := by
  unfold fX17_anew_i115
  exact (kqI2 (y_fX17_anew_h135 hC _ (0, M, L) h) (kqK2 (fun q1 => (kqM2_rb hC h (by omega) (fun M19 h2 => (kqL2 (fun x20 => (hr115 (x20, M19, L) h2))))))))
theorem y_fX17_anew_h115 {P : mwM → mwL → Prop} (hC : CPrb P) {fu : Nat} {a1 : Int32} : ∀ n s, P s.2.1 s.2.2 → kq2 P (fX17_anew_h115 fu a1 n s) := by
  intro n
  induction n with
  | zero => intro s _; exact kqN2
  | succ n ih =>
    intro s h
    show kq2 P (fX17_anew_i115 fu a1 (fX17_anew_h115 fu a1 n) s.1 s.2.1 s.2.2)
    exact y_fX17_anew_i115 hC ih h
theorem y_fX17_anew_i52 {P : mwM → mwL → Prop} (hC : CPrb P) {fu : Nat} {a1 : Int32} {r52 : (Int32 × mwM × mwL) → Option (mwM × mwL)} {v2 : Int32} (hr52 : ∀ s, P s.2.1 s.2.2 → kq2 P (r52 s)) {M : mwM} {L : mwL} (h : P M L) : kq2 P (fX17_anew_i52 fu a1 r52 v2 M L) := by
  unfold fX17_anew_i52
  exact (kqI2 (y_fX17_anew_h115 hC _ (0, M, L) h) (kqK2 (fun q1 => (kqM2_rb hC h (by omega) (fun M3 h2 => (kqK2 (fun q3 => (kqM2_rb hC h2 (by omega) (fun M5 h4 => (kqK2 (fun q5 => (kqM2_rb hC h4 (by omega) (fun M7 h6 => (kqK2 (fun q7 => (kqM2_rb hC h6 (by omega) (fun M9 h8 => (kqK2 (fun q9 => (kqM2_rb hC h8 (by omega) (fun M11 h10 => (kqK2 (fun q11 => (kqM2_rb hC h10 (by omega) (fun M13 h12 => (kqK2 (fun q13 => (kqM2_rb hC h12 (by omega) (fun M15 h14 => (kqL2 (fun x16 => (hr52 (x16, M15, L) h14))))))))))))))))))))))))))))))))
theorem y_fX17_anew_h52 {P : mwM → mwL → Prop} (hC : CPrb P) {fu : Nat} {a1 : Int32} : ∀ n s, P s.2.1 s.2.2 → kq2 P (fX17_anew_h52 fu a1 n s) := by
  intro n
  induction n with
  | zero => intro s _; exact kqN2
  | succ n ih =>
    intro s h
    show kq2 P (fX17_anew_i52 fu a1 (fX17_anew_h52 fu a1 n) s.1 s.2.1 s.2.2)
    exact y_fX17_anew_i52 hC ih h
theorem y_DX17_anew {P : mwM → mwL → Prop} (hC : CPrb P) {fu : Nat} {a1 : Int32} {M : mwM} {L : mwL} (h : P M L) : kq2 P (DX17_anew fu a1 M L) := by
  unfold DX17_anew
  exact (kqM2_rb hC h (by omega) (fun M29 h1 => (kqW2_rb hC h1 (by omega) (fun L30 h2 => (kqM2_rb hC h2 (by omega) (fun M31 h3 => (kqM2_rb hC h3 (by omega) (fun M32 h4 => (kqM2_rb hC h4 (by omega) (fun M33 h5 => (kqM2_rb hC h5 (by omega) (fun M34 h6 => (kqM2_rb hC h6 (by omega) (fun M35 h7 => (kqM2_rb hC h7 (by omega) (fun M36 h8 => (kqM2_rb hC h8 (by omega) (fun M37 h9 => (kqM2_rb hC h9 (by omega) (fun M38 h10 => (y_fX17_anew_h52 hC _ (0, M38, L30) h10)))))))))))))))))))))
theorem y_DX17_size {P : mwM → mwL → Prop} (hC : CPrb P) {fu : Nat} {a1 : Int32} {M : mwM} {L : mwL} (h : P M L) : kq3 P (DX17_size fu a1 M L) := by
  unfold DX17_size
  exact (kqK3 (fun q1 => (kqK3 (fun q2 => (kqS3 h)))))
theorem y_fX17_send_b16 {P : mwM → mwL → Prop} (hC : CPrb P) {fu : Nat} {a1 : Int32} {M : mwM} {L : mwL} (h : P M L) : kq3 P (fX17_send_b16 fu a1 M L) := by
  unfold fX17_send_b16
  exact (kqS3 h)
theorem y_fX17_send_b48 {P : mwM → mwL → Prop} (hC : CPrb P) {fu : Nat} {a1 : Int32} {M : mwM} {L : mwL} (h : P M L) : kq3 P (fX17_send_b48 fu a1 M L) := by
  unfold fX17_send_b48
  exact (kqS3 h)
theorem y_fX17_send_b50 {P : mwM → mwL → Prop} (hC : CPrb P) {fu : Nat} {a1 : Int32} {M : mwM} {L : mwL} (h : P M L) : kq3 P (fX17_send_b50 fu a1 M L) := by
  unfold fX17_send_b50
  exact (kqM3_rb hC h (by omega) (fun M1 h1 => (kqK3 (fun q2 => (kqK3 (fun q3 => (kqM3_rb hC h1 (by omega) (fun M4 h4 => (kqS3 h4)))))))))
theorem y_DX17_send {P : mwM → mwL → Prop} (hC : CPrb P) {fu : Nat} {a1 : Int32} {M : mwM} {L : mwL} (h : P M L) : kq3 P (DX17_send fu a1 M L) := by
  unfold DX17_send
  exact (kqM3_rb hC h (by omega) (fun M5 h1 => (kqI3 (y_fX17_send_b16 hC h1) (kqI3 (kqI3 (kqS3 h1) (kqI3 (y_fX17_send_b48 hC h1) (kqI3 (y_fX17_send_b50 hC h1) (kqI3 (y_fX17_send_b50 hC h1) (y_fX17_send_b48 hC h1))))) (y_fX17_send_b16 hC h1)))))
theorem y_fX17_octet_b31 {P : mwM → mwL → Prop} (hC : CPrb P) {fu : Nat} {a1 : Int32} {a2 : Int32} {a3 : Int32} {M : mwM} {L : mwL} (h : P M L) : kq2 P (fX17_octet_b31 fu a1 a2 a3 M L) := by
  unfold fX17_octet_b31
  exact (kqS2 h)
theorem y_DX17_octet {P : mwM → mwL → Prop} (hC : CPrb P) {fu : Nat} {a1 : Int32} {a2 : Int32} {a3 : Int32} {M : mwM} {L : mwL} (h : P M L) : kq2 P (DX17_octet fu a1 a2 a3 M L) := by
  unfold DX17_octet
  exact (kqM2_rb hC h (by omega) (fun M1 h1 => (kqI2 (y_fX17_octet_b31 hC h1) (kqI2 (y_fX17_octet_b31 hC h1) (kqI2 (y_fX17_octet_b31 hC h1) (kqB32 (y_DX17_size hC h1) (fun r7 M5 L6 h2 => (kqI2 (kqK2 (fun q3 => (kqK2 (fun q4 => (kqM2_rb hC h2 (by omega) (fun M11 h5 => (kqS2 h5))))))) (y_fX17_octet_b31 hC h2)))))))))
theorem y_DX17_make {P : mwM → mwL → Prop} (hC : CPrb P) {fu : Nat} {a1 : Int32} {a2 : Int32} {a3 : Int32} {a4 : Int32} {a5 : Int32} {M : mwM} {L : mwL} (h : P M L) : kq3 P (DX17_make fu a1 a2 a3 a4 a5 M L) := by
  unfold DX17_make
  exact (kqI3 (kqS3 h) (kqM3_rb hC h (by omega) (fun M2 h1 => (kqK3 (fun q2 => (kqM3_rb hC h1 (by omega) (fun M4 h3 => (kqK3 (fun q4 => (kqM3_rb hC h3 (by omega) (fun M6 h5 => (kqK3 (fun q6 => (kqM3_rb hC h5 (by omega) (fun M8 h7 => (kqK3 (fun q8 => (kqM3_rb hC h7 (by omega) (fun M10 h9 => (kqK3 (fun q10 => (kqM3_rb hC h9 (by omega) (fun M12 h11 => (kqK3 (fun q12 => (kqW3_rb hC h11 (by omega) (fun L14 h13 => (kqK3 (fun q14 => (kqM3_rb hC h13 (by omega) (fun M16 h15 => (kqS3 h15))))))))))))))))))))))))))))))))
theorem y_fX17_fill_b48 {P : mwM → mwL → Prop} (hC : CPrb P) {fu : Nat} {a1 : Int32} {a2 : Int32} {a3 : Int32} {a4 : Int32} {M : mwM} {L : mwL} (h : P M L) : kq2 P (fX17_fill_b48 fu a1 a2 a3 a4 M L) := by
  unfold fX17_fill_b48
  exact (kqS2 h)
theorem y_fX17_fill_i3 {P : mwM → mwL → Prop} (hC : CPrb P) {fu : Nat} {a1 : Int32} {a2 : Int32} {a3 : Int32} {a4 : Int32} {r3 : (Int32 × mwM × mwL) → Option (mwM × mwL)} {v5 : Int32} (hr3 : ∀ s, P s.2.1 s.2.2 → kq2 P (r3 s)) {M : mwM} {L : mwL} (h : P M L) : kq2 P (fX17_fill_i3 fu a1 a2 a3 a4 r3 v5 M L) := by
  unfold fX17_fill_i3
  exact (kqI2 (y_fX17_fill_b48 hC h) (kqI2 (y_fX17_fill_b48 hC h) (kqK2 (fun q1 => (kqK2 (fun q2 => (kqK2 (fun q3 => (kqM2_rb hC h (by omega) (fun M6 h4 => (kqL2 (fun x7 => (hr3 (x7, M6, L) h4)))))))))))))
theorem y_fX17_fill_h3 {P : mwM → mwL → Prop} (hC : CPrb P) {fu : Nat} {a1 : Int32} {a2 : Int32} {a3 : Int32} {a4 : Int32} : ∀ n s, P s.2.1 s.2.2 → kq2 P (fX17_fill_h3 fu a1 a2 a3 a4 n s) := by
  intro n
  induction n with
  | zero => intro s _; exact kqN2
  | succ n ih =>
    intro s h
    show kq2 P (fX17_fill_i3 fu a1 a2 a3 a4 (fX17_fill_h3 fu a1 a2 a3 a4 n) s.1 s.2.1 s.2.2)
    exact y_fX17_fill_i3 hC ih h
theorem y_DX17_fill {P : mwM → mwL → Prop} (hC : CPrb P) {fu : Nat} {a1 : Int32} {a2 : Int32} {a3 : Int32} {a4 : Int32} {M : mwM} {L : mwL} (h : P M L) : kq2 P (DX17_fill fu a1 a2 a3 a4 M L) := by
  unfold DX17_fill
  exact (y_fX17_fill_h3 hC _ (0, M, L) h)
theorem y_DX17_endSender {P : mwM → mwL → Prop} (hC : CPrb P) {fu : Nat} {a1 : Int32} {a2 : Int32} {M : mwM} {L : mwL} (h : P M L) : kq2 P (DX17_endSender fu a1 a2 M L) := by
  unfold DX17_endSender
  exact (kqK2 (fun q1 => (kqM2_rb hC h (by omega) (fun M2 h2 => (kqK2 (fun q3 => (kqK2 (fun q4 => (kqM2_rb hC h2 (by omega) (fun M5 h5 => (kqS2 h5)))))))))))
theorem y_fX17_start_b143 {P : mwM → mwL → Prop} (hC : CPrb P) {fu : Nat} {a1 : Int32} {M : mwM} {L : mwL} (h : P M L) : kq2 P (fX17_start_b143 fu a1 M L) := by
  unfold fX17_start_b143
  exact (kqS2 h)
theorem y_fX17_start_b130 {P : mwM → mwL → Prop} (hC : CPrb P) {fu : Nat} {a1 : Int32} {v4 : Int32} {s2 : Int32} {M : mwM} {L : mwL} (h : P M L) : kq2 P (fX17_start_b130 fu a1 v4 s2 M L) := by
  unfold fX17_start_b130
  exact (kqK2 (fun q1 => (kqM2_rb hC h (by omega) (fun M23 h2 => (kqI2 (kqB22 (y_DX17_endSender hC h2) (fun M25 L26 h3 => (y_fX17_start_b143 hC h3))) (y_fX17_start_b143 hC h2))))))
theorem y_fX17_start_b76 {P : mwM → mwL → Prop} (hC : CPrb P) {fu : Nat} {a1 : Int32} {v2 : Int32} {v3 : Int32} {s1 : Int32} {s3 : Int32} {M : mwM} {L : mwL} (h : P M L) : kq2 P (fX17_start_b76 fu a1 v2 v3 s1 s3 M L) := by
  unfold fX17_start_b76
  exact (kqB32 (y_DX17_make hC h) (fun r12 M10 L11 h1 => (kqB22 (y_DX17_fill hC h1) (fun M13 L14 h2 => (kqK2 (fun q3 => (kqM2_rb hC h2 (by omega) (fun M16 h4 => (kqK2 (fun q5 => (kqM2_rb hC h4 (by omega) (fun M18 h6 => (kqK2 (fun q7 => (kqW2_rb hC h6 (by omega) (fun L20 h8 => (kqI2 (y_fX17_start_b130 hC h8) (y_fX17_start_b130 hC h8))))))))))))))))))
theorem y_fX17_start_b62 {P : mwM → mwL → Prop} (hC : CPrb P) {fu : Nat} {a1 : Int32} {v2 : Int32} {v3 : Int32} {s1 : Int32} {M : mwM} {L : mwL} (h : P M L) : kq2 P (fX17_start_b62 fu a1 v2 v3 s1 M L) := by
  unfold fX17_start_b62
  exact (kqI2 (kqB32 (y_DX17_size hC h) (fun r9 M7 L8 h1 => (y_fX17_start_b76 hC h1))) (y_fX17_start_b76 hC h))
theorem y_fX17_start_b51 {P : mwM → mwL → Prop} (hC : CPrb P) {fu : Nat} {a1 : Int32} {v2 : Int32} {s0 : Int32} {M : mwM} {L : mwL} (h : P M L) : kq2 P (fX17_start_b51 fu a1 v2 s0 M L) := by
  unfold fX17_start_b51
  exact (kqI2 (y_fX17_start_b62 hC h) (y_fX17_start_b62 hC h))
theorem y_fX17_start_b35 {P : mwM → mwL → Prop} (hC : CPrb P) {fu : Nat} {a1 : Int32} {s0 : Int32} {M : mwM} {L : mwL} (h : P M L) : kq2 P (fX17_start_b35 fu a1 s0 M L) := by
  unfold fX17_start_b35
  exact (kqB32 (y_DX17_size hC h) (fun r3 M1 L2 h1 => (kqI2 (y_fX17_start_b51 hC h1) (y_fX17_start_b51 hC h1))))
theorem y_DX17_start {P : mwM → mwL → Prop} (hC : CPrb P) {fu : Nat} {a1 : Int32} {M : mwM} {L : mwL} (h : P M L) : kq2 P (DX17_start fu a1 M L) := by
  unfold DX17_start
  exact (kqB32 (y_DX17_size hC h) (fun r29 M27 L28 h1 => (kqI2 (kqB32 (y_DX17_size hC h1) (fun r33 M31 L32 h2 => (kqI2 (y_fX17_start_b35 hC h2) (y_fX17_start_b35 hC h2)))) (kqB32 (y_DX17_size hC h1) (fun r37 M35 L36 h3 => (y_fX17_start_b35 hC h3))))))
theorem y_fX17_sendNext_b177 {P : mwM → mwL → Prop} (hC : CPrb P) {fu : Nat} {a1 : Int32} {M : mwM} {L : mwL} (h : P M L) : kq2 P (fX17_sendNext_b177 fu a1 M L) := by
  unfold fX17_sendNext_b177
  exact (kqS2 h)
theorem y_fX17_sendNext_b25 {P : mwM → mwL → Prop} (hC : CPrb P) {fu : Nat} {a1 : Int32} {v2 : Int32} {s0 : Int32} {M : mwM} {L : mwL} (h : P M L) : kq2 P (fX17_sendNext_b25 fu a1 v2 s0 M L) := by
  unfold fX17_sendNext_b25
  exact (kqK2 (fun q1 => (kqK2 (fun q2 => (kqM2_rb hC h (by omega) (fun M4 h3 => (kqK2 (fun q4 => (kqB32 (y_DX17_make hC h3) (fun r8 M6 L7 h5 => (kqI2 (kqB22 (y_DX17_endSender hC h5) (fun M33 L34 h6 => (kqS2 h6))) (kqK2 (fun q7 => (kqB22 (y_DX17_fill hC h5) (fun M11 L12 h8 => (kqK2 (fun q9 => (kqK2 (fun q10 => (kqM2_rb hC h8 (by omega) (fun M15 h11 => (kqK2 (fun q12 => (kqK2 (fun q13 => (kqW2_rb hC h11 (by omega) (fun L18 h14 => (kqI2 (kqK2 (fun q15 => (kqM2_rb hC h14 (by omega) (fun M32 h16 => (kqS2 h16))))) (kqK2 (fun q17 => (kqI2 (kqS2 h14) (kqK2 (fun q18 => (kqK2 (fun q19 => (kqM2_rb hC h14 (by omega) (fun M24 h20 => (kqK2 (fun q21 => (kqI2 (kqK2 (fun q22 => (kqM2_rb hC h20 (by omega) (fun M28 h23 => (kqK2 (fun q24 => (kqW2_rb hC h23 (by omega) (fun L30 h25 => (y_fX17_sendNext_b177 hC h25))))))))) (y_fX17_sendNext_b177 hC h20)))))))))))))))))))))))))))))))))))))))))
theorem y_DX17_sendNext {P : mwM → mwL → Prop} (hC : CPrb P) {fu : Nat} {a1 : Int32} {M : mwM} {L : mwL} (h : P M L) : kq2 P (DX17_sendNext fu a1 M L) := by
  unfold DX17_sendNext
  exact (kqB32 (y_DX17_size hC h) (fun r37 M35 L36 h1 => (kqK2 (fun q2 => (kqL2 (fun x39 => (kqI2 (y_fX17_sendNext_b25 hC h1) (y_fX17_sendNext_b25 hC h1))))))))
theorem y_fX17_takeFlow_b179 {P : mwM → mwL → Prop} (hC : CPrb P) {fu : Nat} {a1 : Int32} {v2 : Int32} {M : mwM} {L : mwL} (h : P M L) : kq3 P (fX17_takeFlow_b179 fu a1 v2 M L) := by
  unfold fX17_takeFlow_b179
  exact (kqK3 (fun q1 => (kqS3 h)))
theorem y_fX17_takeFlow_b107 {P : mwM → mwL → Prop} (hC : CPrb P) {fu : Nat} {a1 : Int32} {v2 : Int32} {s1 : Int32} {s2 : Int32} {M : mwM} {L : mwL} (h : P M L) : kq3 P (fX17_takeFlow_b107 fu a1 v2 s1 s2 M L) := by
  unfold fX17_takeFlow_b107
  exact (kqK3 (fun q1 => (kqM3_rb hC h (by omega) (fun M2 h2 => (kqK3 (fun q3 => (kqW3_rb hC h2 (by omega) (fun L4 h4 => (y_fX17_takeFlow_b179 hC h4)))))))))
theorem y_fX17_takeFlow_b105 {P : mwM → mwL → Prop} (hC : CPrb P) {fu : Nat} {a1 : Int32} {v2 : Int32} {s1 : Int32} {M : mwM} {L : mwL} (h : P M L) : kq3 P (fX17_takeFlow_b105 fu a1 v2 s1 M L) := by
  unfold fX17_takeFlow_b105
  exact (y_fX17_takeFlow_b107 hC h)
theorem y_DX17_takeFlow {P : mwM → mwL → Prop} (hC : CPrb P) {fu : Nat} {a1 : Int32} {M : mwM} {L : mwL} (h : P M L) : kq3 P (DX17_takeFlow fu a1 M L) := by
  unfold DX17_takeFlow
  exact (kqK3 (fun q1 => (kqL3 (fun x7 => (kqK3 (fun q2 => (kqI3 (kqK3 (fun q3 => (kqL3 (fun x11 => (kqK3 (fun q4 => (kqI3 (kqK3 (fun q5 => (kqM3_rb hC h (by omega) (fun M28 h6 => (kqK3 (fun q7 => (kqK3 (fun q8 => (kqM3_rb hC h6 (by omega) (fun M31 h9 => (kqK3 (fun q10 => (kqK3 (fun q11 => (kqM3_rb hC h9 (by omega) (fun M34 h12 => (kqI3 (kqI3 (y_fX17_takeFlow_b105 hC h12) (kqI3 (y_fX17_takeFlow_b105 hC h12) (y_fX17_takeFlow_b107 hC h12))) (y_fX17_takeFlow_b107 hC h12)))))))))))))))))) (kqK3 (fun q13 => (kqI3 (kqK3 (fun q14 => (kqK3 (fun q15 => (kqM3_rb hC h (by omega) (fun M20 h16 => (kqK3 (fun q17 => (kqW3_rb hC h16 (by omega) (fun L22 h18 => (kqK3 (fun q19 => (kqI3 (y_fX17_takeFlow_b179 hC h18) (kqB23 (y_DX17_endSender hC h18) (fun M25 L26 h20 => (y_fX17_takeFlow_b179 hC h20)))))))))))))))) (kqB23 (y_DX17_endSender hC h) (fun M16 L17 h21 => (y_fX17_takeFlow_b179 hC h21))))))))))))) (kqK3 (fun q22 => (kqS3 h))))))))))
theorem y_DX17_endReceiver {P : mwM → mwL → Prop} (hC : CPrb P) {fu : Nat} {a1 : Int32} {a2 : Int32} {M : mwM} {L : mwL} (h : P M L) : kq2 P (DX17_endReceiver fu a1 a2 M L) := by
  unfold DX17_endReceiver
  exact (kqK2 (fun q1 => (kqM2_rb hC h (by omega) (fun M2 h2 => (kqK2 (fun q3 => (kqK2 (fun q4 => (kqM2_rb hC h2 (by omega) (fun M5 h5 => (kqS2 h5)))))))))))
theorem y_fX17_answer_b104 {P : mwM → mwL → Prop} (hC : CPrb P) {fu : Nat} {a1 : Int32} {M : mwM} {L : mwL} (h : P M L) : kq2 P (fX17_answer_b104 fu a1 M L) := by
  unfold fX17_answer_b104
  exact (kqS2 h)
theorem y_fX17_answer_b90 {P : mwM → mwL → Prop} (hC : CPrb P) {fu : Nat} {a1 : Int32} {M : mwM} {L : mwL} (h : P M L) : kq2 P (fX17_answer_b90 fu a1 M L) := by
  unfold fX17_answer_b90
  exact (kqI2 (kqB22 (y_DX17_endReceiver hC h) (fun M9 L10 h1 => (y_fX17_answer_b104 hC h1))) (y_fX17_answer_b104 hC h))
theorem y_fX17_answer_b62 {P : mwM → mwL → Prop} (hC : CPrb P) {fu : Nat} {a1 : Int32} {s2 : Int32} {M : mwM} {L : mwL} (h : P M L) : kq2 P (fX17_answer_b62 fu a1 s2 M L) := by
  unfold fX17_answer_b62
  exact (kqK2 (fun q1 => (kqM2_rb hC h (by omega) (fun M2 h2 => (kqI2 (kqK2 (fun q3 => (kqM2_rb hC h2 (by omega) (fun M5 h4 => (kqK2 (fun q5 => (kqM2_rb hC h4 (by omega) (fun M7 h6 => (y_fX17_answer_b90 hC h6))))))))) (y_fX17_answer_b90 hC h2))))))
theorem y_DX17_answer {P : mwM → mwL → Prop} (hC : CPrb P) {fu : Nat} {a1 : Int32} {M : mwM} {L : mwL} (h : P M L) : kq2 P (DX17_answer fu a1 M L) := by
  unfold DX17_answer
  exact (kqK2 (fun q1 => (kqB32 (y_DX17_make hC h) (fun r14 M12 L13 h2 => (kqI2 (kqB22 (y_DX17_endReceiver hC h2) (fun M19 L20 h3 => (kqS2 h3))) (kqK2 (fun q4 => (kqW2_rb hC h2 (by omega) (fun L17 h5 => (kqI2 (y_fX17_answer_b62 hC h5) (y_fX17_answer_b62 hC h5)))))))))))
theorem y_fX17_put_i2 {P : mwM → mwL → Prop} (hC : CPrb P) {fu : Nat} {a1 : Int32} {a2 : Int32} {r2 : (Int32 × mwM × mwL) → Option (mwM × mwL)} {v3 : Int32} (hr2 : ∀ s, P s.2.1 s.2.2 → kq2 P (r2 s)) {M : mwM} {L : mwL} (h : P M L) : kq2 P (fX17_put_i2 fu a1 a2 r2 v3 M L) := by
  unfold fX17_put_i2
  exact (kqK2 (fun q1 => (kqI2 (kqS2 h) (kqK2 (fun q2 => (kqK2 (fun q3 => (kqK2 (fun q4 => (kqM2_rb hC h (by omega) (fun M6 h5 => (kqK2 (fun q6 => (kqK2 (fun q7 => (kqM2_rb hC h5 (by omega) (fun M9 h8 => (kqL2 (fun x10 => (hr2 (x10, M9, L) h8))))))))))))))))))))
theorem y_fX17_put_h2 {P : mwM → mwL → Prop} (hC : CPrb P) {fu : Nat} {a1 : Int32} {a2 : Int32} : ∀ n s, P s.2.1 s.2.2 → kq2 P (fX17_put_h2 fu a1 a2 n s) := by
  intro n
  induction n with
  | zero => intro s _; exact kqN2
  | succ n ih =>
    intro s h
    show kq2 P (fX17_put_i2 fu a1 a2 (fX17_put_h2 fu a1 a2 n) s.1 s.2.1 s.2.2)
    exact y_fX17_put_i2 hC ih h
theorem y_DX17_put {P : mwM → mwL → Prop} (hC : CPrb P) {fu : Nat} {a1 : Int32} {a2 : Int32} {M : mwM} {L : mwL} (h : P M L) : kq2 P (DX17_put fu a1 a2 M L) := by
  unfold DX17_put
  exact (y_fX17_put_h2 hC _ (0, M, L) h)
theorem y_fX17_whole_i29 {P : mwM → mwL → Prop} (hC : CPrb P) {fu : Nat} {a1 : Int32} {r29 : (Int32 × mwM × mwL) → Option (mwM × mwL)} {v2 : Int32} (hr29 : ∀ s, P s.2.1 s.2.2 → kq2 P (r29 s)) {M : mwM} {L : mwL} (h : P M L) : kq2 P (fX17_whole_i29 fu a1 r29 v2 M L) := by
  unfold fX17_whole_i29
  exact (kqI2 (kqS2 h) (kqK2 (fun q1 => (kqK2 (fun q2 => (kqM2_rb hC h (by omega) (fun M4 h3 => (kqL2 (fun x5 => (hr29 (x5, M4, L) h3))))))))))
theorem y_fX17_whole_h29 {P : mwM → mwL → Prop} (hC : CPrb P) {fu : Nat} {a1 : Int32} : ∀ n s, P s.2.1 s.2.2 → kq2 P (fX17_whole_h29 fu a1 n s) := by
  intro n
  induction n with
  | zero => intro s _; exact kqN2
  | succ n ih =>
    intro s h
    show kq2 P (fX17_whole_i29 fu a1 (fX17_whole_h29 fu a1 n) s.1 s.2.1 s.2.2)
    exact y_fX17_whole_i29 hC ih h
theorem y_DX17_whole {P : mwM → mwL → Prop} (hC : CPrb P) {fu : Nat} {a1 : Int32} {M : mwM} {L : mwL} (h : P M L) : kq2 P (DX17_whole fu a1 M L) := by
  unfold DX17_whole
  exact (kqK2 (fun q1 => (kqM2_rb hC h (by omega) (fun M7 h2 => (kqM2_rb hC h2 (by omega) (fun M10 h3 => (kqK2 (fun q4 => (kqM2_rb hC h3 (by omega) (fun M12 h5 => (y_fX17_whole_h29 hC _ (0, M12, L) h5)))))))))))
theorem y_fX17_takeNext_b116 {P : mwM → mwL → Prop} (hC : CPrb P) {fu : Nat} {a1 : Int32} {a2 : Int32} {M : mwM} {L : mwL} (h : P M L) : kq2 P (fX17_takeNext_b116 fu a1 a2 M L) := by
  unfold fX17_takeNext_b116
  exact (kqS2 h)
theorem y_DX17_takeNext {P : mwM → mwL → Prop} (hC : CPrb P) {fu : Nat} {a1 : Int32} {a2 : Int32} {M : mwM} {L : mwL} (h : P M L) : kq2 P (DX17_takeNext fu a1 a2 M L) := by
  unfold DX17_takeNext
  exact (kqK2 (fun q1 => (kqK2 (fun q2 => (kqI2 (kqK2 (fun q3 => (kqK2 (fun q4 => (kqM2_rb hC h (by omega) (fun M7 h5 => (kqK2 (fun q6 => (kqW2_rb hC h5 (by omega) (fun L9 h7 => (kqK2 (fun q8 => (kqM2_rb hC h7 (by omega) (fun M11 h9 => (kqB22 (y_DX17_put hC h9) (fun M12 L13 h10 => (kqK2 (fun q11 => (kqK2 (fun q12 => (kqI2 (kqB22 (y_DX17_whole hC h10) (fun M26 L27 h13 => (kqS2 h13))) (kqK2 (fun q14 => (kqK2 (fun q15 => (kqM2_rb hC h10 (by omega) (fun M19 h16 => (kqK2 (fun q17 => (kqI2 (y_fX17_takeNext_b116 hC h16) (kqK2 (fun q18 => (kqI2 (kqB22 (y_DX17_answer hC h16) (fun M24 L25 h19 => (y_fX17_takeNext_b116 hC h19))) (y_fX17_takeNext_b116 hC h16)))))))))))))))))))))))))))))))))) (kqB22 (y_DX17_endReceiver hC h) (fun M28 L29 h20 => (kqS2 h20))))))))
theorem y_fX17_take_b50 {P : mwM → mwL → Prop} (hC : CPrb P) {fu : Nat} {a1 : Int32} {v2 : Int32} {M : mwM} {L : mwL} (h : P M L) : kq3 P (fX17_take_b50 fu a1 v2 M L) := by
  unfold fX17_take_b50
  exact (kqK3 (fun q1 => (kqS3 h)))
theorem y_fX17_take_b222 {P : mwM → mwL → Prop} (hC : CPrb P) {fu : Nat} {a1 : Int32} {v2 : Int32} {M : mwM} {L : mwL} (h : P M L) : kq3 P (fX17_take_b222 fu a1 v2 M L) := by
  unfold fX17_take_b222
  exact (kqK3 (fun q1 => (kqS3 h)))
theorem y_fX17_take_b191 {P : mwM → mwL → Prop} (hC : CPrb P) {fu : Nat} {a1 : Int32} {v2 : Int32} {s1 : Int32} {s2 : Int32} {M : mwM} {L : mwL} (h : P M L) : kq3 P (fX17_take_b191 fu a1 v2 s1 s2 M L) := by
  unfold fX17_take_b191
  exact (kqB23 (y_DX17_endReceiver hC h) (fun M36 L37 h1 => (y_fX17_take_b222 hC h1)))
theorem y_fX17_take_b129 {P : mwM → mwL → Prop} (hC : CPrb P) {fu : Nat} {a1 : Int32} {v2 : Int32} {s1 : Int32} {s2 : Int32} {M : mwM} {L : mwL} (h : P M L) : kq3 P (fX17_take_b129 fu a1 v2 s1 s2 M L) := by
  unfold fX17_take_b129
  exact (kqK3 (fun q1 => (kqM3_rb hC h (by omega) (fun M14 h2 => (kqK3 (fun q3 => (kqI3 (kqB23 (y_DX17_put hC h2) (fun M32 L33 h4 => (kqB23 (y_DX17_whole hC h4) (fun M34 L35 h5 => (y_fX17_take_b222 hC h5))))) (kqK3 (fun q6 => (kqI3 (kqK3 (fun q7 => (kqM3_rb hC h2 (by omega) (fun M20 h8 => (kqK3 (fun q9 => (kqM3_rb hC h8 (by omega) (fun M22 h10 => (kqB23 (y_DX17_put hC h10) (fun M23 L24 h11 => (kqB23 (y_DX17_answer hC h11) (fun M25 L26 h12 => (y_fX17_take_b222 hC h12))))))))))))) (kqK3 (fun q13 => (kqB33 (y_DX17_make hC h2) (fun r30 M28 L29 h14 => (kqI3 (y_fX17_take_b191 hC h14) (y_fX17_take_b191 hC h14))))))))))))))))
theorem y_fX17_take_b74 {P : mwM → mwL → Prop} (hC : CPrb P) {fu : Nat} {a1 : Int32} {v2 : Int32} {M : mwM} {L : mwL} (h : P M L) : kq3 P (fX17_take_b74 fu a1 v2 M L) := by
  unfold fX17_take_b74
  exact (kqK3 (fun q1 => (kqK3 (fun q2 => (kqM3_rb hC h (by omega) (fun M4 h3 => (kqK3 (fun q4 => (kqM3_rb hC h3 (by omega) (fun M6 h5 => (kqK3 (fun q6 => (kqM3_rb hC h5 (by omega) (fun M8 h7 => (kqK3 (fun q8 => (kqI3 (kqK3 (fun q9 => (y_fX17_take_b129 hC h7))) (kqK3 (fun q10 => (y_fX17_take_b129 hC h7))))))))))))))))))))
theorem y_DX17_take {P : mwM → mwL → Prop} (hC : CPrb P) {fu : Nat} {a1 : Int32} {M : mwM} {L : mwL} (h : P M L) : kq3 P (DX17_take fu a1 M L) := by
  unfold DX17_take
  exact (kqK3 (fun q1 => (kqL3 (fun x41 => (kqK3 (fun q2 => (kqI3 (kqK3 (fun q3 => (kqI3 (kqK3 (fun q4 => (kqK3 (fun q5 => (kqI3 (kqB23 (y_DX17_takeNext hC h) (fun M53 L54 h6 => (y_fX17_take_b50 hC h6))) (y_fX17_take_b50 hC h)))))) (y_fX17_take_b50 hC h)))) (kqK3 (fun q7 => (kqI3 (kqB23 (y_DX17_endReceiver hC h) (fun M46 L47 h8 => (y_fX17_take_b74 hC h8))) (y_fX17_take_b74 hC h)))))))))))
theorem y_fX17_senderDue_b57 {P : mwM → mwL → Prop} (hC : CPrb P) {fu : Nat} {a1 : Int32} {s0 : Int32} {M : mwM} {L : mwL} (h : P M L) : kq3 P (fX17_senderDue_b57 fu a1 s0 M L) := by
  unfold fX17_senderDue_b57
  exact (kq_mzz3 (kqS3 h))
theorem y_fX17_senderDue_b52 {P : mwM → mwL → Prop} (hC : CPrb P) {fu : Nat} {a1 : Int32} {M : mwM} {L : mwL} (h : P M L) : kq3 P (fX17_senderDue_b52 fu a1 M L) := by
  unfold fX17_senderDue_b52
  exact (y_fX17_senderDue_b57 hC h)
theorem y_fX17_senderDue_b56 {P : mwM → mwL → Prop} (hC : CPrb P) {fu : Nat} {a1 : Int32} {M : mwM} {L : mwL} (h : P M L) : kq3 P (fX17_senderDue_b56 fu a1 M L) := by
  unfold fX17_senderDue_b56
  exact (y_fX17_senderDue_b57 hC h)
theorem y_fX17_senderDue_b24 {P : mwM → mwL → Prop} (hC : CPrb P) {fu : Nat} {a1 : Int32} {M : mwM} {L : mwL} (h : P M L) : kq3 P (fX17_senderDue_b24 fu a1 M L) := by
  unfold fX17_senderDue_b24
  exact (kqK3 (fun q1 => (kqI3 (kqK3 (fun q2 => (kqI3 (y_fX17_senderDue_b52 hC h) (y_fX17_senderDue_b56 hC h)))) (y_fX17_senderDue_b56 hC h))))
theorem y_DX17_senderDue {P : mwM → mwL → Prop} (hC : CPrb P) {fu : Nat} {a1 : Int32} {M : mwM} {L : mwL} (h : P M L) : kq3 P (DX17_senderDue fu a1 M L) := by
  unfold DX17_senderDue
  exact (kqK3 (fun q1 => (kqI3 (kqK3 (fun q2 => (kqI3 (y_fX17_senderDue_b52 hC h) (y_fX17_senderDue_b24 hC h)))) (y_fX17_senderDue_b24 hC h))))
theorem y_fX17_moment_b138 {P : mwM → mwL → Prop} (hC : CPrb P) {fu : Nat} {r53 : (Int32 × mwM × mwL) → Option (mwM × mwL)} {v1 : Int32} (hr53 : ∀ s, P s.2.1 s.2.2 → kq2 P (r53 s)) {M : mwM} {L : mwL} (h : P M L) : kq2 P (fX17_moment_b138 fu r53 v1 M L) := by
  unfold fX17_moment_b138
  exact (kqL2 (fun x30 => (hr53 (x30, M, L) h)))
theorem y_fX17_moment_b104 {P : mwM → mwL → Prop} (hC : CPrb P) {fu : Nat} {r53 : (Int32 × mwM × mwL) → Option (mwM × mwL)} {v1 : Int32} {v2 : Int32} (hr53 : ∀ s, P s.2.1 s.2.2 → kq2 P (r53 s)) {M : mwM} {L : mwL} (h : P M L) : kq2 P (fX17_moment_b104 fu r53 v1 v2 M L) := by
  unfold fX17_moment_b104
  exact (kqK2 (fun q1 => (kqI2 (kqK2 (fun q2 => (kqI2 (kqB22 (y_DX17_endReceiver hC h) (fun M28 L29 h3 => (y_fX17_moment_b138 hC hr53 h3))) (y_fX17_moment_b138 hC hr53 h)))) (y_fX17_moment_b138 hC hr53 h))))
theorem y_fX17_moment_i53 {P : mwM → mwL → Prop} (hC : CPrb P) {fu : Nat} {r53 : (Int32 × mwM × mwL) → Option (mwM × mwL)} {v1 : Int32} (hr53 : ∀ s, P s.2.1 s.2.2 → kq2 P (r53 s)) {M : mwM} {L : mwL} (h : P M L) : kq2 P (fX17_moment_i53 fu r53 v1 M L) := by
  unfold fX17_moment_i53
  exact (kqI2 (kqS2 h) (kqL2 (fun x15 => (kqK2 (fun q1 => (kqI2 (kqK2 (fun q2 => (kqI2 (y_fX17_moment_b104 hC hr53 h) (kqK2 (fun q3 => (kqI2 (kqB22 (y_DX17_answer hC h) (fun M22 L23 h4 => (y_fX17_moment_b104 hC hr53 h4))) (y_fX17_moment_b104 hC hr53 h))))))) (y_fX17_moment_b104 hC hr53 h)))))))
theorem y_fX17_moment_h53 {P : mwM → mwL → Prop} (hC : CPrb P) {fu : Nat} : ∀ n s, P s.2.1 s.2.2 → kq2 P (fX17_moment_h53 fu n s) := by
  intro n
  induction n with
  | zero => intro s _; exact kqN2
  | succ n ih =>
    intro s h
    show kq2 P (fX17_moment_i53 fu (fX17_moment_h53 fu n) s.1 s.2.1 s.2.2)
    exact y_fX17_moment_i53 hC ih h
theorem y_fX17_moment_i10 {P : mwM → mwL → Prop} (hC : CPrb P) {fu : Nat} {r2 : (Int32 × mwM × mwL) → Option (mwM × mwL)} {r10 : (Int32 × mwM × mwL) → Option (mwM × mwL)} {v1 : Int32} (hr2 : ∀ s, P s.2.1 s.2.2 → kq2 P (r2 s)) (hr10 : ∀ s, P s.2.1 s.2.2 → kq2 P (r10 s)) {M : mwM} {L : mwL} (h : P M L) : kq2 P (fX17_moment_i10 fu r2 r10 v1 M L) := by
  unfold fX17_moment_i10
  exact (kqB32 (y_DX17_senderDue hC h) (fun r4 M2 L3 h1 => (kqI2 (kqL2 (fun x6 => (hr2 (x6, M2, L3) h1))) (kqK2 (fun q2 => (kqI2 (kqB22 (y_DX17_endSender hC h1) (fun M11 L12 h3 => (hr10 (v1, M11, L12) h3))) (kqB22 (y_DX17_sendNext hC h1) (fun M9 L10 h4 => (hr10 (v1, M9, L10) h4)))))))))
theorem y_fX17_moment_h10 {P : mwM → mwL → Prop} (hC : CPrb P) {fu : Nat} {r2 : (Int32 × mwM × mwL) → Option (mwM × mwL)} (hr2 : ∀ s, P s.2.1 s.2.2 → kq2 P (r2 s)) : ∀ n s, P s.2.1 s.2.2 → kq2 P (fX17_moment_h10 fu r2 n s) := by
  intro n
  induction n with
  | zero => intro s _; exact kqN2
  | succ n ih =>
    intro s h
    show kq2 P (fX17_moment_i10 fu r2 (fX17_moment_h10 fu r2 n) s.1 s.2.1 s.2.2)
    exact y_fX17_moment_i10 hC hr2 ih h
theorem y_fX17_moment_i2 {P : mwM → mwL → Prop} (hC : CPrb P) {fu : Nat} {r2 : (Int32 × mwM × mwL) → Option (mwM × mwL)} {v1 : Int32} (hr2 : ∀ s, P s.2.1 s.2.2 → kq2 P (r2 s)) {M : mwM} {L : mwL} (h : P M L) : kq2 P (fX17_moment_i2 fu r2 v1 M L) := by
  unfold fX17_moment_i2
  exact (kqI2 (y_fX17_moment_h53 hC _ (1, M, L) h) (y_fX17_moment_h10 hC hr2 _ (v1, M, L) h))
theorem y_fX17_moment_h2 {P : mwM → mwL → Prop} (hC : CPrb P) {fu : Nat} : ∀ n s, P s.2.1 s.2.2 → kq2 P (fX17_moment_h2 fu n s) := by
  intro n
  induction n with
  | zero => intro s _; exact kqN2
  | succ n ih =>
    intro s h
    show kq2 P (fX17_moment_i2 fu (fX17_moment_h2 fu n) s.1 s.2.1 s.2.2)
    exact y_fX17_moment_i2 hC ih h
theorem y_DX17_moment {P : mwM → mwL → Prop} (hC : CPrb P) {fu : Nat} {M : mwM} {L : mwL} (h : P M L) : kq2 P (DX17_moment fu M L) := by
  unfold DX17_moment
  exact (y_fX17_moment_h2 hC _ (1, M, L) h)
theorem y_fX17_sum_i4 {P : mwM → mwL → Prop} (hC : CPrb P) {fu : Nat} {r4 : (Int32 × Int32 × mwM × mwL) → Option (Int32 × mwM × mwL)} {v1 : Int32} {v2 : Int32} (hr4 : ∀ s, P s.2.2.1 s.2.2.2 → kq3 P (r4 s)) {M : mwM} {L : mwL} (h : P M L) : kq3 P (fX17_sum_i4 fu r4 v1 v2 M L) := by
  unfold fX17_sum_i4
  exact (kqI3 (kqS3 h) (kqK3 (fun q1 => (kqL3 (fun x3 => (kqL3 (fun x4 => (hr4 (x3, x4, M, L) h))))))))
theorem y_fX17_sum_h4 {P : mwM → mwL → Prop} (hC : CPrb P) {fu : Nat} : ∀ n s, P s.2.2.1 s.2.2.2 → kq3 P (fX17_sum_h4 fu n s) := by
  intro n
  induction n with
  | zero => intro s _; exact kqN3
  | succ n ih =>
    intro s h
    show kq3 P (fX17_sum_i4 fu (fX17_sum_h4 fu n) s.1 s.2.1 s.2.2.1 s.2.2.2)
    exact y_fX17_sum_i4 hC ih h
theorem y_DX17_sum {P : mwM → mwL → Prop} (hC : CPrb P) {fu : Nat} {M : mwM} {L : mwL} (h : P M L) : kq3 P (DX17_sum fu M L) := by
  unfold DX17_sum
  exact (y_fX17_sum_h4 hC _ (0, 1, M, L) h)
theorem y_fX17_tick_b27 {P : mwM → mwL → Prop} (hC : CPrb P) {fu : Nat} {a1 : Int64} {M : mwM} {L : mwL} (h : P M L) : kq3 P (fX17_tick_b27 fu a1 M L) := by
  unfold fX17_tick_b27
  exact (kqS3 h)
theorem y_fX17_tick_i73 {P : mwM → mwL → Prop} (hC : CPrb P) {fu : Nat} {a1 : Int64} {r73 : (Int32 × mwM × mwL) → Option (Int32 × mwM × mwL)} {v3 : Int32} (hr73 : ∀ s, P s.2.1 s.2.2 → kq3 P (r73 s)) {M : mwM} {L : mwL} (h : P M L) : kq3 P (fX17_tick_i73 fu a1 r73 v3 M L) := by
  unfold fX17_tick_i73
  exact (kqI3 (kqB33 (y_DX17_sum hC h) (fun r12 M10 L11 h1 => (kqS3 h1))) (kqW3_rb hC h (by omega) (fun L13 h2 => (kqB23 (y_DX17_moment hC h2) (fun M14 L15 h3 => (hr73 (v3, M14, L15) h3))))))
theorem y_fX17_tick_h73 {P : mwM → mwL → Prop} (hC : CPrb P) {fu : Nat} {a1 : Int64} : ∀ n s, P s.2.1 s.2.2 → kq3 P (fX17_tick_h73 fu a1 n s) := by
  intro n
  induction n with
  | zero => intro s _; exact kqN3
  | succ n ih =>
    intro s h
    show kq3 P (fX17_tick_i73 fu a1 (fX17_tick_h73 fu a1 n) s.1 s.2.1 s.2.2)
    exact y_fX17_tick_i73 hC ih h
theorem y_fX17_tick_b63 {P : mwM → mwL → Prop} (hC : CPrb P) {fu : Nat} {a1 : Int64} {r38 : (Int32 × Int32 × mwM × mwL) → Option (Int32 × mwM × mwL)} {v3 : Int32} {v4 : Int32} (hr38 : ∀ s, P s.2.2.1 s.2.2.2 → kq3 P (r38 s)) {M : mwM} {L : mwL} (h : P M L) : kq3 P (fX17_tick_b63 fu a1 r38 v3 v4 M L) := by
  unfold fX17_tick_b63
  exact (kqL3 (fun x8 => (hr38 (v3, x8, M, L) h)))
theorem y_fX17_tick_i38 {P : mwM → mwL → Prop} (hC : CPrb P) {fu : Nat} {a1 : Int64} {r38 : (Int32 × Int32 × mwM × mwL) → Option (Int32 × mwM × mwL)} {v3 : Int32} {v4 : Int32} (hr38 : ∀ s, P s.2.2.1 s.2.2.2 → kq3 P (r38 s)) {M : mwM} {L : mwL} (h : P M L) : kq3 P (fX17_tick_i38 fu a1 r38 v3 v4 M L) := by
  unfold fX17_tick_i38
  exact (kqI3 (kqB23 (y_DX17_moment hC h) (fun M2 L3 h1 => (y_fX17_tick_h73 hC _ (v3, M2, L3) h1))) (kqK3 (fun q2 => (kqI3 (kqB23 (y_DX17_start hC h) (fun M6 L7 h3 => (y_fX17_tick_b63 hC hr38 h3))) (y_fX17_tick_b63 hC hr38 h)))))
theorem y_fX17_tick_h38 {P : mwM → mwL → Prop} (hC : CPrb P) {fu : Nat} {a1 : Int64} : ∀ n s, P s.2.2.1 s.2.2.2 → kq3 P (fX17_tick_h38 fu a1 n s) := by
  intro n
  induction n with
  | zero => intro s _; exact kqN3
  | succ n ih =>
    intro s h
    show kq3 P (fX17_tick_i38 fu a1 (fX17_tick_h38 fu a1 n) s.1 s.2.1 s.2.2.1 s.2.2.2)
    exact y_fX17_tick_i38 hC ih h
theorem y_DX17_tick {P : mwM → mwL → Prop} (hC : CPrb P) {fu : Nat} {a1 : Int64} {M : mwM} {L : mwL} (h : P M L) : kq3 P (DX17_tick fu a1 M L) := by
  unfold DX17_tick
  exact (kqM3_rb hC h (by omega) (fun M16 h1 => (kqI3 (y_fX17_tick_b27 hC h1) (kqI3 (kqB33 (y_DX17_sum hC h1) (fun r21 M19 L20 h2 => (y_fX17_tick_h38 hC _ (r21, 1, M19, L20) h2))) (y_fX17_tick_b27 hC h1)))))
theorem y_fX17_receive_b18 {P : mwM → mwL → Prop} (hC : CPrb P) {fu : Nat} {a1 : Int32} {M : mwM} {L : mwL} (h : P M L) : kq3 P (fX17_receive_b18 fu a1 M L) := by
  unfold fX17_receive_b18
  exact (kqS3 h)
theorem y_fX17_receive_b62 {P : mwM → mwL → Prop} (hC : CPrb P) {fu : Nat} {a1 : Int32} {s0 : Int32} {M : mwM} {L : mwL} (h : P M L) : kq3 P (fX17_receive_b62 fu a1 s0 M L) := by
  unfold fX17_receive_b62
  exact (kqS3 h)
theorem y_DX17_receive {P : mwM → mwL → Prop} (hC : CPrb P) {fu : Nat} {a1 : Int32} {M : mwM} {L : mwL} (h : P M L) : kq3 P (DX17_receive fu a1 M L) := by
  unfold DX17_receive
  exact (kqM3_rb hC h (by omega) (fun M1 h1 => (kqI3 (y_fX17_receive_b18 hC h1) (kqI3 (kqK3 (fun q2 => (kqI3 (kqK3 (fun q3 => (kqM3_rb hC h1 (by omega) (fun M7 h4 => (kqK3 (fun q5 => (kqI3 (kqB33 (y_DX17_takeFlow hC h4) (fun r15 M13 L14 h6 => (y_fX17_receive_b62 hC h6))) (kqB33 (y_DX17_take hC h4) (fun r12 M10 L11 h7 => (y_fX17_receive_b62 hC h7)))))))))) (kqS3 h1)))) (y_fX17_receive_b18 hC h1)))))
theorem y_fX17_lose_b44 {P : mwM → mwL → Prop} (hC : CPrb P) {fu : Nat} {a1 : Int32} {v2 : Int32} {M : mwM} {L : mwL} (h : P M L) : kq3 P (fX17_lose_b44 fu a1 v2 M L) := by
  unfold fX17_lose_b44
  exact (kq_mzz3 (kqS3 h))
theorem y_fX17_lose_b32 {P : mwM → mwL → Prop} (hC : CPrb P) {fu : Nat} {a1 : Int32} {s0 : Int32} {M : mwM} {L : mwL} (h : P M L) : kq3 P (fX17_lose_b32 fu a1 s0 M L) := by
  unfold fX17_lose_b32
  exact (kqI3 (y_fX17_lose_b44 hC h) (kqK3 (fun q1 => (kqM3_rb hC h (by omega) (fun M3 h2 => (y_fX17_lose_b44 hC h2))))))
theorem y_fX17_lose_b31 {P : mwM → mwL → Prop} (hC : CPrb P) {fu : Nat} {a1 : Int32} {M : mwM} {L : mwL} (h : P M L) : kq3 P (fX17_lose_b31 fu a1 M L) := by
  unfold fX17_lose_b31
  exact (y_fX17_lose_b32 hC h)
theorem y_DX17_lose {P : mwM → mwL → Prop} (hC : CPrb P) {fu : Nat} {a1 : Int32} {M : mwM} {L : mwL} (h : P M L) : kq3 P (DX17_lose fu a1 M L) := by
  unfold DX17_lose
  exact (kqM3_rb hC h (by omega) (fun M5 h1 => (kqI3 (y_fX17_lose_b31 hC h1) (kqI3 (y_fX17_lose_b31 hC h1) (kqK3 (fun q2 => (kqI3 (y_fX17_lose_b32 hC h1) (y_fX17_lose_b31 hC h1))))))))
theorem y_fX17_frame_b31 {P : mwM → mwL → Prop} (hC : CPrb P) {fu : Nat} {a1 : Int32} {a2 : Int32} {M : mwM} {L : mwL} (h : P M L) : kq3 P (fX17_frame_b31 fu a1 a2 M L) := by
  unfold fX17_frame_b31
  exact (kqS3 h)
theorem y_fX17_frame_b167 {P : mwM → mwL → Prop} (hC : CPrb P) {fu : Nat} {a1 : Int32} {a2 : Int32} {s0 : Int32} {M : mwM} {L : mwL} (h : P M L) : kq3 P (fX17_frame_b167 fu a1 a2 s0 M L) := by
  unfold fX17_frame_b167
  exact (kqS3 h)
theorem y_fX17_frame_b91 {P : mwM → mwL → Prop} (hC : CPrb P) {fu : Nat} {a1 : Int32} {a2 : Int32} {M : mwM} {L : mwL} (h : P M L) : kq3 P (fX17_frame_b91 fu a1 a2 M L) := by
  unfold fX17_frame_b91
  exact (kqI3 (kqK3 (fun q1 => (kqS3 h))) (kqI3 (kqK3 (fun q2 => (kqS3 h))) (kqI3 (kqK3 (fun q3 => (kqS3 h))) (kqI3 (kqK3 (fun q4 => (kqS3 h))) (kqI3 (kqK3 (fun q5 => (kqS3 h))) (kqI3 (kqK3 (fun q6 => (y_fX17_frame_b167 hC h))) (y_fX17_frame_b167 hC h)))))))
theorem y_fX17_frame_b90 {P : mwM → mwL → Prop} (hC : CPrb P) {fu : Nat} {a1 : Int32} {a2 : Int32} {s0 : Int32} {M : mwM} {L : mwL} (h : P M L) : kq3 P (fX17_frame_b90 fu a1 a2 s0 M L) := by
  unfold fX17_frame_b90
  exact (kqS3 h)
theorem y_fX17_frame_b89 {P : mwM → mwL → Prop} (hC : CPrb P) {fu : Nat} {a1 : Int32} {a2 : Int32} {M : mwM} {L : mwL} (h : P M L) : kq3 P (fX17_frame_b89 fu a1 a2 M L) := by
  unfold fX17_frame_b89
  exact (y_fX17_frame_b90 hC h)
theorem y_fX17_frame_b18 {P : mwM → mwL → Prop} (hC : CPrb P) {fu : Nat} {a1 : Int32} {a2 : Int32} {M : mwM} {L : mwL} (h : P M L) : kq3 P (fX17_frame_b18 fu a1 a2 M L) := by
  unfold fX17_frame_b18
  exact (kqI3 (y_fX17_frame_b31 hC h) (kqI3 (kqI3 (y_fX17_frame_b91 hC h) (kqI3 (y_fX17_frame_b91 hC h) (kqK3 (fun q1 => (kqI3 (y_fX17_frame_b89 hC h) (kqK3 (fun q2 => (kqI3 (y_fX17_frame_b89 hC h) (kqK3 (fun q3 => (y_fX17_frame_b90 hC h))))))))))) (y_fX17_frame_b31 hC h)))
theorem y_DX17_frame {P : mwM → mwL → Prop} (hC : CPrb P) {fu : Nat} {a1 : Int32} {a2 : Int32} {M : mwM} {L : mwL} (h : P M L) : kq3 P (DX17_frame fu a1 a2 M L) := by
  unfold DX17_frame
  exact (kqM3_rb hC h (by omega) (fun M22 h1 => (kqI3 (kqI3 (kqS3 h1) (y_fX17_frame_b18 hC h1)) (y_fX17_frame_b18 hC h1))))
theorem y_fX17_got_b38 {P : mwM → mwL → Prop} (hC : CPrb P) {fu : Nat} {a1 : Int32} {s0 : Int32} {M : mwM} {L : mwL} (h : P M L) : kq3 P (fX17_got_b38 fu a1 s0 M L) := by
  unfold fX17_got_b38
  exact (kq_mbb3 (kqS3 h))
theorem y_fX17_got_b18 {P : mwM → mwL → Prop} (hC : CPrb P) {fu : Nat} {a1 : Int32} {s1 : Int32} {M : mwM} {L : mwL} (h : P M L) : kq3 P (fX17_got_b18 fu a1 s1 M L) := by
  unfold fX17_got_b18
  exact (kqM3_rb hC h (by omega) (fun M1 h1 => (kqI3 (kqK3 (fun q2 => (y_fX17_got_b38 hC h1))) (y_fX17_got_b38 hC h1))))
theorem y_fX17_got_b13 {P : mwM → mwL → Prop} (hC : CPrb P) {fu : Nat} {a1 : Int32} {M : mwM} {L : mwL} (h : P M L) : kq3 P (fX17_got_b13 fu a1 M L) := by
  unfold fX17_got_b13
  exact (y_fX17_got_b18 hC h)
theorem y_DX17_got {P : mwM → mwL → Prop} (hC : CPrb P) {fu : Nat} {a1 : Int32} {M : mwM} {L : mwL} (h : P M L) : kq3 P (DX17_got fu a1 M L) := by
  unfold DX17_got
  exact (kqI3 (y_fX17_got_b13 hC h) (kqI3 (y_fX17_got_b18 hC h) (y_fX17_got_b13 hC h)))
theorem y_DX17_length {P : mwM → mwL → Prop} (hC : CPrb P) {fu : Nat} {M : mwM} {L : mwL} (h : P M L) : kq3 P (DX17_length fu M L) := by
  unfold DX17_length
  exact (kqM3_rb hC h (by omega) (fun M1 h1 => (kqS3 h1)))
theorem y_fX17_ended_b26 {P : mwM → mwL → Prop} (hC : CPrb P) {fu : Nat} {a1 : Int32} {s0 : Int32} {M : mwM} {L : mwL} (h : P M L) : kq3 P (fX17_ended_b26 fu a1 s0 M L) := by
  unfold fX17_ended_b26
  exact (kqS3 h)
theorem y_fX17_ended_b15 {P : mwM → mwL → Prop} (hC : CPrb P) {fu : Nat} {a1 : Int32} {M : mwM} {L : mwL} (h : P M L) : kq3 P (fX17_ended_b15 fu a1 M L) := by
  unfold fX17_ended_b15
  exact (y_fX17_ended_b26 hC h)
theorem y_DX17_ended {P : mwM → mwL → Prop} (hC : CPrb P) {fu : Nat} {a1 : Int32} {M : mwM} {L : mwL} (h : P M L) : kq3 P (DX17_ended fu a1 M L) := by
  unfold DX17_ended
  exact (kqM3_rb hC h (by omega) (fun M1 h1 => (kqI3 (y_fX17_ended_b15 hC h1) (kqI3 (kqK3 (fun q2 => (y_fX17_ended_b26 hC h1))) (y_fX17_ended_b15 hC h1)))))
theorem y_fX18_anew_i58 {P : mwM → mwL → Prop} (hC : CPrb P) {fu : Nat} {a1 : Int32} {r58 : (Int32 × mwM × mwL) → Option (mwM × mwL)} {v2 : Int32} (hr58 : ∀ s, P s.2.1 s.2.2 → kq2 P (r58 s)) {M : mwM} {L : mwL} (h : P M L) : kq2 P (fX18_anew_i58 fu a1 r58 v2 M L) := by
  unfold fX18_anew_i58
  exact (kqI2 (kqS2 h) (kqK2 (fun q1 => (kqM2_rb hC h (by omega) (fun M7 h2 => (kqK2 (fun q3 => (kqM2_rb hC h2 (by omega) (fun M9 h4 => (kqK2 (fun q5 => (kqM2_rb hC h4 (by omega) (fun M11 h6 => (kqL2 (fun x12 => (hr58 (x12, M11, L) h6))))))))))))))))
theorem y_fX18_anew_h58 {P : mwM → mwL → Prop} (hC : CPrb P) {fu : Nat} {a1 : Int32} : ∀ n s, P s.2.1 s.2.2 → kq2 P (fX18_anew_h58 fu a1 n s) := by
  intro n
  induction n with
  | zero => intro s _; exact kqN2
  | succ n ih =>
    intro s h
    show kq2 P (fX18_anew_i58 fu a1 (fX18_anew_h58 fu a1 n) s.1 s.2.1 s.2.2)
    exact y_fX18_anew_i58 hC ih h
theorem y_fX18_anew_i37 {P : mwM → mwL → Prop} (hC : CPrb P) {fu : Nat} {a1 : Int32} {r37 : (Int32 × mwM × mwL) → Option (mwM × mwL)} {v2 : Int32} (hr37 : ∀ s, P s.2.1 s.2.2 → kq2 P (r37 s)) {M : mwM} {L : mwL} (h : P M L) : kq2 P (fX18_anew_i37 fu a1 r37 v2 M L) := by
  unfold fX18_anew_i37
  exact (kqI2 (y_fX18_anew_h58 hC _ (0, M, L) h) (kqK2 (fun q1 => (kqM2_rb hC h (by omega) (fun M3 h2 => (kqL2 (fun x4 => (hr37 (x4, M3, L) h2))))))))
theorem y_fX18_anew_h37 {P : mwM → mwL → Prop} (hC : CPrb P) {fu : Nat} {a1 : Int32} : ∀ n s, P s.2.1 s.2.2 → kq2 P (fX18_anew_h37 fu a1 n s) := by
  intro n
  induction n with
  | zero => intro s _; exact kqN2
  | succ n ih =>
    intro s h
    show kq2 P (fX18_anew_i37 fu a1 (fX18_anew_h37 fu a1 n) s.1 s.2.1 s.2.2)
    exact y_fX18_anew_i37 hC ih h
theorem y_DX18_anew {P : mwM → mwL → Prop} (hC : CPrb P) {fu : Nat} {a1 : Int32} {M : mwM} {L : mwL} (h : P M L) : kq2 P (DX18_anew fu a1 M L) := by
  unfold DX18_anew
  exact (kqM2_rb hC h (by omega) (fun M13 h1 => (kqM2_rb hC h1 (by omega) (fun M14 h2 => (kqM2_rb hC h2 (by omega) (fun M15 h3 => (kqM2_rb hC h3 (by omega) (fun M16 h4 => (kqM2_rb hC h4 (by omega) (fun M17 h5 => (kqM2_rb hC h5 (by omega) (fun M18 h6 => (kqM2_rb hC h6 (by omega) (fun M19 h7 => (y_fX18_anew_h37 hC _ (0, M19, L) h7)))))))))))))))
theorem y_fX18_none_b23 {P : mwM → mwL → Prop} (hC : CPrb P) {fu : Nat} {a1 : Int32} {s0 : Int32} {M : mwM} {L : mwL} (h : P M L) : kq3 P (fX18_none_b23 fu a1 s0 M L) := by
  unfold fX18_none_b23
  exact (kq_mzz3 (kqS3 h))
theorem y_fX18_none_b18 {P : mwM → mwL → Prop} (hC : CPrb P) {fu : Nat} {a1 : Int32} {M : mwM} {L : mwL} (h : P M L) : kq3 P (fX18_none_b18 fu a1 M L) := by
  unfold fX18_none_b18
  exact (y_fX18_none_b23 hC h)
theorem y_DX18_none {P : mwM → mwL → Prop} (hC : CPrb P) {fu : Nat} {a1 : Int32} {M : mwM} {L : mwL} (h : P M L) : kq3 P (DX18_none fu a1 M L) := by
  unfold DX18_none
  exact (kqM3_rb hC h (by omega) (fun M2 h1 => (kqI3 (y_fX18_none_b18 hC h1) (kqI3 (y_fX18_none_b23 hC h1) (y_fX18_none_b18 hC h1)))))
theorem y_DX18_is {P : mwM → mwL → Prop} (hC : CPrb P) {fu : Nat} {a1 : Int32} {a2 : Int32} {M : mwM} {L : mwL} (h : P M L) : kq3 P (DX18_is fu a1 a2 M L) := by
  unfold DX18_is
  exact (kqK3 (fun q1 => (kq_mzz3 (kqS3 h))))
theorem y_DX18_set {P : mwM → mwL → Prop} (hC : CPrb P) {fu : Nat} {a1 : Int32} {a2 : Int32} {a3 : Int32} {M : mwM} {L : mwL} (h : P M L) : kq2 P (DX18_set fu a1 a2 a3 M L) := by
  unfold DX18_set
  exact (kqK2 (fun q1 => (kqM2_rb hC h (by omega) (fun M2 h2 => (kqS2 h2)))))
theorem y_fX18_statusOf_b28 {P : mwM → mwL → Prop} (hC : CPrb P) {fu : Nat} {a1 : Int32} {r4 : (Int32 × Int32 × mwM × mwL) → Option (Int32 × mwM × mwL)} {v3 : Int32} {s0 : Int32} (hr4 : ∀ s, P s.2.2.1 s.2.2.2 → kq3 P (r4 s)) {M : mwM} {L : mwL} (h : P M L) : kq3 P (fX18_statusOf_b28 fu a1 r4 v3 s0 M L) := by
  unfold fX18_statusOf_b28
  exact (kqL3 (fun x7 => (hr4 (s0, x7, M, L) h)))
theorem y_fX18_statusOf_i4 {P : mwM → mwL → Prop} (hC : CPrb P) {fu : Nat} {a1 : Int32} {r4 : (Int32 × Int32 × mwM × mwL) → Option (Int32 × mwM × mwL)} {v2 : Int32} {v3 : Int32} (hr4 : ∀ s, P s.2.2.1 s.2.2.2 → kq3 P (r4 s)) {M : mwM} {L : mwL} (h : P M L) : kq3 P (fX18_statusOf_i4 fu a1 r4 v2 v3 M L) := by
  unfold fX18_statusOf_i4
  exact (kqI3 (kqS3 h) (kqB33 (y_DX18_is hC h) (fun r5 M2 L3 h1 => (kqI3 (y_fX18_statusOf_b28 hC hr4 h1) (y_fX18_statusOf_b28 hC hr4 h1)))))
theorem y_fX18_statusOf_h4 {P : mwM → mwL → Prop} (hC : CPrb P) {fu : Nat} {a1 : Int32} : ∀ n s, P s.2.2.1 s.2.2.2 → kq3 P (fX18_statusOf_h4 fu a1 n s) := by
  intro n
  induction n with
  | zero => intro s _; exact kqN3
  | succ n ih =>
    intro s h
    show kq3 P (fX18_statusOf_i4 fu a1 (fX18_statusOf_h4 fu a1 n) s.1 s.2.1 s.2.2.1 s.2.2.2)
    exact y_fX18_statusOf_i4 hC ih h
theorem y_DX18_statusOf {P : mwM → mwL → Prop} (hC : CPrb P) {fu : Nat} {a1 : Int32} {M : mwM} {L : mwL} (h : P M L) : kq3 P (DX18_statusOf fu a1 M L) := by
  unfold DX18_statusOf
  exact (y_fX18_statusOf_h4 hC _ (0, 0, M, L) h)
theorem y_fX18_freshen_b27 {P : mwM → mwL → Prop} (hC : CPrb P) {fu : Nat} {a1 : Int32} {r2 : (Int32 × mwM × mwL) → Option (mwM × mwL)} {v2 : Int32} {s2 : Int32} {s3 : Int32} (hr2 : ∀ s, P s.2.1 s.2.2 → kq2 P (r2 s)) {M : mwM} {L : mwL} (h : P M L) : kq2 P (fX18_freshen_b27 fu a1 r2 v2 s2 s3 M L) := by
  unfold fX18_freshen_b27
  exact (kqB22 (y_DX18_set hC h) (fun M12 L13 h1 => (kqL2 (fun x14 => (hr2 (x14, M12, L13) h1)))))
theorem y_fX18_freshen_b22 {P : mwM → mwL → Prop} (hC : CPrb P) {fu : Nat} {a1 : Int32} {r2 : (Int32 × mwM × mwL) → Option (mwM × mwL)} {v2 : Int32} {s2 : Int32} (hr2 : ∀ s, P s.2.1 s.2.2 → kq2 P (r2 s)) {M : mwM} {L : mwL} (h : P M L) : kq2 P (fX18_freshen_b22 fu a1 r2 v2 s2 M L) := by
  unfold fX18_freshen_b22
  exact (y_fX18_freshen_b27 hC hr2 h)
theorem y_fX18_freshen_i2 {P : mwM → mwL → Prop} (hC : CPrb P) {fu : Nat} {a1 : Int32} {r2 : (Int32 × mwM × mwL) → Option (mwM × mwL)} {v2 : Int32} (hr2 : ∀ s, P s.2.1 s.2.2 → kq2 P (r2 s)) {M : mwM} {L : mwL} (h : P M L) : kq2 P (fX18_freshen_i2 fu a1 r2 v2 M L) := by
  unfold fX18_freshen_i2
  exact (kqI2 (kqK2 (fun q1 => (kqM2_rb hC h (by omega) (fun M3 h2 => (kqK2 (fun q3 => (kqM2_rb hC h2 (by omega) (fun M5 h4 => (kqK2 (fun q5 => (kqM2_rb hC h4 (by omega) (fun M7 h6 => (kqK2 (fun q7 => (kqM2_rb hC h6 (by omega) (fun M9 h8 => (kqS2 h8))))))))))))))))) (kqI2 (y_fX18_freshen_b22 hC hr2 h) (kqI2 (y_fX18_freshen_b22 hC hr2 h) (y_fX18_freshen_b27 hC hr2 h))))
theorem y_fX18_freshen_h2 {P : mwM → mwL → Prop} (hC : CPrb P) {fu : Nat} {a1 : Int32} : ∀ n s, P s.2.1 s.2.2 → kq2 P (fX18_freshen_h2 fu a1 n s) := by
  intro n
  induction n with
  | zero => intro s _; exact kqN2
  | succ n ih =>
    intro s h
    show kq2 P (fX18_freshen_i2 fu a1 (fX18_freshen_h2 fu a1 n) s.1 s.2.1 s.2.2)
    exact y_fX18_freshen_i2 hC ih h
theorem y_DX18_freshen {P : mwM → mwL → Prop} (hC : CPrb P) {fu : Nat} {a1 : Int32} {M : mwM} {L : mwL} (h : P M L) : kq2 P (DX18_freshen fu a1 M L) := by
  unfold DX18_freshen
  exact (y_fX18_freshen_h2 hC _ (0, M, L) h)
theorem y_fX18_keep_i2 {P : mwM → mwL → Prop} (hC : CPrb P) {fu : Nat} {a1 : Int32} {r2 : (Int32 × mwM × mwL) → Option (mwM × mwL)} {v2 : Int32} (hr2 : ∀ s, P s.2.1 s.2.2 → kq2 P (r2 s)) {M : mwM} {L : mwL} (h : P M L) : kq2 P (fX18_keep_i2 fu a1 r2 v2 M L) := by
  unfold fX18_keep_i2
  exact (kqI2 (kqK2 (fun q1 => (kqK2 (fun q2 => (kqM2_rb hC h (by omega) (fun M4 h3 => (kqK2 (fun q4 => (kqK2 (fun q5 => (kqM2_rb hC h3 (by omega) (fun M7 h6 => (kqK2 (fun q7 => (kqK2 (fun q8 => (kqM2_rb hC h6 (by omega) (fun M10 h9 => (kqS2 h9))))))))))))))))))) (kqB32 (y_DX18_is hC h) (fun r13 M11 L12 h10 => (kqK2 (fun q11 => (kqM2_rb hC h10 (by omega) (fun M15 h12 => (kqL2 (fun x16 => (hr2 (x16, M15, L12) h12))))))))))
theorem y_fX18_keep_h2 {P : mwM → mwL → Prop} (hC : CPrb P) {fu : Nat} {a1 : Int32} : ∀ n s, P s.2.1 s.2.2 → kq2 P (fX18_keep_h2 fu a1 n s) := by
  intro n
  induction n with
  | zero => intro s _; exact kqN2
  | succ n ih =>
    intro s h
    show kq2 P (fX18_keep_i2 fu a1 (fX18_keep_h2 fu a1 n) s.1 s.2.1 s.2.2)
    exact y_fX18_keep_i2 hC ih h
theorem y_DX18_keep {P : mwM → mwL → Prop} (hC : CPrb P) {fu : Nat} {a1 : Int32} {M : mwM} {L : mwL} (h : P M L) : kq2 P (DX18_keep fu a1 M L) := by
  unfold DX18_keep
  exact (y_fX18_keep_h2 hC _ (0, M, L) h)
theorem y_fX18_code_b39 {P : mwM → mwL → Prop} (hC : CPrb P) {fu : Nat} {a1 : Int32} {a2 : Int32} {a3 : Int32} {M : mwM} {L : mwL} (h : P M L) : kq3 P (fX18_code_b39 fu a1 a2 a3 M L) := by
  unfold fX18_code_b39
  exact (kqS3 h)
theorem y_DX18_code {P : mwM → mwL → Prop} (hC : CPrb P) {fu : Nat} {a1 : Int32} {a2 : Int32} {a3 : Int32} {M : mwM} {L : mwL} (h : P M L) : kq3 P (DX18_code fu a1 a2 a3 M L) := by
  unfold DX18_code
  exact (kqM3_rb hC h (by omega) (fun M1 h1 => (kqI3 (y_fX18_code_b39 hC h1) (kqI3 (y_fX18_code_b39 hC h1) (kqI3 (y_fX18_code_b39 hC h1) (kqI3 (y_fX18_code_b39 hC h1) (kqI3 (y_fX18_code_b39 hC h1) (kqI3 (kqI3 (kqI3 (kqS3 h1) (kqM3_rb hC h1 (by omega) (fun M10 h2 => (kqK3 (fun q3 => (kqM3_rb hC h2 (by omega) (fun M12 h4 => (kqK3 (fun q5 => (kqM3_rb hC h4 (by omega) (fun M14 h6 => (kqK3 (fun q7 => (kqM3_rb hC h6 (by omega) (fun M16 h8 => (kqB23 (y_DX18_freshen hC h8) (fun M17 L18 h9 => (kqB23 (y_DX18_keep hC h9) (fun M19 L20 h10 => (kqS3 h10)))))))))))))))))))) (kqS3 h1)) (y_fX18_code_b39 hC h1)))))))))
theorem y_fX18_many_b28 {P : mwM → mwL → Prop} (hC : CPrb P) {fu : Nat} {a1 : Int32} {r4 : (Int32 × Int32 × mwM × mwL) → Option (Int32 × mwM × mwL)} {v3 : Int32} {s0 : Int32} (hr4 : ∀ s, P s.2.2.1 s.2.2.2 → kq3 P (r4 s)) {M : mwM} {L : mwL} (h : P M L) : kq3 P (fX18_many_b28 fu a1 r4 v3 s0 M L) := by
  unfold fX18_many_b28
  exact (kqL3 (fun x7 => (hr4 (s0, x7, M, L) h)))
theorem y_fX18_many_i4 {P : mwM → mwL → Prop} (hC : CPrb P) {fu : Nat} {a1 : Int32} {r4 : (Int32 × Int32 × mwM × mwL) → Option (Int32 × mwM × mwL)} {v2 : Int32} {v3 : Int32} (hr4 : ∀ s, P s.2.2.1 s.2.2.2 → kq3 P (r4 s)) {M : mwM} {L : mwL} (h : P M L) : kq3 P (fX18_many_i4 fu a1 r4 v2 v3 M L) := by
  unfold fX18_many_i4
  exact (kqI3 (kqS3 h) (kqB33 (y_DX18_is hC h) (fun r5 M2 L3 h1 => (kqI3 (y_fX18_many_b28 hC hr4 h1) (y_fX18_many_b28 hC hr4 h1)))))
theorem y_fX18_many_h4 {P : mwM → mwL → Prop} (hC : CPrb P) {fu : Nat} {a1 : Int32} : ∀ n s, P s.2.2.1 s.2.2.2 → kq3 P (fX18_many_h4 fu a1 n s) := by
  intro n
  induction n with
  | zero => intro s _; exact kqN3
  | succ n ih =>
    intro s h
    show kq3 P (fX18_many_i4 fu a1 (fX18_many_h4 fu a1 n) s.1 s.2.1 s.2.2.1 s.2.2.2)
    exact y_fX18_many_i4 hC ih h
theorem y_DX18_many {P : mwM → mwL → Prop} (hC : CPrb P) {fu : Nat} {a1 : Int32} {M : mwM} {L : mwL} (h : P M L) : kq3 P (DX18_many fu a1 M L) := by
  unfold DX18_many
  exact (y_fX18_many_h4 hC _ (0, 1, M, L) h)
theorem y_fX18_entries_b28 {P : mwM → mwL → Prop} (hC : CPrb P) {fu : Nat} {r4 : (Int32 × Int32 × mwM × mwL) → Option (Int32 × mwM × mwL)} {v2 : Int32} {s0 : Int32} (hr4 : ∀ s, P s.2.2.1 s.2.2.2 → kq3 P (r4 s)) {M : mwM} {L : mwL} (h : P M L) : kq3 P (fX18_entries_b28 fu r4 v2 s0 M L) := by
  unfold fX18_entries_b28
  exact (kqL3 (fun x4 => (hr4 (s0, x4, M, L) h)))
theorem y_fX18_entries_i4 {P : mwM → mwL → Prop} (hC : CPrb P) {fu : Nat} {r4 : (Int32 × Int32 × mwM × mwL) → Option (Int32 × mwM × mwL)} {v1 : Int32} {v2 : Int32} (hr4 : ∀ s, P s.2.2.1 s.2.2.2 → kq3 P (r4 s)) {M : mwM} {L : mwL} (h : P M L) : kq3 P (fX18_entries_i4 fu r4 v1 v2 M L) := by
  unfold fX18_entries_i4
  exact (kqI3 (kqS3 h) (kqK3 (fun q1 => (kqI3 (y_fX18_entries_b28 hC hr4 h) (y_fX18_entries_b28 hC hr4 h)))))
theorem y_fX18_entries_h4 {P : mwM → mwL → Prop} (hC : CPrb P) {fu : Nat} : ∀ n s, P s.2.2.1 s.2.2.2 → kq3 P (fX18_entries_h4 fu n s) := by
  intro n
  induction n with
  | zero => intro s _; exact kqN3
  | succ n ih =>
    intro s h
    show kq3 P (fX18_entries_i4 fu (fX18_entries_h4 fu n) s.1 s.2.1 s.2.2.1 s.2.2.2)
    exact y_fX18_entries_i4 hC ih h
theorem y_DX18_entries {P : mwM → mwL → Prop} (hC : CPrb P) {fu : Nat} {M : mwM} {L : mwL} (h : P M L) : kq3 P (DX18_entries fu M L) := by
  unfold DX18_entries
  exact (y_fX18_entries_h4 hC _ (0, 1, M, L) h)
theorem y_fX18_goes_b263 {P : mwM → mwL → Prop} (hC : CPrb P) {fu : Nat} {a1 : Int32} {v4 : Int32} {M : mwM} {L : mwL} (h : P M L) : kq3 P (fX18_goes_b263 fu a1 v4 M L) := by
  unfold fX18_goes_b263
  exact (kqS3 h)
theorem y_fX18_goes_b255 {P : mwM → mwL → Prop} (hC : CPrb P) {fu : Nat} {a1 : Int32} {r166 : (Int32 × Int32 × Int32 × Int32 × mwM × mwL) → Option (Int32 × mwM × mwL)} {v2 : Int32} {v3 : Int32} {v5 : Int32} {s0 : Int32} (hr166 : ∀ s, P s.2.2.2.2.1 s.2.2.2.2.2 → kq3 P (r166 s)) {M : mwM} {L : mwL} (h : P M L) : kq3 P (fX18_goes_b255 fu a1 r166 v2 v3 v5 s0 M L) := by
  unfold fX18_goes_b255
  exact (kqL3 (fun x46 => (hr166 (v2, v3, s0, x46, M, L) h)))
theorem y_fX18_goes_b253 {P : mwM → mwL → Prop} (hC : CPrb P) {fu : Nat} {a1 : Int32} {r166 : (Int32 × Int32 × Int32 × Int32 × mwM × mwL) → Option (Int32 × mwM × mwL)} {v2 : Int32} {v3 : Int32} {v4 : Int32} {v5 : Int32} (hr166 : ∀ s, P s.2.2.2.2.1 s.2.2.2.2.2 → kq3 P (r166 s)) {M : mwM} {L : mwL} (h : P M L) : kq3 P (fX18_goes_b253 fu a1 r166 v2 v3 v4 v5 M L) := by
  unfold fX18_goes_b253
  exact (y_fX18_goes_b255 hC hr166 h)
theorem y_fX18_goes_b248 {P : mwM → mwL → Prop} (hC : CPrb P) {fu : Nat} {a1 : Int32} {r166 : (Int32 × Int32 × Int32 × Int32 × mwM × mwL) → Option (Int32 × mwM × mwL)} {v2 : Int32} {v3 : Int32} {v5 : Int32} (hr166 : ∀ s, P s.2.2.2.2.1 s.2.2.2.2.2 → kq3 P (r166 s)) {M : mwM} {L : mwL} (h : P M L) : kq3 P (fX18_goes_b248 fu a1 r166 v2 v3 v5 M L) := by
  unfold fX18_goes_b248
  exact (y_fX18_goes_b255 hC hr166 h)
theorem y_fX18_goes_b219 {P : mwM → mwL → Prop} (hC : CPrb P) {fu : Nat} {a1 : Int32} {r166 : (Int32 × Int32 × Int32 × Int32 × mwM × mwL) → Option (Int32 × mwM × mwL)} {v2 : Int32} {v3 : Int32} {v4 : Int32} {v5 : Int32} {s0 : Int32} (hr166 : ∀ s, P s.2.2.2.2.1 s.2.2.2.2.2 → kq3 P (r166 s)) {M : mwM} {L : mwL} (h : P M L) : kq3 P (fX18_goes_b219 fu a1 r166 v2 v3 v4 v5 s0 M L) := by
  unfold fX18_goes_b219
  exact (kqI3 (y_fX18_goes_b253 hC hr166 h) (kqI3 (y_fX18_goes_b248 hC hr166 h) (kqK3 (fun q1 => (kqK3 (fun q2 => (kqI3 (y_fX18_goes_b253 hC hr166 h) (y_fX18_goes_b248 hC hr166 h))))))))
theorem y_fX18_goes_b218 {P : mwM → mwL → Prop} (hC : CPrb P) {fu : Nat} {a1 : Int32} {r166 : (Int32 × Int32 × Int32 × Int32 × mwM × mwL) → Option (Int32 × mwM × mwL)} {v2 : Int32} {v3 : Int32} {v4 : Int32} {v5 : Int32} (hr166 : ∀ s, P s.2.2.2.2.1 s.2.2.2.2.2 → kq3 P (r166 s)) {M : mwM} {L : mwL} (h : P M L) : kq3 P (fX18_goes_b218 fu a1 r166 v2 v3 v4 v5 M L) := by
  unfold fX18_goes_b218
  exact (y_fX18_goes_b219 hC hr166 h)
theorem y_fX18_goes_b214 {P : mwM → mwL → Prop} (hC : CPrb P) {fu : Nat} {a1 : Int32} {r166 : (Int32 × Int32 × Int32 × Int32 × mwM × mwL) → Option (Int32 × mwM × mwL)} {v2 : Int32} {v3 : Int32} {v4 : Int32} {v5 : Int32} (hr166 : ∀ s, P s.2.2.2.2.1 s.2.2.2.2.2 → kq3 P (r166 s)) {M : mwM} {L : mwL} (h : P M L) : kq3 P (fX18_goes_b214 fu a1 r166 v2 v3 v4 v5 M L) := by
  unfold fX18_goes_b214
  exact (y_fX18_goes_b219 hC hr166 h)
theorem y_fX18_goes_i166 {P : mwM → mwL → Prop} (hC : CPrb P) {fu : Nat} {a1 : Int32} {r166 : (Int32 × Int32 × Int32 × Int32 × mwM × mwL) → Option (Int32 × mwM × mwL)} {v2 : Int32} {v3 : Int32} {v4 : Int32} {v5 : Int32} (hr166 : ∀ s, P s.2.2.2.2.1 s.2.2.2.2.2 → kq3 P (r166 s)) {M : mwM} {L : mwL} (h : P M L) : kq3 P (fX18_goes_i166 fu a1 r166 v2 v3 v4 v5 M L) := by
  unfold fX18_goes_i166
  exact (kqI3 (y_fX18_goes_b263 hC h) (kqI3 (y_fX18_goes_b263 hC h) (kqK3 (fun q1 => (kqI3 (y_fX18_goes_b218 hC hr166 h) (kqK3 (fun q2 => (kqI3 (kqI3 (y_fX18_goes_b214 hC hr166 h) (kqB33 (y_DX18_is hC h) (fun r39 M37 L38 h3 => (kqI3 (y_fX18_goes_b214 hC hr166 h3) (y_fX18_goes_b218 hC hr166 h3))))) (y_fX18_goes_b218 hC hr166 h)))))))))
theorem y_fX18_goes_h166 {P : mwM → mwL → Prop} (hC : CPrb P) {fu : Nat} {a1 : Int32} : ∀ n s, P s.2.2.2.2.1 s.2.2.2.2.2 → kq3 P (fX18_goes_h166 fu a1 n s) := by
  intro n
  induction n with
  | zero => intro s _; exact kqN3
  | succ n ih =>
    intro s h
    show kq3 P (fX18_goes_i166 fu a1 (fX18_goes_h166 fu a1 n) s.1 s.2.1 s.2.2.1 s.2.2.2.1 s.2.2.2.2.1 s.2.2.2.2.2)
    exact y_fX18_goes_i166 hC ih h
theorem y_fX18_goes_b153 {P : mwM → mwL → Prop} (hC : CPrb P) {fu : Nat} {a1 : Int32} {r104 : (Int32 × Int32 × Int32 × mwM × mwL) → Option (Int32 × mwM × mwL)} {v2 : Int32} {v4 : Int32} {s0 : Int32} (hr104 : ∀ s, P s.2.2.2.1 s.2.2.2.2 → kq3 P (r104 s)) {M : mwM} {L : mwL} (h : P M L) : kq3 P (fX18_goes_b153 fu a1 r104 v2 v4 s0 M L) := by
  unfold fX18_goes_b153
  exact (kqL3 (fun x29 => (hr104 (v2, s0, x29, M, L) h)))
theorem y_fX18_goes_b152 {P : mwM → mwL → Prop} (hC : CPrb P) {fu : Nat} {a1 : Int32} {r104 : (Int32 × Int32 × Int32 × mwM × mwL) → Option (Int32 × mwM × mwL)} {v2 : Int32} {v4 : Int32} (hr104 : ∀ s, P s.2.2.2.1 s.2.2.2.2 → kq3 P (r104 s)) {M : mwM} {L : mwL} (h : P M L) : kq3 P (fX18_goes_b152 fu a1 r104 v2 v4 M L) := by
  unfold fX18_goes_b152
  exact (y_fX18_goes_b153 hC hr104 h)
theorem y_fX18_goes_b148 {P : mwM → mwL → Prop} (hC : CPrb P) {fu : Nat} {a1 : Int32} {r104 : (Int32 × Int32 × Int32 × mwM × mwL) → Option (Int32 × mwM × mwL)} {v2 : Int32} {v4 : Int32} (hr104 : ∀ s, P s.2.2.2.1 s.2.2.2.2 → kq3 P (r104 s)) {M : mwM} {L : mwL} (h : P M L) : kq3 P (fX18_goes_b148 fu a1 r104 v2 v4 M L) := by
  unfold fX18_goes_b148
  exact (y_fX18_goes_b153 hC hr104 h)
theorem y_fX18_goes_i104 {P : mwM → mwL → Prop} (hC : CPrb P) {fu : Nat} {a1 : Int32} {r104 : (Int32 × Int32 × Int32 × mwM × mwL) → Option (Int32 × mwM × mwL)} {v2 : Int32} {v3 : Int32} {v4 : Int32} (hr104 : ∀ s, P s.2.2.2.1 s.2.2.2.2 → kq3 P (r104 s)) {M : mwM} {L : mwL} (h : P M L) : kq3 P (fX18_goes_i104 fu a1 r104 v2 v3 v4 M L) := by
  unfold fX18_goes_i104
  exact (kqI3 (y_fX18_goes_h166 hC _ (v2, v3, 0, 1, M, L) h) (kqI3 (kqK3 (fun q1 => (kqI3 (y_fX18_goes_b152 hC hr104 h) (kqK3 (fun q2 => (kqI3 (kqB33 (y_DX18_is hC h) (fun r27 M25 L26 h3 => (kqI3 (y_fX18_goes_b148 hC hr104 h3) (y_fX18_goes_b152 hC hr104 h3)))) (y_fX18_goes_b152 hC hr104 h))))))) (y_fX18_goes_b148 hC hr104 h)))
theorem y_fX18_goes_h104 {P : mwM → mwL → Prop} (hC : CPrb P) {fu : Nat} {a1 : Int32} : ∀ n s, P s.2.2.2.1 s.2.2.2.2 → kq3 P (fX18_goes_h104 fu a1 n s) := by
  intro n
  induction n with
  | zero => intro s _; exact kqN3
  | succ n ih =>
    intro s h
    show kq3 P (fX18_goes_i104 fu a1 (fX18_goes_h104 fu a1 n) s.1 s.2.1 s.2.2.1 s.2.2.2.1 s.2.2.2.2)
    exact y_fX18_goes_i104 hC ih h
theorem y_fX18_goes_b92 {P : mwM → mwL → Prop} (hC : CPrb P) {fu : Nat} {a1 : Int32} {r4 : (Int32 × Int32 × mwM × mwL) → Option (Int32 × mwM × mwL)} {v3 : Int32} {s0 : Int32} (hr4 : ∀ s, P s.2.2.1 s.2.2.2 → kq3 P (r4 s)) {M : mwM} {L : mwL} (h : P M L) : kq3 P (fX18_goes_b92 fu a1 r4 v3 s0 M L) := by
  unfold fX18_goes_b92
  exact (kqL3 (fun x18 => (hr4 (s0, x18, M, L) h)))
theorem y_fX18_goes_b91 {P : mwM → mwL → Prop} (hC : CPrb P) {fu : Nat} {a1 : Int32} {r4 : (Int32 × Int32 × mwM × mwL) → Option (Int32 × mwM × mwL)} {v2 : Int32} {v3 : Int32} (hr4 : ∀ s, P s.2.2.1 s.2.2.2 → kq3 P (r4 s)) {M : mwM} {L : mwL} (h : P M L) : kq3 P (fX18_goes_b91 fu a1 r4 v2 v3 M L) := by
  unfold fX18_goes_b91
  exact (y_fX18_goes_b92 hC hr4 h)
theorem y_fX18_goes_b65 {P : mwM → mwL → Prop} (hC : CPrb P) {fu : Nat} {a1 : Int32} {r4 : (Int32 × Int32 × mwM × mwL) → Option (Int32 × mwM × mwL)} {v2 : Int32} {v3 : Int32} {s0 : Int32} (hr4 : ∀ s, P s.2.2.1 s.2.2.2 → kq3 P (r4 s)) {M : mwM} {L : mwL} (h : P M L) : kq3 P (fX18_goes_b65 fu a1 r4 v2 v3 s0 M L) := by
  unfold fX18_goes_b65
  exact (kqI3 (y_fX18_goes_b91 hC hr4 h) (kqK3 (fun q1 => (kqI3 (y_fX18_goes_b91 hC hr4 h) (kqK3 (fun q2 => (y_fX18_goes_b92 hC hr4 h)))))))
theorem y_fX18_goes_b64 {P : mwM → mwL → Prop} (hC : CPrb P) {fu : Nat} {a1 : Int32} {r4 : (Int32 × Int32 × mwM × mwL) → Option (Int32 × mwM × mwL)} {v2 : Int32} {v3 : Int32} (hr4 : ∀ s, P s.2.2.1 s.2.2.2 → kq3 P (r4 s)) {M : mwM} {L : mwL} (h : P M L) : kq3 P (fX18_goes_b64 fu a1 r4 v2 v3 M L) := by
  unfold fX18_goes_b64
  exact (y_fX18_goes_b65 hC hr4 h)
theorem y_fX18_goes_b60 {P : mwM → mwL → Prop} (hC : CPrb P) {fu : Nat} {a1 : Int32} {r4 : (Int32 × Int32 × mwM × mwL) → Option (Int32 × mwM × mwL)} {v2 : Int32} {v3 : Int32} (hr4 : ∀ s, P s.2.2.1 s.2.2.2 → kq3 P (r4 s)) {M : mwM} {L : mwL} (h : P M L) : kq3 P (fX18_goes_b60 fu a1 r4 v2 v3 M L) := by
  unfold fX18_goes_b60
  exact (y_fX18_goes_b65 hC hr4 h)
theorem y_fX18_goes_i4 {P : mwM → mwL → Prop} (hC : CPrb P) {fu : Nat} {a1 : Int32} {r4 : (Int32 × Int32 × mwM × mwL) → Option (Int32 × mwM × mwL)} {v2 : Int32} {v3 : Int32} (hr4 : ∀ s, P s.2.2.1 s.2.2.2 → kq3 P (r4 s)) {M : mwM} {L : mwL} (h : P M L) : kq3 P (fX18_goes_i4 fu a1 r4 v2 v3 M L) := by
  unfold fX18_goes_i4
  exact (kqI3 (y_fX18_goes_h104 hC _ (v2, 0, 1, M, L) h) (kqK3 (fun q1 => (kqI3 (y_fX18_goes_b64 hC hr4 h) (kqK3 (fun q2 => (kqK3 (fun q3 => (kqI3 (y_fX18_goes_b60 hC hr4 h) (kqK3 (fun q4 => (kqK3 (fun q5 => (kqI3 (kqB33 (y_DX18_is hC h) (fun r12 M10 L11 h6 => (kqI3 (y_fX18_goes_b60 hC hr4 h6) (y_fX18_goes_b64 hC hr4 h6)))) (y_fX18_goes_b64 hC hr4 h)))))))))))))))
theorem y_fX18_goes_h4 {P : mwM → mwL → Prop} (hC : CPrb P) {fu : Nat} {a1 : Int32} : ∀ n s, P s.2.2.1 s.2.2.2 → kq3 P (fX18_goes_h4 fu a1 n s) := by
  intro n
  induction n with
  | zero => intro s _; exact kqN3
  | succ n ih =>
    intro s h
    show kq3 P (fX18_goes_i4 fu a1 (fX18_goes_h4 fu a1 n) s.1 s.2.1 s.2.2.1 s.2.2.2)
    exact y_fX18_goes_i4 hC ih h
theorem y_DX18_goes {P : mwM → mwL → Prop} (hC : CPrb P) {fu : Nat} {a1 : Int32} {M : mwM} {L : mwL} (h : P M L) : kq3 P (DX18_goes fu a1 M L) := by
  unfold DX18_goes
  exact (y_fX18_goes_h4 hC _ (0, 1, M, L) h)
theorem y_DX18_shoot {P : mwM → mwL → Prop} (hC : CPrb P) {fu : Nat} {a1 : Int32} {a2 : Int32} {M : mwM} {L : mwL} (h : P M L) : kq2 P (DX18_shoot fu a1 a2 M L) := by
  unfold DX18_shoot
  exact (kqL2 (fun x1 => (kqK2 (fun q1 => (kqM2_rb hC h (by omega) (fun M3 h2 => (kqK2 (fun q3 => (kqM2_rb hC h2 (by omega) (fun M5 h4 => (kqB32 (y_DX18_many hC h4) (fun r8 M6 L7 h5 => (kqK2 (fun q6 => (kqM2_rb hC h5 (by omega) (fun M10 h7 => (kqK2 (fun q8 => (kqK2 (fun q9 => (kqM2_rb hC h7 (by omega) (fun M13 h10 => (kqS2 h10)))))))))))))))))))))))
theorem y_fX18_store_b40 {P : mwM → mwL → Prop} (hC : CPrb P) {fu : Nat} {a1 : Int32} {s2 : Int32} {M : mwM} {L : mwL} (h : P M L) : kq2 P (fX18_store_b40 fu a1 s2 M L) := by
  unfold fX18_store_b40
  exact (kqK2 (fun q1 => (kqM2_rb hC h (by omega) (fun M2 h2 => (kqB22 (y_DX18_shoot hC h2) (fun M3 L4 h3 => (kqS2 h3)))))))
theorem y_fX18_store_b107 {P : mwM → mwL → Prop} (hC : CPrb P) {fu : Nat} {a1 : Int32} {M : mwM} {L : mwL} (h : P M L) : kq2 P (fX18_store_b107 fu a1 M L) := by
  unfold fX18_store_b107
  exact (kqM2_rb hC h (by omega) (fun M5 h1 => (kqK2 (fun q2 => (kqM2_rb hC h1 (by omega) (fun M7 h3 => (kqK2 (fun q4 => (kqM2_rb hC h3 (by omega) (fun M9 h5 => (kqB22 (y_DX18_shoot hC h5) (fun M10 L11 h6 => (kqB22 (y_DX18_shoot hC h6) (fun M12 L13 h7 => (kqS2 h7)))))))))))))))
theorem y_DX18_store {P : mwM → mwL → Prop} (hC : CPrb P) {fu : Nat} {a1 : Int32} {M : mwM} {L : mwL} (h : P M L) : kq2 P (DX18_store fu a1 M L) := by
  unfold DX18_store
  exact (kqK2 (fun q1 => (kqI2 (kqB32 (y_DX18_entries hC h) (fun r18 M16 L17 h2 => (kqI2 (y_fX18_store_b107 hC h2) (kqB32 (y_DX18_goes hC h2) (fun r22 M20 L21 h3 => (kqI2 (kqS2 h3) (kqK2 (fun q4 => (kqM2_rb hC h3 (by omega) (fun M25 h5 => (kqI2 (y_fX18_store_b107 hC h5) (kqK2 (fun q6 => (kqM2_rb hC h5 (by omega) (fun M28 h7 => (kqM2_rb hC h7 (by omega) (fun M29 h8 => (y_fX18_store_b107 hC h8)))))))))))))))))) (kqK2 (fun q9 => (kqI2 (y_fX18_store_b40 hC h) (kqK2 (fun q10 => (y_fX18_store_b40 hC h)))))))))
theorem y_fX18_hidden_i7 {P : mwM → mwL → Prop} (hC : CPrb P) {fu : Nat} {a1 : Int32} {r7 : (Int32 × mwM × mwL) → Option (Int32 × mwM × mwL)} {v2 : Int32} (hr7 : ∀ s, P s.2.1 s.2.2 → kq3 P (r7 s)) {M : mwM} {L : mwL} (h : P M L) : kq3 P (fX18_hidden_i7 fu a1 r7 v2 M L) := by
  unfold fX18_hidden_i7
  exact (kqI3 (kqS3 h) (kqB33 (y_DX18_is hC h) (fun r4 M2 L3 h1 => (kqI3 (kqK3 (fun q2 => (kqL3 (fun x7 => (hr7 (x7, M2, L3) h1))))) (kqS3 h1)))))
theorem y_fX18_hidden_h7 {P : mwM → mwL → Prop} (hC : CPrb P) {fu : Nat} {a1 : Int32} : ∀ n s, P s.2.1 s.2.2 → kq3 P (fX18_hidden_h7 fu a1 n s) := by
  intro n
  induction n with
  | zero => intro s _; exact kqN3
  | succ n ih =>
    intro s h
    show kq3 P (fX18_hidden_i7 fu a1 (fX18_hidden_h7 fu a1 n) s.1 s.2.1 s.2.2)
    exact y_fX18_hidden_i7 hC ih h
theorem y_DX18_hidden {P : mwM → mwL → Prop} (hC : CPrb P) {fu : Nat} {a1 : Int32} {M : mwM} {L : mwL} (h : P M L) : kq3 P (DX18_hidden fu a1 M L) := by
  unfold DX18_hidden
  exact (kqK3 (fun q1 => (kqL3 (fun x9 => (y_fX18_hidden_h7 hC _ (x9, M, L) h)))))
theorem y_fX18_fails_b148 {P : mwM → mwL → Prop} (hC : CPrb P) {fu : Nat} {a1 : Int32} {M : mwM} {L : mwL} (h : P M L) : kq2 P (fX18_fails_b148 fu a1 M L) := by
  unfold fX18_fails_b148
  exact (kqS2 h)
theorem y_fX18_fails_b82 {P : mwM → mwL → Prop} (hC : CPrb P) {fu : Nat} {a1 : Int32} {M : mwM} {L : mwL} (h : P M L) : kq2 P (fX18_fails_b82 fu a1 M L) := by
  unfold fX18_fails_b82
  exact (kqB22 (y_DX18_set hC h) (fun M9 L10 h1 => (kqB22 (y_DX18_set hC h1) (fun M11 L12 h2 => (kqB22 (y_DX18_set hC h2) (fun M13 L14 h3 => (kqK2 (fun q4 => (kqM2_rb hC h3 (by omega) (fun M16 h5 => (kqK2 (fun q6 => (kqM2_rb hC h5 (by omega) (fun M18 h7 => (kqB32 (y_DX18_is hC h7) (fun r21 M19 L20 h8 => (kqB22 (y_DX18_set hC h8) (fun M22 L23 h9 => (kqI2 (kqB32 (y_DX18_hidden hC h9) (fun r27 M25 L26 h10 => (kqI2 (kqB22 (y_DX18_store hC h10) (fun M29 L30 h11 => (y_fX18_fails_b148 hC h11))) (y_fX18_fails_b148 hC h10)))) (y_fX18_fails_b148 hC h9))))))))))))))))))))
theorem y_fX18_fails_b46 {P : mwM → mwL → Prop} (hC : CPrb P) {fu : Nat} {a1 : Int32} {M : mwM} {L : mwL} (h : P M L) : kq2 P (fX18_fails_b46 fu a1 M L) := by
  unfold fX18_fails_b46
  exact (kqK2 (fun q1 => (kqI2 (y_fX18_fails_b82 hC h) (kqB22 (y_DX18_set hC h) (fun M3 L4 h2 => (kqK2 (fun q3 => (kqI2 (y_fX18_fails_b82 hC h2) (kqB22 (y_DX18_set hC h2) (fun M7 L8 h4 => (y_fX18_fails_b82 hC h4)))))))))))
theorem y_DX18_fails {P : mwM → mwL → Prop} (hC : CPrb P) {fu : Nat} {a1 : Int32} {M : mwM} {L : mwL} (h : P M L) : kq2 P (DX18_fails fu a1 M L) := by
  unfold DX18_fails
  exact (kqB22 (y_DX18_set hC h) (fun M31 L32 h1 => (kqB22 (y_DX18_set hC h1) (fun M33 L34 h2 => (kqB32 (y_DX18_is hC h2) (fun r37 M35 L36 h3 => (kqI2 (kqK2 (fun q4 => (kqI2 (y_fX18_fails_b46 hC h3) (kqK2 (fun q5 => (kqK2 (fun q6 => (kqM2_rb hC h3 (by omega) (fun M43 h7 => (y_fX18_fails_b46 hC h7)))))))))) (y_fX18_fails_b46 hC h3))))))))
theorem y_fX18_event_b224 {P : mwM → mwL → Prop} (hC : CPrb P) {fu : Nat} {a1 : Int32} {a2 : Int32} {M : mwM} {L : mwL} (h : P M L) : kq3 P (fX18_event_b224 fu a1 a2 M L) := by
  unfold fX18_event_b224
  exact (kqB33 (y_DX18_statusOf hC h) (fun r31 M29 L30 h1 => (kqS3 h1)))
theorem y_fX18_event_b111 {P : mwM → mwL → Prop} (hC : CPrb P) {fu : Nat} {a1 : Int32} {a2 : Int32} {s2 : Int32} {M : mwM} {L : mwL} (h : P M L) : kq3 P (fX18_event_b111 fu a1 a2 s2 M L) := by
  unfold fX18_event_b111
  exact (kqK3 (fun q1 => (kqM3_rb hC h (by omega) (fun M8 h2 => (kqK3 (fun q3 => (kqI3 (kqB23 (y_DX18_fails hC h2) (fun M11 L12 h4 => (y_fX18_event_b224 hC h4))) (y_fX18_event_b224 hC h2))))))))
theorem y_fX18_event_b76 {P : mwM → mwL → Prop} (hC : CPrb P) {fu : Nat} {a1 : Int32} {a2 : Int32} {s2 : Int32} {M : mwM} {L : mwL} (h : P M L) : kq3 P (fX18_event_b76 fu a1 a2 s2 M L) := by
  unfold fX18_event_b76
  exact (kqK3 (fun q1 => (kqK3 (fun q2 => (kqM3_rb hC h (by omega) (fun M3 h3 => (kqK3 (fun q4 => (kqI3 (kqK3 (fun q5 => (y_fX18_event_b111 hC h3))) (y_fX18_event_b111 hC h3))))))))))
theorem y_fX18_event_b190 {P : mwM → mwL → Prop} (hC : CPrb P) {fu : Nat} {a1 : Int32} {a2 : Int32} {s2 : Int32} {M : mwM} {L : mwL} (h : P M L) : kq3 P (fX18_event_b190 fu a1 a2 s2 M L) := by
  unfold fX18_event_b190
  exact (kqK3 (fun q1 => (kqM3_rb hC h (by omega) (fun M20 h2 => (kqK3 (fun q3 => (kqI3 (kqB23 (y_DX18_set hC h2) (fun M23 L24 h4 => (kqB23 (y_DX18_set hC h4) (fun M25 L26 h5 => (kqB23 (y_DX18_set hC h5) (fun M27 L28 h6 => (y_fX18_event_b224 hC h6))))))) (y_fX18_event_b224 hC h2))))))))
theorem y_fX18_event_b155 {P : mwM → mwL → Prop} (hC : CPrb P) {fu : Nat} {a1 : Int32} {a2 : Int32} {s2 : Int32} {M : mwM} {L : mwL} (h : P M L) : kq3 P (fX18_event_b155 fu a1 a2 s2 M L) := by
  unfold fX18_event_b155
  exact (kqK3 (fun q1 => (kqK3 (fun q2 => (kqM3_rb hC h (by omega) (fun M15 h3 => (kqK3 (fun q4 => (kqI3 (kqK3 (fun q5 => (y_fX18_event_b190 hC h3))) (y_fX18_event_b190 hC h3))))))))))
theorem y_DX18_event {P : mwM → mwL → Prop} (hC : CPrb P) {fu : Nat} {a1 : Int32} {a2 : Int32} {M : mwM} {L : mwL} (h : P M L) : kq3 P (DX18_event fu a1 a2 M L) := by
  unfold DX18_event
  exact (kqB33 (y_DX18_none hC h) (fun r34 M32 L33 h1 => (kqI3 (kqI3 (kqM3_rb hC h1 (by omega) (fun M37 h2 => (kqK3 (fun q3 => (kqI3 (kqI3 (kqK3 (fun q4 => (kqI3 (kqK3 (fun q5 => (y_fX18_event_b155 hC h2))) (y_fX18_event_b155 hC h2)))) (kqK3 (fun q6 => (kqI3 (kqK3 (fun q7 => (y_fX18_event_b76 hC h2))) (y_fX18_event_b76 hC h2))))) (kqB33 (y_DX18_statusOf hC h2) (fun r50 M48 L49 h8 => (kqS3 h8)))))))) (kqS3 h1)) (kqS3 h1))))
theorem y_fX18_cycle_b204 {P : mwM → mwL → Prop} (hC : CPrb P) {fu : Nat} {a1 : Int32} {r17 : (Int32 × mwM × mwL) → Option (Int32 × mwM × mwL)} {v2 : Int32} (hr17 : ∀ s, P s.2.1 s.2.2 → kq3 P (r17 s)) {M : mwM} {L : mwL} (h : P M L) : kq3 P (fX18_cycle_b204 fu a1 r17 v2 M L) := by
  unfold fX18_cycle_b204
  exact (kqB23 (y_DX18_set hC h) (fun M53 L54 h1 => (kqB23 (y_DX18_set hC h1) (fun M55 L56 h2 => (kqB23 (y_DX18_keep hC h2) (fun M57 L58 h3 => (kqL3 (fun x59 => (hr17 (x59, M57, L58) h3)))))))))
theorem y_fX18_cycle_b158 {P : mwM → mwL → Prop} (hC : CPrb P) {fu : Nat} {a1 : Int32} {r17 : (Int32 × mwM × mwL) → Option (Int32 × mwM × mwL)} {v2 : Int32} (hr17 : ∀ s, P s.2.1 s.2.2 → kq3 P (r17 s)) {M : mwM} {L : mwL} (h : P M L) : kq3 P (fX18_cycle_b158 fu a1 r17 v2 M L) := by
  unfold fX18_cycle_b158
  exact (kqK3 (fun q1 => (kqI3 (kqB23 (y_DX18_set hC h) (fun M43 L44 h2 => (kqK3 (fun q3 => (kqM3_rb hC h2 (by omega) (fun M46 h4 => (kqK3 (fun q5 => (kqM3_rb hC h4 (by omega) (fun M48 h6 => (kqK3 (fun q7 => (kqM3_rb hC h6 (by omega) (fun M50 h8 => (kqK3 (fun q9 => (kqM3_rb hC h8 (by omega) (fun M52 h10 => (y_fX18_cycle_b204 hC hr17 h10))))))))))))))))))) (y_fX18_cycle_b204 hC hr17 h))))
theorem y_fX18_cycle_b126 {P : mwM → mwL → Prop} (hC : CPrb P) {fu : Nat} {a1 : Int32} {r17 : (Int32 × mwM × mwL) → Option (Int32 × mwM × mwL)} {v2 : Int32} (hr17 : ∀ s, P s.2.1 s.2.2 → kq3 P (r17 s)) {M : mwM} {L : mwL} (h : P M L) : kq3 P (fX18_cycle_b126 fu a1 r17 v2 M L) := by
  unfold fX18_cycle_b126
  exact (kqI3 (y_fX18_cycle_b158 hC hr17 h) (kqB33 (y_DX18_is hC h) (fun r32 M30 L31 h1 => (kqI3 (y_fX18_cycle_b158 hC hr17 h1) (kqB33 (y_DX18_is hC h1) (fun r36 M34 L35 h2 => (kqI3 (kqK3 (fun q3 => (kqK3 (fun q4 => (kqM3_rb hC h2 (by omega) (fun M40 h5 => (y_fX18_cycle_b158 hC hr17 h5))))))) (y_fX18_cycle_b158 hC hr17 h2))))))))
theorem y_fX18_cycle_b107 {P : mwM → mwL → Prop} (hC : CPrb P) {fu : Nat} {a1 : Int32} {r17 : (Int32 × mwM × mwL) → Option (Int32 × mwM × mwL)} {v2 : Int32} {s1 : Int32} {s2 : Int32} (hr17 : ∀ s, P s.2.1 s.2.2 → kq3 P (r17 s)) {M : mwM} {L : mwL} (h : P M L) : kq3 P (fX18_cycle_b107 fu a1 r17 v2 s1 s2 M L) := by
  unfold fX18_cycle_b107
  exact (kqK3 (fun q1 => (kqM3_rb hC h (by omega) (fun M24 h2 => (kqK3 (fun q3 => (kqI3 (y_fX18_cycle_b126 hC hr17 h2) (kqB23 (y_DX18_set hC h2) (fun M27 L28 h4 => (y_fX18_cycle_b126 hC hr17 h4))))))))))
theorem y_fX18_cycle_b75 {P : mwM → mwL → Prop} (hC : CPrb P) {fu : Nat} {a1 : Int32} {r17 : (Int32 × mwM × mwL) → Option (Int32 × mwM × mwL)} {v2 : Int32} {s1 : Int32} {s2 : Int32} (hr17 : ∀ s, P s.2.1 s.2.2 → kq3 P (r17 s)) {M : mwM} {L : mwL} (h : P M L) : kq3 P (fX18_cycle_b75 fu a1 r17 v2 s1 s2 M L) := by
  unfold fX18_cycle_b75
  exact (kqK3 (fun q1 => (kqM3_rb hC h (by omega) (fun M19 h2 => (kqK3 (fun q3 => (kqI3 (y_fX18_cycle_b107 hC hr17 h2) (kqK3 (fun q4 => (y_fX18_cycle_b107 hC hr17 h2))))))))))
theorem y_fX18_cycle_i17 {P : mwM → mwL → Prop} (hC : CPrb P) {fu : Nat} {a1 : Int32} {r17 : (Int32 × mwM × mwL) → Option (Int32 × mwM × mwL)} {v2 : Int32} (hr17 : ∀ s, P s.2.1 s.2.2 → kq3 P (r17 s)) {M : mwM} {L : mwL} (h : P M L) : kq3 P (fX18_cycle_i17 fu a1 r17 v2 M L) := by
  unfold fX18_cycle_i17
  exact (kqI3 (kqM3_rb hC h (by omega) (fun M2 h1 => (kqS3 h1))) (kqB33 (y_DX18_is hC h) (fun r5 M3 L4 h2 => (kqI3 (kqB33 (y_DX18_is hC h2) (fun r9 M7 L8 h3 => (kqI3 (kqB23 (y_DX18_set hC h3) (fun M11 L12 h4 => (kqB33 (y_DX18_is hC h4) (fun r15 M13 L14 h5 => (kqI3 (y_fX18_cycle_b75 hC hr17 h5) (kqK3 (fun q6 => (y_fX18_cycle_b75 hC hr17 h5)))))))) (y_fX18_cycle_b204 hC hr17 h3)))) (y_fX18_cycle_b204 hC hr17 h2)))))
theorem y_fX18_cycle_h17 {P : mwM → mwL → Prop} (hC : CPrb P) {fu : Nat} {a1 : Int32} : ∀ n s, P s.2.1 s.2.2 → kq3 P (fX18_cycle_h17 fu a1 n s) := by
  intro n
  induction n with
  | zero => intro s _; exact kqN3
  | succ n ih =>
    intro s h
    show kq3 P (fX18_cycle_i17 fu a1 (fX18_cycle_h17 fu a1 n) s.1 s.2.1 s.2.2)
    exact y_fX18_cycle_i17 hC ih h
theorem y_DX18_cycle {P : mwM → mwL → Prop} (hC : CPrb P) {fu : Nat} {a1 : Int32} {M : mwM} {L : mwL} (h : P M L) : kq3 P (DX18_cycle fu a1 M L) := by
  unfold DX18_cycle
  exact (kqM3_rb hC h (by omega) (fun M60 h1 => (kqI3 (y_fX18_cycle_h17 hC _ (1, M60, L) h1) (kqS3 h1))))
theorem y_fX18_status_b17 {P : mwM → mwL → Prop} (hC : CPrb P) {fu : Nat} {a1 : Int32} {s0 : Int32} {M : mwM} {L : mwL} (h : P M L) : kq3 P (fX18_status_b17 fu a1 s0 M L) := by
  unfold fX18_status_b17
  exact (kqS3 h)
theorem y_DX18_status {P : mwM → mwL → Prop} (hC : CPrb P) {fu : Nat} {a1 : Int32} {M : mwM} {L : mwL} (h : P M L) : kq3 P (DX18_status fu a1 M L) := by
  unfold DX18_status
  exact (kqB33 (y_DX18_none hC h) (fun r3 M1 L2 h1 => (kqI3 (kqB33 (y_DX18_statusOf hC h1) (fun r7 M5 L6 h2 => (y_fX18_status_b17 hC h2))) (y_fX18_status_b17 hC h1))))
theorem y_fX18_snapshot_b17 {P : mwM → mwL → Prop} (hC : CPrb P) {fu : Nat} {a1 : Int32} {a2 : Int32} {a3 : Int32} {M : mwM} {L : mwL} (h : P M L) : kq3 P (fX18_snapshot_b17 fu a1 a2 a3 M L) := by
  unfold fX18_snapshot_b17
  exact (kqS3 h)
theorem y_fX18_snapshot_b37 {P : mwM → mwL → Prop} (hC : CPrb P) {fu : Nat} {a1 : Int32} {a2 : Int32} {a3 : Int32} {M : mwM} {L : mwL} (h : P M L) : kq3 P (fX18_snapshot_b37 fu a1 a2 a3 M L) := by
  unfold fX18_snapshot_b37
  exact (kqS3 h)
theorem y_DX18_snapshot {P : mwM → mwL → Prop} (hC : CPrb P) {fu : Nat} {a1 : Int32} {a2 : Int32} {a3 : Int32} {M : mwM} {L : mwL} (h : P M L) : kq3 P (DX18_snapshot fu a1 a2 a3 M L) := by
  unfold DX18_snapshot
  exact (kqB33 (y_DX18_none hC h) (fun r3 M1 L2 h1 => (kqI3 (kqK3 (fun q2 => (kqI3 (y_fX18_snapshot_b17 hC h1) (kqI3 (y_fX18_snapshot_b37 hC h1) (kqI3 (y_fX18_snapshot_b37 hC h1) (kqI3 (y_fX18_snapshot_b37 hC h1) (kqI3 (kqK3 (fun q3 => (kqS3 h1))) (y_fX18_snapshot_b37 hC h1)))))))) (y_fX18_snapshot_b17 hC h1))))
theorem y_fX18_clear_b15 {P : mwM → mwL → Prop} (hC : CPrb P) {fu : Nat} {a1 : Int32} {M : mwM} {L : mwL} (h : P M L) : kq3 P (fX18_clear_b15 fu a1 M L) := by
  unfold fX18_clear_b15
  exact (kqS3 h)
theorem y_fX18_clear_b35 {P : mwM → mwL → Prop} (hC : CPrb P) {fu : Nat} {a1 : Int32} {M : mwM} {L : mwL} (h : P M L) : kq3 P (fX18_clear_b35 fu a1 M L) := by
  unfold fX18_clear_b35
  exact (kqS3 h)
theorem y_fX18_clear_b90 {P : mwM → mwL → Prop} (hC : CPrb P) {fu : Nat} {a1 : Int32} {r42 : (Int32 × Int32 × mwM × mwL) → Option (Int32 × mwM × mwL)} {v2 : Int32} {v3 : Int32} (hr42 : ∀ s, P s.2.2.1 s.2.2.2 → kq3 P (r42 s)) {M : mwM} {L : mwL} (h : P M L) : kq3 P (fX18_clear_b90 fu a1 r42 v2 v3 M L) := by
  unfold fX18_clear_b90
  exact (kqL3 (fun x13 => (hr42 (v2, x13, M, L) h)))
theorem y_fX18_clear_b70 {P : mwM → mwL → Prop} (hC : CPrb P) {fu : Nat} {a1 : Int32} {r42 : (Int32 × Int32 × mwM × mwL) → Option (Int32 × mwM × mwL)} {v2 : Int32} {v3 : Int32} (hr42 : ∀ s, P s.2.2.1 s.2.2.2 → kq3 P (r42 s)) {M : mwM} {L : mwL} (h : P M L) : kq3 P (fX18_clear_b70 fu a1 r42 v2 v3 M L) := by
  unfold fX18_clear_b70
  exact (kqB23 (y_DX18_freshen hC h) (fun M6 L7 h1 => (kqB23 (y_DX18_keep hC h1) (fun M8 L9 h2 => (kqK3 (fun q3 => (kqM3_rb hC h2 (by omega) (fun M11 h4 => (kqL3 (fun x12 => (y_fX18_clear_b90 hC hr42 h4)))))))))))
theorem y_fX18_clear_i42 {P : mwM → mwL → Prop} (hC : CPrb P) {fu : Nat} {a1 : Int32} {r42 : (Int32 × Int32 × mwM × mwL) → Option (Int32 × mwM × mwL)} {v2 : Int32} {v3 : Int32} (hr42 : ∀ s, P s.2.2.1 s.2.2.2 → kq3 P (r42 s)) {M : mwM} {L : mwL} (h : P M L) : kq3 P (fX18_clear_i42 fu a1 r42 v2 v3 M L) := by
  unfold fX18_clear_i42
  exact (kqI3 (kqS3 h) (kqI3 (y_fX18_clear_b70 hC hr42 h) (kqK3 (fun q1 => (kqI3 (y_fX18_clear_b70 hC hr42 h) (y_fX18_clear_b90 hC hr42 h))))))
theorem y_fX18_clear_h42 {P : mwM → mwL → Prop} (hC : CPrb P) {fu : Nat} {a1 : Int32} : ∀ n s, P s.2.2.1 s.2.2.2 → kq3 P (fX18_clear_h42 fu a1 n s) := by
  intro n
  induction n with
  | zero => intro s _; exact kqN3
  | succ n ih =>
    intro s h
    show kq3 P (fX18_clear_i42 fu a1 (fX18_clear_h42 fu a1 n) s.1 s.2.1 s.2.2.1 s.2.2.2)
    exact y_fX18_clear_i42 hC ih h
theorem y_DX18_clear {P : mwM → mwL → Prop} (hC : CPrb P) {fu : Nat} {a1 : Int32} {M : mwM} {L : mwL} (h : P M L) : kq3 P (DX18_clear fu a1 M L) := by
  unfold DX18_clear
  exact (kqM3_rb hC h (by omega) (fun M14 h1 => (kqI3 (y_fX18_clear_b15 hC h1) (kqI3 (kqI3 (kqI3 (y_fX18_clear_h42 hC _ (0, 1, M14, L) h1) (y_fX18_clear_b35 hC h1)) (y_fX18_clear_b35 hC h1)) (y_fX18_clear_b15 hC h1)))))
theorem y_fX18_stored_b31 {P : mwM → mwL → Prop} (hC : CPrb P) {fu : Nat} {a1 : Int32} {a2 : Int32} {M : mwM} {L : mwL} (h : P M L) : kq3 P (fX18_stored_b31 fu a1 a2 M L) := by
  unfold fX18_stored_b31
  exact (kqS3 h)
theorem y_fX18_stored_b42 {P : mwM → mwL → Prop} (hC : CPrb P) {fu : Nat} {a1 : Int32} {a2 : Int32} {M : mwM} {L : mwL} (h : P M L) : kq3 P (fX18_stored_b42 fu a1 a2 M L) := by
  unfold fX18_stored_b42
  exact (kqS3 h)
theorem y_fX18_stored_b157 {P : mwM → mwL → Prop} (hC : CPrb P) {fu : Nat} {a1 : Int32} {a2 : Int32} {r47 : (Int32 × mwM × mwL) → Option (Int32 × mwM × mwL)} {v3 : Int32} (hr47 : ∀ s, P s.2.1 s.2.2 → kq3 P (r47 s)) {M : mwM} {L : mwL} (h : P M L) : kq3 P (fX18_stored_b157 fu a1 a2 r47 v3 M L) := by
  unfold fX18_stored_b157
  exact (kqL3 (fun x23 => (hr47 (x23, M, L) h)))
theorem y_fX18_stored_b156 {P : mwM → mwL → Prop} (hC : CPrb P) {fu : Nat} {a1 : Int32} {a2 : Int32} {s0 : Int32} {M : mwM} {L : mwL} (h : P M L) : kq3 P (fX18_stored_b156 fu a1 a2 s0 M L) := by
  unfold fX18_stored_b156
  exact (kqS3 h)
theorem y_fX18_stored_b105 {P : mwM → mwL → Prop} (hC : CPrb P) {fu : Nat} {a1 : Int32} {a2 : Int32} {r47 : (Int32 × mwM × mwL) → Option (Int32 × mwM × mwL)} {r61 : (Int32 × Int32 × Int32 × mwM × mwL) → Option (Int32 × mwM × mwL)} {v3 : Int32} {v5 : Int32} {s0 : Int32} (hr47 : ∀ s, P s.2.1 s.2.2 → kq3 P (r47 s)) (hr61 : ∀ s, P s.2.2.2.1 s.2.2.2.2 → kq3 P (r61 s)) {M : mwM} {L : mwL} (h : P M L) : kq3 P (fX18_stored_b105 fu a1 a2 r47 r61 v3 v5 s0 M L) := by
  unfold fX18_stored_b105
  exact (kqL3 (fun x22 => (hr61 (v3, s0, x22, M, L) h)))
theorem y_fX18_stored_b103 {P : mwM → mwL → Prop} (hC : CPrb P) {fu : Nat} {a1 : Int32} {a2 : Int32} {r47 : (Int32 × mwM × mwL) → Option (Int32 × mwM × mwL)} {r61 : (Int32 × Int32 × Int32 × mwM × mwL) → Option (Int32 × mwM × mwL)} {v3 : Int32} {v4 : Int32} {v5 : Int32} (hr47 : ∀ s, P s.2.1 s.2.2 → kq3 P (r47 s)) (hr61 : ∀ s, P s.2.2.2.1 s.2.2.2.2 → kq3 P (r61 s)) {M : mwM} {L : mwL} (h : P M L) : kq3 P (fX18_stored_b103 fu a1 a2 r47 r61 v3 v4 v5 M L) := by
  unfold fX18_stored_b103
  exact (y_fX18_stored_b105 hC hr47 hr61 h)
theorem y_fX18_stored_i61 {P : mwM → mwL → Prop} (hC : CPrb P) {fu : Nat} {a1 : Int32} {a2 : Int32} {r47 : (Int32 × mwM × mwL) → Option (Int32 × mwM × mwL)} {r61 : (Int32 × Int32 × Int32 × mwM × mwL) → Option (Int32 × mwM × mwL)} {v3 : Int32} {v4 : Int32} {v5 : Int32} (hr47 : ∀ s, P s.2.1 s.2.2 → kq3 P (r47 s)) (hr61 : ∀ s, P s.2.2.2.1 s.2.2.2.2 → kq3 P (r61 s)) {M : mwM} {L : mwL} (h : P M L) : kq3 P (fX18_stored_i61 fu a1 a2 r47 r61 v3 v4 v5 M L) := by
  unfold fX18_stored_i61
  exact (kqI3 (kqK3 (fun q1 => (kqI3 (y_fX18_stored_b157 hC hr47 h) (kqI3 (kqI3 (y_fX18_stored_b156 hC h) (kqI3 (kqK3 (fun q2 => (y_fX18_stored_b156 hC h))) (kqK3 (fun q3 => (y_fX18_stored_b156 hC h))))) (y_fX18_stored_b157 hC hr47 h))))) (kqK3 (fun q4 => (kqI3 (y_fX18_stored_b103 hC hr47 hr61 h) (kqK3 (fun q5 => (kqK3 (fun q6 => (kqI3 (y_fX18_stored_b103 hC hr47 hr61 h) (y_fX18_stored_b105 hC hr47 hr61 h))))))))))
theorem y_fX18_stored_h61 {P : mwM → mwL → Prop} (hC : CPrb P) {fu : Nat} {a1 : Int32} {a2 : Int32} {r47 : (Int32 × mwM × mwL) → Option (Int32 × mwM × mwL)} (hr47 : ∀ s, P s.2.1 s.2.2 → kq3 P (r47 s)) : ∀ n s, P s.2.2.2.1 s.2.2.2.2 → kq3 P (fX18_stored_h61 fu a1 a2 r47 n s) := by
  intro n
  induction n with
  | zero => intro s _; exact kqN3
  | succ n ih =>
    intro s h
    show kq3 P (fX18_stored_i61 fu a1 a2 r47 (fX18_stored_h61 fu a1 a2 r47 n) s.1 s.2.1 s.2.2.1 s.2.2.2.1 s.2.2.2.2)
    exact y_fX18_stored_i61 hC hr47 ih h
theorem y_fX18_stored_i47 {P : mwM → mwL → Prop} (hC : CPrb P) {fu : Nat} {a1 : Int32} {a2 : Int32} {r47 : (Int32 × mwM × mwL) → Option (Int32 × mwM × mwL)} {v3 : Int32} (hr47 : ∀ s, P s.2.1 s.2.2 → kq3 P (r47 s)) {M : mwM} {L : mwL} (h : P M L) : kq3 P (fX18_stored_i47 fu a1 a2 r47 v3 M L) := by
  unfold fX18_stored_i47
  exact (kqI3 (kqS3 h) (y_fX18_stored_h61 hC hr47 _ (v3, 0, 1, M, L) h))
theorem y_fX18_stored_h47 {P : mwM → mwL → Prop} (hC : CPrb P) {fu : Nat} {a1 : Int32} {a2 : Int32} : ∀ n s, P s.2.1 s.2.2 → kq3 P (fX18_stored_h47 fu a1 a2 n s) := by
  intro n
  induction n with
  | zero => intro s _; exact kqN3
  | succ n ih =>
    intro s h
    show kq3 P (fX18_stored_i47 fu a1 a2 (fX18_stored_h47 fu a1 a2 n) s.1 s.2.1 s.2.2)
    exact y_fX18_stored_i47 hC ih h
