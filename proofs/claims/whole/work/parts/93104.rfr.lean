/-! FRAMES: printed by frp.py -/
theorem y_fX19_microsecond_b50 {P : mwM → mwL → Prop} (hC : CPrb P) {fu : Nat} {r2 : (Int32 × mwM × mwL) → Option (mwM × mwL)} {v1 : Int32} (hr2 : ∀ s, P s.2.1 s.2.2 → kq2 P (r2 s)) {M : mwM} {L : mwL} (h : P M L) : kq2 P (fX19_microsecond_b50 fu r2 v1 M L) := by
  unfold fX19_microsecond_b50
  exact (kqL2 (fun x11 => (hr2 (x11, M, L) h)))
theorem y_fX19_microsecond_i2 {P : mwM → mwL → Prop} (hC : CPrb P) {fu : Nat} {r2 : (Int32 × mwM × mwL) → Option (mwM × mwL)} {v1 : Int32} (hr2 : ∀ s, P s.2.1 s.2.2 → kq2 P (r2 s)) {M : mwM} {L : mwL} (h : P M L) : kq2 P (fX19_microsecond_i2 fu r2 v1 M L) := by
  unfold fX19_microsecond_i2
  exact (kqI2 (y_fX19_microsecond_b56 hC h) (kqI2 (y_fX19_microsecond_b56 hC h) (kqK2 (fun q1 => (kq_mnz2 (kqI2 (kqK2 (fun q2 => (kqK2 (fun q3 => (kqI2 (kqB22 (y_DX19_send hC h) (fun M9 L10 h4 => (y_fX19_microsecond_b50 hC hr2 h4))) (y_fX19_microsecond_b50 hC hr2 h)))))) (y_fX19_microsecond_b50 hC hr2 h)))))))
theorem y_fX19_microsecond_h2 {P : mwM → mwL → Prop} (hC : CPrb P) {fu : Nat} : ∀ n s, P s.2.1 s.2.2 → kq2 P (fX19_microsecond_h2 fu n s) := by
  intro n
  induction n with
  | zero => intro s _; exact kqN2
  | succ n ih =>
    intro s h
    show kq2 P (fX19_microsecond_i2 fu (fX19_microsecond_h2 fu n) s.1 s.2.1 s.2.2)
    exact y_fX19_microsecond_i2 hC ih h
theorem y_DX19_microsecond {P : mwM → mwL → Prop} (hC : CPrb P) {fu : Nat} {M : mwM} {L : mwL} (h : P M L) : kq2 P (DX19_microsecond fu M L) := by
  unfold DX19_microsecond
  exact (y_fX19_microsecond_h2 hC _ (0, M, L) h)
theorem y_fX19_run_i57 {P : mwM → mwL → Prop} (hC : CPrb P) {fu : Nat} {a1 : Int32} {r57 : (Int32 × Int32 × mwM × mwL) → Option (Int32 × mwM × mwL)} {v2 : Int32} {v3 : Int32} (hr57 : ∀ s, P s.2.2.1 s.2.2.2 → kq3 P (r57 s)) {M : mwM} {L : mwL} (h : P M L) : kq3 P (fX19_run_i57 fu a1 r57 v2 v3 M L) := by
  unfold fX19_run_i57
  exact (kqI3 (kqB33 (y_DX12_done hC h) (fun r9 M7 L8 h1 => (kqS3 h1))) (kqB23 (y_DX19_microsecond hC h) (fun M10 L11 h2 => (kqL3 (fun x12 => (hr57 (v2, x12, M10, L11) h2))))))
theorem y_fX19_run_h57 {P : mwM → mwL → Prop} (hC : CPrb P) {fu : Nat} {a1 : Int32} : ∀ n s, P s.2.2.1 s.2.2.2 → kq3 P (fX19_run_h57 fu a1 n s) := by
  intro n
  induction n with
  | zero => intro s _; exact kqN3
  | succ n ih =>
    intro s h
    show kq3 P (fX19_run_i57 fu a1 (fX19_run_h57 fu a1 n) s.1 s.2.1 s.2.2.1 s.2.2.2)
    exact y_fX19_run_i57 hC ih h
theorem y_fX19_run_b33 {P : mwM → mwL → Prop} (hC : CPrb P) {fu : Nat} {a1 : Int32} {s1 : Int32} {M : mwM} {L : mwL} (h : P M L) : kq3 P (fX19_run_b33 fu a1 s1 M L) := by
  unfold fX19_run_b33
  exact (kqM3_rb hC h (by omega) (fun M1 h1 => (kqI3 (kqB33 (y_DX12_done hC h1) (fun r5 M3 L4 h2 => (y_fX19_run_h57 hC _ (r5, 0, M3, L4) h2))) (kqS3 h1))))
theorem y_fX19_run_b28 {P : mwM → mwL → Prop} (hC : CPrb P) {fu : Nat} {a1 : Int32} {M : mwM} {L : mwL} (h : P M L) : kq3 P (fX19_run_b28 fu a1 M L) := by
  unfold fX19_run_b28
  exact (y_fX19_run_b33 hC h)
theorem y_DX19_run {P : mwM → mwL → Prop} (hC : CPrb P) {fu : Nat} {a1 : Int32} {M : mwM} {L : mwL} (h : P M L) : kq3 P (DX19_run fu a1 M L) := by
  unfold DX19_run
  exact (kqI3 (kqI3 (y_fX19_run_b28 hC h) (kqI3 (y_fX19_run_b33 hC h) (y_fX19_run_b28 hC h))) (y_fX19_run_b33 hC h))
theorem y_DX19_place {P : mwM → mwL → Prop} (hC : CPrb P) {fu : Nat} {M : mwM} {L : mwL} (h : P M L) : kq3 P (DX19_place fu M L) := by
  unfold DX19_place
  exact (kqM3_rb hC h (by omega) (fun M1 h1 => (kqS3 h1)))
theorem y_fX19_count_b110 {P : mwM → mwL → Prop} (hC : CPrb P) {fu : Nat} {a1 : Int32} {s0 : Int32} {M : mwM} {L : mwL} (h : P M L) : kq3 P (fX19_count_b110 fu a1 s0 M L) := by
  unfold fX19_count_b110
  exact (kqS3 h)
theorem y_fX19_count_b81 {P : mwM → mwL → Prop} (hC : CPrb P) {fu : Nat} {a1 : Int32} {s0 : Int32} {M : mwM} {L : mwL} (h : P M L) : kq3 P (fX19_count_b81 fu a1 s0 M L) := by
  unfold fX19_count_b81
  exact (kqS3 h)
theorem y_fX19_count_b59 {P : mwM → mwL → Prop} (hC : CPrb P) {fu : Nat} {a1 : Int32} {s0 : Int32} {M : mwM} {L : mwL} (h : P M L) : kq3 P (fX19_count_b59 fu a1 s0 M L) := by
  unfold fX19_count_b59
  exact (kqS3 h)
theorem y_fX19_count_b27 {P : mwM → mwL → Prop} (hC : CPrb P) {fu : Nat} {a1 : Int32} {s1 : Int32} {M : mwM} {L : mwL} (h : P M L) : kq3 P (fX19_count_b27 fu a1 s1 M L) := by
  unfold fX19_count_b27
  exact (kqM3_rb hC h (by omega) (fun M1 h1 => (kqI3 (kqI3 (kqI3 (kqI3 (y_fX19_count_b110 hC h1) (kqI3 (y_fX19_count_b110 hC h1) (y_fX19_count_b110 hC h1))) (kqI3 (y_fX19_count_b81 hC h1) (y_fX19_count_b81 hC h1))) (kqI3 (y_fX19_count_b59 hC h1) (y_fX19_count_b59 hC h1))) (kqS3 h1))))
theorem y_fX19_count_b11 {P : mwM → mwL → Prop} (hC : CPrb P) {fu : Nat} {a1 : Int32} {M : mwM} {L : mwL} (h : P M L) : kq3 P (fX19_count_b11 fu a1 M L) := by
  unfold fX19_count_b11
  exact (y_fX19_count_b27 hC h)
theorem y_DX19_count {P : mwM → mwL → Prop} (hC : CPrb P) {fu : Nat} {a1 : Int32} {M : mwM} {L : mwL} (h : P M L) : kq3 P (DX19_count fu a1 M L) := by
  unfold DX19_count
  exact (kqI3 (y_fX19_count_b11 hC h) (kqI3 (kqI3 (y_fX19_count_b27 hC h) (y_fX19_count_b27 hC h)) (y_fX19_count_b11 hC h)))
theorem y_fX19_frame_b111 {P : mwM → mwL → Prop} (hC : CPrb P) {fu : Nat} {a1 : Int32} {a2 : Int32} {s0 : Int32} {M : mwM} {L : mwL} (h : P M L) : kq3 P (fX19_frame_b111 fu a1 a2 s0 M L) := by
  unfold fX19_frame_b111
  exact (kqS3 h)
theorem y_fX19_frame_b38 {P : mwM → mwL → Prop} (hC : CPrb P) {fu : Nat} {a1 : Int32} {a2 : Int32} {s1 : Int32} {M : mwM} {L : mwL} (h : P M L) : kq3 P (fX19_frame_b38 fu a1 a2 s1 M L) := by
  unfold fX19_frame_b38
  exact (kqM3_rb hC h (by omega) (fun M1 h1 => (kqI3 (kqI3 (kqK3 (fun q2 => (kqS3 h1))) (kqI3 (kqK3 (fun q3 => (kqS3 h1))) (kqI3 (kqK3 (fun q4 => (kqS3 h1))) (kqI3 (kqK3 (fun q5 => (y_fX19_frame_b111 hC h1))) (kqK3 (fun q6 => (y_fX19_frame_b111 hC h1))))))) (kqS3 h1))))
theorem y_fX19_frame_b20 {P : mwM → mwL → Prop} (hC : CPrb P) {fu : Nat} {a1 : Int32} {a2 : Int32} {M : mwM} {L : mwL} (h : P M L) : kq3 P (fX19_frame_b20 fu a1 a2 M L) := by
  unfold fX19_frame_b20
  exact (y_fX19_frame_b38 hC h)
theorem y_fX19_frame_b33 {P : mwM → mwL → Prop} (hC : CPrb P) {fu : Nat} {a1 : Int32} {a2 : Int32} {M : mwM} {L : mwL} (h : P M L) : kq3 P (fX19_frame_b33 fu a1 a2 M L) := by
  unfold fX19_frame_b33
  exact (y_fX19_frame_b38 hC h)
theorem y_DX19_frame {P : mwM → mwL → Prop} (hC : CPrb P) {fu : Nat} {a1 : Int32} {a2 : Int32} {M : mwM} {L : mwL} (h : P M L) : kq3 P (DX19_frame fu a1 a2 M L) := by
  unfold DX19_frame
  exact (kqI3 (y_fX19_frame_b20 hC h) (kqI3 (y_fX19_frame_b20 hC h) (kqI3 (kqI3 (y_fX19_frame_b33 hC h) (kqI3 (y_fX19_frame_b38 hC h) (y_fX19_frame_b33 hC h))) (y_fX19_frame_b20 hC h))))
theorem y_fX19_signal_b56 {P : mwM → mwL → Prop} (hC : CPrb P) {fu : Nat} {a1 : Int32} {a2 : Int32} {s0 : Int32} {M : mwM} {L : mwL} (h : P M L) : kq3 P (fX19_signal_b56 fu a1 a2 s0 M L) := by
  unfold fX19_signal_b56
  exact (kqS3 h)
theorem y_fX19_signal_b25 {P : mwM → mwL → Prop} (hC : CPrb P) {fu : Nat} {a1 : Int32} {a2 : Int32} {s1 : Int32} {M : mwM} {L : mwL} (h : P M L) : kq3 P (fX19_signal_b25 fu a1 a2 s1 M L) := by
  unfold fX19_signal_b25
  exact (kqM3_rb hC h (by omega) (fun M1 h1 => (kqI3 (kqI3 (kqK3 (fun q2 => (y_fX19_signal_b56 hC h1))) (kqK3 (fun q3 => (y_fX19_signal_b56 hC h1)))) (kqS3 h1))))
theorem y_fX19_signal_b20 {P : mwM → mwL → Prop} (hC : CPrb P) {fu : Nat} {a1 : Int32} {a2 : Int32} {M : mwM} {L : mwL} (h : P M L) : kq3 P (fX19_signal_b20 fu a1 a2 M L) := by
  unfold fX19_signal_b20
  exact (y_fX19_signal_b25 hC h)
theorem y_DX19_signal {P : mwM → mwL → Prop} (hC : CPrb P) {fu : Nat} {a1 : Int32} {a2 : Int32} {M : mwM} {L : mwL} (h : P M L) : kq3 P (DX19_signal fu a1 a2 M L) := by
  unfold DX19_signal
  exact (kqI3 (y_fX19_signal_b20 hC h) (kqI3 (y_fX19_signal_b20 hC h) (kqI3 (y_fX19_signal_b25 hC h) (y_fX19_signal_b20 hC h))))
theorem y_fX19_time_b20 {P : mwM → mwL → Prop} (hC : CPrb P) {fu : Nat} {s0 : Int32} {M : mwM} {L : mwL} (h : P M L) : kq3 P (fX19_time_b20 fu s0 M L) := by
  unfold fX19_time_b20
  exact (kqS3 h)
theorem y_DX19_time {P : mwM → mwL → Prop} (hC : CPrb P) {fu : Nat} {M : mwM} {L : mwL} (h : P M L) : kq3 P (DX19_time fu M L) := by
  unfold DX19_time
  exact (kqM3_rb hC h (by omega) (fun M1 h1 => (kqI3 (y_fX19_time_b20 hC h1) (y_fX19_time_b20 hC h1))))
theorem y_fX19_bit_b47 {P : mwM → mwL → Prop} (hC : CPrb P) {fu : Nat} {a1 : Int32} {s0 : Int32} {M : mwM} {L : mwL} (h : P M L) : kq3 P (fX19_bit_b47 fu a1 s0 M L) := by
  unfold fX19_bit_b47
  exact (kqS3 h)
theorem y_fX19_bit_b25 {P : mwM → mwL → Prop} (hC : CPrb P) {fu : Nat} {a1 : Int32} {s1 : Int32} {M : mwM} {L : mwL} (h : P M L) : kq3 P (fX19_bit_b25 fu a1 s1 M L) := by
  unfold fX19_bit_b25
  exact (kqM3_rb hC h (by omega) (fun M1 h1 => (kqI3 (kqB33 (y_DX12_bit hC h1) (fun r5 M3 L4 h2 => (y_fX19_bit_b47 hC h2))) (y_fX19_bit_b47 hC h1))))
theorem y_fX19_bit_b20 {P : mwM → mwL → Prop} (hC : CPrb P) {fu : Nat} {a1 : Int32} {M : mwM} {L : mwL} (h : P M L) : kq3 P (fX19_bit_b20 fu a1 M L) := by
  unfold fX19_bit_b20
  exact (y_fX19_bit_b25 hC h)
theorem y_DX19_bit {P : mwM → mwL → Prop} (hC : CPrb P) {fu : Nat} {a1 : Int32} {M : mwM} {L : mwL} (h : P M L) : kq3 P (DX19_bit fu a1 M L) := by
  unfold DX19_bit
  exact (kqI3 (y_fX19_bit_b20 hC h) (kqI3 (y_fX19_bit_b20 hC h) (kqI3 (y_fX19_bit_b25 hC h) (y_fX19_bit_b20 hC h))))
theorem y_fX19_node_b91 {P : mwM → mwL → Prop} (hC : CPrb P) {fu : Nat} {a1 : Int32} {a2 : Int32} {s0 : Int32} {M : mwM} {L : mwL} (h : P M L) : kq3 P (fX19_node_b91 fu a1 a2 s0 M L) := by
  unfold fX19_node_b91
  exact (kqS3 h)
theorem y_fX19_node_b38 {P : mwM → mwL → Prop} (hC : CPrb P) {fu : Nat} {a1 : Int32} {a2 : Int32} {s1 : Int32} {M : mwM} {L : mwL} (h : P M L) : kq3 P (fX19_node_b38 fu a1 a2 s1 M L) := by
  unfold fX19_node_b38
  exact (kqM3_rb hC h (by omega) (fun M1 h1 => (kqI3 (kqI3 (kqB33 (y_DX12_state hC h1) (fun r13 M11 L12 h2 => (y_fX19_node_b91 hC h2))) (kqI3 (kqB33 (y_DX12_waiting hC h1) (fun r10 M8 L9 h3 => (y_fX19_node_b91 hC h3))) (kqB33 (y_DX12_taken hC h1) (fun r7 M5 L6 h4 => (y_fX19_node_b91 hC h4))))) (kqS3 h1))))
theorem y_fX19_node_b20 {P : mwM → mwL → Prop} (hC : CPrb P) {fu : Nat} {a1 : Int32} {a2 : Int32} {M : mwM} {L : mwL} (h : P M L) : kq3 P (fX19_node_b20 fu a1 a2 M L) := by
  unfold fX19_node_b20
  exact (y_fX19_node_b38 hC h)
theorem y_fX19_node_b33 {P : mwM → mwL → Prop} (hC : CPrb P) {fu : Nat} {a1 : Int32} {a2 : Int32} {M : mwM} {L : mwL} (h : P M L) : kq3 P (fX19_node_b33 fu a1 a2 M L) := by
  unfold fX19_node_b33
  exact (y_fX19_node_b38 hC h)
theorem y_DX19_node {P : mwM → mwL → Prop} (hC : CPrb P) {fu : Nat} {a1 : Int32} {a2 : Int32} {M : mwM} {L : mwL} (h : P M L) : kq3 P (DX19_node fu a1 a2 M L) := by
  unfold DX19_node
  exact (kqI3 (y_fX19_node_b20 hC h) (kqI3 (y_fX19_node_b20 hC h) (kqI3 (kqI3 (y_fX19_node_b33 hC h) (kqI3 (y_fX19_node_b38 hC h) (y_fX19_node_b33 hC h))) (y_fX19_node_b20 hC h))))
theorem y_fX19_error_b58 {P : mwM → mwL → Prop} (hC : CPrb P) {fu : Nat} {a1 : Int32} {a2 : Int32} {s0 : Int32} {M : mwM} {L : mwL} (h : P M L) : kq3 P (fX19_error_b58 fu a1 a2 s0 M L) := by
  unfold fX19_error_b58
  exact (kqS3 h)
theorem y_fX19_error_b13 {P : mwM → mwL → Prop} (hC : CPrb P) {fu : Nat} {a1 : Int32} {a2 : Int32} {s1 : Int32} {M : mwM} {L : mwL} (h : P M L) : kq3 P (fX19_error_b13 fu a1 a2 s1 M L) := by
  unfold fX19_error_b13
  exact (kqM3_rb hC h (by omega) (fun M1 h1 => (kqI3 (kqB33 (y_DX12_error hC h1) (fun r5 M3 L4 h2 => (kqB33 (y_DX12_thrown hC h2) (fun r8 M6 L7 h3 => (kqM3_rb hC h3 (by omega) (fun M9 h4 => (kqI3 (y_fX19_error_b58 hC h4) (y_fX19_error_b58 hC h4)))))))) (kqS3 h1))))
theorem y_DX19_error {P : mwM → mwL → Prop} (hC : CPrb P) {fu : Nat} {a1 : Int32} {a2 : Int32} {M : mwM} {L : mwL} (h : P M L) : kq3 P (DX19_error fu a1 a2 M L) := by
  unfold DX19_error
  exact (kqI3 (y_fX19_error_b13 hC h) (y_fX19_error_b13 hC h))
theorem y_fX19_flip_b63 {P : mwM → mwL → Prop} (hC : CPrb P) {fu : Nat} {a1 : Int32} {a2 : Int32} {M : mwM} {L : mwL} (h : P M L) : kq2 P (fX19_flip_b63 fu a1 a2 M L) := by
  unfold fX19_flip_b63
  exact (kqS2 h)
theorem y_fX19_flip_b44 {P : mwM → mwL → Prop} (hC : CPrb P) {fu : Nat} {a1 : Int32} {a2 : Int32} {s1 : Int32} {M : mwM} {L : mwL} (h : P M L) : kq2 P (fX19_flip_b44 fu a1 a2 s1 M L) := by
  unfold fX19_flip_b44
  exact (kqM2_rb hC h (by omega) (fun M1 h1 => (kqI2 (kqB22 (y_DX12_flip hC h1) (fun M3 L4 h2 => (y_fX19_flip_b63 hC h2))) (y_fX19_flip_b63 hC h1))))
theorem y_fX19_flip_b20 {P : mwM → mwL → Prop} (hC : CPrb P) {fu : Nat} {a1 : Int32} {a2 : Int32} {M : mwM} {L : mwL} (h : P M L) : kq2 P (fX19_flip_b20 fu a1 a2 M L) := by
  unfold fX19_flip_b20
  exact (y_fX19_flip_b44 hC h)
theorem y_fX19_flip_b39 {P : mwM → mwL → Prop} (hC : CPrb P) {fu : Nat} {a1 : Int32} {a2 : Int32} {M : mwM} {L : mwL} (h : P M L) : kq2 P (fX19_flip_b39 fu a1 a2 M L) := by
  unfold fX19_flip_b39
  exact (y_fX19_flip_b44 hC h)
theorem y_DX19_flip {P : mwM → mwL → Prop} (hC : CPrb P) {fu : Nat} {a1 : Int32} {a2 : Int32} {M : mwM} {L : mwL} (h : P M L) : kq2 P (DX19_flip fu a1 a2 M L) := by
  unfold DX19_flip
  exact (kqI2 (y_fX19_flip_b20 hC h) (kqI2 (y_fX19_flip_b20 hC h) (kqI2 (kqI2 (y_fX19_flip_b39 hC h) (kqI2 (y_fX19_flip_b44 hC h) (y_fX19_flip_b39 hC h))) (y_fX19_flip_b20 hC h))))
theorem y_fX19_noController_b24 {P : mwM → mwL → Prop} (hC : CPrb P) {fu : Nat} {a1 : Int32} {s0 : Int32} {M : mwM} {L : mwL} (h : P M L) : kq3 P (fX19_noController_b24 fu a1 s0 M L) := by
  unfold fX19_noController_b24
  exact (kq_mzz3 (kqS3 h))
theorem y_fX19_noController_b19 {P : mwM → mwL → Prop} (hC : CPrb P) {fu : Nat} {a1 : Int32} {M : mwM} {L : mwL} (h : P M L) : kq3 P (fX19_noController_b19 fu a1 M L) := by
  unfold fX19_noController_b19
  exact (y_fX19_noController_b24 hC h)
theorem y_DX19_noController {P : mwM → mwL → Prop} (hC : CPrb P) {fu : Nat} {a1 : Int32} {M : mwM} {L : mwL} (h : P M L) : kq3 P (DX19_noController fu a1 M L) := by
  unfold DX19_noController
  exact (kqI3 (y_fX19_noController_b19 hC h) (kqI3 (y_fX19_noController_b19 hC h) (kqI3 (y_fX19_noController_b24 hC h) (y_fX19_noController_b19 hC h))))
theorem y_fX19_silence_b62 {P : mwM → mwL → Prop} (hC : CPrb P) {fu : Nat} {a1 : Int32} {a2 : Int32} {r38 : (Int32 × Int32 × mwM × mwL) → Option (Int32 × mwM × mwL)} {v4 : Int32} {s0 : Int32} (hr38 : ∀ s, P s.2.2.1 s.2.2.2 → kq3 P (r38 s)) {M : mwM} {L : mwL} (h : P M L) : kq3 P (fX19_silence_b62 fu a1 a2 r38 v4 s0 M L) := by
  unfold fX19_silence_b62
  exact (kqL3 (fun x8 => (hr38 (s0, x8, M, L) h)))
theorem y_fX19_silence_i38 {P : mwM → mwL → Prop} (hC : CPrb P) {fu : Nat} {a1 : Int32} {a2 : Int32} {r38 : (Int32 × Int32 × mwM × mwL) → Option (Int32 × mwM × mwL)} {v3 : Int32} {v4 : Int32} (hr38 : ∀ s, P s.2.2.1 s.2.2.2 → kq3 P (r38 s)) {M : mwM} {L : mwL} (h : P M L) : kq3 P (fX19_silence_i38 fu a1 a2 r38 v3 v4 M L) := by
  unfold fX19_silence_i38
  exact (kqI3 (kqS3 h) (kqK3 (fun q1 => (kqI3 (y_fX19_silence_b62 hC hr38 h) (y_fX19_silence_b62 hC hr38 h)))))
theorem y_fX19_silence_h38 {P : mwM → mwL → Prop} (hC : CPrb P) {fu : Nat} {a1 : Int32} {a2 : Int32} : ∀ n s, P s.2.2.1 s.2.2.2 → kq3 P (fX19_silence_h38 fu a1 a2 n s) := by
  intro n
  induction n with
  | zero => intro s _; exact kqN3
  | succ n ih =>
    intro s h
    show kq3 P (fX19_silence_i38 fu a1 a2 (fX19_silence_h38 fu a1 a2 n) s.1 s.2.1 s.2.2.1 s.2.2.2)
    exact y_fX19_silence_i38 hC ih h
theorem y_fX19_silence_b14 {P : mwM → mwL → Prop} (hC : CPrb P) {fu : Nat} {a1 : Int32} {a2 : Int32} {s1 : Int32} {M : mwM} {L : mwL} (h : P M L) : kq3 P (fX19_silence_b14 fu a1 a2 s1 M L) := by
  unfold fX19_silence_b14
  exact (kqM3_rb hC h (by omega) (fun M1 h1 => (kqI3 (kqK3 (fun q2 => (kqM3_rb hC h1 (by omega) (fun M4 h3 => (y_fX19_silence_h38 hC _ (0, 0, M4, L) h3))))) (kqS3 h1))))
theorem y_DX19_silence {P : mwM → mwL → Prop} (hC : CPrb P) {fu : Nat} {a1 : Int32} {a2 : Int32} {M : mwM} {L : mwL} (h : P M L) : kq3 P (DX19_silence fu a1 a2 M L) := by
  unfold DX19_silence
  exact (kqB33 (y_DX19_noController hC h) (fun r11 M9 L10 h1 => (kqI3 (y_fX19_silence_b14 hC h1) (y_fX19_silence_b14 hC h1))))
theorem y_fX19_running_b50 {P : mwM → mwL → Prop} (hC : CPrb P) {fu : Nat} {a1 : Int32} {a2 : Int32} {s0 : Int32} {M : mwM} {L : mwL} (h : P M L) : kq3 P (fX19_running_b50 fu a1 a2 s0 M L) := by
  unfold fX19_running_b50
  exact (kqS3 h)
theorem y_fX19_running_b26 {P : mwM → mwL → Prop} (hC : CPrb P) {fu : Nat} {a1 : Int32} {a2 : Int32} {s1 : Int32} {M : mwM} {L : mwL} (h : P M L) : kq3 P (fX19_running_b26 fu a1 a2 s1 M L) := by
  unfold fX19_running_b26
  exact (kqM3_rb hC h (by omega) (fun M1 h1 => (kqI3 (kqB33 (y_DX15_running hC h1) (fun r5 M3 L4 h2 => (y_fX19_running_b50 hC h2))) (y_fX19_running_b50 hC h1))))
theorem y_fX19_running_b21 {P : mwM → mwL → Prop} (hC : CPrb P) {fu : Nat} {a1 : Int32} {a2 : Int32} {M : mwM} {L : mwL} (h : P M L) : kq3 P (fX19_running_b21 fu a1 a2 M L) := by
  unfold fX19_running_b21
  exact (y_fX19_running_b26 hC h)
theorem y_DX19_running {P : mwM → mwL → Prop} (hC : CPrb P) {fu : Nat} {a1 : Int32} {a2 : Int32} {M : mwM} {L : mwL} (h : P M L) : kq3 P (DX19_running fu a1 a2 M L) := by
  unfold DX19_running
  exact (kqB33 (y_DX19_noController hC h) (fun r8 M6 L7 h1 => (kqI3 (kqI3 (y_fX19_running_b21 hC h1) (kqI3 (y_fX19_running_b26 hC h1) (y_fX19_running_b21 hC h1))) (y_fX19_running_b21 hC h1))))
theorem y_fX19_task_b92 {P : mwM → mwL → Prop} (hC : CPrb P) {fu : Nat} {a1 : Int32} {a2 : Int32} {s0 : Int32} {M : mwM} {L : mwL} (h : P M L) : kq3 P (fX19_task_b92 fu a1 a2 s0 M L) := by
  unfold fX19_task_b92
  exact (kqS3 h)
theorem y_fX19_task_b38 {P : mwM → mwL → Prop} (hC : CPrb P) {fu : Nat} {a1 : Int32} {a2 : Int32} {s1 : Int32} {M : mwM} {L : mwL} (h : P M L) : kq3 P (fX19_task_b38 fu a1 a2 s1 M L) := by
  unfold fX19_task_b38
  exact (kqM3_rb hC h (by omega) (fun M1 h1 => (kqI3 (kqI3 (kqB33 (y_DX15_state hC h1) (fun r11 M9 L10 h2 => (y_fX19_task_b92 hC h2))) (kqI3 (kqB33 (y_DX15_used hC h1) (fun r8 M6 L7 h3 => (y_fX19_task_b92 hC h3))) (kqK3 (fun q4 => (y_fX19_task_b92 hC h1))))) (kqS3 h1))))
theorem y_fX19_task_b20 {P : mwM → mwL → Prop} (hC : CPrb P) {fu : Nat} {a1 : Int32} {a2 : Int32} {M : mwM} {L : mwL} (h : P M L) : kq3 P (fX19_task_b20 fu a1 a2 M L) := by
  unfold fX19_task_b20
  exact (y_fX19_task_b38 hC h)
theorem y_fX19_task_b33 {P : mwM → mwL → Prop} (hC : CPrb P) {fu : Nat} {a1 : Int32} {a2 : Int32} {M : mwM} {L : mwL} (h : P M L) : kq3 P (fX19_task_b33 fu a1 a2 M L) := by
  unfold fX19_task_b33
  exact (y_fX19_task_b38 hC h)
theorem y_DX19_task {P : mwM → mwL → Prop} (hC : CPrb P) {fu : Nat} {a1 : Int32} {a2 : Int32} {M : mwM} {L : mwL} (h : P M L) : kq3 P (DX19_task fu a1 a2 M L) := by
  unfold DX19_task
  exact (kqI3 (y_fX19_task_b20 hC h) (kqI3 (y_fX19_task_b20 hC h) (kqI3 (kqI3 (y_fX19_task_b33 hC h) (kqI3 (y_fX19_task_b38 hC h) (y_fX19_task_b33 hC h))) (y_fX19_task_b20 hC h))))
theorem y_fX19_noChart_b24 {P : mwM → mwL → Prop} (hC : CPrb P) {fu : Nat} {a1 : Int32} {s0 : Int32} {M : mwM} {L : mwL} (h : P M L) : kq3 P (fX19_noChart_b24 fu a1 s0 M L) := by
  unfold fX19_noChart_b24
  exact (kq_mzz3 (kqS3 h))
theorem y_fX19_noChart_b19 {P : mwM → mwL → Prop} (hC : CPrb P) {fu : Nat} {a1 : Int32} {M : mwM} {L : mwL} (h : P M L) : kq3 P (fX19_noChart_b19 fu a1 M L) := by
  unfold fX19_noChart_b19
  exact (y_fX19_noChart_b24 hC h)
theorem y_DX19_noChart {P : mwM → mwL → Prop} (hC : CPrb P) {fu : Nat} {a1 : Int32} {M : mwM} {L : mwL} (h : P M L) : kq3 P (DX19_noChart fu a1 M L) := by
  unfold DX19_noChart
  exact (kqI3 (y_fX19_noChart_b19 hC h) (kqI3 (y_fX19_noChart_b19 hC h) (kqI3 (y_fX19_noChart_b24 hC h) (y_fX19_noChart_b19 hC h))))
theorem y_fX19_active_b52 {P : mwM → mwL → Prop} (hC : CPrb P) {fu : Nat} {a1 : Int32} {a2 : Int32} {s0 : Int32} {M : mwM} {L : mwL} (h : P M L) : kq3 P (fX19_active_b52 fu a1 a2 s0 M L) := by
  unfold fX19_active_b52
  exact (kqS3 h)
theorem y_fX19_active_b28 {P : mwM → mwL → Prop} (hC : CPrb P) {fu : Nat} {a1 : Int32} {a2 : Int32} {s1 : Int32} {M : mwM} {L : mwL} (h : P M L) : kq3 P (fX19_active_b28 fu a1 a2 s1 M L) := by
  unfold fX19_active_b28
  exact (kqM3_rb hC h (by omega) (fun M1 h1 => (kqI3 (kqK3 (fun q2 => (kqB33 (y_DX13_active hC (by omega) h1) (fun r6 M4 L5 h3 => (y_fX19_active_b52 hC h3))))) (y_fX19_active_b52 hC h1))))
theorem y_fX19_active_b23 {P : mwM → mwL → Prop} (hC : CPrb P) {fu : Nat} {a1 : Int32} {a2 : Int32} {M : mwM} {L : mwL} (h : P M L) : kq3 P (fX19_active_b23 fu a1 a2 M L) := by
  unfold fX19_active_b23
  exact (y_fX19_active_b28 hC h)
theorem y_DX19_active {P : mwM → mwL → Prop} (hC : CPrb P) {fu : Nat} {a1 : Int32} {a2 : Int32} {M : mwM} {L : mwL} (h : P M L) : kq3 P (DX19_active fu a1 a2 M L) := by
  unfold DX19_active
  exact (kqB33 (y_DX19_noChart hC h) (fun r9 M7 L8 h1 => (kqI3 (kqI3 (y_fX19_active_b23 hC h1) (kqK3 (fun q2 => (kqI3 (y_fX19_active_b28 hC h1) (y_fX19_active_b23 hC h1))))) (y_fX19_active_b23 hC h1))))
theorem y_fX19_value_b48 {P : mwM → mwL → Prop} (hC : CPrb P) {fu : Nat} {a1 : Int32} {a2 : Int32} {s0 : Int64} {M : mwM} {L : mwL} (h : P M L) : kq3 P (fX19_value_b48 fu a1 a2 s0 M L) := by
  unfold fX19_value_b48
  exact (kqS3 h)
theorem y_fX19_value_b24 {P : mwM → mwL → Prop} (hC : CPrb P) {fu : Nat} {a1 : Int32} {a2 : Int32} {s1 : Int32} {M : mwM} {L : mwL} (h : P M L) : kq3 P (fX19_value_b24 fu a1 a2 s1 M L) := by
  unfold fX19_value_b24
  exact (kqM3_rb hC h (by omega) (fun M1 h1 => (kqI3 (kqK3 (fun q2 => (kqB33 (y_DX13_value hC (by omega) h1) (fun r6 M4 L5 h3 => (y_fX19_value_b48 hC h3))))) (y_fX19_value_b48 hC h1))))
theorem y_fX19_value_b19 {P : mwM → mwL → Prop} (hC : CPrb P) {fu : Nat} {a1 : Int32} {a2 : Int32} {M : mwM} {L : mwL} (h : P M L) : kq3 P (fX19_value_b19 fu a1 a2 M L) := by
  unfold fX19_value_b19
  exact (y_fX19_value_b24 hC h)
theorem y_DX19_value {P : mwM → mwL → Prop} (hC : CPrb P) {fu : Nat} {a1 : Int32} {a2 : Int32} {M : mwM} {L : mwL} (h : P M L) : kq3 P (DX19_value fu a1 a2 M L) := by
  unfold DX19_value
  exact (kqB33 (y_DX19_noChart hC h) (fun r9 M7 L8 h1 => (kqI3 (kqI3 (y_fX19_value_b19 hC h1) (kqI3 (y_fX19_value_b24 hC h1) (y_fX19_value_b19 hC h1))) (y_fX19_value_b19 hC h1))))
theorem y_fX19_chart_b81 {P : mwM → mwL → Prop} (hC : CPrb P) {fu : Nat} {a1 : Int32} {a2 : Int32} {s0 : Int32} {M : mwM} {L : mwL} (h : P M L) : kq3 P (fX19_chart_b81 fu a1 a2 s0 M L) := by
  unfold fX19_chart_b81
  exact (kqS3 h)
theorem y_fX19_chart_b28 {P : mwM → mwL → Prop} (hC : CPrb P) {fu : Nat} {a1 : Int32} {a2 : Int32} {s1 : Int32} {M : mwM} {L : mwL} (h : P M L) : kq3 P (fX19_chart_b28 fu a1 a2 s1 M L) := by
  unfold fX19_chart_b28
  exact (kqM3_rb hC h (by omega) (fun M1 h1 => (kqI3 (kqI3 (kqK3 (fun q2 => (kqB33 (y_DX13_covered hC (by omega) h1) (fun r7 M5 L6 h3 => (kqS3 h3))))) (kqI3 (kqK3 (fun q4 => (kqB33 (y_DX13_dropped hC (by omega) h1) (fun r15 M13 L14 h5 => (y_fX19_chart_b81 hC h5))))) (kqI3 (kqK3 (fun q6 => (y_fX19_chart_b81 hC h1))) (kqK3 (fun q7 => (y_fX19_chart_b81 hC h1)))))) (kqS3 h1))))
theorem y_fX19_chart_b23 {P : mwM → mwL → Prop} (hC : CPrb P) {fu : Nat} {a1 : Int32} {a2 : Int32} {M : mwM} {L : mwL} (h : P M L) : kq3 P (fX19_chart_b23 fu a1 a2 M L) := by
  unfold fX19_chart_b23
  exact (y_fX19_chart_b28 hC h)
theorem y_DX19_chart {P : mwM → mwL → Prop} (hC : CPrb P) {fu : Nat} {a1 : Int32} {a2 : Int32} {M : mwM} {L : mwL} (h : P M L) : kq3 P (DX19_chart fu a1 a2 M L) := by
  unfold DX19_chart
  exact (kqB33 (y_DX19_noChart hC h) (fun r18 M16 L17 h1 => (kqI3 (kqI3 (y_fX19_chart_b23 hC h1) (kqI3 (y_fX19_chart_b28 hC h1) (y_fX19_chart_b23 hC h1))) (y_fX19_chart_b28 hC h1))))
theorem y_fX19_trouble_b115 {P : mwM → mwL → Prop} (hC : CPrb P) {fu : Nat} {a1 : Int32} {a2 : Int32} {s0 : Int32} {M : mwM} {L : mwL} (h : P M L) : kq3 P (fX19_trouble_b115 fu a1 a2 s0 M L) := by
  unfold fX19_trouble_b115
  exact (kqS3 h)
theorem y_fX19_trouble_b85 {P : mwM → mwL → Prop} (hC : CPrb P) {fu : Nat} {a1 : Int32} {a2 : Int32} {s0 : Int32} {M : mwM} {L : mwL} (h : P M L) : kq3 P (fX19_trouble_b85 fu a1 a2 s0 M L) := by
  unfold fX19_trouble_b85
  exact (kqS3 h)
theorem y_fX19_trouble_b38 {P : mwM → mwL → Prop} (hC : CPrb P) {fu : Nat} {a1 : Int32} {a2 : Int32} {s1 : Int32} {M : mwM} {L : mwL} (h : P M L) : kq3 P (fX19_trouble_b38 fu a1 a2 s1 M L) := by
  unfold fX19_trouble_b38
  exact (kqM3_rb hC h (by omega) (fun M1 h1 => (kqI3 (kqK3 (fun q2 => (kqL3 (fun x4 => (kqI3 (kqI3 (kqB33 (y_DX18_stored hC h1) (fun r12 M10 L11 h3 => (y_fX19_trouble_b115 hC h3))) (kqB33 (y_DX18_snapshot hC h1) (fun r9 M7 L8 h4 => (y_fX19_trouble_b115 hC h4)))) (kqI3 (kqB33 (y_DX18_status hC h1) (fun r19 M17 L18 h5 => (y_fX19_trouble_b85 hC h5))) (kqB33 (y_DX18_age hC h1) (fun r16 M14 L15 h6 => (y_fX19_trouble_b85 hC h6))))))))) (kqS3 h1))))
theorem y_fX19_trouble_b20 {P : mwM → mwL → Prop} (hC : CPrb P) {fu : Nat} {a1 : Int32} {a2 : Int32} {M : mwM} {L : mwL} (h : P M L) : kq3 P (fX19_trouble_b20 fu a1 a2 M L) := by
  unfold fX19_trouble_b20
  exact (y_fX19_trouble_b38 hC h)
theorem y_fX19_trouble_b33 {P : mwM → mwL → Prop} (hC : CPrb P) {fu : Nat} {a1 : Int32} {a2 : Int32} {M : mwM} {L : mwL} (h : P M L) : kq3 P (fX19_trouble_b33 fu a1 a2 M L) := by
  unfold fX19_trouble_b33
  exact (y_fX19_trouble_b38 hC h)
theorem y_DX19_trouble {P : mwM → mwL → Prop} (hC : CPrb P) {fu : Nat} {a1 : Int32} {a2 : Int32} {M : mwM} {L : mwL} (h : P M L) : kq3 P (DX19_trouble fu a1 a2 M L) := by
  unfold DX19_trouble
  exact (kqI3 (y_fX19_trouble_b20 hC h) (kqI3 (y_fX19_trouble_b20 hC h) (kqI3 (kqI3 (y_fX19_trouble_b33 hC h) (kqI3 (y_fX19_trouble_b38 hC h) (y_fX19_trouble_b33 hC h))) (y_fX19_trouble_b20 hC h))))
theorem y_fX19_cycle_b35 {P : mwM → mwL → Prop} (hC : CPrb P) {fu : Nat} {a1 : Int32} {s0 : Int32} {M : mwM} {L : mwL} (h : P M L) : kq3 P (fX19_cycle_b35 fu a1 s0 M L) := by
  unfold fX19_cycle_b35
  exact (kqS3 h)
theorem y_fX19_cycle_b13 {P : mwM → mwL → Prop} (hC : CPrb P) {fu : Nat} {a1 : Int32} {s1 : Int32} {M : mwM} {L : mwL} (h : P M L) : kq3 P (fX19_cycle_b13 fu a1 s1 M L) := by
  unfold fX19_cycle_b13
  exact (kqM3_rb hC h (by omega) (fun M1 h1 => (kqI3 (kqB33 (y_DX18_cycle hC h1) (fun r5 M3 L4 h2 => (y_fX19_cycle_b35 hC h2))) (y_fX19_cycle_b35 hC h1))))
theorem y_DX19_cycle {P : mwM → mwL → Prop} (hC : CPrb P) {fu : Nat} {a1 : Int32} {M : mwM} {L : mwL} (h : P M L) : kq3 P (DX19_cycle fu a1 M L) := by
  unfold DX19_cycle
  exact (kqI3 (y_fX19_cycle_b13 hC h) (y_fX19_cycle_b13 hC h))
theorem y_fX19_counted_b42 {P : mwM → mwL → Prop} (hC : CPrb P) {fu : Nat} {a1 : Int32} {s0 : Int32} {M : mwM} {L : mwL} (h : P M L) : kq3 P (fX19_counted_b42 fu a1 s0 M L) := by
  unfold fX19_counted_b42
  exact (kqS3 h)
theorem y_fX19_counted_b32 {P : mwM → mwL → Prop} (hC : CPrb P) {fu : Nat} {a1 : Int32} {M : mwM} {L : mwL} (h : P M L) : kq3 P (fX19_counted_b32 fu a1 M L) := by
  unfold fX19_counted_b32
  exact (y_fX19_counted_b42 hC h)
theorem y_fX19_counted_b15 {P : mwM → mwL → Prop} (hC : CPrb P) {fu : Nat} {a1 : Int32} {s1 : Int32} {M : mwM} {L : mwL} (h : P M L) : kq3 P (fX19_counted_b15 fu a1 s1 M L) := by
  unfold fX19_counted_b15
  exact (kqM3_rb hC h (by omega) (fun M1 h1 => (kqI3 (y_fX19_counted_b32 hC h1) (kqI3 (y_fX19_counted_b32 hC h1) (kqK3 (fun q2 => (y_fX19_counted_b42 hC h1)))))))
theorem y_fX19_counted_b10 {P : mwM → mwL → Prop} (hC : CPrb P) {fu : Nat} {a1 : Int32} {M : mwM} {L : mwL} (h : P M L) : kq3 P (fX19_counted_b10 fu a1 M L) := by
  unfold fX19_counted_b10
  exact (y_fX19_counted_b15 hC h)
theorem y_DX19_counted {P : mwM → mwL → Prop} (hC : CPrb P) {fu : Nat} {a1 : Int32} {M : mwM} {L : mwL} (h : P M L) : kq3 P (DX19_counted fu a1 M L) := by
  unfold DX19_counted
  exact (kqI3 (y_fX19_counted_b10 hC h) (kqI3 (y_fX19_counted_b15 hC h) (y_fX19_counted_b10 hC h)))
theorem y_fX19_say__b38 {P : mwM → mwL → Prop} (hC : CPrb P) {fu : Nat} {a1 : Int32} {M : mwM} {L : mwL} (h : P M L) : kq3 P (fX19_say__b38 fu a1 M L) := by
  unfold fX19_say__b38
  exact (kqS3 h)
theorem y_DX19_say_ {P : mwM → mwL → Prop} (hC : CPrs P) {fu : Nat} {a1 : Int32} {M : mwM} {L : mwL} (h : P M L) : kq3 P (DX19_say_ fu a1 M L) := by
  unfold DX19_say_
  exact (kqM3_rs hC h (by omega) (fun M1 h1 => (kqI3 (y_fX19_say__b38 (csb hC) h1) (kqK3 (fun q2 => (kqM3_rs hC h1 (by omega) (fun M4 h3 => (kqM3_rs hC h3 (by omega) (fun M5 h4 => (y_fX19_say__b38 (csb hC) h4))))))))))
theorem y_fX19_ask_i60 {P : mwM → mwL → Prop} (hC : CPrs P) {fu : Nat} {a1 : Int32} {r60 : (Int32 × Int32 × mwM × mwL) → Option (Int32 × mwM × mwL)} {v2 : Int32} {v3 : Int32} (hr60 : ∀ s, P s.2.2.1 s.2.2.2 → kq3 P (r60 s)) {M : mwM} {L : mwL} (h : P M L) : kq3 P (fX19_ask_i60 fu a1 r60 v2 v3 M L) := by
  unfold fX19_ask_i60
  exact (kqI3 (kqM3_rs hC h (by omega) (fun M5 h1 => (kqM3_rs hC h1 (by omega) (fun M6 h2 => (kqM3_rs hC h2 (by omega) (fun M7 h3 => (kqM3_rs hC h3 (by omega) (fun M8 h4 => (kqB23 (y_DX19_say (csb hC) h4) (fun M9 L10 h5 => (kqS3 h5))))))))))) (kqK3 (fun q6 => (kqK3 (fun q7 => (kqM3_rs hC h (by omega) (fun M13 h8 => (kqL3 (fun x14 => (hr60 (v2, x14, M13, L) h8))))))))))
theorem y_fX19_ask_h60 {P : mwM → mwL → Prop} (hC : CPrs P) {fu : Nat} {a1 : Int32} : ∀ n s, P s.2.2.1 s.2.2.2 → kq3 P (fX19_ask_h60 fu a1 n s) := by
  intro n
  induction n with
  | zero => intro s _; exact kqN3
  | succ n ih =>
    intro s h
    show kq3 P (fX19_ask_i60 fu a1 (fX19_ask_h60 fu a1 n) s.1 s.2.1 s.2.2.1 s.2.2.2)
    exact y_fX19_ask_i60 hC ih h
theorem y_fX19_ask_b41 {P : mwM → mwL → Prop} (hC : CPrs P) {fu : Nat} {a1 : Int32} {s1 : Int32} {M : mwM} {L : mwL} (h : P M L) : kq3 P (fX19_ask_b41 fu a1 s1 M L) := by
  unfold fX19_ask_b41
  exact (kqM3_rs hC h (by omega) (fun M1 h1 => (kqI3 (kqL3 (fun x3 => (y_fX19_ask_h60 hC _ (x3, 0, M1, L) h1))) (kqS3 h1))))
theorem y_fX19_ask_b36 {P : mwM → mwL → Prop} (hC : CPrs P) {fu : Nat} {a1 : Int32} {M : mwM} {L : mwL} (h : P M L) : kq3 P (fX19_ask_b36 fu a1 M L) := by
  unfold fX19_ask_b36
  exact (y_fX19_ask_b41 hC h)
theorem y_DX19_ask {P : mwM → mwL → Prop} (hC : CPrs P) {fu : Nat} {a1 : Int32} {M : mwM} {L : mwL} (h : P M L) : kq3 P (DX19_ask fu a1 M L) := by
  unfold DX19_ask
  exact (kqB33 (y_DX19_noController (csb hC) h) (fun r17 M15 L16 h1 => (kqI3 (kqI3 (y_fX19_ask_b36 hC h1) (kqI3 (y_fX19_ask_b36 hC h1) (kqI3 (y_fX19_ask_b41 hC h1) (y_fX19_ask_b36 hC h1)))) (y_fX19_ask_b41 hC h1))))
theorem y_fX19_asking_b20 {P : mwM → mwL → Prop} (hC : CPrb P) {fu : Nat} {s0 : Int32} {M : mwM} {L : mwL} (h : P M L) : kq3 P (fX19_asking_b20 fu s0 M L) := by
  unfold fX19_asking_b20
  exact (kqS3 h)
theorem y_DX19_asking {P : mwM → mwL → Prop} (hC : CPrb P) {fu : Nat} {M : mwM} {L : mwL} (h : P M L) : kq3 P (DX19_asking fu M L) := by
  unfold DX19_asking
  exact (kqM3_rb hC h (by omega) (fun M1 h1 => (kqI3 (y_fX19_asking_b20 hC h1) (y_fX19_asking_b20 hC h1))))
theorem y_fX19_answer_b45 {P : mwM → mwL → Prop} (hC : CPrb P) {fu : Nat} {a1 : Int32} {s0 : Int32} {M : mwM} {L : mwL} (h : P M L) : kq3 P (fX19_answer_b45 fu a1 s0 M L) := by
  unfold fX19_answer_b45
  exact (kqS3 h)
theorem y_fX19_answer_b25 {P : mwM → mwL → Prop} (hC : CPrb P) {fu : Nat} {a1 : Int32} {s1 : Int32} {M : mwM} {L : mwL} (h : P M L) : kq3 P (fX19_answer_b25 fu a1 s1 M L) := by
  unfold fX19_answer_b25
  exact (kqM3_rb hC h (by omega) (fun M1 h1 => (kqI3 (kqK3 (fun q2 => (y_fX19_answer_b45 hC h1))) (y_fX19_answer_b45 hC h1))))
theorem y_fX19_answer_b20 {P : mwM → mwL → Prop} (hC : CPrb P) {fu : Nat} {a1 : Int32} {M : mwM} {L : mwL} (h : P M L) : kq3 P (fX19_answer_b20 fu a1 M L) := by
  unfold fX19_answer_b20
  exact (y_fX19_answer_b25 hC h)
theorem y_DX19_answer {P : mwM → mwL → Prop} (hC : CPrb P) {fu : Nat} {a1 : Int32} {M : mwM} {L : mwL} (h : P M L) : kq3 P (DX19_answer fu a1 M L) := by
  unfold DX19_answer
  exact (kqI3 (y_fX19_answer_b20 hC h) (kqI3 (y_fX19_answer_b20 hC h) (kqI3 (y_fX19_answer_b25 hC h) (y_fX19_answer_b20 hC h))))
theorem y_fX19_answers_b20 {P : mwM → mwL → Prop} (hC : CPrb P) {fu : Nat} {s0 : Int32} {M : mwM} {L : mwL} (h : P M L) : kq3 P (fX19_answers_b20 fu s0 M L) := by
  unfold fX19_answers_b20
  exact (kqS3 h)
theorem y_DX19_answers {P : mwM → mwL → Prop} (hC : CPrb P) {fu : Nat} {M : mwM} {L : mwL} (h : P M L) : kq3 P (DX19_answers fu M L) := by
  unfold DX19_answers
  exact (kqM3_rb hC h (by omega) (fun M1 h1 => (kqI3 (y_fX19_answers_b20 hC h1) (y_fX19_answers_b20 hC h1))))
