/-! FRAMES: printed by frp.py -/
theorem y_fX18_stored_b19 {P : mwM → mwL → Prop} (hC : CPrb P) {fu : Nat} {a1 : Int32} {a2 : Int32} {M : mwM} {L : mwL} (h : P M L) : kq3 P (fX18_stored_b19 fu a1 a2 M L) := by
  unfold fX18_stored_b19
  exact (kqI3 (y_fX18_stored_b31 hC h) (kqB33 (y_DX18_entries hC h) (fun r4 M2 L3 h1 => (kqI3 (kqI3 (y_fX18_stored_b42 hC h1) (kqI3 (y_fX18_stored_h47 hC _ (1, M2, L3) h1) (y_fX18_stored_b42 hC h1))) (y_fX18_stored_b31 hC h1)))))
theorem y_DX18_stored {P : mwM → mwL → Prop} (hC : CPrb P) {fu : Nat} {a1 : Int32} {a2 : Int32} {M : mwM} {L : mwL} (h : P M L) : kq3 P (DX18_stored fu a1 a2 M L) := by
  unfold DX18_stored
  exact (kqM3_rb hC h (by omega) (fun M24 h1 => (kqI3 (kqI3 (kqB33 (y_DX18_entries hC h1) (fun r29 M27 L28 h2 => (kqS3 h2))) (y_fX18_stored_b19 hC h1)) (y_fX18_stored_b19 hC h1))))
theorem y_fX18_age_b18 {P : mwM → mwL → Prop} (hC : CPrb P) {fu : Nat} {a1 : Int32} {s0 : Int32} {M : mwM} {L : mwL} (h : P M L) : kq3 P (fX18_age_b18 fu a1 s0 M L) := by
  unfold fX18_age_b18
  exact (kqS3 h)
theorem y_DX18_age {P : mwM → mwL → Prop} (hC : CPrb P) {fu : Nat} {a1 : Int32} {M : mwM} {L : mwL} (h : P M L) : kq3 P (DX18_age fu a1 M L) := by
  unfold DX18_age
  exact (kqB33 (y_DX18_none hC h) (fun r3 M1 L2 h1 => (kqI3 (kqK3 (fun q2 => (y_fX18_age_b18 hC h1))) (y_fX18_age_b18 hC h1))))
theorem y_DX19_thrown {P : mwM → mwL → Prop} (hC : CPrb P) {fu : Nat} {M : mwM} {L : mwL} (h : P M L) : kq3 P (DX19_thrown fu M L) := by
  unfold DX19_thrown
  exact (kqS3 h)
theorem y_fX19_character_b33 {P : mwM → mwL → Prop} (hC : CPrb P) {fu : Nat} {a1 : Int32} {a2 : Int32} {a3 : Int32} {a4 : Int32} {a5 : Int32} {s0 : Int32} {M : mwM} {L : mwL} (h : P M L) : kq3 P (fX19_character_b33 fu a1 a2 a3 a4 a5 s0 M L) := by
  unfold fX19_character_b33
  exact (kqS3 h)
theorem y_DX19_character {P : mwM → mwL → Prop} (hC : CPrb P) {fu : Nat} {a1 : Int32} {a2 : Int32} {a3 : Int32} {a4 : Int32} {a5 : Int32} {M : mwM} {L : mwL} (h : P M L) : kq3 P (DX19_character fu a1 a2 a3 a4 a5 M L) := by
  unfold DX19_character
  exact (kqI3 (kqI3 (kqI3 (y_fX19_character_b33 hC h) (y_fX19_character_b33 hC h)) (y_fX19_character_b33 hC h)) (y_fX19_character_b33 hC h))
theorem y_fX19_text_b129 {P : mwM → mwL → Prop} (hC : CPrb P) {fu : Nat} {a1 : Int32} {a2 : Int32} {a3 : Int32} {a4 : Int32} {M : mwM} {L : mwL} (h : P M L) : kq2 P (fX19_text_b129 fu a1 a2 a3 a4 M L) := by
  unfold fX19_text_b129
  exact (kqS2 h)
theorem y_fX19_text_b123 {P : mwM → mwL → Prop} (hC : CPrb P) {fu : Nat} {a1 : Int32} {a2 : Int32} {a3 : Int32} {a4 : Int32} {r68 : (Int32 × mwM × mwL) → Option (mwM × mwL)} {v6 : Int32} (hr68 : ∀ s, P s.2.1 s.2.2 → kq2 P (r68 s)) {M : mwM} {L : mwL} (h : P M L) : kq2 P (fX19_text_b123 fu a1 a2 a3 a4 r68 v6 M L) := by
  unfold fX19_text_b123
  exact (kqL2 (fun x18 => (hr68 (x18, M, L) h)))
theorem y_fX19_text_i68 {P : mwM → mwL → Prop} (hC : CPrb P) {fu : Nat} {a1 : Int32} {a2 : Int32} {a3 : Int32} {a4 : Int32} {r68 : (Int32 × mwM × mwL) → Option (mwM × mwL)} {v6 : Int32} (hr68 : ∀ s, P s.2.1 s.2.2 → kq2 P (r68 s)) {M : mwM} {L : mwL} (h : P M L) : kq2 P (fX19_text_i68 fu a1 a2 a3 a4 r68 v6 M L) := by
  unfold fX19_text_i68
  exact (kqI2 (y_fX19_text_b129 hC h) (kqI2 (kqB32 (y_DX19_character hC h) (fun r13 M11 L12 h1 => (kqI2 (y_fX19_text_b123 hC hr68 h1) (kqK2 (fun q2 => (kqM2_rb hC h1 (by omega) (fun M16 h3 => (kqM2_rb hC h3 (by omega) (fun M17 h4 => (y_fX19_text_b123 hC hr68 h4)))))))))) (y_fX19_text_b129 hC h)))
theorem y_fX19_text_h68 {P : mwM → mwL → Prop} (hC : CPrb P) {fu : Nat} {a1 : Int32} {a2 : Int32} {a3 : Int32} {a4 : Int32} : ∀ n s, P s.2.1 s.2.2 → kq2 P (fX19_text_h68 fu a1 a2 a3 a4 n s) := by
  intro n
  induction n with
  | zero => intro s _; exact kqN2
  | succ n ih =>
    intro s h
    show kq2 P (fX19_text_i68 fu a1 a2 a3 a4 (fX19_text_h68 fu a1 a2 a3 a4 n) s.1 s.2.1 s.2.2)
    exact y_fX19_text_i68 hC ih h
theorem y_fX19_text_b62 {P : mwM → mwL → Prop} (hC : CPrb P) {fu : Nat} {a1 : Int32} {a2 : Int32} {a3 : Int32} {a4 : Int32} {s1 : Int32} {M : mwM} {L : mwL} (h : P M L) : kq2 P (fX19_text_b62 fu a1 a2 a3 a4 s1 M L) := by
  unfold fX19_text_b62
  exact (kqM2_rb hC h (by omega) (fun M8 h1 => (y_fX19_text_h68 hC _ (0, M8, L) h1)))
theorem y_fX19_text_b35 {P : mwM → mwL → Prop} (hC : CPrb P) {fu : Nat} {a1 : Int32} {a2 : Int32} {a3 : Int32} {a4 : Int32} {r6 : (Int32 × Int32 × mwM × mwL) → Option (mwM × mwL)} {v6 : Int32} {s0 : Int32} (hr6 : ∀ s, P s.2.2.1 s.2.2.2 → kq2 P (r6 s)) {M : mwM} {L : mwL} (h : P M L) : kq2 P (fX19_text_b35 fu a1 a2 a3 a4 r6 v6 s0 M L) := by
  unfold fX19_text_b35
  exact (kqL2 (fun x7 => (hr6 (s0, x7, M, L) h)))
theorem y_fX19_text_i6 {P : mwM → mwL → Prop} (hC : CPrb P) {fu : Nat} {a1 : Int32} {a2 : Int32} {a3 : Int32} {a4 : Int32} {r6 : (Int32 × Int32 × mwM × mwL) → Option (mwM × mwL)} {v5 : Int32} {v6 : Int32} (hr6 : ∀ s, P s.2.2.1 s.2.2.2 → kq2 P (r6 s)) {M : mwM} {L : mwL} (h : P M L) : kq2 P (fX19_text_i6 fu a1 a2 a3 a4 r6 v5 v6 M L) := by
  unfold fX19_text_i6
  exact (kqI2 (kqI2 (y_fX19_text_b62 hC h) (y_fX19_text_b62 hC h)) (kqB32 (y_DX19_character hC h) (fun r5 M3 L4 h1 => (kqI2 (y_fX19_text_b35 hC hr6 h1) (y_fX19_text_b35 hC hr6 h1)))))
theorem y_fX19_text_h6 {P : mwM → mwL → Prop} (hC : CPrb P) {fu : Nat} {a1 : Int32} {a2 : Int32} {a3 : Int32} {a4 : Int32} : ∀ n s, P s.2.2.1 s.2.2.2 → kq2 P (fX19_text_h6 fu a1 a2 a3 a4 n s) := by
  intro n
  induction n with
  | zero => intro s _; exact kqN2
  | succ n ih =>
    intro s h
    show kq2 P (fX19_text_i6 fu a1 a2 a3 a4 (fX19_text_h6 fu a1 a2 a3 a4 n) s.1 s.2.1 s.2.2.1 s.2.2.2)
    exact y_fX19_text_i6 hC ih h
theorem y_DX19_text {P : mwM → mwL → Prop} (hC : CPrb P) {fu : Nat} {a1 : Int32} {a2 : Int32} {a3 : Int32} {a4 : Int32} {M : mwM} {L : mwL} (h : P M L) : kq2 P (DX19_text fu a1 a2 a3 a4 M L) := by
  unfold DX19_text
  exact (y_fX19_text_h6 hC _ (0, 0, M, L) h)
theorem y_fX19_cut_b18 {P : mwM → mwL → Prop} (hC : CPrb P) {fu : Nat} {a1 : Int32} {s1 : Int32} {M : mwM} {L : mwL} (h : P M L) : kq3 P (fX19_cut_b18 fu a1 s1 M L) := by
  unfold fX19_cut_b18
  exact (kqM3_rb hC h (by omega) (fun M1 h1 => (kqI3 (kqM3_rb hC h1 (by omega) (fun M3 h2 => (kqS3 h2))) (kqS3 h1))))
theorem y_fX19_cut_b13 {P : mwM → mwL → Prop} (hC : CPrb P) {fu : Nat} {a1 : Int32} {M : mwM} {L : mwL} (h : P M L) : kq3 P (fX19_cut_b13 fu a1 M L) := by
  unfold fX19_cut_b13
  exact (y_fX19_cut_b18 hC h)
theorem y_DX19_cut {P : mwM → mwL → Prop} (hC : CPrb P) {fu : Nat} {a1 : Int32} {M : mwM} {L : mwL} (h : P M L) : kq3 P (DX19_cut fu a1 M L) := by
  unfold DX19_cut
  exact (kqI3 (y_fX19_cut_b13 hC h) (kqI3 (y_fX19_cut_b18 hC h) (y_fX19_cut_b13 hC h)))
theorem y_DX19_fail {P : mwM → mwL → Prop} (hC : CPrb P) {fu : Nat} {a1 : Int32} {a2 : Int32} {M : mwM} {L : mwL} (h : P M L) : kq3 P (DX19_fail fu a1 a2 M L) := by
  unfold DX19_fail
  exact (kqM3_rb hC h (by omega) (fun M1 h1 => (kqM3_rb hC h1 (by omega) (fun M2 h2 => (kqS3 h2)))))
theorem y_fX19_next_b63 {P : mwM → mwL → Prop} (hC : CPrb P) {fu : Nat} {M : mwM} {L : mwL} (h : P M L) : kq3 P (fX19_next_b63 fu M L) := by
  unfold fX19_next_b63
  exact (kqS3 h)
theorem y_fX19_next_b111 {P : mwM → mwL → Prop} (hC : CPrb P) {fu : Nat} {M : mwM} {L : mwL} (h : P M L) : kq3 P (fX19_next_b111 fu M L) := by
  unfold fX19_next_b111
  exact (kqM3_rb hC h (by omega) (fun M13 h1 => (kqS3 h1)))
theorem y_fX19_next_i73 {P : mwM → mwL → Prop} (hC : CPrb P) {fu : Nat} {r73 : (mwM × mwL) → Option (Int32 × mwM × mwL)} (hr73 : ∀ s, P s.1 s.2 → kq3 P (r73 s)) {M : mwM} {L : mwL} (h : P M L) : kq3 P (fX19_next_i73 fu r73 M L) := by
  unfold fX19_next_i73
  exact (kqI3 (y_fX19_next_b111 hC h) (kqK3 (fun q1 => (kqI3 (y_fX19_next_b111 hC h) (kqM3_rb hC h (by omega) (fun M12 h2 => (hr73 (M12, L) h2)))))))
theorem y_fX19_next_h73 {P : mwM → mwL → Prop} (hC : CPrb P) {fu : Nat} : ∀ n s, P s.1 s.2 → kq3 P (fX19_next_h73 fu n s) := by
  intro n
  induction n with
  | zero => intro s _; exact kqN3
  | succ n ih =>
    intro s h
    show kq3 P (fX19_next_i73 fu (fX19_next_h73 fu n) s.1 s.2)
    exact y_fX19_next_i73 hC ih h
theorem y_fX19_next_b38 {P : mwM → mwL → Prop} (hC : CPrb P) {fu : Nat} {M : mwM} {L : mwL} (h : P M L) : kq3 P (fX19_next_b38 fu M L) := by
  unfold fX19_next_b38
  exact (kqI3 (y_fX19_next_b63 hC h) (kqK3 (fun q1 => (kqI3 (y_fX19_next_b63 hC h) (kqM3_rb hC h (by omega) (fun M8 h2 => (y_fX19_next_h73 hC _ (M8, L) h2)))))))
theorem y_fX19_next_i0 {P : mwM → mwL → Prop} (hC : CPrb P) {fu : Nat} {r0 : (mwM × mwL) → Option (Int32 × mwM × mwL)} (hr0 : ∀ s, P s.1 s.2 → kq3 P (r0 s)) {M : mwM} {L : mwL} (h : P M L) : kq3 P (fX19_next_i0 fu r0 M L) := by
  unfold fX19_next_i0
  exact (kqI3 (y_fX19_next_b38 hC h) (kqK3 (fun q1 => (kqI3 (kqM3_rb hC h (by omega) (fun M4 h2 => (hr0 (M4, L) h2))) (y_fX19_next_b38 hC h)))))
theorem y_fX19_next_h0 {P : mwM → mwL → Prop} (hC : CPrb P) {fu : Nat} : ∀ n s, P s.1 s.2 → kq3 P (fX19_next_h0 fu n s) := by
  intro n
  induction n with
  | zero => intro s _; exact kqN3
  | succ n ih =>
    intro s h
    show kq3 P (fX19_next_i0 fu (fX19_next_h0 fu n) s.1 s.2)
    exact y_fX19_next_i0 hC ih h
theorem y_DX19_next {P : mwM → mwL → Prop} (hC : CPrb P) {fu : Nat} {M : mwM} {L : mwL} (h : P M L) : kq3 P (DX19_next fu M L) := by
  unfold DX19_next
  exact (y_fX19_next_h0 hC _ (M, L) h)
theorem y_fX19_must_b24 {P : mwM → mwL → Prop} (hC : CPrb P) {fu : Nat} {s0 : Int32} {M : mwM} {L : mwL} (h : P M L) : kq3 P (fX19_must_b24 fu s0 M L) := by
  unfold fX19_must_b24
  exact (kq_mzz3 (kqS3 h))
theorem y_fX19_must_b19 {P : mwM → mwL → Prop} (hC : CPrb P) {fu : Nat} {M : mwM} {L : mwL} (h : P M L) : kq3 P (fX19_must_b19 fu M L) := by
  unfold fX19_must_b19
  exact (y_fX19_must_b24 hC h)
theorem y_DX19_must {P : mwM → mwL → Prop} (hC : CPrb P) {fu : Nat} {M : mwM} {L : mwL} (h : P M L) : kq3 P (DX19_must fu M L) := by
  unfold DX19_must
  exact (kqB33 (y_DX19_next hC h) (fun r4 M2 L3 h1 => (kqI3 (kqB33 (y_DX19_fail hC h1) (fun r8 M6 L7 h2 => (kqI3 (y_fX19_must_b24 hC h2) (y_fX19_must_b19 hC h2)))) (y_fX19_must_b19 hC h1))))
theorem y_fX19_end_b24 {P : mwM → mwL → Prop} (hC : CPrb P) {fu : Nat} {s0 : Int32} {M : mwM} {L : mwL} (h : P M L) : kq3 P (fX19_end_b24 fu s0 M L) := by
  unfold fX19_end_b24
  exact (kq_mzz3 (kqS3 h))
theorem y_fX19_end_b19 {P : mwM → mwL → Prop} (hC : CPrb P) {fu : Nat} {M : mwM} {L : mwL} (h : P M L) : kq3 P (fX19_end_b19 fu M L) := by
  unfold fX19_end_b19
  exact (y_fX19_end_b24 hC h)
theorem y_DX19_end {P : mwM → mwL → Prop} (hC : CPrb P) {fu : Nat} {M : mwM} {L : mwL} (h : P M L) : kq3 P (DX19_end fu M L) := by
  unfold DX19_end
  exact (kqB33 (y_DX19_next hC h) (fun r4 M2 L3 h1 => (kqI3 (y_fX19_end_b19 hC h1) (kqB33 (y_DX19_fail hC h1) (fun r8 M6 L7 h2 => (kqI3 (y_fX19_end_b24 hC h2) (y_fX19_end_b19 hC h2)))))))
theorem y_fX19_is_b113 {P : mwM → mwL → Prop} (hC : CPrb P) {fu : Nat} {a1 : Int64} {a2 : Int64} {s0 : Int32} {M : mwM} {L : mwL} (h : P M L) : kq3 P (fX19_is_b113 fu a1 a2 s0 M L) := by
  unfold fX19_is_b113
  exact (kq_mzz3 (kqS3 h))
theorem y_fX19_is_b112 {P : mwM → mwL → Prop} (hC : CPrb P) {fu : Nat} {a1 : Int64} {a2 : Int64} {M : mwM} {L : mwL} (h : P M L) : kq3 P (fX19_is_b112 fu a1 a2 M L) := by
  unfold fX19_is_b112
  exact (y_fX19_is_b113 hC h)
theorem y_fX19_is_b88 {P : mwM → mwL → Prop} (hC : CPrb P) {fu : Nat} {a1 : Int64} {a2 : Int64} {r30 : (Int64 × Int64 × Int32 × mwM × mwL) → Option (Int32 × mwM × mwL)} {v5 : Int64} {v7 : Int64} {v9 : Int32} (hr30 : ∀ s, P s.2.2.2.1 s.2.2.2.2 → kq3 P (r30 s)) {M : mwM} {L : mwL} (h : P M L) : kq3 P (fX19_is_b88 fu a1 a2 r30 v5 v7 v9 M L) := by
  unfold fX19_is_b88
  exact (kqL3 (fun x9 => (hr30 (v5, v7, x9, M, L) h)))
theorem y_fX19_is_i30 {P : mwM → mwL → Prop} (hC : CPrb P) {fu : Nat} {a1 : Int64} {a2 : Int64} {r30 : (Int64 × Int64 × Int32 × mwM × mwL) → Option (Int32 × mwM × mwL)} {v5 : Int64} {v7 : Int64} {v9 : Int32} (hr30 : ∀ s, P s.2.2.2.1 s.2.2.2.2 → kq3 P (r30 s)) {M : mwM} {L : mwL} (h : P M L) : kq3 P (fX19_is_i30 fu a1 a2 r30 v5 v7 v9 M L) := by
  unfold fX19_is_i30
  exact (kqI3 (kqI3 (kqI3 (y_fX19_is_b113 hC h) (y_fX19_is_b112 hC h)) (y_fX19_is_b112 hC h)) (kqI3 (kqK3 (fun q1 => (kqL3 (fun x6 => (y_fX19_is_b88 hC hr30 h))))) (kqK3 (fun q2 => (kqL3 (fun x8 => (y_fX19_is_b88 hC hr30 h)))))))
theorem y_fX19_is_h30 {P : mwM → mwL → Prop} (hC : CPrb P) {fu : Nat} {a1 : Int64} {a2 : Int64} : ∀ n s, P s.2.2.2.1 s.2.2.2.2 → kq3 P (fX19_is_h30 fu a1 a2 n s) := by
  intro n
  induction n with
  | zero => intro s _; exact kqN3
  | succ n ih =>
    intro s h
    show kq3 P (fX19_is_i30 fu a1 a2 (fX19_is_h30 fu a1 a2 n) s.1 s.2.1 s.2.2.1 s.2.2.2.1 s.2.2.2.2)
    exact y_fX19_is_i30 hC ih h
theorem y_DX19_is {P : mwM → mwL → Prop} (hC : CPrb P) {fu : Nat} {a1 : Int64} {a2 : Int64} {M : mwM} {L : mwL} (h : P M L) : kq3 P (DX19_is fu a1 a2 M L) := by
  unfold DX19_is
  exact (kqI3 (kqL3 (fun x12 => (y_fX19_is_h30 hC _ (0, 0, x12, M, L) h))) (kqS3 h))
theorem y_fX19_takes_b23 {P : mwM → mwL → Prop} (hC : CPrb P) {fu : Nat} {a1 : Int64} {v3 : Int32} {M : mwM} {L : mwL} (h : P M L) : kq3 P (fX19_takes_b23 fu a1 v3 M L) := by
  unfold fX19_takes_b23
  exact (kqM3_rb hC h (by omega) (fun M1 h1 => (kqS3 h1)))
theorem y_DX19_takes {P : mwM → mwL → Prop} (hC : CPrb P) {fu : Nat} {a1 : Int64} {M : mwM} {L : mwL} (h : P M L) : kq3 P (DX19_takes fu a1 M L) := by
  unfold DX19_takes
  exact (kqL3 (fun x2 => (kqB33 (y_DX19_next hC h) (fun r5 M3 L4 h1 => (kqI3 (y_fX19_takes_b23 hC h1) (kqB33 (y_DX19_is hC h1) (fun r9 M7 L8 h2 => (kqI3 (y_fX19_takes_b23 hC h2) (kqS3 h2)))))))))
theorem y_fX19_letter_b17 {P : mwM → mwL → Prop} (hC : CPrb P) {fu : Nat} {a1 : Int32} {s0 : Int32} {M : mwM} {L : mwL} (h : P M L) : kq3 P (fX19_letter_b17 fu a1 s0 M L) := by
  unfold fX19_letter_b17
  exact (kq_mzz3 (kqS3 h))
theorem y_fX19_letter_b16 {P : mwM → mwL → Prop} (hC : CPrb P) {fu : Nat} {a1 : Int32} {M : mwM} {L : mwL} (h : P M L) : kq3 P (fX19_letter_b16 fu a1 M L) := by
  unfold fX19_letter_b16
  exact (y_fX19_letter_b17 hC h)
theorem y_DX19_letter {P : mwM → mwL → Prop} (hC : CPrb P) {fu : Nat} {a1 : Int32} {M : mwM} {L : mwL} (h : P M L) : kq3 P (DX19_letter fu a1 M L) := by
  unfold DX19_letter
  exact (kqI3 (y_fX19_letter_b16 hC h) (kqI3 (y_fX19_letter_b16 hC h) (y_fX19_letter_b17 hC h)))
theorem y_fX19_digit_b17 {P : mwM → mwL → Prop} (hC : CPrb P) {fu : Nat} {a1 : Int32} {s0 : Int32} {M : mwM} {L : mwL} (h : P M L) : kq3 P (fX19_digit_b17 fu a1 s0 M L) := by
  unfold fX19_digit_b17
  exact (kq_mzz3 (kqS3 h))
theorem y_fX19_digit_b16 {P : mwM → mwL → Prop} (hC : CPrb P) {fu : Nat} {a1 : Int32} {M : mwM} {L : mwL} (h : P M L) : kq3 P (fX19_digit_b16 fu a1 M L) := by
  unfold fX19_digit_b16
  exact (y_fX19_digit_b17 hC h)
theorem y_DX19_digit {P : mwM → mwL → Prop} (hC : CPrb P) {fu : Nat} {a1 : Int32} {M : mwM} {L : mwL} (h : P M L) : kq3 P (DX19_digit fu a1 M L) := by
  unfold DX19_digit
  exact (kqI3 (y_fX19_digit_b16 hC h) (kqI3 (y_fX19_digit_b16 hC h) (y_fX19_digit_b17 hC h)))
theorem y_fX19_isName_b81 {P : mwM → mwL → Prop} (hC : CPrb P) {fu : Nat} {r40 : (Int32 × Int32 × mwM × mwL) → Option (Int32 × mwM × mwL)} {v2 : Int32} {s0 : Int32} (hr40 : ∀ s, P s.2.2.1 s.2.2.2 → kq3 P (r40 s)) {M : mwM} {L : mwL} (h : P M L) : kq3 P (fX19_isName_b81 fu r40 v2 s0 M L) := by
  unfold fX19_isName_b81
  exact (kqL3 (fun x15 => (hr40 (s0, x15, M, L) h)))
theorem y_fX19_isName_b80 {P : mwM → mwL → Prop} (hC : CPrb P) {fu : Nat} {r40 : (Int32 × Int32 × mwM × mwL) → Option (Int32 × mwM × mwL)} {v2 : Int32} (hr40 : ∀ s, P s.2.2.1 s.2.2.2 → kq3 P (r40 s)) {M : mwM} {L : mwL} (h : P M L) : kq3 P (fX19_isName_b80 fu r40 v2 M L) := by
  unfold fX19_isName_b80
  exact (y_fX19_isName_b81 hC hr40 h)
theorem y_fX19_isName_b76 {P : mwM → mwL → Prop} (hC : CPrb P) {fu : Nat} {r40 : (Int32 × Int32 × mwM × mwL) → Option (Int32 × mwM × mwL)} {v2 : Int32} (hr40 : ∀ s, P s.2.2.1 s.2.2.2 → kq3 P (r40 s)) {M : mwM} {L : mwL} (h : P M L) : kq3 P (fX19_isName_b76 fu r40 v2 M L) := by
  unfold fX19_isName_b76
  exact (y_fX19_isName_b81 hC hr40 h)
theorem y_fX19_isName_i40 {P : mwM → mwL → Prop} (hC : CPrb P) {fu : Nat} {r40 : (Int32 × Int32 × mwM × mwL) → Option (Int32 × mwM × mwL)} {v1 : Int32} {v2 : Int32} (hr40 : ∀ s, P s.2.2.1 s.2.2.2 → kq3 P (r40 s)) {M : mwM} {L : mwL} (h : P M L) : kq3 P (fX19_isName_i40 fu r40 v1 v2 M L) := by
  unfold fX19_isName_i40
  exact (kqI3 (kq_mzz3 (kqS3 h)) (kqI3 (y_fX19_isName_b80 hC hr40 h) (kqK3 (fun q1 => (kqB33 (y_DX19_letter hC h) (fun r8 M6 L7 h2 => (kqI3 (kqK3 (fun q3 => (kqB33 (y_DX19_digit hC h2) (fun r13 M11 L12 h4 => (kqI3 (y_fX19_isName_b80 hC hr40 h4) (y_fX19_isName_b76 hC hr40 h4)))))) (y_fX19_isName_b76 hC hr40 h2))))))))
theorem y_fX19_isName_h40 {P : mwM → mwL → Prop} (hC : CPrb P) {fu : Nat} : ∀ n s, P s.2.2.1 s.2.2.2 → kq3 P (fX19_isName_h40 fu n s) := by
  intro n
  induction n with
  | zero => intro s _; exact kqN3
  | succ n ih =>
    intro s h
    show kq3 P (fX19_isName_i40 fu (fX19_isName_h40 fu n) s.1 s.2.1 s.2.2.1 s.2.2.2)
    exact y_fX19_isName_i40 hC ih h
theorem y_fX19_isName_b34 {P : mwM → mwL → Prop} (hC : CPrb P) {fu : Nat} {s0 : Int32} {M : mwM} {L : mwL} (h : P M L) : kq3 P (fX19_isName_b34 fu s0 M L) := by
  unfold fX19_isName_b34
  exact (kqL3 (fun x1 => (y_fX19_isName_h40 hC _ (s0, x1, M, L) h)))
theorem y_fX19_isName_b33 {P : mwM → mwL → Prop} (hC : CPrb P) {fu : Nat} {M : mwM} {L : mwL} (h : P M L) : kq3 P (fX19_isName_b33 fu M L) := by
  unfold fX19_isName_b33
  exact (y_fX19_isName_b34 hC h)
theorem y_DX19_isName {P : mwM → mwL → Prop} (hC : CPrb P) {fu : Nat} {M : mwM} {L : mwL} (h : P M L) : kq3 P (DX19_isName fu M L) := by
  unfold DX19_isName
  exact (kqI3 (y_fX19_isName_b33 hC h) (kqK3 (fun q1 => (kqB33 (y_DX19_letter hC h) (fun r20 M18 L19 h2 => (kqI3 (y_fX19_isName_b33 hC h2) (y_fX19_isName_b34 hC h2)))))))
theorem y_fX19_isNumber_b158 {P : mwM → mwL → Prop} (hC : CPrb P) {fu : Nat} {v2 : Int32} {s1 : Int32} {M : mwM} {L : mwL} (h : P M L) : kq3 P (fX19_isNumber_b158 fu v2 s1 M L) := by
  unfold fX19_isNumber_b158
  exact (kqM3_rb hC h (by omega) (fun M18 h1 => (kq_mzz3 (kqS3 h1))))
theorem y_fX19_isNumber_b137 {P : mwM → mwL → Prop} (hC : CPrb P) {fu : Nat} {v1 : Int32} {v2 : Int32} {M : mwM} {L : mwL} (h : P M L) : kq3 P (fX19_isNumber_b137 fu v1 v2 M L) := by
  unfold fX19_isNumber_b137
  exact (kqI3 (y_fX19_isNumber_b158 hC h) (y_fX19_isNumber_b158 hC h))
theorem y_fX19_isNumber_i98 {P : mwM → mwL → Prop} (hC : CPrb P) {fu : Nat} {r98 : (Int32 × Int32 × Int32 × mwM × mwL) → Option (Int32 × mwM × mwL)} {v1 : Int32} {v2 : Int32} {v3 : Int32} (hr98 : ∀ s, P s.2.2.2.1 s.2.2.2.2 → kq3 P (r98 s)) {M : mwM} {L : mwL} (h : P M L) : kq3 P (fX19_isNumber_i98 fu r98 v1 v2 v3 M L) := by
  unfold fX19_isNumber_i98
  exact (kqI3 (y_fX19_isNumber_b137 hC h) (kqI3 (y_fX19_isNumber_b137 hC h) (kqK3 (fun q1 => (kqM3_rb hC h (by omega) (fun M15 h2 => (kqL3 (fun x16 => (hr98 (v1, v2, x16, M15, L) h2)))))))))
theorem y_fX19_isNumber_h98 {P : mwM → mwL → Prop} (hC : CPrb P) {fu : Nat} : ∀ n s, P s.2.2.2.1 s.2.2.2.2 → kq3 P (fX19_isNumber_h98 fu n s) := by
  intro n
  induction n with
  | zero => intro s _; exact kqN3
  | succ n ih =>
    intro s h
    show kq3 P (fX19_isNumber_i98 fu (fX19_isNumber_h98 fu n) s.1 s.2.1 s.2.2.1 s.2.2.2.1 s.2.2.2.2)
    exact y_fX19_isNumber_i98 hC ih h
theorem y_fX19_isNumber_b84 {P : mwM → mwL → Prop} (hC : CPrb P) {fu : Nat} {r55 : (Int32 × Int32 × Int32 × mwM × mwL) → Option (Int32 × mwM × mwL)} {v1 : Int32} {v3 : Int32} {s0 : Int32} (hr55 : ∀ s, P s.2.2.2.1 s.2.2.2.2 → kq3 P (r55 s)) {M : mwM} {L : mwL} (h : P M L) : kq3 P (fX19_isNumber_b84 fu r55 v1 v3 s0 M L) := by
  unfold fX19_isNumber_b84
  exact (kqL3 (fun x11 => (hr55 (v1, s0, x11, M, L) h)))
theorem y_fX19_isNumber_b83 {P : mwM → mwL → Prop} (hC : CPrb P) {fu : Nat} {r55 : (Int32 × Int32 × Int32 × mwM × mwL) → Option (Int32 × mwM × mwL)} {v1 : Int32} {v3 : Int32} (hr55 : ∀ s, P s.2.2.2.1 s.2.2.2.2 → kq3 P (r55 s)) {M : mwM} {L : mwL} (h : P M L) : kq3 P (fX19_isNumber_b83 fu r55 v1 v3 M L) := by
  unfold fX19_isNumber_b83
  exact (y_fX19_isNumber_b84 hC hr55 h)
theorem y_fX19_isNumber_i55 {P : mwM → mwL → Prop} (hC : CPrb P) {fu : Nat} {r55 : (Int32 × Int32 × Int32 × mwM × mwL) → Option (Int32 × mwM × mwL)} {v1 : Int32} {v2 : Int32} {v3 : Int32} (hr55 : ∀ s, P s.2.2.2.1 s.2.2.2.2 → kq3 P (r55 s)) {M : mwM} {L : mwL} (h : P M L) : kq3 P (fX19_isNumber_i55 fu r55 v1 v2 v3 M L) := by
  unfold fX19_isNumber_i55
  exact (kqI3 (kqM3_rb hC h (by omega) (fun M4 h1 => (y_fX19_isNumber_h98 hC _ (v1, v2, v1, M4, L) h1))) (kqI3 (y_fX19_isNumber_b83 hC hr55 h) (kqK3 (fun q2 => (kqB33 (y_DX19_digit hC h) (fun r9 M7 L8 h3 => (kqI3 (y_fX19_isNumber_b83 hC hr55 h3) (y_fX19_isNumber_b84 hC hr55 h3))))))))
theorem y_fX19_isNumber_h55 {P : mwM → mwL → Prop} (hC : CPrb P) {fu : Nat} : ∀ n s, P s.2.2.2.1 s.2.2.2.2 → kq3 P (fX19_isNumber_h55 fu n s) := by
  intro n
  induction n with
  | zero => intro s _; exact kqN3
  | succ n ih =>
    intro s h
    show kq3 P (fX19_isNumber_i55 fu (fX19_isNumber_h55 fu n) s.1 s.2.1 s.2.2.1 s.2.2.2.1 s.2.2.2.2)
    exact y_fX19_isNumber_i55 hC ih h
theorem y_fX19_isNumber_b52 {P : mwM → mwL → Prop} (hC : CPrb P) {fu : Nat} {v1 : Int32} {s0 : Int32} {M : mwM} {L : mwL} (h : P M L) : kq3 P (fX19_isNumber_b52 fu v1 s0 M L) := by
  unfold fX19_isNumber_b52
  exact (y_fX19_isNumber_h55 hC _ (v1, s0, v1, M, L) h)
theorem y_fX19_isNumber_b51 {P : mwM → mwL → Prop} (hC : CPrb P) {fu : Nat} {v1 : Int32} {M : mwM} {L : mwL} (h : P M L) : kq3 P (fX19_isNumber_b51 fu v1 M L) := by
  unfold fX19_isNumber_b51
  exact (y_fX19_isNumber_b52 hC h)
theorem y_fX19_isNumber_b27 {P : mwM → mwL → Prop} (hC : CPrb P) {fu : Nat} {s0 : Int32} {M : mwM} {L : mwL} (h : P M L) : kq3 P (fX19_isNumber_b27 fu s0 M L) := by
  unfold fX19_isNumber_b27
  exact (kqI3 (y_fX19_isNumber_b51 hC h) (kqI3 (y_fX19_isNumber_b51 hC h) (y_fX19_isNumber_b52 hC h)))
theorem y_DX19_isNumber {P : mwM → mwL → Prop} (hC : CPrb P) {fu : Nat} {M : mwM} {L : mwL} (h : P M L) : kq3 P (DX19_isNumber fu M L) := by
  unfold DX19_isNumber
  exact (kqK3 (fun q1 => (kqI3 (y_fX19_isNumber_b27 hC h) (y_fX19_isNumber_b27 hC h))))
theorem y_fX19_number_b49 {P : mwM → mwL → Prop} (hC : CPrb P) {fu : Nat} {a1 : Int32} {a2 : Int32} {s0 : Int32} {M : mwM} {L : mwL} (h : P M L) : kq3 P (fX19_number_b49 fu a1 a2 s0 M L) := by
  unfold fX19_number_b49
  exact (kq_mzz3 (kqS3 h))
theorem y_fX19_number_b44 {P : mwM → mwL → Prop} (hC : CPrb P) {fu : Nat} {a1 : Int32} {a2 : Int32} {M : mwM} {L : mwL} (h : P M L) : kq3 P (fX19_number_b44 fu a1 a2 M L) := by
  unfold fX19_number_b44
  exact (y_fX19_number_b49 hC h)
theorem y_fX19_number_b32 {P : mwM → mwL → Prop} (hC : CPrb P) {fu : Nat} {a1 : Int32} {a2 : Int32} {M : mwM} {L : mwL} (h : P M L) : kq3 P (fX19_number_b32 fu a1 a2 M L) := by
  unfold fX19_number_b32
  exact (kqB33 (y_DX19_fail hC h) (fun r3 M1 L2 h1 => (kqI3 (y_fX19_number_b49 hC h1) (y_fX19_number_b44 hC h1))))
theorem y_DX19_number {P : mwM → mwL → Prop} (hC : CPrb P) {fu : Nat} {a1 : Int32} {a2 : Int32} {M : mwM} {L : mwL} (h : P M L) : kq3 P (DX19_number fu a1 a2 M L) := by
  unfold DX19_number
  exact (kqB33 (y_DX19_must hC h) (fun r8 M6 L7 h1 => (kqI3 (kqS3 h1) (kqB33 (y_DX19_isNumber hC h1) (fun r12 M10 L11 h2 => (kqI3 (y_fX19_number_b32 hC h2) (kqI3 (y_fX19_number_b32 hC h2) (kqI3 (y_fX19_number_b44 hC h2) (y_fX19_number_b32 hC h2)))))))))
theorem y_fX19_same_b68 {P : mwM → mwL → Prop} (hC : CPrb P) {fu : Nat} {a1 : Int32} {a2 : Int32} {v3 : Int32} {M : mwM} {L : mwL} (h : P M L) : kq3 P (fX19_same_b68 fu a1 a2 v3 M L) := by
  unfold fX19_same_b68
  exact (kq_mzz3 (kqS3 h))
theorem y_fX19_same_b61 {P : mwM → mwL → Prop} (hC : CPrb P) {fu : Nat} {a1 : Int32} {a2 : Int32} {r22 : (Int32 × Int32 × mwM × mwL) → Option (Int32 × mwM × mwL)} {v4 : Int32} {s0 : Int32} (hr22 : ∀ s, P s.2.2.1 s.2.2.2 → kq3 P (r22 s)) {M : mwM} {L : mwL} (h : P M L) : kq3 P (fX19_same_b61 fu a1 a2 r22 v4 s0 M L) := by
  unfold fX19_same_b61
  exact (kqL3 (fun x6 => (hr22 (s0, x6, M, L) h)))
theorem y_fX19_same_i22 {P : mwM → mwL → Prop} (hC : CPrb P) {fu : Nat} {a1 : Int32} {a2 : Int32} {r22 : (Int32 × Int32 × mwM × mwL) → Option (Int32 × mwM × mwL)} {v3 : Int32} {v4 : Int32} (hr22 : ∀ s, P s.2.2.1 s.2.2.2 → kq3 P (r22 s)) {M : mwM} {L : mwL} (h : P M L) : kq3 P (fX19_same_i22 fu a1 a2 r22 v3 v4 M L) := by
  unfold fX19_same_i22
  exact (kqI3 (y_fX19_same_b68 hC h) (kqI3 (y_fX19_same_b68 hC h) (kqK3 (fun q1 => (kqK3 (fun q2 => (kqI3 (y_fX19_same_b61 hC hr22 h) (y_fX19_same_b61 hC hr22 h))))))))
theorem y_fX19_same_h22 {P : mwM → mwL → Prop} (hC : CPrb P) {fu : Nat} {a1 : Int32} {a2 : Int32} : ∀ n s, P s.2.2.1 s.2.2.2 → kq3 P (fX19_same_h22 fu a1 a2 n s) := by
  intro n
  induction n with
  | zero => intro s _; exact kqN3
  | succ n ih =>
    intro s h
    show kq3 P (fX19_same_i22 fu a1 a2 (fX19_same_h22 fu a1 a2 n) s.1 s.2.1 s.2.2.1 s.2.2.2)
    exact y_fX19_same_i22 hC ih h
theorem y_fX19_same_b18 {P : mwM → mwL → Prop} (hC : CPrb P) {fu : Nat} {a1 : Int32} {a2 : Int32} {s0 : Int32} {M : mwM} {L : mwL} (h : P M L) : kq3 P (fX19_same_b18 fu a1 a2 s0 M L) := by
  unfold fX19_same_b18
  exact (y_fX19_same_h22 hC _ (s0, 0, M, L) h)
theorem y_DX19_same {P : mwM → mwL → Prop} (hC : CPrb P) {fu : Nat} {a1 : Int32} {a2 : Int32} {M : mwM} {L : mwL} (h : P M L) : kq3 P (DX19_same fu a1 a2 M L) := by
  unfold DX19_same
  exact (kqI3 (y_fX19_same_b18 hC h) (y_fX19_same_b18 hC h))
theorem y_fX19_findName_i2 {P : mwM → mwL → Prop} (hC : CPrb P) {fu : Nat} {r2 : (Int32 × mwM × mwL) → Option (Int32 × mwM × mwL)} {v1 : Int32} (hr2 : ∀ s, P s.2.1 s.2.2 → kq3 P (r2 s)) {M : mwM} {L : mwL} (h : P M L) : kq3 P (fX19_findName_i2 fu r2 v1 M L) := by
  unfold fX19_findName_i2
  exact (kqI3 (kqS3 h) (kqK3 (fun q1 => (kqK3 (fun q2 => (kqB33 (y_DX19_same hC h) (fun r6 M4 L5 h3 => (kqI3 (kqL3 (fun x8 => (hr2 (x8, M4, L5) h3))) (kqS3 h3)))))))))
theorem y_fX19_findName_h2 {P : mwM → mwL → Prop} (hC : CPrb P) {fu : Nat} : ∀ n s, P s.2.1 s.2.2 → kq3 P (fX19_findName_h2 fu n s) := by
  intro n
  induction n with
  | zero => intro s _; exact kqN3
  | succ n ih =>
    intro s h
    show kq3 P (fX19_findName_i2 fu (fX19_findName_h2 fu n) s.1 s.2.1 s.2.2)
    exact y_fX19_findName_i2 hC ih h
theorem y_DX19_findName {P : mwM → mwL → Prop} (hC : CPrb P) {fu : Nat} {M : mwM} {L : mwL} (h : P M L) : kq3 P (DX19_findName fu M L) := by
  unfold DX19_findName
  exact (y_fX19_findName_h2 hC _ (0, M, L) h)
theorem y_fX19_newName_b66 {P : mwM → mwL → Prop} (hC : CPrb P) {fu : Nat} {a1 : Int32} {a2 : Int32} {s0 : Int32} {M : mwM} {L : mwL} (h : P M L) : kq3 P (fX19_newName_b66 fu a1 a2 s0 M L) := by
  unfold fX19_newName_b66
  exact (kq_mzz3 (kqS3 h))
theorem y_fX19_newName_b61 {P : mwM → mwL → Prop} (hC : CPrb P) {fu : Nat} {a1 : Int32} {a2 : Int32} {M : mwM} {L : mwL} (h : P M L) : kq3 P (fX19_newName_b61 fu a1 a2 M L) := by
  unfold fX19_newName_b61
  exact (y_fX19_newName_b66 hC h)
theorem y_DX19_newName {P : mwM → mwL → Prop} (hC : CPrb P) {fu : Nat} {a1 : Int32} {a2 : Int32} {M : mwM} {L : mwL} (h : P M L) : kq3 P (DX19_newName fu a1 a2 M L) := by
  unfold DX19_newName
  exact (kqB33 (y_DX19_must hC h) (fun r4 M2 L3 h1 => (kqI3 (kqS3 h1) (kqB33 (y_DX19_isName hC h1) (fun r8 M6 L7 h2 => (kqI3 (kqB33 (y_DX19_fail hC h2) (fun r25 M23 L24 h3 => (kq_mzz3 (kqS3 h3)))) (kqB33 (y_DX19_findName hC h2) (fun r12 M10 L11 h4 => (kqI3 (kqI3 (y_fX19_newName_b61 hC h4) (kqB33 (y_DX19_fail hC h4) (fun r17 M15 L16 h5 => (kqI3 (y_fX19_newName_b66 hC h5) (y_fX19_newName_b61 hC h5))))) (kqB33 (y_DX19_fail hC h4) (fun r21 M19 L20 h6 => (kq_mzz3 (kqS3 h6)))))))))))))
theorem y_DX19_addName {P : mwM → mwL → Prop} (hC : CPrb P) {fu : Nat} {a1 : Int32} {a2 : Int32} {a3 : Int32} {a4 : Int32} {M : mwM} {L : mwL} (h : P M L) : kq2 P (DX19_addName fu a1 a2 a3 a4 M L) := by
  unfold DX19_addName
  exact (kqK2 (fun q1 => (kqM2_rb hC h (by omega) (fun M2 h2 => (kqK2 (fun q3 => (kqM2_rb hC h2 (by omega) (fun M4 h4 => (kqK2 (fun q5 => (kqM2_rb hC h4 (by omega) (fun M6 h6 => (kqK2 (fun q7 => (kqM2_rb hC h6 (by omega) (fun M8 h8 => (kqM2_rb hC h8 (by omega) (fun M9 h9 => (kqS2 h9)))))))))))))))))))
theorem y_fX19_named_b35 {P : mwM → mwL → Prop} (hC : CPrb P) {fu : Nat} {a1 : Int32} {M : mwM} {L : mwL} (h : P M L) : kq3 P (fX19_named_b35 fu a1 M L) := by
  unfold fX19_named_b35
  exact (kqB33 (y_DX19_fail hC h) (fun r3 M1 L2 h1 => (kqS3 h1)))
theorem y_DX19_named {P : mwM → mwL → Prop} (hC : CPrb P) {fu : Nat} {a1 : Int32} {M : mwM} {L : mwL} (h : P M L) : kq3 P (DX19_named fu a1 M L) := by
  unfold DX19_named
  exact (kqB33 (y_DX19_must hC h) (fun r6 M4 L5 h1 => (kqI3 (kqS3 h1) (kqB33 (y_DX19_findName hC h1) (fun r10 M8 L9 h2 => (kqI3 (y_fX19_named_b35 hC h2) (kqK3 (fun q3 => (kqI3 (kqK3 (fun q4 => (kqS3 h2))) (y_fX19_named_b35 hC h2))))))))))
theorem y_fX19_findState_i2 {P : mwM → mwL → Prop} (hC : CPrb P) {fu : Nat} {a1 : Int32} {r2 : (Int32 × mwM × mwL) → Option (Int32 × mwM × mwL)} {v2 : Int32} (hr2 : ∀ s, P s.2.1 s.2.2 → kq3 P (r2 s)) {M : mwM} {L : mwL} (h : P M L) : kq3 P (fX19_findState_i2 fu a1 r2 v2 M L) := by
  unfold fX19_findState_i2
  exact (kqK3 (fun q1 => (kqI3 (kqS3 h) (kqK3 (fun q2 => (kqK3 (fun q3 => (kqB33 (y_DX19_same hC h) (fun r7 M5 L6 h4 => (kqI3 (kqL3 (fun x9 => (hr2 (x9, M5, L6) h4))) (kqS3 h4)))))))))))
theorem y_fX19_findState_h2 {P : mwM → mwL → Prop} (hC : CPrb P) {fu : Nat} {a1 : Int32} : ∀ n s, P s.2.1 s.2.2 → kq3 P (fX19_findState_h2 fu a1 n s) := by
  intro n
  induction n with
  | zero => intro s _; exact kqN3
  | succ n ih =>
    intro s h
    show kq3 P (fX19_findState_i2 fu a1 (fX19_findState_h2 fu a1 n) s.1 s.2.1 s.2.2)
    exact y_fX19_findState_i2 hC ih h
theorem y_DX19_findState {P : mwM → mwL → Prop} (hC : CPrb P) {fu : Nat} {a1 : Int32} {M : mwM} {L : mwL} (h : P M L) : kq3 P (DX19_findState fu a1 M L) := by
  unfold DX19_findState
  exact (y_fX19_findState_h2 hC _ (1, M, L) h)
theorem y_fX19_findDatum_i2 {P : mwM → mwL → Prop} (hC : CPrb P) {fu : Nat} {a1 : Int32} {r2 : (Int32 × mwM × mwL) → Option (Int32 × mwM × mwL)} {v2 : Int32} (hr2 : ∀ s, P s.2.1 s.2.2 → kq3 P (r2 s)) {M : mwM} {L : mwL} (h : P M L) : kq3 P (fX19_findDatum_i2 fu a1 r2 v2 M L) := by
  unfold fX19_findDatum_i2
  exact (kqK3 (fun q1 => (kqI3 (kqS3 h) (kqK3 (fun q2 => (kqK3 (fun q3 => (kqB33 (y_DX19_same hC h) (fun r7 M5 L6 h4 => (kqI3 (kqL3 (fun x9 => (hr2 (x9, M5, L6) h4))) (kqS3 h4)))))))))))
theorem y_fX19_findDatum_h2 {P : mwM → mwL → Prop} (hC : CPrb P) {fu : Nat} {a1 : Int32} : ∀ n s, P s.2.1 s.2.2 → kq3 P (fX19_findDatum_h2 fu a1 n s) := by
  intro n
  induction n with
  | zero => intro s _; exact kqN3
  | succ n ih =>
    intro s h
    show kq3 P (fX19_findDatum_i2 fu a1 (fX19_findDatum_h2 fu a1 n) s.1 s.2.1 s.2.2)
    exact y_fX19_findDatum_i2 hC ih h
theorem y_DX19_findDatum {P : mwM → mwL → Prop} (hC : CPrb P) {fu : Nat} {a1 : Int32} {M : mwM} {L : mwL} (h : P M L) : kq3 P (DX19_findDatum fu a1 M L) := by
  unfold DX19_findDatum
  exact (y_fX19_findDatum_h2 hC _ (0, M, L) h)
theorem y_fX19_state_b36 {P : mwM → mwL → Prop} (hC : CPrb P) {fu : Nat} {a1 : Int32} {v2 : Int32} {s0 : Int32} {M : mwM} {L : mwL} (h : P M L) : kq3 P (fX19_state_b36 fu a1 v2 s0 M L) := by
  unfold fX19_state_b36
  exact (kqS3 h)
theorem y_fX19_state_b31 {P : mwM → mwL → Prop} (hC : CPrb P) {fu : Nat} {a1 : Int32} {v2 : Int32} {M : mwM} {L : mwL} (h : P M L) : kq3 P (fX19_state_b31 fu a1 v2 M L) := by
  unfold fX19_state_b31
  exact (y_fX19_state_b36 hC h)
theorem y_DX19_state {P : mwM → mwL → Prop} (hC : CPrb P) {fu : Nat} {a1 : Int32} {M : mwM} {L : mwL} (h : P M L) : kq3 P (DX19_state fu a1 M L) := by
  unfold DX19_state
  exact (kqB33 (y_DX19_must hC h) (fun r3 M1 L2 h1 => (kqI3 (kqS3 h1) (kqB33 (y_DX19_findState hC h1) (fun r7 M5 L6 h2 => (kqI3 (y_fX19_state_b31 hC h2) (kqB33 (y_DX19_fail hC h2) (fun r11 M9 L10 h3 => (kqI3 (y_fX19_state_b36 hC h3) (y_fX19_state_b31 hC h3))))))))))
theorem y_fX19_datum_b36 {P : mwM → mwL → Prop} (hC : CPrb P) {fu : Nat} {a1 : Int32} {v2 : Int32} {s0 : Int32} {M : mwM} {L : mwL} (h : P M L) : kq3 P (fX19_datum_b36 fu a1 v2 s0 M L) := by
  unfold fX19_datum_b36
  exact (kqS3 h)
theorem y_fX19_datum_b31 {P : mwM → mwL → Prop} (hC : CPrb P) {fu : Nat} {a1 : Int32} {v2 : Int32} {M : mwM} {L : mwL} (h : P M L) : kq3 P (fX19_datum_b31 fu a1 v2 M L) := by
  unfold fX19_datum_b31
  exact (y_fX19_datum_b36 hC h)
theorem y_DX19_datum {P : mwM → mwL → Prop} (hC : CPrb P) {fu : Nat} {a1 : Int32} {M : mwM} {L : mwL} (h : P M L) : kq3 P (DX19_datum fu a1 M L) := by
  unfold DX19_datum
  exact (kqB33 (y_DX19_must hC h) (fun r3 M1 L2 h1 => (kqI3 (kqS3 h1) (kqB33 (y_DX19_findDatum hC h1) (fun r7 M5 L6 h2 => (kqI3 (y_fX19_datum_b31 hC h2) (kqB33 (y_DX19_fail hC h2) (fun r11 M9 L10 h3 => (kqI3 (y_fX19_datum_b36 hC h3) (y_fX19_datum_b31 hC h3))))))))))
theorem y_fX19_fits_b33 {P : mwM → mwL → Prop} (hC : CPrb P) {fu : Nat} {a1 : Int32} {s0 : Int32} {M : mwM} {L : mwL} (h : P M L) : kq3 P (fX19_fits_b33 fu a1 s0 M L) := by
  unfold fX19_fits_b33
  exact (kq_mzz3 (kqS3 h))
theorem y_fX19_fits_b28 {P : mwM → mwL → Prop} (hC : CPrb P) {fu : Nat} {a1 : Int32} {M : mwM} {L : mwL} (h : P M L) : kq3 P (fX19_fits_b28 fu a1 M L) := by
  unfold fX19_fits_b28
  exact (y_fX19_fits_b33 hC h)
theorem y_fX19_fits_b18 {P : mwM → mwL → Prop} (hC : CPrb P) {fu : Nat} {a1 : Int32} {s1 : Int32} {M : mwM} {L : mwL} (h : P M L) : kq3 P (fX19_fits_b18 fu a1 s1 M L) := by
  unfold fX19_fits_b18
  exact (kqB33 (y_DX19_fail hC h) (fun r3 M1 L2 h1 => (kqI3 (y_fX19_fits_b33 hC h1) (y_fX19_fits_b28 hC h1))))
theorem y_DX19_fits {P : mwM → mwL → Prop} (hC : CPrb P) {fu : Nat} {a1 : Int32} {M : mwM} {L : mwL} (h : P M L) : kq3 P (DX19_fits fu a1 M L) := by
  unfold DX19_fits
  exact (kqI3 (y_fX19_fits_b28 hC h) (kqI3 (y_fX19_fits_b18 hC h) (y_fX19_fits_b18 hC h)))
theorem y_DX19_addController {P : mwM → mwL → Prop} (hC : CPrb P) {fu : Nat} {M : mwM} {L : mwL} (h : P M L) : kq3 P (DX19_addController fu M L) := by
  unfold DX19_addController
  exact (kqB33 (y_DX19_newName hC h) (fun r3 M1 L2 h1 => (kqI3 (kqS3 h1) (kqL3 (fun x5 => (kqL3 (fun x6 => (kqB33 (y_DX19_end hC h1) (fun r9 M7 L8 h2 => (kqI3 (kqS3 h2) (kqB23 (y_DX19_addName hC h2) (fun M11 L12 h3 => (kqM3_rb hC h3 (by omega) (fun M13 h4 => (kqS3 h4)))))))))))))))
theorem y_fX19_addTask_b51 {P : mwM → mwL → Prop} (hC : CPrb P) {fu : Nat} {M : mwM} {L : mwL} (h : P M L) : kq3 P (fX19_addTask_b51 fu M L) := by
  unfold fX19_addTask_b51
  exact (kqS3 h)
theorem y_DX19_addTask {P : mwM → mwL → Prop} (hC : CPrb P) {fu : Nat} {M : mwM} {L : mwL} (h : P M L) : kq3 P (DX19_addTask fu M L) := by
  unfold DX19_addTask
  exact (kqB33 (y_DX19_newName hC h) (fun r3 M1 L2 h1 => (kqI3 (kqS3 h1) (kqL3 (fun x5 => (kqL3 (fun x6 => (kqB33 (y_DX19_named hC h1) (fun r9 M7 L8 h2 => (kqI3 (y_fX19_addTask_b51 hC h2) (kqB33 (y_DX19_number hC h2) (fun r13 M11 L12 h3 => (kqI3 (y_fX19_addTask_b51 hC h3) (kqK3 (fun q4 => (kqM3_rb hC h3 (by omega) (fun M16 h5 => (kqB33 (y_DX19_number hC h5) (fun r19 M17 L18 h6 => (kqI3 (kqS3 h6) (kqK3 (fun q7 => (kqM3_rb hC h6 (by omega) (fun M22 h8 => (kqB33 (y_DX19_number hC h8) (fun r25 M23 L24 h9 => (kqI3 (kqS3 h9) (kqK3 (fun q10 => (kqM3_rb hC h9 (by omega) (fun M28 h11 => (kqB33 (y_DX19_number hC h11) (fun r31 M29 L30 h12 => (kqI3 (kqS3 h12) (kqK3 (fun q13 => (kqM3_rb hC h12 (by omega) (fun M34 h14 => (kqB33 (y_DX19_end hC h14) (fun r37 M35 L36 h15 => (kqI3 (kqS3 h15) (kqK3 (fun q16 => (kqM3_rb hC h15 (by omega) (fun M40 h17 => (kqK3 (fun q18 => (kqM3_rb hC h17 (by omega) (fun M42 h19 => (kqK3 (fun q20 => (kqM3_rb hC h19 (by omega) (fun M44 h21 => (kqK3 (fun q22 => (kqM3_rb hC h21 (by omega) (fun M46 h23 => (kqB23 (y_DX19_addName hC h23) (fun M47 L48 h24 => (kqM3_rb hC h24 (by omega) (fun M49 h25 => (kqS3 h25))))))))))))))))))))))))))))))))))))))))))))))))))))))))))))))
theorem y_fX19_addChart_b56 {P : mwM → mwL → Prop} (hC : CPrb P) {fu : Nat} {M : mwM} {L : mwL} (h : P M L) : kq3 P (fX19_addChart_b56 fu M L) := by
  unfold fX19_addChart_b56
  exact (kqS3 h)
theorem y_DX19_addChart {P : mwM → mwL → Prop} (hC : CPra P) {fu : Nat} {M : mwM} {L : mwL} (h : P M L) : kq3 P (DX19_addChart fu M L) := by
  unfold DX19_addChart
  exact (kqB33 (y_DX19_newName (cab hC) h) (fun r3 M1 L2 h1 => (kqI3 (kqS3 h1) (kqL3 (fun x5 => (kqL3 (fun x6 => (kqB33 (y_DX19_named (cab hC) h1) (fun r9 M7 L8 h2 => (kqL3 (fun x10 => (kqI3 (y_fX19_addChart_b56 (cab hC) h2) (kqB33 (y_DX19_number (cab hC) h2) (fun r14 M12 L13 h3 => (kqI3 (y_fX19_addChart_b56 (cab hC) h3) (kqL3 (fun x16 => (kqB33 (y_DX19_end (cab hC) h3) (fun r19 M17 L18 h4 => (kqI3 (kqS3 h4) (kqK3 (fun q5 => (kqI3 (kqK3 (fun q6 => (kqM3_ra hC h4 (by omega) (fun M24 h7 => (kqK3 (fun q8 => (kqM3_ra hC h7 (by omega) (fun M26 h9 => (kqK3 (fun q10 => (kqM3_ra hC h9 (by omega) (fun M28 h11 => (kqK3 (fun q12 => (kqM3_ra hC h11 (by omega) (fun M30 h13 => (kqK3 (fun q14 => (kqM3_ra hC h13 (by omega) (fun M32 h15 => (kqK3 (fun q16 => (kqM3_ra hC h15 (by omega) (fun M34 h17 => (kqK3 (fun q18 => (kqM3_ra hC h17 (by omega) (fun M36 h19 => (kqK3 (fun q20 => (kqB23 (y_DX13_anew hC (by omega) h19) (fun M38 L39 h21 => (kqB23 (y_DX19_addName (cab hC) h21) (fun M40 L41 h22 => (kqM3_ra hC h22 (by omega) (fun M42 h23 => (kqS3 h23))))))))))))))))))))))))))))))))))))) (kqB33 (y_DX19_fail (cab hC) h4) (fun r45 M43 L44 h24 => (kq_mzz3 (kqS3 h24)))))))))))))))))))))))))))
theorem y_fX19_newIn_b18 {P : mwM → mwL → Prop} (hC : CPrb P) {fu : Nat} {a1 : Int32} {M : mwM} {L : mwL} (h : P M L) : kq3 P (fX19_newIn_b18 fu a1 M L) := by
  unfold fX19_newIn_b18
  exact (kqB33 (y_DX19_fail hC h) (fun r3 M1 L2 h1 => (kq_mzz3 (kqS3 h1))))
theorem y_fX19_newIn_b49 {P : mwM → mwL → Prop} (hC : CPrb P) {fu : Nat} {a1 : Int32} {s0 : Int32} {M : mwM} {L : mwL} (h : P M L) : kq3 P (fX19_newIn_b49 fu a1 s0 M L) := by
  unfold fX19_newIn_b49
  exact (kq_mzz3 (kqS3 h))
theorem y_fX19_newIn_b44 {P : mwM → mwL → Prop} (hC : CPrb P) {fu : Nat} {a1 : Int32} {M : mwM} {L : mwL} (h : P M L) : kq3 P (fX19_newIn_b44 fu a1 M L) := by
  unfold fX19_newIn_b44
  exact (y_fX19_newIn_b49 hC h)
theorem y_DX19_newIn {P : mwM → mwL → Prop} (hC : CPrb P) {fu : Nat} {a1 : Int32} {M : mwM} {L : mwL} (h : P M L) : kq3 P (DX19_newIn fu a1 M L) := by
  unfold DX19_newIn
  exact (kqB33 (y_DX19_isName hC h) (fun r8 M6 L7 h1 => (kqI3 (y_fX19_newIn_b18 hC h1) (kqB33 (y_DX19_is hC h1) (fun r12 M10 L11 h2 => (kqI3 (kqI3 (y_fX19_newIn_b44 hC h2) (kqB33 (y_DX19_fail hC h2) (fun r17 M15 L16 h3 => (kqI3 (y_fX19_newIn_b49 hC h3) (y_fX19_newIn_b44 hC h3))))) (y_fX19_newIn_b18 hC h2)))))))
theorem y_fX19_kind_b81 {P : mwM → mwL → Prop} (hC : CPrb P) {fu : Nat} {s0 : Int32} {M : mwM} {L : mwL} (h : P M L) : kq3 P (fX19_kind_b81 fu s0 M L) := by
  unfold fX19_kind_b81
  exact (kqS3 h)
theorem y_DX19_kind {P : mwM → mwL → Prop} (hC : CPrb P) {fu : Nat} {M : mwM} {L : mwL} (h : P M L) : kq3 P (DX19_kind fu M L) := by
  unfold DX19_kind
  exact (kqB33 (y_DX19_is hC h) (fun r3 M1 L2 h1 => (kqI3 (kqB33 (y_DX19_is hC h1) (fun r7 M5 L6 h2 => (kqI3 (kqB33 (y_DX19_is hC h2) (fun r11 M9 L10 h3 => (kqI3 (kqB33 (y_DX19_is hC h3) (fun r15 M13 L14 h4 => (kqI3 (kqB33 (y_DX19_is hC h4) (fun r19 M17 L18 h5 => (kqI3 (kqB33 (y_DX19_is hC h5) (fun r23 M21 L22 h6 => (kqI3 (y_fX19_kind_b81 hC h6) (y_fX19_kind_b81 hC h6)))) (kqS3 h5)))) (kqS3 h4)))) (kqS3 h3)))) (kqS3 h2)))) (kqS3 h1))))
theorem y_fX19_addState_b37 {P : mwM → mwL → Prop} (hC : CPrb P) {fu : Nat} {M : mwM} {L : mwL} (h : P M L) : kq3 P (fX19_addState_b37 fu M L) := by
  unfold fX19_addState_b37
  exact (kqS3 h)
theorem y_fX19_addState_b87 {P : mwM → mwL → Prop} (hC : CPrb P) {fu : Nat} {M : mwM} {L : mwL} (h : P M L) : kq3 P (fX19_addState_b87 fu M L) := by
  unfold fX19_addState_b87
  exact (kqS3 h)
theorem y_fX19_addState_b73 {P : mwM → mwL → Prop} (hC : CPra P) {fu : Nat} {v1 : Int32} {v2 : Int32} {v3 : Int32} {s0 : Int32} {M : mwM} {L : mwL} (h : P M L) : kq3 P (fX19_addState_b73 fu v1 v2 v3 s0 M L) := by
  unfold fX19_addState_b73
  exact (kqI3 (y_fX19_addState_b87 (cab hC) h) (kqB33 (y_DX19_must (cab hC) h) (fun r17 M15 L16 h1 => (kqI3 (y_fX19_addState_b87 (cab hC) h1) (kqB33 (y_DX19_kind (cab hC) h1) (fun r21 M19 L20 h2 => (kqI3 (kqB33 (y_DX19_end (cab hC) h2) (fun r25 M23 L24 h3 => (kqI3 (kqS3 h3) (kqK3 (fun q4 => (kqB33 (y_DX13_state hC (by omega) h3) (fun r30 M28 L29 h5 => (kqB33 (y_DX19_fits (cab hC) h5) (fun r33 M31 L32 h6 => (kqI3 (kqS3 h6) (kqK3 (fun q7 => (kqM3_ra hC h6 (by omega) (fun M36 h8 => (kqK3 (fun q9 => (kqM3_ra hC h8 (by omega) (fun M38 h10 => (kqK3 (fun q11 => (kqM3_ra hC h10 (by omega) (fun M40 h12 => (kqS3 h12))))))))))))))))))))))) (kqB33 (y_DX19_fail (cab hC) h2) (fun r43 M41 L42 h13 => (kq_mzz3 (kqS3 h13)))))))))))
theorem y_fX19_addState_b31 {P : mwM → mwL → Prop} (hC : CPra P) {fu : Nat} {v1 : Int32} {s1 : Int32} {M : mwM} {L : mwL} (h : P M L) : kq3 P (fX19_addState_b31 fu v1 s1 M L) := by
  unfold fX19_addState_b31
  exact (kqB33 (y_DX19_newIn (cab hC) h) (fun r3 M1 L2 h1 => (kqI3 (y_fX19_addState_b37 (cab hC) h1) (kqL3 (fun x5 => (kqL3 (fun x6 => (kqB33 (y_DX19_takes (cab hC) h1) (fun r9 M7 L8 h2 => (kqI3 (kqB33 (y_DX19_state (cab hC) h2) (fun r13 M11 L12 h3 => (y_fX19_addState_b73 hC h3))) (y_fX19_addState_b73 hC h2)))))))))))
theorem y_DX19_addState {P : mwM → mwL → Prop} (hC : CPra P) {fu : Nat} {M : mwM} {L : mwL} (h : P M L) : kq3 P (DX19_addState fu M L) := by
  unfold DX19_addState
  exact (kqB33 (y_DX19_named (cab hC) h) (fun r47 M45 L46 h1 => (kqI3 (y_fX19_addState_b37 (cab hC) h1) (kqB33 (y_DX19_must (cab hC) h1) (fun r51 M49 L50 h2 => (kqI3 (y_fX19_addState_b37 (cab hC) h2) (kqB33 (y_DX19_findState (cab hC) h2) (fun r55 M53 L54 h3 => (kqI3 (y_fX19_addState_b31 hC h3) (y_fX19_addState_b31 hC h3))))))))))
theorem y_fX19_op_b82 {P : mwM → mwL → Prop} (hC : CPrb P) {fu : Nat} {s0 : Int32} {M : mwM} {L : mwL} (h : P M L) : kq3 P (fX19_op_b82 fu s0 M L) := by
  unfold fX19_op_b82
  exact (kqS3 h)
theorem y_DX19_op {P : mwM → mwL → Prop} (hC : CPrb P) {fu : Nat} {M : mwM} {L : mwL} (h : P M L) : kq3 P (DX19_op fu M L) := by
  unfold DX19_op
  exact (kqB33 (y_DX19_is hC h) (fun r3 M1 L2 h1 => (kqI3 (kqB33 (y_DX19_is hC h1) (fun r7 M5 L6 h2 => (kqI3 (kqB33 (y_DX19_is hC h2) (fun r11 M9 L10 h3 => (kqI3 (kqB33 (y_DX19_is hC h3) (fun r15 M13 L14 h4 => (kqI3 (kqB33 (y_DX19_is hC h4) (fun r19 M17 L18 h5 => (kqI3 (kqB33 (y_DX19_is hC h5) (fun r23 M21 L22 h6 => (kqI3 (y_fX19_op_b82 hC h6) (y_fX19_op_b82 hC h6)))) (kqS3 h5)))) (kqS3 h4)))) (kqS3 h3)))) (kqS3 h2)))) (kqS3 h1))))
theorem y_fX19_guard_b37 {P : mwM → mwL → Prop} (hC : CPrb P) {fu : Nat} {a1 : Int32} {s0 : Int32} {M : mwM} {L : mwL} (h : P M L) : kq3 P (fX19_guard_b37 fu a1 s0 M L) := by
  unfold fX19_guard_b37
  exact (kqS3 h)
theorem y_fX19_guard_b55 {P : mwM → mwL → Prop} (hC : CPrb P) {fu : Nat} {a1 : Int32} {M : mwM} {L : mwL} (h : P M L) : kq3 P (fX19_guard_b55 fu a1 M L) := by
  unfold fX19_guard_b55
  exact (kqS3 h)
theorem y_fX19_guard_b83 {P : mwM → mwL → Prop} (hC : CPrb P) {fu : Nat} {a1 : Int32} {s0 : Int32} {M : mwM} {L : mwL} (h : P M L) : kq3 P (fX19_guard_b83 fu a1 s0 M L) := by
  unfold fX19_guard_b83
  exact (kqS3 h)
theorem y_fX19_guard_b143 {P : mwM → mwL → Prop} (hC : CPrb P) {fu : Nat} {a1 : Int32} {s0 : Int32} {M : mwM} {L : mwL} (h : P M L) : kq3 P (fX19_guard_b143 fu a1 s0 M L) := by
  unfold fX19_guard_b143
  exact (kqS3 h)
theorem y_fX19_guard_b177 {P : mwM → mwL → Prop} (hC : CPrb P) {fu : Nat} {a1 : Int32} {s0 : Int32} {M : mwM} {L : mwL} (h : P M L) : kq3 P (fX19_guard_b177 fu a1 s0 M L) := by
  unfold fX19_guard_b177
  exact (kqS3 h)
theorem y_fX19_guard_b160 {P : mwM → mwL → Prop} (hC : CPrb P) {fu : Nat} {a1 : Int32} {M : mwM} {L : mwL} (h : P M L) : kq3 P (fX19_guard_b160 fu a1 M L) := by
  unfold fX19_guard_b160
  exact (kqB33 (y_DX19_fail hC h) (fun r3 M1 L2 h1 => (kqI3 (y_fX19_guard_b177 hC h1) (y_fX19_guard_b177 hC h1))))
theorem y_DX19_guard {P : mwM → mwL → Prop} (hC : CPrb P) {fu : Nat} {a1 : Int32} {M : mwM} {L : mwL} (h : P M L) : kq3 P (DX19_guard fu a1 M L) := by
  unfold DX19_guard
  exact (kqB33 (y_DX19_next hC h) (fun r7 M5 L6 h1 => (kqI3 (kqS3 h1) (kqB33 (y_DX19_is hC h1) (fun r11 M9 L10 h2 => (kqI3 (kqB33 (y_DX19_fail hC h2) (fun r49 M47 L48 h3 => (kqI3 (y_fX19_guard_b37 hC h3) (y_fX19_guard_b37 hC h3)))) (kqB33 (y_DX19_datum hC h2) (fun r15 M13 L14 h4 => (kqI3 (y_fX19_guard_b55 hC h4) (kqB33 (y_DX19_must hC h4) (fun r19 M17 L18 h5 => (kqI3 (y_fX19_guard_b55 hC h5) (kqB33 (y_DX19_op hC h5) (fun r23 M21 L22 h6 => (kqI3 (kqB33 (y_DX19_must hC h6) (fun r27 M25 L26 h7 => (kqI3 (kqS3 h7) (kqB33 (y_DX19_findDatum hC h7) (fun r31 M29 L30 h8 => (kqI3 (kqB33 (y_DX19_isNumber hC h8) (fun r35 M33 L34 h9 => (kqI3 (kqB33 (y_DX19_fail hC h9) (fun r41 M39 L40 h10 => (kqI3 (y_fX19_guard_b143 hC h10) (y_fX19_guard_b143 hC h10)))) (kqI3 (y_fX19_guard_b160 hC h9) (kqI3 (kqS3 h9) (y_fX19_guard_b160 hC h9)))))) (kqS3 h8))))))) (kqB33 (y_DX19_fail hC h6) (fun r45 M43 L44 h11 => (kqI3 (y_fX19_guard_b83 hC h11) (y_fX19_guard_b83 hC h11)))))))))))))))))))
theorem y_fX19_addEdge_b94 {P : mwM → mwL → Prop} (hC : CPrb P) {fu : Nat} {M : mwM} {L : mwL} (h : P M L) : kq3 P (fX19_addEdge_b94 fu M L) := by
  unfold fX19_addEdge_b94
  exact (kqS3 h)
theorem y_fX19_addEdge_b75 {P : mwM → mwL → Prop} (hC : CPrb P) {fu : Nat} {v1 : Int32} {v2 : Int32} {v3 : Int32} {v4 : Int32} {M : mwM} {L : mwL} (h : P M L) : kq3 P (fX19_addEdge_b75 fu v1 v2 v3 v4 M L) := by
  unfold fX19_addEdge_b75
  exact (kqB33 (y_DX19_guard hC h) (fun r18 M16 L17 h1 => (kqI3 (y_fX19_addEdge_b94 hC h1) (kqB33 (y_DX19_end hC h1) (fun r22 M20 L21 h2 => (kqI3 (y_fX19_addEdge_b94 hC h2) (kqK3 (fun q3 => (kqB33 (y_DX13_edge hC (by omega) h2) (fun r27 M25 L26 h4 => (kqB33 (y_DX19_fits hC h4) (fun r30 M28 L29 h5 => (kqI3 (kqS3 h5) (kqK3 (fun q6 => (kqM3_rb hC h5 (by omega) (fun M33 h7 => (kqS3 h7))))))))))))))))))
theorem y_fX19_addEdge_b33 {P : mwM → mwL → Prop} (hC : CPrb P) {fu : Nat} {v1 : Int32} {v2 : Int32} {s0 : Int32} {M : mwM} {L : mwL} (h : P M L) : kq3 P (fX19_addEdge_b33 fu v1 v2 s0 M L) := by
  unfold fX19_addEdge_b33
  exact (kqI3 (kqL3 (fun x6 => (kqB33 (y_DX19_takes hC h) (fun r9 M7 L8 h1 => (kqI3 (kqB33 (y_DX19_number hC h1) (fun r13 M11 L12 h2 => (kqI3 (kqS3 h2) (kqL3 (fun x15 => (y_fX19_addEdge_b75 hC h2)))))) (y_fX19_addEdge_b75 hC h1)))))) (kqS3 h))
theorem y_fX19_addEdge_b19 {P : mwM → mwL → Prop} (hC : CPrb P) {fu : Nat} {v1 : Int32} {s0 : Int32} {M : mwM} {L : mwL} (h : P M L) : kq3 P (fX19_addEdge_b19 fu v1 s0 M L) := by
  unfold fX19_addEdge_b19
  exact (kqI3 (kqB33 (y_DX19_state hC h) (fun r4 M2 L3 h1 => (y_fX19_addEdge_b33 hC h1))) (y_fX19_addEdge_b33 hC h))
theorem y_DX19_addEdge {P : mwM → mwL → Prop} (hC : CPrb P) {fu : Nat} {M : mwM} {L : mwL} (h : P M L) : kq3 P (DX19_addEdge fu M L) := by
  unfold DX19_addEdge
  exact (kqB33 (y_DX19_named hC h) (fun r36 M34 L35 h1 => (kqI3 (kqB33 (y_DX19_state hC h1) (fun r40 M38 L39 h2 => (y_fX19_addEdge_b19 hC h2))) (y_fX19_addEdge_b19 hC h1))))
theorem y_fX19_addAfter_b42 {P : mwM → mwL → Prop} (hC : CPrb P) {fu : Nat} {M : mwM} {L : mwL} (h : P M L) : kq3 P (fX19_addAfter_b42 fu M L) := by
  unfold fX19_addAfter_b42
  exact (kqS3 h)
theorem y_fX19_addAfter_b19 {P : mwM → mwL → Prop} (hC : CPrb P) {fu : Nat} {v1 : Int32} {s0 : Int32} {M : mwM} {L : mwL} (h : P M L) : kq3 P (fX19_addAfter_b19 fu v1 s0 M L) := by
  unfold fX19_addAfter_b19
  exact (kqI3 (y_fX19_addAfter_b42 hC h) (kqB33 (y_DX19_number hC h) (fun r4 M2 L3 h1 => (kqI3 (y_fX19_addAfter_b42 hC h1) (kqB33 (y_DX19_end hC h1) (fun r8 M6 L7 h2 => (kqI3 (y_fX19_addAfter_b42 hC h2) (kqK3 (fun q3 => (kqB33 (y_DX13_after hC (by omega) h2) (fun r13 M11 L12 h4 => (kqB33 (y_DX19_fits hC h4) (fun r16 M14 L15 h5 => (kq_mzz3 (kqS3 h5)))))))))))))))
theorem y_DX19_addAfter {P : mwM → mwL → Prop} (hC : CPrb P) {fu : Nat} {M : mwM} {L : mwL} (h : P M L) : kq3 P (DX19_addAfter fu M L) := by
  unfold DX19_addAfter
  exact (kqB33 (y_DX19_named hC h) (fun r20 M18 L19 h1 => (kqI3 (kqB33 (y_DX19_state hC h1) (fun r24 M22 L23 h2 => (y_fX19_addAfter_b19 hC h2))) (y_fX19_addAfter_b19 hC h1))))
theorem y_fX19_addDatum_b37 {P : mwM → mwL → Prop} (hC : CPrb P) {fu : Nat} {M : mwM} {L : mwL} (h : P M L) : kq3 P (fX19_addDatum_b37 fu M L) := by
  unfold fX19_addDatum_b37
  exact (kqS3 h)
theorem y_fX19_addDatum_b31 {P : mwM → mwL → Prop} (hC : CPrb P) {fu : Nat} {v1 : Int32} {s1 : Int32} {M : mwM} {L : mwL} (h : P M L) : kq3 P (fX19_addDatum_b31 fu v1 s1 M L) := by
  unfold fX19_addDatum_b31
  exact (kqB33 (y_DX19_newIn hC h) (fun r3 M1 L2 h1 => (kqI3 (y_fX19_addDatum_b37 hC h1) (kqL3 (fun x5 => (kqL3 (fun x6 => (kqB33 (y_DX19_number hC h1) (fun r9 M7 L8 h2 => (kqI3 (kqS3 h2) (kqL3 (fun x11 => (kqB33 (y_DX19_end hC h2) (fun r14 M12 L13 h3 => (kqI3 (kqS3 h3) (kqK3 (fun q4 => (kqI3 (kqB33 (y_DX19_fail hC h3) (fun r33 M31 L32 h5 => (kq_mzz3 (kqS3 h5)))) (kqK3 (fun q6 => (kqB33 (y_DX13_data hC (by omega) h3) (fun r21 M19 L20 h7 => (kqK3 (fun q8 => (kqK3 (fun q9 => (kqM3_rb hC h7 (by omega) (fun M24 h10 => (kqK3 (fun q11 => (kqK3 (fun q12 => (kqM3_rb hC h10 (by omega) (fun M27 h13 => (kqK3 (fun q14 => (kqK3 (fun q15 => (kqM3_rb hC h13 (by omega) (fun M30 h16 => (kqS3 h16)))))))))))))))))))))))))))))))))))))))))
theorem y_DX19_addDatum {P : mwM → mwL → Prop} (hC : CPrb P) {fu : Nat} {M : mwM} {L : mwL} (h : P M L) : kq3 P (DX19_addDatum fu M L) := by
  unfold DX19_addDatum
  exact (kqB33 (y_DX19_named hC h) (fun r37 M35 L36 h1 => (kqI3 (y_fX19_addDatum_b37 hC h1) (kqB33 (y_DX19_must hC h1) (fun r41 M39 L40 h2 => (kqI3 (y_fX19_addDatum_b37 hC h2) (kqB33 (y_DX19_findDatum hC h2) (fun r45 M43 L44 h3 => (kqI3 (y_fX19_addDatum_b31 hC h3) (y_fX19_addDatum_b31 hC h3))))))))))
theorem y_fX19_addAct_b67 {P : mwM → mwL → Prop} (hC : CPrb P) {fu : Nat} {a1 : Int32} {M : mwM} {L : mwL} (h : P M L) : kq3 P (fX19_addAct_b67 fu a1 M L) := by
  unfold fX19_addAct_b67
  exact (kqS3 h)
theorem y_fX19_addAct_b130 {P : mwM → mwL → Prop} (hC : CPrb P) {fu : Nat} {a1 : Int32} {s0 : Int32} {M : mwM} {L : mwL} (h : P M L) : kq3 P (fX19_addAct_b130 fu a1 s0 M L) := by
  unfold fX19_addAct_b130
  exact (kq_mzz3 (kqS3 h))
theorem y_fX19_addAct_b129 {P : mwM → mwL → Prop} (hC : CPrb P) {fu : Nat} {a1 : Int32} {M : mwM} {L : mwL} (h : P M L) : kq3 P (fX19_addAct_b129 fu a1 M L) := by
  unfold fX19_addAct_b129
  exact (y_fX19_addAct_b130 hC h)
theorem y_fX19_addAct_b111 {P : mwM → mwL → Prop} (hC : CPrb P) {fu : Nat} {a1 : Int32} {v4 : Int32} {v5 : Int32} {s1 : Nat} {s2 : Int32} {s3 : Int32} (hk_s1 : 964 ≤ s1 ∧ s1 < 1577 ∧ (s1 - 964) % 53 = 0) {M : mwM} {L : mwL} (h : P M L) : kq3 P (fX19_addAct_b111 fu a1 v4 v5 s1 s2 s3 M L) := by
  unfold fX19_addAct_b111
  exact (kqB33 (y_DX13_act hC (by omega) h) (fun r22 M20 L21 h1 => (kqB33 (y_DX19_fits hC h1) (fun r25 M23 L24 h2 => (kqI3 (y_fX19_addAct_b129 hC h2) (y_fX19_addAct_b130 hC h2))))))
theorem y_fX19_addAct_b47 {P : mwM → mwL → Prop} (hC : CPrb P) {fu : Nat} {a1 : Int32} {v2 : Int32} {v3 : Int32} {s0 : Int32} {M : mwM} {L : mwL} (h : P M L) : kq3 P (fX19_addAct_b47 fu a1 v2 v3 s0 M L) := by
  unfold fX19_addAct_b47
  exact (kqI3 (y_fX19_addAct_b67 hC h) (kqB33 (y_DX19_number hC h) (fun r8 M6 L7 h1 => (kqI3 (y_fX19_addAct_b67 hC h1) (kqL3 (fun x10 => (kqB33 (y_DX19_takes hC h1) (fun r13 M11 L12 h2 => (kqB33 (y_DX19_end hC h2) (fun r16 M14 L15 h3 => (kqI3 (y_fX19_addAct_b129 hC h3) (kqK3 (fun q4 => (kqI3 (y_fX19_addAct_b111 hC (by omega) h3) (y_fX19_addAct_b111 hC (by omega) h3)))))))))))))))
theorem y_fX19_addAct_b33 {P : mwM → mwL → Prop} (hC : CPrb P) {fu : Nat} {a1 : Int32} {v2 : Int32} {s0 : Int32} {M : mwM} {L : mwL} (h : P M L) : kq3 P (fX19_addAct_b33 fu a1 v2 s0 M L) := by
  unfold fX19_addAct_b33
  exact (kqI3 (kqB33 (y_DX19_datum hC h) (fun r4 M2 L3 h1 => (y_fX19_addAct_b47 hC h1))) (y_fX19_addAct_b47 hC h))
theorem y_DX19_addAct {P : mwM → mwL → Prop} (hC : CPrb P) {fu : Nat} {a1 : Int32} {M : mwM} {L : mwL} (h : P M L) : kq3 P (DX19_addAct fu a1 M L) := by
  unfold DX19_addAct
  exact (kqB33 (y_DX19_named hC h) (fun r30 M28 L29 h1 => (kqI3 (kqI3 (kqK3 (fun q2 => (y_fX19_addAct_b33 hC h1))) (kqB33 (y_DX19_state hC h1) (fun r35 M33 L34 h3 => (y_fX19_addAct_b33 hC h3)))) (y_fX19_addAct_b33 hC h1))))
theorem y_fX19_addSignal_b94 {P : mwM → mwL → Prop} (hC : CPrb P) {fu : Nat} {M : mwM} {L : mwL} (h : P M L) : kq3 P (fX19_addSignal_b94 fu M L) := by
  unfold fX19_addSignal_b94
  exact (kqS3 h)
theorem y_fX19_addSignal_b74 {P : mwM → mwL → Prop} (hC : CPrb P) {fu : Nat} {v1 : Int32} {v2 : Int32} {v3 : Int32} {s0 : Int32} {M : mwM} {L : mwL} (h : P M L) : kq3 P (fX19_addSignal_b74 fu v1 v2 v3 s0 M L) := by
  unfold fX19_addSignal_b74
  exact (kqI3 (y_fX19_addSignal_b94 hC h) (kqB33 (y_DX19_number hC h) (fun r4 M2 L3 h1 => (kqI3 (y_fX19_addSignal_b94 hC h1) (kqK3 (fun q2 => (kqM3_rb hC h1 (by omega) (fun M7 h3 => (kqB33 (y_DX19_takes hC h3) (fun r10 M8 L9 h4 => (kqK3 (fun q5 => (kqM3_rb hC h4 (by omega) (fun M12 h6 => (kqB33 (y_DX19_end hC h6) (fun r15 M13 L14 h7 => (kqI3 (kqS3 h7) (kqK3 (fun q8 => (kqM3_rb hC h7 (by omega) (fun M18 h9 => (kqK3 (fun q10 => (kqM3_rb hC h9 (by omega) (fun M20 h11 => (kqK3 (fun q12 => (kqM3_rb hC h11 (by omega) (fun M22 h13 => (kqB23 (y_DX19_addName hC h13) (fun M23 L24 h14 => (kqM3_rb hC h14 (by omega) (fun M25 h15 => (kqS3 h15))))))))))))))))))))))))))))))))))
theorem y_DX19_addSignal {P : mwM → mwL → Prop} (hC : CPrb P) {fu : Nat} {M : mwM} {L : mwL} (h : P M L) : kq3 P (DX19_addSignal fu M L) := by
  unfold DX19_addSignal
  exact (kqB33 (y_DX19_newName hC h) (fun r28 M26 L27 h1 => (kqI3 (kqS3 h1) (kqL3 (fun x30 => (kqL3 (fun x31 => (kqB33 (y_DX19_number hC h1) (fun r34 M32 L33 h2 => (kqI3 (kqS3 h2) (kqK3 (fun q3 => (kqM3_rb hC h2 (by omega) (fun M37 h4 => (kqB33 (y_DX19_named hC h4) (fun r40 M38 L39 h5 => (kqI3 (kqB33 (y_DX19_datum hC h5) (fun r44 M42 L43 h6 => (y_fX19_addSignal_b74 hC h6))) (y_fX19_addSignal_b74 hC h5))))))))))))))))))
theorem y_fX19_keyOf_b37 {P : mwM → mwL → Prop} (hC : CPrb P) {fu : Nat} {a1 : Int32} {a2 : Int32} {r2 : (Int32 × mwM × mwL) → Option (Int32 × mwM × mwL)} {v3 : Int32} (hr2 : ∀ s, P s.2.1 s.2.2 → kq3 P (r2 s)) {M : mwM} {L : mwL} (h : P M L) : kq3 P (fX19_keyOf_b37 fu a1 a2 r2 v3 M L) := by
  unfold fX19_keyOf_b37
  exact (kqL3 (fun x7 => (hr2 (x7, M, L) h)))
theorem y_fX19_keyOf_i2 {P : mwM → mwL → Prop} (hC : CPrb P) {fu : Nat} {a1 : Int32} {a2 : Int32} {r2 : (Int32 × mwM × mwL) → Option (Int32 × mwM × mwL)} {v3 : Int32} (hr2 : ∀ s, P s.2.1 s.2.2 → kq3 P (r2 s)) {M : mwM} {L : mwL} (h : P M L) : kq3 P (fX19_keyOf_i2 fu a1 a2 r2 v3 M L) := by
  unfold fX19_keyOf_i2
  exact (kqI3 (kqS3 h) (kqK3 (fun q1 => (kqI3 (kqK3 (fun q2 => (kqI3 (kqK3 (fun q3 => (kqS3 h))) (y_fX19_keyOf_b37 hC hr2 h)))) (y_fX19_keyOf_b37 hC hr2 h)))))
theorem y_fX19_keyOf_h2 {P : mwM → mwL → Prop} (hC : CPrb P) {fu : Nat} {a1 : Int32} {a2 : Int32} : ∀ n s, P s.2.1 s.2.2 → kq3 P (fX19_keyOf_h2 fu a1 a2 n s) := by
  intro n
  induction n with
  | zero => intro s _; exact kqN3
  | succ n ih =>
    intro s h
    show kq3 P (fX19_keyOf_i2 fu a1 a2 (fX19_keyOf_h2 fu a1 a2 n) s.1 s.2.1 s.2.2)
    exact y_fX19_keyOf_i2 hC ih h
theorem y_DX19_keyOf {P : mwM → mwL → Prop} (hC : CPrb P) {fu : Nat} {a1 : Int32} {a2 : Int32} {M : mwM} {L : mwL} (h : P M L) : kq3 P (DX19_keyOf fu a1 a2 M L) := by
  unfold DX19_keyOf
  exact (y_fX19_keyOf_h2 hC _ (0, M, L) h)
theorem y_fX19_addKey_b23 {P : mwM → mwL → Prop} (hC : CPrb P) {fu : Nat} {M : mwM} {L : mwL} (h : P M L) : kq3 P (fX19_addKey_b23 fu M L) := by
  unfold fX19_addKey_b23
  exact (kqS3 h)
theorem y_fX19_addKey_b52 {P : mwM → mwL → Prop} (hC : CPrb P) {fu : Nat} {M : mwM} {L : mwL} (h : P M L) : kq3 P (fX19_addKey_b52 fu M L) := by
  unfold fX19_addKey_b52
  exact (kqS3 h)
theorem y_DX19_addKey {P : mwM → mwL → Prop} (hC : CPrb P) {fu : Nat} {M : mwM} {L : mwL} (h : P M L) : kq3 P (DX19_addKey fu M L) := by
  unfold DX19_addKey
  exact (kqB33 (y_DX19_named hC h) (fun r3 M1 L2 h1 => (kqI3 (y_fX19_addKey_b23 hC h1) (kqB33 (y_DX19_number hC h1) (fun r7 M5 L6 h2 => (kqI3 (y_fX19_addKey_b23 hC h2) (kqL3 (fun x9 => (kqL3 (fun x10 => (kqB33 (y_DX19_number hC h2) (fun r13 M11 L12 h3 => (kqI3 (y_fX19_addKey_b52 hC h3) (kqB33 (y_DX19_end hC h3) (fun r17 M15 L16 h4 => (kqI3 (y_fX19_addKey_b52 hC h4) (kqB33 (y_DX19_keyOf hC h4) (fun r21 M19 L20 h5 => (kqI3 (kqK3 (fun q6 => (kqM3_rb hC h5 (by omega) (fun M24 h7 => (kqK3 (fun q8 => (kqM3_rb hC h7 (by omega) (fun M26 h9 => (kqK3 (fun q10 => (kqM3_rb hC h9 (by omega) (fun M28 h11 => (kqM3_rb hC h11 (by omega) (fun M29 h12 => (kqS3 h12))))))))))))))) (kqB33 (y_DX19_fail hC h5) (fun r32 M30 L31 h13 => (kq_mzz3 (kqS3 h13)))))))))))))))))))))))
theorem y_DX19_senderOf {P : mwM → mwL → Prop} (hC : CPrb P) {fu : Nat} {a1 : Int32} {M : mwM} {L : mwL} (h : P M L) : kq3 P (DX19_senderOf fu a1 M L) := by
  unfold DX19_senderOf
  exact (kqK3 (fun q1 => (kqK3 (fun q2 => (kqK3 (fun q3 => (kqS3 h)))))))
theorem y_fX19_addRead_b55 {P : mwM → mwL → Prop} (hC : CPrb P) {fu : Nat} {M : mwM} {L : mwL} (h : P M L) : kq3 P (fX19_addRead_b55 fu M L) := by
  unfold fX19_addRead_b55
  exact (kqS3 h)
theorem y_fX19_addRead_b33 {P : mwM → mwL → Prop} (hC : CPrb P) {fu : Nat} {v1 : Int32} {v2 : Int32} {s0 : Int32} {M : mwM} {L : mwL} (h : P M L) : kq3 P (fX19_addRead_b33 fu v1 v2 s0 M L) := by
  unfold fX19_addRead_b33
  exact (kqI3 (y_fX19_addRead_b55 hC h) (kqB33 (y_DX19_number hC h) (fun r8 M6 L7 h1 => (kqI3 (y_fX19_addRead_b55 hC h1) (kqB33 (y_DX19_end hC h1) (fun r12 M10 L11 h2 => (kqI3 (y_fX19_addRead_b55 hC h2) (kqK3 (fun q3 => (kqK3 (fun q4 => (kqB33 (y_DX19_senderOf hC h2) (fun r18 M16 L17 h5 => (kqI3 (kqB33 (y_DX19_fail hC h5) (fun r38 M36 L37 h6 => (kq_mzz3 (kqS3 h6)))) (kqI3 (kqB33 (y_DX19_fail hC h5) (fun r34 M32 L33 h7 => (kq_mzz3 (kqS3 h7)))) (kqK3 (fun q8 => (kqM3_rb hC h5 (by omega) (fun M22 h9 => (kqK3 (fun q10 => (kqM3_rb hC h9 (by omega) (fun M24 h11 => (kqK3 (fun q12 => (kqM3_rb hC h11 (by omega) (fun M26 h13 => (kqK3 (fun q14 => (kqM3_rb hC h13 (by omega) (fun M28 h15 => (kqK3 (fun q16 => (kqM3_rb hC h15 (by omega) (fun M30 h17 => (kqM3_rb hC h17 (by omega) (fun M31 h18 => (kqS3 h18))))))))))))))))))))))))))))))))))))))
theorem y_fX19_addRead_b19 {P : mwM → mwL → Prop} (hC : CPrb P) {fu : Nat} {v1 : Int32} {s0 : Int32} {M : mwM} {L : mwL} (h : P M L) : kq3 P (fX19_addRead_b19 fu v1 s0 M L) := by
  unfold fX19_addRead_b19
  exact (kqI3 (kqB33 (y_DX19_datum hC h) (fun r4 M2 L3 h1 => (y_fX19_addRead_b33 hC h1))) (y_fX19_addRead_b33 hC h))
theorem y_DX19_addRead {P : mwM → mwL → Prop} (hC : CPrb P) {fu : Nat} {M : mwM} {L : mwL} (h : P M L) : kq3 P (DX19_addRead fu M L) := by
  unfold DX19_addRead
  exact (kqB33 (y_DX19_named hC h) (fun r42 M40 L41 h1 => (kqI3 (kqB33 (y_DX19_named hC h1) (fun r46 M44 L45 h2 => (y_fX19_addRead_b19 hC h2))) (y_fX19_addRead_b19 hC h1))))
theorem y_fX19_addWatch_b42 {P : mwM → mwL → Prop} (hC : CPrb P) {fu : Nat} {M : mwM} {L : mwL} (h : P M L) : kq3 P (fX19_addWatch_b42 fu M L) := by
  unfold fX19_addWatch_b42
  exact (kqS3 h)
theorem y_fX19_addWatch_b19 {P : mwM → mwL → Prop} (hC : CPrb P) {fu : Nat} {v1 : Int32} {s0 : Int32} {M : mwM} {L : mwL} (h : P M L) : kq3 P (fX19_addWatch_b19 fu v1 s0 M L) := by
  unfold fX19_addWatch_b19
  exact (kqI3 (y_fX19_addWatch_b42 hC h) (kqB33 (y_DX19_number hC h) (fun r4 M2 L3 h1 => (kqI3 (y_fX19_addWatch_b42 hC h1) (kqB33 (y_DX19_end hC h1) (fun r8 M6 L7 h2 => (kqI3 (y_fX19_addWatch_b42 hC h2) (kqB33 (y_DX19_senderOf hC h2) (fun r12 M10 L11 h3 => (kqI3 (kqB33 (y_DX19_fail hC h3) (fun r33 M31 L32 h4 => (kq_mzz3 (kqS3 h4)))) (kqI3 (kqB33 (y_DX19_fail hC h3) (fun r29 M27 L28 h5 => (kq_mzz3 (kqS3 h5)))) (kqK3 (fun q6 => (kqM3_rb hC h3 (by omega) (fun M16 h7 => (kqK3 (fun q8 => (kqM3_rb hC h7 (by omega) (fun M18 h9 => (kqB33 (y_DX18_code hC h9) (fun r21 M19 L20 h10 => (kqK3 (fun q11 => (kqM3_rb hC h10 (by omega) (fun M23 h12 => (kqK3 (fun q13 => (kqW3_rb hC h12 (by omega) (fun L25 h14 => (kqM3_rb hC h14 (by omega) (fun M26 h15 => (kqS3 h15))))))))))))))))))))))))))))))))
theorem y_DX19_addWatch {P : mwM → mwL → Prop} (hC : CPrb P) {fu : Nat} {M : mwM} {L : mwL} (h : P M L) : kq3 P (DX19_addWatch fu M L) := by
  unfold DX19_addWatch
  exact (kqB33 (y_DX19_named hC h) (fun r37 M35 L36 h1 => (kqI3 (kqB33 (y_DX19_named hC h1) (fun r41 M39 L40 h2 => (y_fX19_addWatch_b19 hC h2))) (y_fX19_addWatch_b19 hC h1))))
theorem y_DX19_line {P : mwM → mwL → Prop} (hC : CPra P) {fu : Nat} {M : mwM} {L : mwL} (h : P M L) : kq3 P (DX19_line fu M L) := by
  unfold DX19_line
  exact (kqM3_ra hC h (by omega) (fun M1 h1 => (kqB33 (y_DX19_is (cab hC) h1) (fun r4 M2 L3 h2 => (kqI3 (kqB33 (y_DX19_is (cab hC) h2) (fun r8 M6 L7 h3 => (kqI3 (kqB33 (y_DX19_is (cab hC) h3) (fun r12 M10 L11 h4 => (kqI3 (kqB33 (y_DX19_is (cab hC) h4) (fun r16 M14 L15 h5 => (kqI3 (kqB33 (y_DX19_is (cab hC) h5) (fun r20 M18 L19 h6 => (kqI3 (kqB33 (y_DX19_is (cab hC) h6) (fun r24 M22 L23 h7 => (kqI3 (kqB33 (y_DX19_is (cab hC) h7) (fun r28 M26 L27 h8 => (kqI3 (kqB33 (y_DX19_is (cab hC) h8) (fun r32 M30 L31 h9 => (kqI3 (kqB33 (y_DX19_is (cab hC) h9) (fun r36 M34 L35 h10 => (kqI3 (kqB33 (y_DX19_is (cab hC) h10) (fun r40 M38 L39 h11 => (kqI3 (kqB33 (y_DX19_is (cab hC) h11) (fun r44 M42 L43 h12 => (kqI3 (kqB33 (y_DX19_is (cab hC) h12) (fun r48 M46 L47 h13 => (kqI3 (kqB33 (y_DX19_is (cab hC) h13) (fun r52 M50 L51 h14 => (kqI3 (kqB33 (y_DX19_is (cab hC) h14) (fun r56 M54 L55 h15 => (kqI3 (kqB33 (y_DX19_fail (cab hC) h15) (fun r60 M58 L59 h16 => (kq_mzz3 (kqS3 h16)))) (kqB33 (y_DX19_addWatch (cab hC) h15) (fun r64 M62 L63 h17 => (kq_mzz3 (kqS3 h17))))))) (kqB33 (y_DX19_addRead (cab hC) h14) (fun r68 M66 L67 h18 => (kq_mzz3 (kqS3 h18))))))) (kqB33 (y_DX19_addKey (cab hC) h13) (fun r72 M70 L71 h19 => (kq_mzz3 (kqS3 h19))))))) (kqB33 (y_DX19_addSignal (cab hC) h12) (fun r76 M74 L75 h20 => (kq_mzz3 (kqS3 h20))))))) (kqB33 (y_DX19_addAct (cab hC) h11) (fun r80 M78 L79 h21 => (kq_mzz3 (kqS3 h21))))))) (kqB33 (y_DX19_addAct (cab hC) h10) (fun r84 M82 L83 h22 => (kq_mzz3 (kqS3 h22))))))) (kqB33 (y_DX19_addAct (cab hC) h9) (fun r88 M86 L87 h23 => (kq_mzz3 (kqS3 h23))))))) (kqB33 (y_DX19_addDatum (cab hC) h8) (fun r92 M90 L91 h24 => (kq_mzz3 (kqS3 h24))))))) (kqB33 (y_DX19_addAfter (cab hC) h7) (fun r96 M94 L95 h25 => (kq_mzz3 (kqS3 h25))))))) (kqB33 (y_DX19_addEdge (cab hC) h6) (fun r100 M98 L99 h26 => (kq_mzz3 (kqS3 h26))))))) (kqB33 (y_DX19_addState hC h5) (fun r104 M102 L103 h27 => (kq_mzz3 (kqS3 h27))))))) (kqB33 (y_DX19_addChart hC h4) (fun r108 M106 L107 h28 => (kq_mzz3 (kqS3 h28))))))) (kqB33 (y_DX19_addTask (cab hC) h3) (fun r112 M110 L111 h29 => (kq_mzz3 (kqS3 h29))))))) (kqB33 (y_DX19_addController (cab hC) h2) (fun r116 M114 L115 h30 => (kq_mzz3 (kqS3 h30)))))))))
theorem y_fX19_packOne_b371 {P : mwM → mwL → Prop} (hC : CPrb P) {fu : Nat} {a1 : Int32} {a2 : Int32} {a3 : Int32} {r181 : (Int32 × Int32 × mwM × mwL) → Option (Int32 × mwM × mwL)} {r232 : (Int32 × Int32 × Int32 × mwM × mwL) → Option (Int32 × mwM × mwL)} {v5 : Int32} {v6 : Int32} {v7 : Int32} (hr181 : ∀ s, P s.2.2.1 s.2.2.2 → kq3 P (r181 s)) (hr232 : ∀ s, P s.2.2.2.1 s.2.2.2.2 → kq3 P (r232 s)) {M : mwM} {L : mwL} (h : P M L) : kq3 P (fX19_packOne_b371 fu a1 a2 a3 r181 r232 v5 v6 v7 M L) := by
  unfold fX19_packOne_b371
  exact (kqL3 (fun x88 => (hr232 (v5, v6, x88, M, L) h)))
theorem y_fX19_packOne_b280 {P : mwM → mwL → Prop} (hC : CPrb P) {fu : Nat} {a1 : Int32} {a2 : Int32} {a3 : Int32} {r181 : (Int32 × Int32 × mwM × mwL) → Option (Int32 × mwM × mwL)} {r232 : (Int32 × Int32 × Int32 × mwM × mwL) → Option (Int32 × mwM × mwL)} {v5 : Int32} {v6 : Int32} {v7 : Int32} {v8 : Int32} {s0 : Int32} (hr181 : ∀ s, P s.2.2.1 s.2.2.2 → kq3 P (r181 s)) (hr232 : ∀ s, P s.2.2.2.1 s.2.2.2.2 → kq3 P (r232 s)) {M : mwM} {L : mwL} (h : P M L) : kq3 P (fX19_packOne_b280 fu a1 a2 a3 r181 r232 v5 v6 v7 v8 s0 M L) := by
  unfold fX19_packOne_b280
  exact (kqI3 (kqK3 (fun q1 => (kqK3 (fun q2 => (kqB33 (y_DX16_place hC (by omega) h) (fun r72 M70 L71 h3 => (kqI3 (kqK3 (fun q4 => (kqK3 (fun q5 => (kqM3_rb hC h3 (by omega) (fun M76 h6 => (kqK3 (fun q7 => (kqM3_rb hC h6 (by omega) (fun M78 h8 => (kqK3 (fun q9 => (kqM3_rb hC h8 (by omega) (fun M80 h10 => (kqK3 (fun q11 => (kqK3 (fun q12 => (kqB33 (y_DX16_place hC (by omega) h10) (fun r85 M83 L84 h13 => (kqK3 (fun q14 => (kqM3_rb hC h13 (by omega) (fun M87 h15 => (y_fX19_packOne_b371 hC hr181 hr232 h15))))))))))))))))))))))))) (y_fX19_packOne_b371 hC hr181 hr232 h3)))))))) (y_fX19_packOne_b371 hC hr181 hr232 h))
theorem y_fX19_packOne_i232 {P : mwM → mwL → Prop} (hC : CPrb P) {fu : Nat} {a1 : Int32} {a2 : Int32} {a3 : Int32} {r181 : (Int32 × Int32 × mwM × mwL) → Option (Int32 × mwM × mwL)} {r232 : (Int32 × Int32 × Int32 × mwM × mwL) → Option (Int32 × mwM × mwL)} {v5 : Int32} {v6 : Int32} {v7 : Int32} (hr181 : ∀ s, P s.2.2.1 s.2.2.2 → kq3 P (r181 s)) (hr232 : ∀ s, P s.2.2.2.1 s.2.2.2.2 → kq3 P (r232 s)) {M : mwM} {L : mwL} (h : P M L) : kq3 P (fX19_packOne_i232 fu a1 a2 a3 r181 r232 v5 v6 v7 M L) := by
  unfold fX19_packOne_i232
  exact (kqI3 (kqM3_rb hC h (by omega) (fun M53 h1 => (kqL3 (fun x54 => (hr181 (v5, x54, M53, L) h1))))) (kqB33 (y_DX19_senderOf hC h) (fun r57 M55 L56 h2 => (kqK3 (fun q3 => (kqB33 (y_DX19_keyOf hC h2) (fun r61 M59 L60 h4 => (kqB33 (y_DX19_senderOf hC h4) (fun r64 M62 L63 h5 => (kqI3 (kqI3 (y_fX19_packOne_b280 hC hr181 hr232 h5) (y_fX19_packOne_b280 hC hr181 hr232 h5)) (y_fX19_packOne_b371 hC hr181 hr232 h5)))))))))))
theorem y_fX19_packOne_h232 {P : mwM → mwL → Prop} (hC : CPrb P) {fu : Nat} {a1 : Int32} {a2 : Int32} {a3 : Int32} {r181 : (Int32 × Int32 × mwM × mwL) → Option (Int32 × mwM × mwL)} (hr181 : ∀ s, P s.2.2.1 s.2.2.2 → kq3 P (r181 s)) : ∀ n s, P s.2.2.2.1 s.2.2.2.2 → kq3 P (fX19_packOne_h232 fu a1 a2 a3 r181 n s) := by
  intro n
  induction n with
  | zero => intro s _; exact kqN3
  | succ n ih =>
    intro s h
    show kq3 P (fX19_packOne_i232 fu a1 a2 a3 r181 (fX19_packOne_h232 fu a1 a2 a3 r181 n) s.1 s.2.1 s.2.2.1 s.2.2.2.1 s.2.2.2.2)
    exact y_fX19_packOne_i232 hC hr181 ih h
theorem y_fX19_packOne_i181 {P : mwM → mwL → Prop} (hC : CPrb P) {fu : Nat} {a1 : Int32} {a2 : Int32} {a3 : Int32} {r181 : (Int32 × Int32 × mwM × mwL) → Option (Int32 × mwM × mwL)} {v5 : Int32} {v6 : Int32} (hr181 : ∀ s, P s.2.2.1 s.2.2.2 → kq3 P (r181 s)) {M : mwM} {L : mwL} (h : P M L) : kq3 P (fX19_packOne_i181 fu a1 a2 a3 r181 v5 v6 M L) := by
  unfold fX19_packOne_i181
  exact (kqI3 (kqS3 h) (kqK3 (fun q1 => (kqM3_rb hC h (by omega) (fun M45 h2 => (kqK3 (fun q3 => (kqM3_rb hC h2 (by omega) (fun M47 h4 => (kqK3 (fun q5 => (kqM3_rb hC h4 (by omega) (fun M49 h6 => (kqK3 (fun q7 => (kqM3_rb hC h6 (by omega) (fun M51 h8 => (y_fX19_packOne_h232 hC hr181 _ (v5, v6, 0, M51, L) h8))))))))))))))))))
theorem y_fX19_packOne_h181 {P : mwM → mwL → Prop} (hC : CPrb P) {fu : Nat} {a1 : Int32} {a2 : Int32} {a3 : Int32} : ∀ n s, P s.2.2.1 s.2.2.2 → kq3 P (fX19_packOne_h181 fu a1 a2 a3 n s) := by
  intro n
  induction n with
  | zero => intro s _; exact kqN3
  | succ n ih =>
    intro s h
    show kq3 P (fX19_packOne_i181 fu a1 a2 a3 (fX19_packOne_h181 fu a1 a2 a3 n) s.1 s.2.1 s.2.2.1 s.2.2.2)
    exact y_fX19_packOne_i181 hC ih h
theorem y_fX19_packOne_b176 {P : mwM → mwL → Prop} (hC : CPrb P) {fu : Nat} {a1 : Int32} {a2 : Int32} {a3 : Int32} {s0 : Int32} {M : mwM} {L : mwL} (h : P M L) : kq3 P (fX19_packOne_b176 fu a1 a2 a3 s0 M L) := by
  unfold fX19_packOne_b176
  exact (y_fX19_packOne_h181 hC _ (s0, 1, M, L) h)
theorem y_fX19_packOne_b149 {P : mwM → mwL → Prop} (hC : CPrb P) {fu : Nat} {a1 : Int32} {a2 : Int32} {a3 : Int32} {r6 : (Int32 × Int32 × mwM × mwL) → Option (Int32 × mwM × mwL)} {v4 : Int32} {v5 : Int32} (hr6 : ∀ s, P s.2.2.1 s.2.2.2 → kq3 P (r6 s)) {M : mwM} {L : mwL} (h : P M L) : kq3 P (fX19_packOne_b149 fu a1 a2 a3 r6 v4 v5 M L) := by
  unfold fX19_packOne_b149
  exact (kqL3 (fun x42 => (hr6 (v4, x42, M, L) h)))
theorem y_fX19_packOne_b85 {P : mwM → mwL → Prop} (hC : CPrb P) {fu : Nat} {a1 : Int32} {a2 : Int32} {a3 : Int32} {r6 : (Int32 × Int32 × mwM × mwL) → Option (Int32 × mwM × mwL)} {v5 : Int32} (hr6 : ∀ s, P s.2.2.1 s.2.2.2 → kq3 P (r6 s)) {M : mwM} {L : mwL} (h : P M L) : kq3 P (fX19_packOne_b85 fu a1 a2 a3 r6 v5 M L) := by
  unfold fX19_packOne_b85
  exact (kqK3 (fun q1 => (kqK3 (fun q2 => (kqK3 (fun q3 => (kqK3 (fun q4 => (kqB33 (y_DX16_signal hC (by omega) h) (fun r32 M30 L31 h5 => (kqK3 (fun q6 => (kqM3_rb hC h5 (by omega) (fun M34 h7 => (kqK3 (fun q8 => (kqI3 (kqK3 (fun q9 => (kqB33 (y_DX19_fail hC h7) (fun r40 M38 L39 h10 => (kq_mzz3 (kqS3 h10)))))) (y_fX19_packOne_b149 hC hr6 h7))))))))))))))))))
theorem y_fX19_packOne_b82 {P : mwM → mwL → Prop} (hC : CPrb P) {fu : Nat} {a1 : Int32} {a2 : Int32} {a3 : Int32} {r6 : (Int32 × Int32 × mwM × mwL) → Option (Int32 × mwM × mwL)} {v5 : Int32} {s0 : Nat} {s1 : Int32} (hr6 : ∀ s, P s.2.2.1 s.2.2.2 → kq3 P (r6 s)) (hk_s0 : 941 ≤ s0 ∧ s0 < 1577 ∧ (s0 - 941) % 53 = 0) {M : mwM} {L : mwL} (h : P M L) : kq3 P (fX19_packOne_b82 fu a1 a2 a3 r6 v5 s0 s1 M L) := by
  unfold fX19_packOne_b82
  exact (kqB23 (y_DX16_anew hC (by omega) h) (fun M24 L25 h1 => (y_fX19_packOne_b85 hC hr6 h1)))
theorem y_fX19_packOne_b54 {P : mwM → mwL → Prop} (hC : CPrb P) {fu : Nat} {a1 : Int32} {a2 : Int32} {a3 : Int32} {r6 : (Int32 × Int32 × mwM × mwL) → Option (Int32 × mwM × mwL)} {v4 : Int32} {v5 : Int32} {s0 : Int32} (hr6 : ∀ s, P s.2.2.1 s.2.2.2 → kq3 P (r6 s)) {M : mwM} {L : mwL} (h : P M L) : kq3 P (fX19_packOne_b54 fu a1 a2 a3 r6 v4 v5 s0 M L) := by
  unfold fX19_packOne_b54
  exact (kqI3 (kqI3 (kqK3 (fun q1 => (kqI3 (y_fX19_packOne_b82 hC hr6 (by omega) h) (y_fX19_packOne_b82 hC hr6 (by omega) h)))) (y_fX19_packOne_b85 hC hr6 h)) (y_fX19_packOne_b149 hC hr6 h))
theorem y_fX19_packOne_i6 {P : mwM → mwL → Prop} (hC : CPrb P) {fu : Nat} {a1 : Int32} {a2 : Int32} {a3 : Int32} {r6 : (Int32 × Int32 × mwM × mwL) → Option (Int32 × mwM × mwL)} {v4 : Int32} {v5 : Int32} (hr6 : ∀ s, P s.2.2.1 s.2.2.2 → kq3 P (r6 s)) {M : mwM} {L : mwL} (h : P M L) : kq3 P (fX19_packOne_i6 fu a1 a2 a3 r6 v4 v5 M L) := by
  unfold fX19_packOne_i6
  exact (kqI3 (kqI3 (y_fX19_packOne_b176 hC h) (kqK3 (fun q1 => (kqB33 (y_DX16_pack hC (by omega) h) (fun r7 M4 L5 h2 => (y_fX19_packOne_b176 hC h2)))))) (kqB33 (y_DX19_senderOf hC h) (fun r10 M8 L9 h3 => (kqK3 (fun q4 => (kqB33 (y_DX19_keyOf hC h3) (fun r14 M12 L13 h5 => (kqB33 (y_DX19_senderOf hC h5) (fun r17 M15 L16 h6 => (kqI3 (kqI3 (y_fX19_packOne_b54 hC hr6 h6) (y_fX19_packOne_b54 hC hr6 h6)) (y_fX19_packOne_b149 hC hr6 h6)))))))))))
theorem y_fX19_packOne_h6 {P : mwM → mwL → Prop} (hC : CPrb P) {fu : Nat} {a1 : Int32} {a2 : Int32} {a3 : Int32} : ∀ n s, P s.2.2.1 s.2.2.2 → kq3 P (fX19_packOne_h6 fu a1 a2 a3 n s) := by
  intro n
  induction n with
  | zero => intro s _; exact kqN3
  | succ n ih =>
    intro s h
    show kq3 P (fX19_packOne_i6 fu a1 a2 a3 (fX19_packOne_h6 fu a1 a2 a3 n) s.1 s.2.1 s.2.2.1 s.2.2.2)
    exact y_fX19_packOne_i6 hC ih h
theorem y_DX19_packOne {P : mwM → mwL → Prop} (hC : CPrb P) {fu : Nat} {a1 : Int32} {a2 : Int32} {a3 : Int32} {M : mwM} {L : mwL} (h : P M L) : kq3 P (DX19_packOne fu a1 a2 a3 M L) := by
  unfold DX19_packOne
  exact (y_fX19_packOne_h6 hC _ (0, 0, M, L) h)
theorem y_fX19_join_b137 {P : mwM → mwL → Prop} (hC : CPrb P) {fu : Nat} {r45 : (Int32 × mwM × mwL) → Option (Int32 × mwM × mwL)} {r62 : (Int32 × Int32 × mwM × mwL) → Option (Int32 × mwM × mwL)} {v1 : Int32} {v2 : Int32} {s1 : Int32} {s2 : Int32} (hr45 : ∀ s, P s.2.1 s.2.2 → kq3 P (r45 s)) (hr62 : ∀ s, P s.2.2.1 s.2.2.2 → kq3 P (r62 s)) {M : mwM} {L : mwL} (h : P M L) : kq3 P (fX19_join_b137 fu r45 r62 v1 v2 s1 s2 M L) := by
  unfold fX19_join_b137
  exact (kqK3 (fun q1 => (kqM3_rb hC h (by omega) (fun M26 h2 => (kqL3 (fun x27 => (hr62 (v1, x27, M26, L) h2)))))))
theorem y_fX19_join_b110 {P : mwM → mwL → Prop} (hC : CPrb P) {fu : Nat} {r45 : (Int32 × mwM × mwL) → Option (Int32 × mwM × mwL)} {r62 : (Int32 × Int32 × mwM × mwL) → Option (Int32 × mwM × mwL)} {v1 : Int32} {v2 : Int32} {s0 : Int32} (hr45 : ∀ s, P s.2.1 s.2.2 → kq3 P (r45 s)) (hr62 : ∀ s, P s.2.2.1 s.2.2.2 → kq3 P (r62 s)) {M : mwM} {L : mwL} (h : P M L) : kq3 P (fX19_join_b110 fu r45 r62 v1 v2 s0 M L) := by
  unfold fX19_join_b110
  exact (kqI3 (kqK3 (fun q1 => (y_fX19_join_b137 hC hr45 hr62 h))) (kqK3 (fun q2 => (y_fX19_join_b137 hC hr45 hr62 h))))
theorem y_fX19_join_b105 {P : mwM → mwL → Prop} (hC : CPrb P) {fu : Nat} {r45 : (Int32 × mwM × mwL) → Option (Int32 × mwM × mwL)} {r62 : (Int32 × Int32 × mwM × mwL) → Option (Int32 × mwM × mwL)} {v1 : Int32} {v2 : Int32} (hr45 : ∀ s, P s.2.1 s.2.2 → kq3 P (r45 s)) (hr62 : ∀ s, P s.2.2.1 s.2.2.2 → kq3 P (r62 s)) {M : mwM} {L : mwL} (h : P M L) : kq3 P (fX19_join_b105 fu r45 r62 v1 v2 M L) := by
  unfold fX19_join_b105
  exact (y_fX19_join_b110 hC hr45 hr62 h)
theorem y_fX19_join_b109 {P : mwM → mwL → Prop} (hC : CPrb P) {fu : Nat} {r45 : (Int32 × mwM × mwL) → Option (Int32 × mwM × mwL)} {r62 : (Int32 × Int32 × mwM × mwL) → Option (Int32 × mwM × mwL)} {v1 : Int32} {v2 : Int32} (hr45 : ∀ s, P s.2.1 s.2.2 → kq3 P (r45 s)) (hr62 : ∀ s, P s.2.2.1 s.2.2.2 → kq3 P (r62 s)) {M : mwM} {L : mwL} (h : P M L) : kq3 P (fX19_join_b109 fu r45 r62 v1 v2 M L) := by
  unfold fX19_join_b109
  exact (y_fX19_join_b110 hC hr45 hr62 h)
theorem y_fX19_join_i62 {P : mwM → mwL → Prop} (hC : CPrb P) {fu : Nat} {r45 : (Int32 × mwM × mwL) → Option (Int32 × mwM × mwL)} {r62 : (Int32 × Int32 × mwM × mwL) → Option (Int32 × mwM × mwL)} {v1 : Int32} {v2 : Int32} (hr45 : ∀ s, P s.2.1 s.2.2 → kq3 P (r45 s)) (hr62 : ∀ s, P s.2.2.1 s.2.2.2 → kq3 P (r62 s)) {M : mwM} {L : mwL} (h : P M L) : kq3 P (fX19_join_i62 fu r45 r62 v1 v2 M L) := by
  unfold fX19_join_i62
  exact (kqI3 (kqL3 (fun x14 => (hr45 (x14, M, L) h))) (kqK3 (fun q1 => (kqK3 (fun q2 => (kqI3 (y_fX19_join_b105 hC hr45 hr62 h) (kqK3 (fun q3 => (kqK3 (fun q4 => (kqI3 (kqI3 (y_fX19_join_b109 hC hr45 hr62 h) (y_fX19_join_b105 hC hr45 hr62 h)) (y_fX19_join_b109 hC hr45 hr62 h))))))))))))
theorem y_fX19_join_h62 {P : mwM → mwL → Prop} (hC : CPrb P) {fu : Nat} {r45 : (Int32 × mwM × mwL) → Option (Int32 × mwM × mwL)} (hr45 : ∀ s, P s.2.1 s.2.2 → kq3 P (r45 s)) : ∀ n s, P s.2.2.1 s.2.2.2 → kq3 P (fX19_join_h62 fu r45 n s) := by
  intro n
  induction n with
  | zero => intro s _; exact kqN3
  | succ n ih =>
    intro s h
    show kq3 P (fX19_join_i62 fu r45 (fX19_join_h62 fu r45 n) s.1 s.2.1 s.2.2.1 s.2.2.2)
    exact y_fX19_join_i62 hC hr45 ih h
theorem y_fX19_join_i45 {P : mwM → mwL → Prop} (hC : CPrb P) {fu : Nat} {r45 : (Int32 × mwM × mwL) → Option (Int32 × mwM × mwL)} {v1 : Int32} (hr45 : ∀ s, P s.2.1 s.2.2 → kq3 P (r45 s)) {M : mwM} {L : mwL} (h : P M L) : kq3 P (fX19_join_i45 fu r45 v1 M L) := by
  unfold fX19_join_i45
  exact (kqI3 (kqS3 h) (kqK3 (fun q1 => (kqM3_rb hC h (by omega) (fun M12 h2 => (y_fX19_join_h62 hC hr45 _ (v1, 0, M12, L) h2))))))
theorem y_fX19_join_h45 {P : mwM → mwL → Prop} (hC : CPrb P) {fu : Nat} : ∀ n s, P s.2.1 s.2.2 → kq3 P (fX19_join_h45 fu n s) := by
  intro n
  induction n with
  | zero => intro s _; exact kqN3
  | succ n ih =>
    intro s h
    show kq3 P (fX19_join_i45 fu (fX19_join_h45 fu n) s.1 s.2.1 s.2.2)
    exact y_fX19_join_i45 hC ih h
theorem y_fX19_join_b28 {P : mwM → mwL → Prop} (hC : CPrb P) {fu : Nat} {r2 : (Int32 × mwM × mwL) → Option (Int32 × mwM × mwL)} {v1 : Int32} {s1 : Int32} {s2 : Int32} (hr2 : ∀ s, P s.2.1 s.2.2 → kq3 P (r2 s)) {M : mwM} {L : mwL} (h : P M L) : kq3 P (fX19_join_b28 fu r2 v1 s1 s2 M L) := by
  unfold fX19_join_b28
  exact (kqB33 (y_DX19_packOne hC h) (fun r7 M5 L6 h1 => (kqI3 (kqS3 h1) (kqL3 (fun x9 => (hr2 (x9, M5, L6) h1))))))
theorem y_fX19_join_i2 {P : mwM → mwL → Prop} (hC : CPrb P) {fu : Nat} {r2 : (Int32 × mwM × mwL) → Option (Int32 × mwM × mwL)} {v1 : Int32} (hr2 : ∀ s, P s.2.1 s.2.2 → kq3 P (r2 s)) {M : mwM} {L : mwL} (h : P M L) : kq3 P (fX19_join_i2 fu r2 v1 M L) := by
  unfold fX19_join_i2
  exact (kqI3 (y_fX19_join_h45 hC _ (0, M, L) h) (kqI3 (y_fX19_join_b28 hC hr2 h) (y_fX19_join_b28 hC hr2 h)))
theorem y_fX19_join_h2 {P : mwM → mwL → Prop} (hC : CPrb P) {fu : Nat} : ∀ n s, P s.2.1 s.2.2 → kq3 P (fX19_join_h2 fu n s) := by
  intro n
  induction n with
  | zero => intro s _; exact kqN3
  | succ n ih =>
    intro s h
    show kq3 P (fX19_join_i2 fu (fX19_join_h2 fu n) s.1 s.2.1 s.2.2)
    exact y_fX19_join_i2 hC ih h
theorem y_DX19_join {P : mwM → mwL → Prop} (hC : CPrb P) {fu : Nat} {M : mwM} {L : mwL} (h : P M L) : kq3 P (DX19_join fu M L) := by
  unfold DX19_join
  exact (y_fX19_join_h2 hC _ (0, M, L) h)
theorem y_fX19_build_i256 {P : mwM → mwL → Prop} (hC : CPrb P) {fu : Nat} {r256 : (Int32 × mwM × mwL) → Option (Int32 × mwM × mwL)} {v1 : Int32} (hr256 : ∀ s, P s.2.1 s.2.2 → kq3 P (r256 s)) {M : mwM} {L : mwL} (h : P M L) : kq3 P (fX19_build_i256 fu r256 v1 M L) := by
  unfold fX19_build_i256
  exact (kqI3 (kqS3 h) (kqK3 (fun q1 => (kqM3_rb hC h (by omega) (fun M49 h2 => (kqK3 (fun q3 => (kqM3_rb hC h2 (by omega) (fun M51 h4 => (kqK3 (fun q5 => (kqM3_rb hC h4 (by omega) (fun M53 h6 => (kqK3 (fun q7 => (kqM3_rb hC h6 (by omega) (fun M55 h8 => (kqK3 (fun q9 => (kqM3_rb hC h8 (by omega) (fun M57 h10 => (kqK3 (fun q11 => (kqM3_rb hC h10 (by omega) (fun M59 h12 => (kqL3 (fun x60 => (hr256 (x60, M59, L) h12))))))))))))))))))))))))))))
theorem y_fX19_build_h256 {P : mwM → mwL → Prop} (hC : CPrb P) {fu : Nat} : ∀ n s, P s.2.1 s.2.2 → kq3 P (fX19_build_h256 fu n s) := by
  intro n
  induction n with
  | zero => intro s _; exact kqN3
  | succ n ih =>
    intro s h
    show kq3 P (fX19_build_i256 fu (fX19_build_h256 fu n) s.1 s.2.1 s.2.2)
    exact y_fX19_build_i256 hC ih h
theorem y_fX19_build_i234 {P : mwM → mwL → Prop} (hC : CPrb P) {fu : Nat} {r234 : (Int32 × mwM × mwL) → Option (Int32 × mwM × mwL)} {v1 : Int32} (hr234 : ∀ s, P s.2.1 s.2.2 → kq3 P (r234 s)) {M : mwM} {L : mwL} (h : P M L) : kq3 P (fX19_build_i234 fu r234 v1 M L) := by
  unfold fX19_build_i234
  exact (kqI3 (y_fX19_build_h256 hC _ (0, M, L) h) (kqK3 (fun q1 => (kqW3_rb hC h (by omega) (fun L45 h2 => (kqL3 (fun x46 => (hr234 (x46, M, L45) h2))))))))
theorem y_fX19_build_h234 {P : mwM → mwL → Prop} (hC : CPrb P) {fu : Nat} : ∀ n s, P s.2.1 s.2.2 → kq3 P (fX19_build_h234 fu n s) := by
  intro n
  induction n with
  | zero => intro s _; exact kqN3
  | succ n ih =>
    intro s h
    show kq3 P (fX19_build_i234 fu (fX19_build_h234 fu n) s.1 s.2.1 s.2.2)
    exact y_fX19_build_i234 hC ih h
theorem y_fX19_build_i214 {P : mwM → mwL → Prop} (hC : CPrb P) {fu : Nat} {r214 : (Int32 × mwM × mwL) → Option (Int32 × mwM × mwL)} {v1 : Int32} (hr214 : ∀ s, P s.2.1 s.2.2 → kq3 P (r214 s)) {M : mwM} {L : mwL} (h : P M L) : kq3 P (fX19_build_i214 fu r214 v1 M L) := by
  unfold fX19_build_i214
  exact (kqI3 (y_fX19_build_h234 hC _ (0, M, L) h) (kqK3 (fun q1 => (kqM3_rb hC h (by omega) (fun M41 h2 => (kqL3 (fun x42 => (hr214 (x42, M41, L) h2))))))))
theorem y_fX19_build_h214 {P : mwM → mwL → Prop} (hC : CPrb P) {fu : Nat} : ∀ n s, P s.2.1 s.2.2 → kq3 P (fX19_build_h214 fu n s) := by
  intro n
  induction n with
  | zero => intro s _; exact kqN3
  | succ n ih =>
    intro s h
    show kq3 P (fX19_build_i214 fu (fX19_build_h214 fu n) s.1 s.2.1 s.2.2)
    exact y_fX19_build_i214 hC ih h
theorem y_fX19_build_i193 {P : mwM → mwL → Prop} (hC : CPrb P) {fu : Nat} {r193 : (Int32 × mwM × mwL) → Option (Int32 × mwM × mwL)} {v1 : Int32} (hr193 : ∀ s, P s.2.1 s.2.2 → kq3 P (r193 s)) {M : mwM} {L : mwL} (h : P M L) : kq3 P (fX19_build_i193 fu r193 v1 M L) := by
  unfold fX19_build_i193
  exact (kqI3 (y_fX19_build_h214 hC _ (0, M, L) h) (kqK3 (fun q1 => (kqM3_rb hC h (by omega) (fun M37 h2 => (kqL3 (fun x38 => (hr193 (x38, M37, L) h2))))))))
theorem y_fX19_build_h193 {P : mwM → mwL → Prop} (hC : CPrb P) {fu : Nat} : ∀ n s, P s.2.1 s.2.2 → kq3 P (fX19_build_h193 fu n s) := by
  intro n
  induction n with
  | zero => intro s _; exact kqN3
  | succ n ih =>
    intro s h
    show kq3 P (fX19_build_i193 fu (fX19_build_h193 fu n) s.1 s.2.1 s.2.2)
    exact y_fX19_build_i193 hC ih h
theorem y_fX19_build_i91 {P : mwM → mwL → Prop} (hC : CPrb P) {fu : Nat} {r36 : (Int32 × mwM × mwL) → Option (Int32 × mwM × mwL)} {r91 : (Int32 × Int32 × Int32 × mwM × mwL) → Option (Int32 × mwM × mwL)} {v1 : Int32} {v2 : Int32} {v4 : Int32} (hr36 : ∀ s, P s.2.1 s.2.2 → kq3 P (r36 s)) (hr91 : ∀ s, P s.2.2.2.1 s.2.2.2.2 → kq3 P (r91 s)) {M : mwM} {L : mwL} (h : P M L) : kq3 P (fX19_build_i91 fu r36 r91 v1 v2 v4 M L) := by
  unfold fX19_build_i91
  exact (kqI3 (kqL3 (fun x23 => (hr36 (x23, M, L) h))) (kqB33 (y_DX15_activate hC h) (fun r26 M24 L25 h1 => (kqI3 (kqK3 (fun q2 => (kqL3 (fun x29 => (hr91 (v1, v2, x29, M24, L25) h1))))) (kqK3 (fun q3 => (kqB33 (y_DX19_fail hC h1) (fun r33 M31 L32 h4 => (kq_mzz3 (kqS3 h4))))))))))
theorem y_fX19_build_h91 {P : mwM → mwL → Prop} (hC : CPrb P) {fu : Nat} {r36 : (Int32 × mwM × mwL) → Option (Int32 × mwM × mwL)} (hr36 : ∀ s, P s.2.1 s.2.2 → kq3 P (r36 s)) : ∀ n s, P s.2.2.2.1 s.2.2.2.2 → kq3 P (fX19_build_h91 fu r36 n s) := by
  intro n
  induction n with
  | zero => intro s _; exact kqN3
  | succ n ih =>
    intro s h
    show kq3 P (fX19_build_i91 fu r36 (fX19_build_h91 fu r36 n) s.1 s.2.1 s.2.2.1 s.2.2.2.1 s.2.2.2.2)
    exact y_fX19_build_i91 hC hr36 ih h
theorem y_fX19_build_i36 {P : mwM → mwL → Prop} (hC : CPrb P) {fu : Nat} {r36 : (Int32 × mwM × mwL) → Option (Int32 × mwM × mwL)} {v1 : Int32} (hr36 : ∀ s, P s.2.1 s.2.2 → kq3 P (r36 s)) {M : mwM} {L : mwL} (h : P M L) : kq3 P (fX19_build_i36 fu r36 v1 M L) := by
  unfold fX19_build_i36
  exact (kqI3 (kqM3_rb hC h (by omega) (fun M2 h1 => (kqM3_rb hC h1 (by omega) (fun M3 h2 => (kqM3_rb hC h2 (by omega) (fun M4 h3 => (kqM3_rb hC h3 (by omega) (fun M5 h4 => (kqM3_rb hC h4 (by omega) (fun M6 h5 => (kqM3_rb hC h5 (by omega) (fun M7 h6 => (kqM3_rb hC h6 (by omega) (fun M8 h7 => (kqM3_rb hC h7 (by omega) (fun M9 h8 => (kqM3_rb hC h8 (by omega) (fun M10 h9 => (y_fX19_build_h193 hC _ (0, M10, L) h9))))))))))))))))))) (kqK3 (fun q10 => (kqK3 (fun q11 => (kqB33 (y_DX15_task hC h) (fun r15 M13 L14 h12 => (kqK3 (fun q13 => (kqB33 (y_DX15_part hC h12) (fun r19 M17 L18 h14 => (kqK3 (fun q15 => (kqL3 (fun x21 => (y_fX19_build_h91 hC hr36 _ (v1, r15, x21, M17, L18) h14))))))))))))))))
theorem y_fX19_build_h36 {P : mwM → mwL → Prop} (hC : CPrb P) {fu : Nat} : ∀ n s, P s.2.1 s.2.2 → kq3 P (fX19_build_h36 fu n s) := by
  intro n
  induction n with
  | zero => intro s _; exact kqN3
  | succ n ih =>
    intro s h
    show kq3 P (fX19_build_i36 fu (fX19_build_h36 fu n) s.1 s.2.1 s.2.2)
    exact y_fX19_build_i36 hC ih h
theorem y_DX19_build {P : mwM → mwL → Prop} (hC : CPrb P) {fu : Nat} {M : mwM} {L : mwL} (h : P M L) : kq3 P (DX19_build fu M L) := by
  unfold DX19_build
  exact (kqB23 (y_DX15_anew hC h) (fun M61 L62 h1 => (kqB23 (y_DX12_nodes hC h1) (fun M63 L64 h2 => (kqB23 (y_DX17_anew hC h2) (fun M65 L66 h3 => (y_fX19_build_h36 hC _ (0, M65, L66) h3)))))))
theorem y_fX19_read_b108 {P : mwM → mwL → Prop} (hC : CPrb P) {fu : Nat} {s0 : Int32} {M : mwM} {L : mwL} (h : P M L) : kq3 P (fX19_read_b108 fu s0 M L) := by
  unfold fX19_read_b108
  exact (kq_mzz3 (kqS3 h))
theorem y_fX19_read_b103 {P : mwM → mwL → Prop} (hC : CPrb P) {fu : Nat} {M : mwM} {L : mwL} (h : P M L) : kq3 P (fX19_read_b103 fu M L) := by
  unfold fX19_read_b103
  exact (y_fX19_read_b108 hC h)
theorem y_fX19_read_b74 {P : mwM → mwL → Prop} (hC : CPrb P) {fu : Nat} {r2 : (Int32 × mwM × mwL) → Option (Int32 × mwM × mwL)} (hr2 : ∀ s, P s.2.1 s.2.2 → kq3 P (r2 s)) {M : mwM} {L : mwL} (h : P M L) : kq3 P (fX19_read_b74 fu r2 M L) := by
  unfold fX19_read_b74
  exact (kqL3 (fun x22 => (hr2 (x22, M, L) h)))
theorem y_fX19_read_b53 {P : mwM → mwL → Prop} (hC : CPra P) {fu : Nat} {r2 : (Int32 × mwM × mwL) → Option (Int32 × mwM × mwL)} {v1 : Int32} (hr2 : ∀ s, P s.2.1 s.2.2 → kq3 P (r2 s)) {M : mwM} {L : mwL} (h : P M L) : kq3 P (fX19_read_b53 fu r2 v1 M L) := by
  unfold fX19_read_b53
  exact (kqM3_ra hC h (by omega) (fun M12 h1 => (kqB33 (y_DX19_next (cab hC) h1) (fun r16 M13 L14 h2 => (kqI3 (y_fX19_read_b74 (cab hC) hr2 h2) (kqB33 (y_DX19_line hC h2) (fun r20 M18 L19 h3 => (kqI3 (kqS3 h3) (y_fX19_read_b74 (cab hC) hr2 h3)))))))))
theorem y_fX19_read_i15 {P : mwM → mwL → Prop} (hC : CPra P) {fu : Nat} {r2 : (Int32 × mwM × mwL) → Option (Int32 × mwM × mwL)} {r15 : (Int32 × mwM × mwL) → Option (Int32 × mwM × mwL)} {v1 : Int32} (hr2 : ∀ s, P s.2.1 s.2.2 → kq3 P (r2 s)) (hr15 : ∀ s, P s.2.1 s.2.2 → kq3 P (r15 s)) {M : mwM} {L : mwL} (h : P M L) : kq3 P (fX19_read_i15 fu r2 r15 v1 M L) := by
  unfold fX19_read_i15
  exact (kqI3 (y_fX19_read_b53 hC hr2 h) (kqK3 (fun q1 => (kqI3 (y_fX19_read_b53 hC hr2 h) (kqM3_ra hC h (by omega) (fun M11 h2 => (hr15 (v1, M11, L) h2)))))))
theorem y_fX19_read_h15 {P : mwM → mwL → Prop} (hC : CPra P) {fu : Nat} {r2 : (Int32 × mwM × mwL) → Option (Int32 × mwM × mwL)} (hr2 : ∀ s, P s.2.1 s.2.2 → kq3 P (r2 s)) : ∀ n s, P s.2.1 s.2.2 → kq3 P (fX19_read_h15 fu r2 n s) := by
  intro n
  induction n with
  | zero => intro s _; exact kqN3
  | succ n ih =>
    intro s h
    show kq3 P (fX19_read_i15 fu r2 (fX19_read_h15 fu r2 n) s.1 s.2.1 s.2.2)
    exact y_fX19_read_i15 hC hr2 ih h
theorem y_fX19_read_i2 {P : mwM → mwL → Prop} (hC : CPra P) {fu : Nat} {r2 : (Int32 × mwM × mwL) → Option (Int32 × mwM × mwL)} {v1 : Int32} (hr2 : ∀ s, P s.2.1 s.2.2 → kq3 P (r2 s)) {M : mwM} {L : mwL} (h : P M L) : kq3 P (fX19_read_i2 fu r2 v1 M L) := by
  unfold fX19_read_i2
  exact (kqI3 (kqI3 (y_fX19_read_b103 (cab hC) h) (kqB33 (y_DX19_fail (cab hC) h) (fun r5 M3 L4 h1 => (kqI3 (y_fX19_read_b108 (cab hC) h1) (y_fX19_read_b103 (cab hC) h1))))) (kqM3_ra hC h (by omega) (fun M7 h2 => (y_fX19_read_h15 hC hr2 _ (v1, M7, L) h2))))
theorem y_fX19_read_h2 {P : mwM → mwL → Prop} (hC : CPra P) {fu : Nat} : ∀ n s, P s.2.1 s.2.2 → kq3 P (fX19_read_h2 fu n s) := by
  intro n
  induction n with
  | zero => intro s _; exact kqN3
  | succ n ih =>
    intro s h
    show kq3 P (fX19_read_i2 fu (fX19_read_h2 fu n) s.1 s.2.1 s.2.2)
    exact y_fX19_read_i2 hC ih h
theorem y_DX19_read {P : mwM → mwL → Prop} (hC : CPra P) {fu : Nat} {M : mwM} {L : mwL} (h : P M L) : kq3 P (DX19_read fu M L) := by
  unfold DX19_read
  exact (y_fX19_read_h2 hC _ (0, M, L) h)
theorem y_fX19_system_b128 {P : mwM → mwL → Prop} (hC : CPra P) {fu : Nat} {s1 : Int32} {M : mwM} {L : mwL} (h : P M L) : kq3 P (fX19_system_b128 fu s1 M L) := by
  unfold fX19_system_b128
  exact (kq_mzz3 (kqM3_ra hC h (by omega) (fun M30 h1 => (kqI3 (kqM3_ra hC h1 (by omega) (fun M32 h2 => (kqS3 h2))) (kqS3 h1)))))
theorem y_fX19_system_b127 {P : mwM → mwL → Prop} (hC : CPra P) {fu : Nat} {M : mwM} {L : mwL} (h : P M L) : kq3 P (fX19_system_b127 fu M L) := by
  unfold fX19_system_b127
  exact (y_fX19_system_b128 hC h)
theorem y_fX19_system_b15 {P : mwM → mwL → Prop} (hC : CPra P) {fu : Nat} {s1 : Int32} {M : mwM} {L : mwL} (h : P M L) : kq3 P (fX19_system_b15 fu s1 M L) := by
  unfold fX19_system_b15
  exact (kqM3_ra hC h (by omega) (fun M1 h1 => (kqI3 (kqM3_ra hC h1 (by omega) (fun M3 h2 => (kqM3_ra hC h2 (by omega) (fun M4 h3 => (kqM3_ra hC h3 (by omega) (fun M5 h4 => (kqM3_ra hC h4 (by omega) (fun M6 h5 => (kqM3_ra hC h5 (by omega) (fun M7 h6 => (kqM3_ra hC h6 (by omega) (fun M8 h7 => (kqM3_ra hC h7 (by omega) (fun M9 h8 => (kqM3_ra hC h8 (by omega) (fun M10 h9 => (kqM3_ra hC h9 (by omega) (fun M11 h10 => (kqM3_ra hC h10 (by omega) (fun M12 h11 => (kqM3_ra hC h11 (by omega) (fun M13 h12 => (kqM3_ra hC h12 (by omega) (fun M14 h13 => (kqB23 (y_DX18_anew (cab hC) h13) (fun M15 L16 h14 => (kqB33 (y_DX19_read hC h14) (fun r19 M17 L18 h15 => (kqI3 (y_fX19_system_b127 hC h15) (kqB33 (y_DX19_join (cab hC) h15) (fun r23 M21 L22 h16 => (kqI3 (y_fX19_system_b127 hC h16) (kqB33 (y_DX19_build (cab hC) h16) (fun r27 M25 L26 h17 => (kqI3 (y_fX19_system_b127 hC h17) (y_fX19_system_b128 hC h17)))))))))))))))))))))))))))))))))))) (kqS3 h1))))
theorem y_DX19_system {P : mwM → mwL → Prop} (hC : CPra P) {fu : Nat} {M : mwM} {L : mwL} (h : P M L) : kq3 P (DX19_system fu M L) := by
  unfold DX19_system
  exact (kqI3 (y_fX19_system_b15 hC h) (y_fX19_system_b15 hC h))
theorem y_fX19_put_b104 {P : mwM → mwL → Prop} (hC : CPrb P) {fu : Nat} {a1 : Int32} {a2 : Int32} {a3 : Int32} {M : mwM} {L : mwL} (h : P M L) : kq3 P (fX19_put_b104 fu a1 a2 a3 M L) := by
  unfold fX19_put_b104
  exact (kqS3 h)
theorem y_fX19_put_i39 {P : mwM → mwL → Prop} (hC : CPrb P) {fu : Nat} {a1 : Int32} {a2 : Int32} {a3 : Int32} {r39 : (Int32 × Int32 × mwM × mwL) → Option (Int32 × mwM × mwL)} {v4 : Int32} {v5 : Int32} (hr39 : ∀ s, P s.2.2.1 s.2.2.2 → kq3 P (r39 s)) {M : mwM} {L : mwL} (h : P M L) : kq3 P (fX19_put_i39 fu a1 a2 a3 r39 v4 v5 M L) := by
  unfold fX19_put_i39
  exact (kqI3 (kqI3 (y_fX19_put_b104 hC h) (kqK3 (fun q1 => (kqM3_rb hC h (by omega) (fun M4 h2 => (kqK3 (fun q3 => (kqM3_rb hC h2 (by omega) (fun M6 h4 => (kqM3_rb hC h4 (by omega) (fun M7 h5 => (y_fX19_put_b104 hC h5)))))))))))) (kqK3 (fun q6 => (kqB23 (y_DX12_octet hC h) (fun M9 L10 h7 => (kqL3 (fun x11 => (hr39 (v4, x11, M9, L10) h7))))))))
theorem y_fX19_put_h39 {P : mwM → mwL → Prop} (hC : CPrb P) {fu : Nat} {a1 : Int32} {a2 : Int32} {a3 : Int32} : ∀ n s, P s.2.2.1 s.2.2.2 → kq3 P (fX19_put_h39 fu a1 a2 a3 n s) := by
  intro n
  induction n with
  | zero => intro s _; exact kqN3
  | succ n ih =>
    intro s h
    show kq3 P (fX19_put_i39 fu a1 a2 a3 (fX19_put_h39 fu a1 a2 a3 n) s.1 s.2.1 s.2.2.1 s.2.2.2)
    exact y_fX19_put_i39 hC ih h
theorem y_DX19_put {P : mwM → mwL → Prop} (hC : CPrb P) {fu : Nat} {a1 : Int32} {a2 : Int32} {a3 : Int32} {M : mwM} {L : mwL} (h : P M L) : kq3 P (DX19_put fu a1 a2 a3 M L) := by
  unfold DX19_put
  exact (kqB33 (y_DX12_send hC h) (fun r14 M12 L13 h1 => (kqB33 (y_DX12_thrown hC h1) (fun r17 M15 L16 h2 => (kqI3 (y_fX19_put_h39 hC _ (r14, 0, M15, L16) h2) (kqM3_rb hC h2 (by omega) (fun M21 h3 => (kqS3 h3))))))))
theorem y_fX19_codeOf_i52 {P : mwM → mwL → Prop} (hC : CPrb P) {fu : Nat} {a1 : Int32} {a2 : Int64} {r52 : (Int32 × mwM × mwL) → Option (mwM × mwL)} {v4 : Int32} (hr52 : ∀ s, P s.2.1 s.2.2 → kq2 P (r52 s)) {M : mwM} {L : mwL} (h : P M L) : kq2 P (fX19_codeOf_i52 fu a1 a2 r52 v4 M L) := by
  unfold fX19_codeOf_i52
  exact (kqI2 (kqK2 (fun q1 => (kqB32 (y_DX14_code hC h) (fun r9 M7 L8 h2 => (kqS2 h2))))) (kqK2 (fun q3 => (kqB22 (y_DX14_octet hC h) (fun M11 L12 h4 => (kqL2 (fun x13 => (hr52 (x13, M11, L12) h4))))))))
theorem y_fX19_codeOf_h52 {P : mwM → mwL → Prop} (hC : CPrb P) {fu : Nat} {a1 : Int32} {a2 : Int64} : ∀ n s, P s.2.1 s.2.2 → kq2 P (fX19_codeOf_h52 fu a1 a2 n s) := by
  intro n
  induction n with
  | zero => intro s _; exact kqN2
  | succ n ih =>
    intro s h
    show kq2 P (fX19_codeOf_i52 fu a1 a2 (fX19_codeOf_h52 fu a1 a2 n) s.1 s.2.1 s.2.2)
    exact y_fX19_codeOf_i52 hC ih h
theorem y_fX19_codeOf_i17 {P : mwM → mwL → Prop} (hC : CPrb P) {fu : Nat} {a1 : Int32} {a2 : Int64} {r17 : (Int32 × mwM × mwL) → Option (mwM × mwL)} {v4 : Int32} (hr17 : ∀ s, P s.2.1 s.2.2 → kq2 P (r17 s)) {M : mwM} {L : mwL} (h : P M L) : kq2 P (fX19_codeOf_i17 fu a1 a2 r17 v4 M L) := by
  unfold fX19_codeOf_i17
  exact (kqI2 (y_fX19_codeOf_h52 hC _ (0, M, L) h) (kqB22 (y_DX14_octet hC h) (fun M2 L3 h1 => (kqL2 (fun x4 => (hr17 (x4, M2, L3) h1))))))
theorem y_fX19_codeOf_h17 {P : mwM → mwL → Prop} (hC : CPrb P) {fu : Nat} {a1 : Int32} {a2 : Int64} : ∀ n s, P s.2.1 s.2.2 → kq2 P (fX19_codeOf_h17 fu a1 a2 n s) := by
  intro n
  induction n with
  | zero => intro s _; exact kqN2
  | succ n ih =>
    intro s h
    show kq2 P (fX19_codeOf_i17 fu a1 a2 (fX19_codeOf_h17 fu a1 a2 n) s.1 s.2.1 s.2.2)
    exact y_fX19_codeOf_i17 hC ih h
theorem y_DX19_codeOf {P : mwM → mwL → Prop} (hC : CPrb P) {fu : Nat} {a1 : Int32} {a2 : Int64} {M : mwM} {L : mwL} (h : P M L) : kq2 P (DX19_codeOf fu a1 a2 M L) := by
  unfold DX19_codeOf
  exact (kqK2 (fun q1 => (kqB22 (y_DX14_octet hC h) (fun M15 L16 h2 => (y_fX19_codeOf_h17 hC _ (0, M15, L16) h2)))))
theorem y_fX19_send_b217 {P : mwM → mwL → Prop} (hC : CPrb P) {fu : Nat} {a1 : Int32} {M : mwM} {L : mwL} (h : P M L) : kq2 P (fX19_send_b217 fu a1 M L) := by
  unfold fX19_send_b217
  exact (kqK2 (fun q1 => (kqK2 (fun q2 => (kqB32 (y_DX19_put hC h) (fun r47 M45 L46 h3 => (kqS2 h3)))))))
theorem y_fX19_send_i183 {P : mwM → mwL → Prop} (hC : CPrb P) {fu : Nat} {a1 : Int32} {r183 : (Int32 × mwM × mwL) → Option (mwM × mwL)} {v4 : Int32} (hr183 : ∀ s, P s.2.1 s.2.2 → kq2 P (r183 s)) {M : mwM} {L : mwL} (h : P M L) : kq2 P (fX19_send_i183 fu a1 r183 v4 M L) := by
  unfold fX19_send_i183
  exact (kqI2 (y_fX19_send_b217 hC h) (kqB32 (y_DX14_out hC h) (fun r39 M37 L38 h1 => (kqK2 (fun q2 => (kqM2_rb hC h1 (by omega) (fun M41 h3 => (kqL2 (fun x42 => (hr183 (x42, M41, L38) h3))))))))))
theorem y_fX19_send_h183 {P : mwM → mwL → Prop} (hC : CPrb P) {fu : Nat} {a1 : Int32} : ∀ n s, P s.2.1 s.2.2 → kq2 P (fX19_send_h183 fu a1 n s) := by
  intro n
  induction n with
  | zero => intro s _; exact kqN2
  | succ n ih =>
    intro s h
    show kq2 P (fX19_send_i183 fu a1 (fX19_send_h183 fu a1 n) s.1 s.2.1 s.2.2)
    exact y_fX19_send_i183 hC ih h
theorem y_fX19_send_b126 {P : mwM → mwL → Prop} (hC : CPrb P) {fu : Nat} {a1 : Int32} {r87 : (Nat × Int32 × Int32 × mwM × mwL) → Option (mwM × mwL)} {v2 : Nat} {v3 : Int32} {v4 : Int32} {s1 : Int32} {s2 : Int32} (hr87 : ∀ s, (941 ≤ s.1 ∧ s.1 < 1577 ∧ (s.1 - 941) % 53 = 0) → P s.2.2.2.1 s.2.2.2.2 → kq2 P (r87 s)) (hk_v2 : 941 ≤ v2 ∧ v2 < 1577 ∧ (v2 - 941) % 53 = 0) {M : mwM} {L : mwL} (h : P M L) : kq2 P (fX19_send_b126 fu a1 r87 v2 v3 v4 s1 s2 M L) := by
  unfold fX19_send_b126
  exact (kqK2 (fun q1 => (kqM2_rb hC h (by omega) (fun M34 h2 => (kqL2 (fun x35 => (hr87 (v2, v3, x35, M34, L) (by omega) h2)))))))
theorem y_fX19_send_i87 {P : mwM → mwL → Prop} (hC : CPrb P) {fu : Nat} {a1 : Int32} {r87 : (Nat × Int32 × Int32 × mwM × mwL) → Option (mwM × mwL)} {v2 : Nat} {v3 : Int32} {v4 : Int32} (hr87 : ∀ s, (941 ≤ s.1 ∧ s.1 < 1577 ∧ (s.1 - 941) % 53 = 0) → P s.2.2.2.1 s.2.2.2.2 → kq2 P (r87 s)) (hk_v2 : 941 ≤ v2 ∧ v2 < 1577 ∧ (v2 - 941) % 53 = 0) {M : mwM} {L : mwL} (h : P M L) : kq2 P (fX19_send_i87 fu a1 r87 v2 v3 v4 M L) := by
  unfold fX19_send_i87
  exact (kqI2 (kqK2 (fun q1 => (kqK2 (fun q2 => (kqM2_rb hC h (by omega) (fun M19 h3 => (kqK2 (fun q4 => (kqI2 (y_fX19_send_b217 hC h3) (kqK2 (fun q5 => (kqM2_rb hC h3 (by omega) (fun M24 h6 => (kqK2 (fun q7 => (kqB22 (y_DX19_codeOf hC h6) (fun M26 L27 h8 => (y_fX19_send_h183 hC _ (0, M26, L27) h8)))))))))))))))))) (kqI2 (y_fX19_send_b126 hC hr87 (by omega) h) (kqK2 (fun q9 => (kqB32 (y_DX16_octet hC (by omega) h) (fun r32 M30 L31 h10 => (y_fX19_send_b126 hC hr87 (by omega) h10)))))))
theorem y_fX19_send_h87 {P : mwM → mwL → Prop} (hC : CPrb P) {fu : Nat} {a1 : Int32} : ∀ n s, (941 ≤ s.1 ∧ s.1 < 1577 ∧ (s.1 - 941) % 53 = 0) → P s.2.2.2.1 s.2.2.2.2 → kq2 P (fX19_send_h87 fu a1 n s) := by
  intro n
  induction n with
  | zero => intro s _ _; exact kqN2
  | succ n ih =>
    intro s hq0 h
    show kq2 P (fX19_send_i87 fu a1 (fX19_send_h87 fu a1 n) s.1 s.2.1 s.2.2.1 s.2.2.2.1 s.2.2.2.2)
    exact y_fX19_send_i87 hC ih hq0 h
theorem y_fX19_send_b83 {P : mwM → mwL → Prop} (hC : CPrb P) {fu : Nat} {a1 : Int32} {v2 : Nat} {s0 : Int32} (hk_v2 : 941 ≤ v2 ∧ v2 < 1577 ∧ (v2 - 941) % 53 = 0) {M : mwM} {L : mwL} (h : P M L) : kq2 P (fX19_send_b83 fu a1 v2 s0 M L) := by
  unfold fX19_send_b83
  exact (y_fX19_send_h87 hC _ (v2, s0, 0, M, L) (by omega) h)
theorem y_fX19_send_b62 {P : mwM → mwL → Prop} (hC : CPrb P) {fu : Nat} {a1 : Int32} {r14 : (Nat × Int32 × mwM × mwL) → Option (mwM × mwL)} {v2 : Nat} {v3 : Int32} (hr14 : ∀ s, (941 ≤ s.1 ∧ s.1 < 1577 ∧ (s.1 - 941) % 53 = 0) → P s.2.2.1 s.2.2.2 → kq2 P (r14 s)) (hk_v2 : 941 ≤ v2 ∧ v2 < 1577 ∧ (v2 - 941) % 53 = 0) {M : mwM} {L : mwL} (h : P M L) : kq2 P (fX19_send_b62 fu a1 r14 v2 v3 M L) := by
  unfold fX19_send_b62
  exact (kqL2 (fun x15 => (hr14 (v2, x15, M, L) (by omega) h)))
theorem y_fX19_send_i14 {P : mwM → mwL → Prop} (hC : CPrb P) {fu : Nat} {a1 : Int32} {r14 : (Nat × Int32 × mwM × mwL) → Option (mwM × mwL)} {v2 : Nat} {v3 : Int32} (hr14 : ∀ s, (941 ≤ s.1 ∧ s.1 < 1577 ∧ (s.1 - 941) % 53 = 0) → P s.2.2.1 s.2.2.2 → kq2 P (r14 s)) (hk_v2 : 941 ≤ v2 ∧ v2 < 1577 ∧ (v2 - 941) % 53 = 0) {M : mwM} {L : mwL} (h : P M L) : kq2 P (fX19_send_i14 fu a1 r14 v2 v3 M L) := by
  unfold fX19_send_i14
  exact (kqI2 (kqK2 (fun q1 => (kqI2 (y_fX19_send_b83 hC (by omega) h) (y_fX19_send_b83 hC (by omega) h)))) (kqK2 (fun q2 => (kqI2 (kqK2 (fun q3 => (kqK2 (fun q4 => (kqK2 (fun q5 => (kqK2 (fun q6 => (kqB32 (y_DX13_value hC (by omega) h) (fun r12 M10 L11 h7 => (kqB22 (y_DX16_put hC (by omega) h7) (fun M13 L14 h8 => (y_fX19_send_b62 hC hr14 (by omega) h8))))))))))))) (y_fX19_send_b62 hC hr14 (by omega) h)))))
theorem y_fX19_send_h14 {P : mwM → mwL → Prop} (hC : CPrb P) {fu : Nat} {a1 : Int32} : ∀ n s, (941 ≤ s.1 ∧ s.1 < 1577 ∧ (s.1 - 941) % 53 = 0) → P s.2.2.1 s.2.2.2 → kq2 P (fX19_send_h14 fu a1 n s) := by
  intro n
  induction n with
  | zero => intro s _ _; exact kqN2
  | succ n ih =>
    intro s hq0 h
    show kq2 P (fX19_send_i14 fu a1 (fX19_send_h14 fu a1 n) s.1 s.2.1 s.2.2.1 s.2.2.2)
    exact y_fX19_send_i14 hC ih hq0 h
theorem y_DX19_send {P : mwM → mwL → Prop} (hC : CPrb P) {fu : Nat} {a1 : Int32} {M : mwM} {L : mwL} (h : P M L) : kq2 P (DX19_send fu a1 M L) := by
  unfold DX19_send
  exact (kqK2 (fun q1 => (kqK2 (fun q2 => (y_fX19_send_h14 hC _ ((((941 + 53 * (M 780 a1.toNatClampNeg).toNatClampNeg) + 0)), 0, M, L) (by omega) h)))))
theorem y_fX19_right_b62 {P : mwM → mwL → Prop} (hC : CPrb P) {fu : Nat} {a1 : Int32} {a2 : Int32} {M : mwM} {L : mwL} (h : P M L) : kq3 P (fX19_right_b62 fu a1 a2 M L) := by
  unfold fX19_right_b62
  exact (kqS3 h)
theorem y_fX19_right_i76 {P : mwM → mwL → Prop} (hC : CPrb P) {fu : Nat} {a1 : Int32} {a2 : Int32} {r76 : (Int64 × Int64 × Int32 × mwM × mwL) → Option (Int32 × mwM × mwL)} {v3 : Int64} {v5 : Int64} {v7 : Int32} (hr76 : ∀ s, P s.2.2.2.1 s.2.2.2.2 → kq3 P (r76 s)) {M : mwM} {L : mwL} (h : P M L) : kq3 P (fX19_right_i76 fu a1 a2 r76 v3 v5 v7 M L) := by
  unfold fX19_right_i76
  exact (kqI3 (kqK3 (fun q1 => (kqW3_rb hC h (by omega) (fun L3 h2 => (kqS3 h2))))) (kqB33 (y_DX14_out hC h) (fun r6 M4 L5 h3 => (kqK3 (fun q4 => (kqI3 (kqL3 (fun x9 => (hr76 (v3, v5, x9, M4, L5) h3))) (kqS3 h3)))))))
theorem y_fX19_right_h76 {P : mwM → mwL → Prop} (hC : CPrb P) {fu : Nat} {a1 : Int32} {a2 : Int32} : ∀ n s, P s.2.2.2.1 s.2.2.2.2 → kq3 P (fX19_right_h76 fu a1 a2 n s) := by
  intro n
  induction n with
  | zero => intro s _; exact kqN3
  | succ n ih =>
    intro s h
    show kq3 P (fX19_right_i76 fu a1 a2 (fX19_right_h76 fu a1 a2 n) s.1 s.2.1 s.2.2.1 s.2.2.2.1 s.2.2.2.2)
    exact y_fX19_right_i76 hC ih h
theorem y_DX19_right {P : mwM → mwL → Prop} (hC : CPrb P) {fu : Nat} {a1 : Int32} {a2 : Int32} {M : mwM} {L : mwL} (h : P M L) : kq3 P (DX19_right fu a1 a2 M L) := by
  unfold DX19_right
  exact (kqK3 (fun q1 => (kqI3 (kqS3 h) (kqK3 (fun q2 => (kqL3 (fun x13 => (kq_mnzL3 (kqL3 (fun x16 => (kqI3 (y_fX19_right_b62 hC h) (kqI3 (kqB23 (y_DX19_codeOf hC h) (fun M19 L20 h3 => (y_fX19_right_h76 hC _ (x13, x16, 0, M19, L20) h3))) (y_fX19_right_b62 hC h)))))))))))))
theorem y_fX19_valueOf_b106 {P : mwM → mwL → Prop} (hC : CPrb P) {fu : Nat} {a1 : Int32} {r18 : (Int32 × Int64 × Int32 × mwM × mwL) → Option (Int64 × mwM × mwL)} {v2 : Int32} {v3 : Int64} {v5 : Int32} (hr18 : ∀ s, P s.2.2.2.1 s.2.2.2.2 → kq3 P (r18 s)) {M : mwM} {L : mwL} (h : P M L) : kq3 P (fX19_valueOf_b106 fu a1 r18 v2 v3 v5 M L) := by
  unfold fX19_valueOf_b106
  exact (kqL3 (fun x14 => (hr18 (v2, v3, x14, M, L) h)))
theorem y_fX19_valueOf_b75 {P : mwM → mwL → Prop} (hC : CPrb P) {fu : Nat} {a1 : Int32} {r18 : (Int32 × Int64 × Int32 × mwM × mwL) → Option (Int64 × mwM × mwL)} {v2 : Int32} {v3 : Int64} {v5 : Int32} {s0 : Int32} (hr18 : ∀ s, P s.2.2.2.1 s.2.2.2.2 → kq3 P (r18 s)) {M : mwM} {L : mwL} (h : P M L) : kq3 P (fX19_valueOf_b75 fu a1 r18 v2 v3 v5 s0 M L) := by
  unfold fX19_valueOf_b75
  exact (kqK3 (fun q1 => (kqI3 (kqL3 (fun x13 => (y_fX19_valueOf_b106 hC hr18 h))) (y_fX19_valueOf_b106 hC hr18 h))))
theorem y_fX19_valueOf_i18 {P : mwM → mwL → Prop} (hC : CPrb P) {fu : Nat} {a1 : Int32} {r18 : (Int32 × Int64 × Int32 × mwM × mwL) → Option (Int64 × mwM × mwL)} {v2 : Int32} {v3 : Int64} {v5 : Int32} (hr18 : ∀ s, P s.2.2.2.1 s.2.2.2.2 → kq3 P (r18 s)) {M : mwM} {L : mwL} (h : P M L) : kq3 P (fX19_valueOf_i18 fu a1 r18 v2 v3 v5 M L) := by
  unfold fX19_valueOf_i18
  exact (kqK3 (fun q1 => (kqI3 (kqS3 h) (kqK3 (fun q2 => (kqI3 (kqK3 (fun q3 => (y_fX19_valueOf_b75 hC hr18 h))) (kqK3 (fun q4 => (y_fX19_valueOf_b75 hC hr18 h)))))))))
theorem y_fX19_valueOf_h18 {P : mwM → mwL → Prop} (hC : CPrb P) {fu : Nat} {a1 : Int32} : ∀ n s, P s.2.2.2.1 s.2.2.2.2 → kq3 P (fX19_valueOf_h18 fu a1 n s) := by
  intro n
  induction n with
  | zero => intro s _; exact kqN3
  | succ n ih =>
    intro s h
    show kq3 P (fX19_valueOf_i18 fu a1 (fX19_valueOf_h18 fu a1 n) s.1 s.2.1 s.2.2.1 s.2.2.2.1 s.2.2.2.2)
    exact y_fX19_valueOf_i18 hC ih h
theorem y_DX19_valueOf {P : mwM → mwL → Prop} (hC : CPrb P) {fu : Nat} {a1 : Int32} {M : mwM} {L : mwL} (h : P M L) : kq3 P (DX19_valueOf fu a1 M L) := by
  unfold DX19_valueOf
  exact (kqK3 (fun q1 => (kqL3 (fun x17 => (y_fX19_valueOf_h18 hC _ (x17, 0, 0, M, L) h)))))
theorem y_fX19_come_b308 {P : mwM → mwL → Prop} (hC : CPrb P) {fu : Nat} {a1 : Int32} {a2 : Int32} {r90 : (Int32 × mwM × mwL) → Option (mwM × mwL)} {v3 : Int32} (hr90 : ∀ s, P s.2.1 s.2.2 → kq2 P (r90 s)) {M : mwM} {L : mwL} (h : P M L) : kq2 P (fX19_come_b308 fu a1 a2 r90 v3 M L) := by
  unfold fX19_come_b308
  exact (kqL2 (fun x58 => (hr90 (x58, M, L) h)))
theorem y_fX19_come_b252 {P : mwM → mwL → Prop} (hC : CPrb P) {fu : Nat} {a1 : Int32} {a2 : Int32} {r90 : (Int32 × mwM × mwL) → Option (mwM × mwL)} {v3 : Int32} {v4 : Int32} (hr90 : ∀ s, P s.2.1 s.2.2 → kq2 P (r90 s)) {M : mwM} {L : mwL} (h : P M L) : kq2 P (fX19_come_b252 fu a1 a2 r90 v3 v4 M L) := by
  unfold fX19_come_b252
  exact (kqK2 (fun q1 => (kqI2 (y_fX19_come_b308 hC hr90 h) (kqK2 (fun q2 => (kqI2 (y_fX19_come_b308 hC hr90 h) (kqK2 (fun q3 => (kqK2 (fun q4 => (kqK2 (fun q5 => (kqM2_rb hC h (by omega) (fun M54 h6 => (kqK2 (fun q7 => (kqK2 (fun q8 => (kqM2_rb hC h6 (by omega) (fun M57 h9 => (y_fX19_come_b308 hC hr90 h9)))))))))))))))))))))
theorem y_fX19_come_b178 {P : mwM → mwL → Prop} (hC : CPrb P) {fu : Nat} {a1 : Int32} {a2 : Int32} {r90 : (Int32 × mwM × mwL) → Option (mwM × mwL)} {v3 : Int32} {v4 : Int32} {v5 : Int64} {s0 : Int32} (hr90 : ∀ s, P s.2.1 s.2.2 → kq2 P (r90 s)) {M : mwM} {L : mwL} (h : P M L) : kq2 P (fX19_come_b178 fu a1 a2 r90 v3 v4 v5 s0 M L) := by
  unfold fX19_come_b178
  exact (kqK2 (fun q1 => (kqM2_rb hC h (by omega) (fun M32 h2 => (kqK2 (fun q3 => (kqW2_rb hC h2 (by omega) (fun L34 h4 => (kqI2 (y_fX19_come_b308 hC hr90 h4) (kqK2 (fun q5 => (kqK2 (fun q6 => (kqB22 (y_DX13_put hC (by omega) h4) (fun M38 L39 h7 => (kqK2 (fun q8 => (kqI2 (y_fX19_come_b252 hC hr90 h7) (kqK2 (fun q9 => (kqI2 (kqM2_rb hC h7 (by omega) (fun M46 h10 => (y_fX19_come_b252 hC hr90 h10))) (y_fX19_come_b252 hC hr90 h7))))))))))))))))))))))
theorem y_fX19_come_b173 {P : mwM → mwL → Prop} (hC : CPrb P) {fu : Nat} {a1 : Int32} {a2 : Int32} {r90 : (Int32 × mwM × mwL) → Option (mwM × mwL)} {v3 : Int32} {v4 : Int32} {v5 : Int64} (hr90 : ∀ s, P s.2.1 s.2.2 → kq2 P (r90 s)) {M : mwM} {L : mwL} (h : P M L) : kq2 P (fX19_come_b173 fu a1 a2 r90 v3 v4 v5 M L) := by
  unfold fX19_come_b173
  exact (y_fX19_come_b178 hC hr90 h)
theorem y_fX19_come_i90 {P : mwM → mwL → Prop} (hC : CPrb P) {fu : Nat} {a1 : Int32} {a2 : Int32} {r90 : (Int32 × mwM × mwL) → Option (mwM × mwL)} {v3 : Int32} (hr90 : ∀ s, P s.2.1 s.2.2 → kq2 P (r90 s)) {M : mwM} {L : mwL} (h : P M L) : kq2 P (fX19_come_i90 fu a1 a2 r90 v3 M L) := by
  unfold fX19_come_i90
  exact (kqI2 (kqS2 h) (kqK2 (fun q1 => (kqL2 (fun x16 => (kqK2 (fun q2 => (kqK2 (fun q3 => (kqI2 (kqK2 (fun q4 => (kqK2 (fun q5 => (kqI2 (kqK2 (fun q6 => (kqB32 (y_DX19_valueOf hC h) (fun r26 M24 L25 h7 => (kqK2 (fun q8 => (kqI2 (y_fX19_come_b173 hC hr90 h7) (kqK2 (fun q9 => (kqI2 (y_fX19_come_b178 hC hr90 h7) (y_fX19_come_b173 hC hr90 h7))))))))))) (y_fX19_come_b308 hC hr90 h)))))) (y_fX19_come_b308 hC hr90 h)))))))))))
theorem y_fX19_come_h90 {P : mwM → mwL → Prop} (hC : CPrb P) {fu : Nat} {a1 : Int32} {a2 : Int32} : ∀ n s, P s.2.1 s.2.2 → kq2 P (fX19_come_h90 fu a1 a2 n s) := by
  intro n
  induction n with
  | zero => intro s _; exact kqN2
  | succ n ih =>
    intro s h
    show kq2 P (fX19_come_i90 fu a1 a2 (fX19_come_h90 fu a1 a2 n) s.1 s.2.1 s.2.2)
    exact y_fX19_come_i90 hC ih h
theorem y_fX19_come_b82 {P : mwM → mwL → Prop} (hC : CPrb P) {fu : Nat} {a1 : Int32} {a2 : Int32} {r22 : (Int32 × mwM × mwL) → Option (mwM × mwL)} {v3 : Int32} (hr22 : ∀ s, P s.2.1 s.2.2 → kq2 P (r22 s)) {M : mwM} {L : mwL} (h : P M L) : kq2 P (fX19_come_b82 fu a1 a2 r22 v3 M L) := by
  unfold fX19_come_b82
  exact (kqL2 (fun x13 => (hr22 (x13, M, L) h)))
theorem y_fX19_come_i22 {P : mwM → mwL → Prop} (hC : CPrb P) {fu : Nat} {a1 : Int32} {a2 : Int32} {r22 : (Int32 × mwM × mwL) → Option (mwM × mwL)} {v3 : Int32} (hr22 : ∀ s, P s.2.1 s.2.2 → kq2 P (r22 s)) {M : mwM} {L : mwL} (h : P M L) : kq2 P (fX19_come_i22 fu a1 a2 r22 v3 M L) := by
  unfold fX19_come_i22
  exact (kqI2 (y_fX19_come_h90 hC _ (0, M, L) h) (kqK2 (fun q1 => (kqI2 (kqK2 (fun q2 => (kqK2 (fun q3 => (kqI2 (kqK2 (fun q4 => (kqW2_rb hC h (by omega) (fun L8 h5 => (kqK2 (fun q6 => (kqB32 (y_DX18_event hC h5) (fun r12 M10 L11 h7 => (y_fX19_come_b82 hC hr22 h7))))))))) (y_fX19_come_b82 hC hr22 h)))))) (y_fX19_come_b82 hC hr22 h)))))
theorem y_fX19_come_h22 {P : mwM → mwL → Prop} (hC : CPrb P) {fu : Nat} {a1 : Int32} {a2 : Int32} : ∀ n s, P s.2.1 s.2.2 → kq2 P (fX19_come_h22 fu a1 a2 n s) := by
  intro n
  induction n with
  | zero => intro s _; exact kqN2
  | succ n ih =>
    intro s h
    show kq2 P (fX19_come_i22 fu a1 a2 (fX19_come_h22 fu a1 a2 n) s.1 s.2.1 s.2.2)
    exact y_fX19_come_i22 hC ih h
theorem y_DX19_come {P : mwM → mwL → Prop} (hC : CPrb P) {fu : Nat} {a1 : Int32} {a2 : Int32} {M : mwM} {L : mwL} (h : P M L) : kq2 P (DX19_come fu a1 a2 M L) := by
  unfold DX19_come
  exact (kqB32 (y_DX19_right hC h) (fun r61 M59 L60 h1 => (kqI2 (kqM2_rb hC h1 (by omega) (fun M65 h2 => (kqS2 h2))) (y_fX19_come_h22 hC _ (0, M59, L60) h1))))
theorem y_DX19_no {P : mwM → mwL → Prop} (hC : CPrb P) {fu : Nat} {a1 : Int32} {M : mwM} {L : mwL} (h : P M L) : kq2 P (DX19_no fu a1 M L) := by
  unfold DX19_no
  exact (kqM2_rb hC h (by omega) (fun M2 h1 => (kqM2_rb hC h1 (by omega) (fun M5 h2 => (kqM2_rb hC h2 (by omega) (fun M7 h3 => (kqM2_rb hC h3 (by omega) (fun M8 h4 => (kqS2 h4)))))))))
theorem y_fX19_serveSession_b20 {P : mwM → mwL → Prop} (hC : CPrb P) {fu : Nat} {a1 : Int32} {M : mwM} {L : mwL} (h : P M L) : kq2 P (fX19_serveSession_b20 fu a1 M L) := by
  unfold fX19_serveSession_b20
  exact (kqB22 (y_DX19_no hC h) (fun M1 L2 h1 => (kqS2 h1)))
theorem y_DX19_serveSession {P : mwM → mwL → Prop} (hC : CPrb P) {fu : Nat} {a1 : Int32} {M : mwM} {L : mwL} (h : P M L) : kq2 P (DX19_serveSession fu a1 M L) := by
  unfold DX19_serveSession
  exact (kqI2 (y_fX19_serveSession_b20 hC h) (kqI2 (kqK2 (fun q1 => (kqM2_rb hC h (by omega) (fun M9 h2 => (kqK2 (fun q3 => (kqM2_rb hC h2 (by omega) (fun M11 h4 => (kqK2 (fun q5 => (kqM2_rb hC h4 (by omega) (fun M13 h6 => (kqM2_rb hC h6 (by omega) (fun M15 h7 => (kqM2_rb hC h7 (by omega) (fun M18 h8 => (kqM2_rb hC h8 (by omega) (fun M19 h9 => (kqS2 h9))))))))))))))))))) (y_fX19_serveSession_b20 hC h)))
theorem y_fX19_isThere_b61 {P : mwM → mwL → Prop} (hC : CPrb P) {fu : Nat} {a1 : Int32} {s0 : Int32} {M : mwM} {L : mwL} (h : P M L) : kq3 P (fX19_isThere_b61 fu a1 s0 M L) := by
  unfold fX19_isThere_b61
  exact (kq_mzz3 (kqS3 h))
theorem y_fX19_isThere_b60 {P : mwM → mwL → Prop} (hC : CPrb P) {fu : Nat} {a1 : Int32} {M : mwM} {L : mwL} (h : P M L) : kq3 P (fX19_isThere_b60 fu a1 M L) := by
  unfold fX19_isThere_b60
  exact (y_fX19_isThere_b61 hC h)
theorem y_DX19_isThere {P : mwM → mwL → Prop} (hC : CPrb P) {fu : Nat} {a1 : Int32} {M : mwM} {L : mwL} (h : P M L) : kq3 P (DX19_isThere fu a1 M L) := by
  unfold DX19_isThere
  exact (kqI3 (y_fX19_isThere_b60 hC h) (kqI3 (y_fX19_isThere_b60 hC h) (kqK3 (fun q1 => (kqK3 (fun q2 => (kqI3 (kqI3 (y_fX19_isThere_b60 hC h) (y_fX19_isThere_b61 hC h)) (y_fX19_isThere_b60 hC h))))))))
theorem y_fX19_serveRead_i73 {P : mwM → mwL → Prop} (hC : CPrb P) {fu : Nat} {a1 : Int32} {r73 : (Int64 × Int32 × mwM × mwL) → Option (mwM × mwL)} {v2 : Int64} {v4 : Int32} (hr73 : ∀ s, P s.2.2.1 s.2.2.2 → kq2 P (r73 s)) {M : mwM} {L : mwL} (h : P M L) : kq2 P (fX19_serveRead_i73 fu a1 r73 v2 v4 M L) := by
  unfold fX19_serveRead_i73
  exact (kqI2 (kqM2_rb hC h (by omega) (fun M2 h1 => (kqS2 h1))) (kqK2 (fun q2 => (kqM2_rb hC h (by omega) (fun M4 h3 => (kqL2 (fun x5 => (hr73 (v2, x5, M4, L) h3))))))))
theorem y_fX19_serveRead_h73 {P : mwM → mwL → Prop} (hC : CPrb P) {fu : Nat} {a1 : Int32} : ∀ n s, P s.2.2.1 s.2.2.2 → kq2 P (fX19_serveRead_h73 fu a1 n s) := by
  intro n
  induction n with
  | zero => intro s _; exact kqN2
  | succ n ih =>
    intro s h
    show kq2 P (fX19_serveRead_i73 fu a1 (fX19_serveRead_h73 fu a1 n) s.1 s.2.1 s.2.2.1 s.2.2.2)
    exact y_fX19_serveRead_i73 hC ih h
theorem y_DX19_serveRead {P : mwM → mwL → Prop} (hC : CPrb P) {fu : Nat} {a1 : Int32} {M : mwM} {L : mwL} (h : P M L) : kq2 P (DX19_serveRead fu a1 M L) := by
  unfold DX19_serveRead
  exact (kqB32 (y_DX19_isThere hC h) (fun r8 M6 L7 h1 => (kqI2 (kqB22 (y_DX19_no hC h1) (fun M24 L25 h2 => (kqS2 h2))) (kqK2 (fun q3 => (kqB32 (y_DX13_value hC (by omega) h1) (fun r15 M13 L14 h4 => (kqM2_rb hC h4 (by omega) (fun M17 h5 => (kqM2_rb hC h5 (by omega) (fun M20 h6 => (kqM2_rb hC h6 (by omega) (fun M23 h7 => (y_fX19_serveRead_h73 hC _ (r15, 0, M23, L14) h7))))))))))))))
theorem y_fX19_serveWrite_b34 {P : mwM → mwL → Prop} (hC : CPrb P) {fu : Nat} {a1 : Int32} {s1 : Int32} {M : mwM} {L : mwL} (h : P M L) : kq2 P (fX19_serveWrite_b34 fu a1 s1 M L) := by
  unfold fX19_serveWrite_b34
  exact (kqB22 (y_DX19_no hC h) (fun M3 L4 h1 => (kqS2 h1)))
theorem y_fX19_serveWrite_b17 {P : mwM → mwL → Prop} (hC : CPrb P) {fu : Nat} {a1 : Int32} {M : mwM} {L : mwL} (h : P M L) : kq2 P (fX19_serveWrite_b17 fu a1 M L) := by
  unfold fX19_serveWrite_b17
  exact (kqK2 (fun q1 => (kqI2 (y_fX19_serveWrite_b34 hC h) (y_fX19_serveWrite_b34 hC h))))
theorem y_fX19_serveWrite_i43 {P : mwM → mwL → Prop} (hC : CPrb P) {fu : Nat} {a1 : Int32} {r43 : (Int64 × Int32 × mwM × mwL) → Option (mwM × mwL)} {v2 : Int64} {v4 : Int32} (hr43 : ∀ s, P s.2.2.1 s.2.2.2 → kq2 P (r43 s)) {M : mwM} {L : mwL} (h : P M L) : kq2 P (fX19_serveWrite_i43 fu a1 r43 v2 v4 M L) := by
  unfold fX19_serveWrite_i43
  exact (kqI2 (kqK2 (fun q1 => (kqB22 (y_DX13_put hC (by omega) h) (fun M9 L10 h2 => (kqM2_rb hC h2 (by omega) (fun M12 h3 => (kqM2_rb hC h3 (by omega) (fun M15 h4 => (kqM2_rb hC h4 (by omega) (fun M18 h5 => (kqM2_rb hC h5 (by omega) (fun M19 h6 => (kqS2 h6))))))))))))) (kqK2 (fun q7 => (kqL2 (fun x21 => (kqL2 (fun x22 => (hr43 (x21, x22, M, L) h))))))))
theorem y_fX19_serveWrite_h43 {P : mwM → mwL → Prop} (hC : CPrb P) {fu : Nat} {a1 : Int32} : ∀ n s, P s.2.2.1 s.2.2.2 → kq2 P (fX19_serveWrite_h43 fu a1 n s) := by
  intro n
  induction n with
  | zero => intro s _; exact kqN2
  | succ n ih =>
    intro s h
    show kq2 P (fX19_serveWrite_i43 fu a1 (fX19_serveWrite_h43 fu a1 n) s.1 s.2.1 s.2.2.1 s.2.2.2)
    exact y_fX19_serveWrite_i43 hC ih h
theorem y_DX19_serveWrite {P : mwM → mwL → Prop} (hC : CPrb P) {fu : Nat} {a1 : Int32} {M : mwM} {L : mwL} (h : P M L) : kq2 P (DX19_serveWrite fu a1 M L) := by
  unfold DX19_serveWrite
  exact (kqK2 (fun q1 => (kqI2 (y_fX19_serveWrite_b17 hC h) (kqB32 (y_DX19_isThere hC h) (fun r27 M25 L26 h2 => (kqI2 (y_fX19_serveWrite_b17 hC h2) (y_fX19_serveWrite_h43 hC _ (0, 0, M25, L26) h2)))))))
theorem y_fX19_serveTroubles_i27 {P : mwM → mwL → Prop} (hC : CPrb P) {fu : Nat} {r27 : (Int32 × Int32 × mwM × mwL) → Option (mwM × mwL)} {v1 : Int32} {v2 : Int32} (hr27 : ∀ s, P s.2.2.1 s.2.2.2 → kq2 P (r27 s)) {M : mwM} {L : mwL} (h : P M L) : kq2 P (fX19_serveTroubles_i27 fu r27 v1 v2 M L) := by
  unfold fX19_serveTroubles_i27
  exact (kqI2 (kqM2_rb hC h (by omega) (fun M2 h1 => (kqS2 h1))) (kqB32 (y_DX18_stored hC h) (fun r5 M3 L4 h2 => (kqK2 (fun q3 => (kqM2_rb hC h2 (by omega) (fun M7 h4 => (kqB32 (y_DX18_stored hC h4) (fun r10 M8 L9 h5 => (kqB32 (y_DX18_status hC h5) (fun r13 M11 L12 h6 => (kqK2 (fun q7 => (kqM2_rb hC h6 (by omega) (fun M15 h8 => (kqL2 (fun x16 => (hr27 (v1, x16, M15, L12) h8))))))))))))))))))
theorem y_fX19_serveTroubles_h27 {P : mwM → mwL → Prop} (hC : CPrb P) {fu : Nat} : ∀ n s, P s.2.2.1 s.2.2.2 → kq2 P (fX19_serveTroubles_h27 fu n s) := by
  intro n
  induction n with
  | zero => intro s _; exact kqN2
  | succ n ih =>
    intro s h
    show kq2 P (fX19_serveTroubles_i27 fu (fX19_serveTroubles_h27 fu n) s.1 s.2.1 s.2.2.1 s.2.2.2)
    exact y_fX19_serveTroubles_i27 hC ih h
theorem y_DX19_serveTroubles {P : mwM → mwL → Prop} (hC : CPrb P) {fu : Nat} {M : mwM} {L : mwL} (h : P M L) : kq2 P (DX19_serveTroubles fu M L) := by
  unfold DX19_serveTroubles
  exact (kqB32 (y_DX18_stored hC h) (fun r19 M17 L18 h1 => (kqM2_rb hC h1 (by omega) (fun M21 h2 => (kqM2_rb hC h2 (by omega) (fun M23 h3 => (y_fX19_serveTroubles_h27 hC _ (r19, 0, M23, L18) h3)))))))
theorem y_DX19_serveClear {P : mwM → mwL → Prop} (hC : CPrb P) {fu : Nat} {M : mwM} {L : mwL} (h : P M L) : kq2 P (DX19_serveClear fu M L) := by
  unfold DX19_serveClear
  exact (kqB32 (y_DX18_clear hC h) (fun r3 M1 L2 h1 => (kqM2_rb hC h1 (by omega) (fun M5 h2 => (kqM2_rb hC h2 (by omega) (fun M6 h3 => (kqS2 h3)))))))
theorem y_fX19_serveSeed_b38 {P : mwM → mwL → Prop} (hC : CPrb P) {fu : Nat} {a1 : Int32} {s1 : Int32} {M : mwM} {L : mwL} (h : P M L) : kq2 P (fX19_serveSeed_b38 fu a1 s1 M L) := by
  unfold fX19_serveSeed_b38
  exact (kqB22 (y_DX19_no hC h) (fun M3 L4 h1 => (kqS2 h1)))
theorem y_fX19_serveSeed_b20 {P : mwM → mwL → Prop} (hC : CPrb P) {fu : Nat} {a1 : Int32} {M : mwM} {L : mwL} (h : P M L) : kq2 P (fX19_serveSeed_b20 fu a1 M L) := by
  unfold fX19_serveSeed_b20
  exact (kqK2 (fun q1 => (kqI2 (y_fX19_serveSeed_b38 hC h) (y_fX19_serveSeed_b38 hC h))))
theorem y_fX19_serveSeed_i96 {P : mwM → mwL → Prop} (hC : CPrb P) {fu : Nat} {a1 : Int32} {r96 : (Int32 × mwM × mwL) → Option (mwM × mwL)} {v2 : Int32} (hr96 : ∀ s, P s.2.1 s.2.2 → kq2 P (r96 s)) {M : mwM} {L : mwL} (h : P M L) : kq2 P (fX19_serveSeed_i96 fu a1 r96 v2 M L) := by
  unfold fX19_serveSeed_i96
  exact (kqI2 (kqM2_rb hC h (by omega) (fun M6 h1 => (kqS2 h1))) (kqK2 (fun q2 => (kqK2 (fun q3 => (kqM2_rb hC h (by omega) (fun M9 h4 => (kqL2 (fun x10 => (hr96 (x10, M9, L) h4))))))))))
theorem y_fX19_serveSeed_h96 {P : mwM → mwL → Prop} (hC : CPrb P) {fu : Nat} {a1 : Int32} : ∀ n s, P s.2.1 s.2.2 → kq2 P (fX19_serveSeed_h96 fu a1 n s) := by
  intro n
  induction n with
  | zero => intro s _; exact kqN2
  | succ n ih =>
    intro s h
    show kq2 P (fX19_serveSeed_i96 fu a1 (fX19_serveSeed_h96 fu a1 n) s.1 s.2.1 s.2.2)
    exact y_fX19_serveSeed_i96 hC ih h
theorem y_DX19_serveSeed {P : mwM → mwL → Prop} (hC : CPrb P) {fu : Nat} {a1 : Int32} {M : mwM} {L : mwL} (h : P M L) : kq2 P (DX19_serveSeed fu a1 M L) := by
  unfold DX19_serveSeed
  exact (kqK2 (fun q1 => (kqI2 (y_fX19_serveSeed_b20 hC h) (kqK2 (fun q2 => (kqI2 (y_fX19_serveSeed_b20 hC h) (kqM2_rb hC h (by omega) (fun M15 h3 => (kqK2 (fun q4 => (kqM2_rb hC h3 (by omega) (fun M17 h5 => (kqK2 (fun q6 => (kqM2_rb hC h5 (by omega) (fun M19 h7 => (kqM2_rb hC h7 (by omega) (fun M21 h8 => (kqM2_rb hC h8 (by omega) (fun M23 h9 => (y_fX19_serveSeed_h96 hC _ (0, M23, L) h9)))))))))))))))))))))
theorem y_fX19_serveKey_b37 {P : mwM → mwL → Prop} (hC : CPrb P) {fu : Nat} {a1 : Int32} {s1 : Int32} {M : mwM} {L : mwL} (h : P M L) : kq2 P (fX19_serveKey_b37 fu a1 s1 M L) := by
  unfold fX19_serveKey_b37
  exact (kqB22 (y_DX19_no hC h) (fun M3 L4 h1 => (kqS2 h1)))
theorem y_fX19_serveKey_b19 {P : mwM → mwL → Prop} (hC : CPrb P) {fu : Nat} {a1 : Int32} {M : mwM} {L : mwL} (h : P M L) : kq2 P (fX19_serveKey_b19 fu a1 M L) := by
  unfold fX19_serveKey_b19
  exact (kqK2 (fun q1 => (kqI2 (y_fX19_serveKey_b37 hC h) (y_fX19_serveKey_b37 hC h))))
theorem y_fX19_serveKey_b215 {P : mwM → mwL → Prop} (hC : CPrb P) {fu : Nat} {a1 : Int32} {s1 : Int32} {M : mwM} {L : mwL} (h : P M L) : kq2 P (fX19_serveKey_b215 fu a1 s1 M L) := by
  unfold fX19_serveKey_b215
  exact (kqB22 (y_DX19_no hC h) (fun M38 L39 h1 => (kqS2 h1)))
theorem y_fX19_serveKey_b150 {P : mwM → mwL → Prop} (hC : CPrb P) {fu : Nat} {a1 : Int32} {r103 : (Int32 × mwM × mwL) → Option (mwM × mwL)} {v3 : Int32} {s2 : Int32} (hr103 : ∀ s, P s.2.1 s.2.2 → kq2 P (r103 s)) {M : mwM} {L : mwL} (h : P M L) : kq2 P (fX19_serveKey_b150 fu a1 r103 v3 s2 M L) := by
  unfold fX19_serveKey_b150
  exact (kqK2 (fun q1 => (kqM2_rb hC h (by omega) (fun M36 h2 => (kqL2 (fun x37 => (hr103 (x37, M36, L) h2)))))))
theorem y_fX19_serveKey_b149 {P : mwM → mwL → Prop} (hC : CPrb P) {fu : Nat} {a1 : Int32} {r103 : (Int32 × mwM × mwL) → Option (mwM × mwL)} {v3 : Int32} (hr103 : ∀ s, P s.2.1 s.2.2 → kq2 P (r103 s)) {M : mwM} {L : mwL} (h : P M L) : kq2 P (fX19_serveKey_b149 fu a1 r103 v3 M L) := by
  unfold fX19_serveKey_b149
  exact (y_fX19_serveKey_b150 hC hr103 h)
theorem y_fX19_serveKey_i103 {P : mwM → mwL → Prop} (hC : CPrb P) {fu : Nat} {a1 : Int32} {r103 : (Int32 × mwM × mwL) → Option (mwM × mwL)} {v3 : Int32} (hr103 : ∀ s, P s.2.1 s.2.2 → kq2 P (r103 s)) {M : mwM} {L : mwL} (h : P M L) : kq2 P (fX19_serveKey_i103 fu a1 r103 v3 M L) := by
  unfold fX19_serveKey_i103
  exact (kqI2 (kqK2 (fun q1 => (kqI2 (kqK2 (fun q2 => (kqK2 (fun q3 => (kqM2_rb hC h (by omega) (fun M20 h4 => (kqK2 (fun q5 => (kqI2 (y_fX19_serveKey_b215 hC h4) (y_fX19_serveKey_b215 hC h4)))))))))) (kqM2_rb hC h (by omega) (fun M24 h6 => (kqM2_rb hC h6 (by omega) (fun M26 h7 => (kqM2_rb hC h7 (by omega) (fun M27 h8 => (kqS2 h8)))))))))) (kqK2 (fun q9 => (kqI2 (y_fX19_serveKey_b149 hC hr103 h) (kqB32 (y_DX14_out hC h) (fun r32 M30 L31 h10 => (kqK2 (fun q11 => (kqI2 (y_fX19_serveKey_b150 hC hr103 h10) (y_fX19_serveKey_b149 hC hr103 h10))))))))))
theorem y_fX19_serveKey_h103 {P : mwM → mwL → Prop} (hC : CPrb P) {fu : Nat} {a1 : Int32} : ∀ n s, P s.2.1 s.2.2 → kq2 P (fX19_serveKey_h103 fu a1 n s) := by
  intro n
  induction n with
  | zero => intro s _; exact kqN2
  | succ n ih =>
    intro s h
    show kq2 P (fX19_serveKey_i103 fu a1 (fX19_serveKey_h103 fu a1 n) s.1 s.2.1 s.2.2)
    exact y_fX19_serveKey_i103 hC ih h
theorem y_fX19_serveKey_i50 {P : mwM → mwL → Prop} (hC : CPrb P) {fu : Nat} {a1 : Int32} {r50 : (Int32 × mwM × mwL) → Option (mwM × mwL)} {v2 : Int32} (hr50 : ∀ s, P s.2.1 s.2.2 → kq2 P (r50 s)) {M : mwM} {L : mwL} (h : P M L) : kq2 P (fX19_serveKey_i50 fu a1 r50 v2 M L) := by
  unfold fX19_serveKey_i50
  exact (kqI2 (kqB32 (y_DX14_code hC h) (fun r8 M6 L7 h1 => (kqK2 (fun q2 => (kqM2_rb hC h1 (by omega) (fun M10 h3 => (y_fX19_serveKey_h103 hC _ (0, M10, L7) h3))))))) (kqK2 (fun q4 => (kqB22 (y_DX14_octet hC h) (fun M12 L13 h5 => (kqL2 (fun x14 => (hr50 (x14, M12, L13) h5))))))))
theorem y_fX19_serveKey_h50 {P : mwM → mwL → Prop} (hC : CPrb P) {fu : Nat} {a1 : Int32} : ∀ n s, P s.2.1 s.2.2 → kq2 P (fX19_serveKey_h50 fu a1 n s) := by
  intro n
  induction n with
  | zero => intro s _; exact kqN2
  | succ n ih =>
    intro s h
    show kq2 P (fX19_serveKey_i50 fu a1 (fX19_serveKey_h50 fu a1 n) s.1 s.2.1 s.2.2)
    exact y_fX19_serveKey_i50 hC ih h
theorem y_DX19_serveKey {P : mwM → mwL → Prop} (hC : CPrb P) {fu : Nat} {a1 : Int32} {M : mwM} {L : mwL} (h : P M L) : kq2 P (DX19_serveKey fu a1 M L) := by
  unfold DX19_serveKey
  exact (kqK2 (fun q1 => (kqI2 (y_fX19_serveKey_b19 hC h) (kqK2 (fun q2 => (kqI2 (y_fX19_serveKey_b19 hC h) (kqK2 (fun q3 => (kqM2_rb hC h (by omega) (fun M45 h4 => (y_fX19_serveKey_h50 hC _ (0, M45, L) h4)))))))))))
theorem y_fX19_serve_b266 {P : mwM → mwL → Prop} (hC : CPrb P) {fu : Nat} {a1 : Int32} {a2 : Int32} {M : mwM} {L : mwL} (h : P M L) : kq2 P (fX19_serve_b266 fu a1 a2 M L) := by
  unfold fX19_serve_b266
  exact (kqS2 h)
theorem y_fX19_serve_b171 {P : mwM → mwL → Prop} (hC : CPrb P) {fu : Nat} {a1 : Int32} {a2 : Int32} {M : mwM} {L : mwL} (h : P M L) : kq2 P (fX19_serve_b171 fu a1 a2 M L) := by
  unfold fX19_serve_b171
  exact (kqB22 (y_DX19_no hC h) (fun M18 L19 h1 => (y_fX19_serve_b266 hC h1)))
theorem y_fX19_serve_b180 {P : mwM → mwL → Prop} (hC : CPrb P) {fu : Nat} {a1 : Int32} {a2 : Int32} {v3 : Int32} {v6 : Int32} {M : mwM} {L : mwL} (h : P M L) : kq2 P (fX19_serve_b180 fu a1 a2 v3 v6 M L) := by
  unfold fX19_serve_b180
  exact (kqI2 (kqB22 (y_DX19_serveSession hC h) (fun M38 L39 h1 => (y_fX19_serve_b266 hC h1))) (kqI2 (kqB22 (y_DX19_serveRead hC h) (fun M36 L37 h2 => (y_fX19_serve_b266 hC h2))) (kqI2 (kqB22 (y_DX19_serveWrite hC h) (fun M34 L35 h3 => (y_fX19_serve_b266 hC h3))) (kqI2 (kqB22 (y_DX19_serveTroubles hC h) (fun M32 L33 h4 => (y_fX19_serve_b266 hC h4))) (kqI2 (kqB22 (y_DX19_serveClear hC h) (fun M30 L31 h5 => (y_fX19_serve_b266 hC h5))) (kqI2 (kqB22 (y_DX19_serveKey hC h) (fun M26 L27 h6 => (y_fX19_serve_b266 hC h6))) (kqB22 (y_DX19_serveSeed hC h) (fun M28 L29 h7 => (y_fX19_serve_b266 hC h7)))))))))
theorem y_fX19_serve_b130 {P : mwM → mwL → Prop} (hC : CPrb P) {fu : Nat} {a1 : Int32} {a2 : Int32} {v3 : Int32} {v4 : Int32} {v5 : Int32} {v6 : Int32} {s0 : Int32} {M : mwM} {L : mwL} (h : P M L) : kq2 P (fX19_serve_b130 fu a1 a2 v3 v4 v5 v6 s0 M L) := by
  unfold fX19_serve_b130
  exact (kqI2 (kqB22 (y_DX19_no hC h) (fun M16 L17 h1 => (y_fX19_serve_b266 hC h1))) (kqI2 (kqI2 (kqI2 (y_fX19_serve_b171 hC h) (y_fX19_serve_b180 hC h)) (y_fX19_serve_b180 hC h)) (kqI2 (y_fX19_serve_b180 hC h) (y_fX19_serve_b171 hC h))))
theorem y_fX19_serve_b129 {P : mwM → mwL → Prop} (hC : CPrb P) {fu : Nat} {a1 : Int32} {a2 : Int32} {v3 : Int32} {v4 : Int32} {v5 : Int32} {v6 : Int32} {M : mwM} {L : mwL} (h : P M L) : kq2 P (fX19_serve_b129 fu a1 a2 v3 v4 v5 v6 M L) := by
  unfold fX19_serve_b129
  exact (y_fX19_serve_b130 hC h)
theorem y_fX19_serve_b101 {P : mwM → mwL → Prop} (hC : CPrb P) {fu : Nat} {a1 : Int32} {a2 : Int32} {v3 : Int32} {v4 : Int32} {v5 : Int32} {s0 : Int32} {M : mwM} {L : mwL} (h : P M L) : kq2 P (fX19_serve_b101 fu a1 a2 v3 v4 v5 s0 M L) := by
  unfold fX19_serve_b101
  exact (kqI2 (kqI2 (kqI2 (y_fX19_serve_b130 hC h) (y_fX19_serve_b129 hC h)) (y_fX19_serve_b129 hC h)) (y_fX19_serve_b129 hC h))
theorem y_fX19_serve_b100 {P : mwM → mwL → Prop} (hC : CPrb P) {fu : Nat} {a1 : Int32} {a2 : Int32} {v3 : Int32} {v4 : Int32} {v5 : Int32} {M : mwM} {L : mwL} (h : P M L) : kq2 P (fX19_serve_b100 fu a1 a2 v3 v4 v5 M L) := by
  unfold fX19_serve_b100
  exact (y_fX19_serve_b101 hC h)
theorem y_fX19_serve_b73 {P : mwM → mwL → Prop} (hC : CPrb P) {fu : Nat} {a1 : Int32} {a2 : Int32} {v3 : Int32} {v4 : Int32} {s0 : Int32} {M : mwM} {L : mwL} (h : P M L) : kq2 P (fX19_serve_b73 fu a1 a2 v3 v4 s0 M L) := by
  unfold fX19_serve_b73
  exact (kqI2 (kqI2 (kqI2 (y_fX19_serve_b101 hC h) (y_fX19_serve_b100 hC h)) (y_fX19_serve_b100 hC h)) (y_fX19_serve_b100 hC h))
theorem y_fX19_serve_b68 {P : mwM → mwL → Prop} (hC : CPrb P) {fu : Nat} {a1 : Int32} {a2 : Int32} {v3 : Int32} {v4 : Int32} {M : mwM} {L : mwL} (h : P M L) : kq2 P (fX19_serve_b68 fu a1 a2 v3 v4 M L) := by
  unfold fX19_serve_b68
  exact (y_fX19_serve_b73 hC h)
theorem y_fX19_serve_b55 {P : mwM → mwL → Prop} (hC : CPrb P) {fu : Nat} {a1 : Int32} {a2 : Int32} {v3 : Int32} {s0 : Int32} {M : mwM} {L : mwL} (h : P M L) : kq2 P (fX19_serve_b55 fu a1 a2 v3 s0 M L) := by
  unfold fX19_serve_b55
  exact (kqI2 (y_fX19_serve_b68 hC h) (kqI2 (y_fX19_serve_b68 hC h) (y_fX19_serve_b73 hC h)))
theorem y_fX19_serve_b50 {P : mwM → mwL → Prop} (hC : CPrb P) {fu : Nat} {a1 : Int32} {a2 : Int32} {v3 : Int32} {M : mwM} {L : mwL} (h : P M L) : kq2 P (fX19_serve_b50 fu a1 a2 v3 M L) := by
  unfold fX19_serve_b50
  exact (y_fX19_serve_b55 hC h)
theorem y_DX19_serve {P : mwM → mwL → Prop} (hC : CPrb P) {fu : Nat} {a1 : Int32} {a2 : Int32} {M : mwM} {L : mwL} (h : P M L) : kq2 P (DX19_serve fu a1 a2 M L) := by
  unfold DX19_serve
  exact (kqL2 (fun x41 => (kqI2 (y_fX19_serve_b55 hC h) (kqI2 (y_fX19_serve_b55 hC h) (kqI2 (y_fX19_serve_b55 hC h) (kqI2 (y_fX19_serve_b50 hC h) (kqI2 (y_fX19_serve_b50 hC h) (y_fX19_serve_b55 hC h))))))))
theorem y_fX19_say_i45 {P : mwM → mwL → Prop} (hC : CPrb P) {fu : Nat} {a1 : Int32} {a2 : Int32} {r45 : (Int32 × Int32 × mwM × mwL) → Option (mwM × mwL)} {v3 : Int32} {v4 : Int32} (hr45 : ∀ s, P s.2.2.1 s.2.2.2 → kq2 P (r45 s)) {M : mwM} {L : mwL} (h : P M L) : kq2 P (fX19_say_i45 fu a1 a2 r45 v3 v4 M L) := by
  unfold fX19_say_i45
  exact (kqI2 (kqS2 h) (kqK2 (fun q1 => (kqB22 (y_DX17_octet hC h) (fun M3 L4 h2 => (kqL2 (fun x5 => (hr45 (v3, x5, M3, L4) h2))))))))
theorem y_fX19_say_h45 {P : mwM → mwL → Prop} (hC : CPrb P) {fu : Nat} {a1 : Int32} {a2 : Int32} : ∀ n s, P s.2.2.1 s.2.2.2 → kq2 P (fX19_say_h45 fu a1 a2 n s) := by
  intro n
  induction n with
  | zero => intro s _; exact kqN2
  | succ n ih =>
    intro s h
    show kq2 P (fX19_say_i45 fu a1 a2 (fX19_say_h45 fu a1 a2 n) s.1 s.2.1 s.2.2.1 s.2.2.2)
    exact y_fX19_say_i45 hC ih h
theorem y_DX19_say {P : mwM → mwL → Prop} (hC : CPrb P) {fu : Nat} {a1 : Int32} {a2 : Int32} {M : mwM} {L : mwL} (h : P M L) : kq2 P (DX19_say fu a1 a2 M L) := by
  unfold DX19_say
  exact (kqB32 (y_DX17_send hC h) (fun r8 M6 L7 h1 => (kqI2 (kqM2_rb hC h1 (by omega) (fun M10 h2 => (kqK2 (fun q3 => (kqM2_rb hC h2 (by omega) (fun M12 h4 => (kqK2 (fun q5 => (kqM2_rb hC h4 (by omega) (fun M14 h6 => (y_fX19_say_h45 hC _ (r8, 0, M14, L7) h6))))))))))) (kqS2 h1))))
theorem y_fX19_arrive_b297 {P : mwM → mwL → Prop} (hC : CPrb P) {fu : Nat} {a1 : Int32} {M : mwM} {L : mwL} (h : P M L) : kq2 P (fX19_arrive_b297 fu a1 M L) := by
  unfold fX19_arrive_b297
  exact (kqS2 h)
theorem y_fX19_arrive_i255 {P : mwM → mwL → Prop} (hC : CPrb P) {fu : Nat} {a1 : Int32} {r255 : (Int32 × Int32 × mwM × mwL) → Option (mwM × mwL)} {v5 : Int32} {v7 : Int32} (hr255 : ∀ s, P s.2.2.1 s.2.2.2 → kq2 P (r255 s)) {M : mwM} {L : mwL} (h : P M L) : kq2 P (fX19_arrive_i255 fu a1 r255 v5 v7 M L) := by
  unfold fX19_arrive_i255
  exact (kqI2 (kqM2_rb hC h (by omega) (fun M52 h1 => (kqM2_rb hC h1 (by omega) (fun M53 h2 => (y_fX19_arrive_b297 hC h2))))) (kqK2 (fun q3 => (kqK2 (fun q4 => (kqM2_rb hC h (by omega) (fun M56 h5 => (kqL2 (fun x57 => (hr255 (v5, x57, M56, L) h5))))))))))
theorem y_fX19_arrive_h255 {P : mwM → mwL → Prop} (hC : CPrb P) {fu : Nat} {a1 : Int32} : ∀ n s, P s.2.2.1 s.2.2.2 → kq2 P (fX19_arrive_h255 fu a1 n s) := by
  intro n
  induction n with
  | zero => intro s _; exact kqN2
  | succ n ih =>
    intro s h
    show kq2 P (fX19_arrive_i255 fu a1 (fX19_arrive_h255 fu a1 n) s.1 s.2.1 s.2.2.1 s.2.2.2)
    exact y_fX19_arrive_i255 hC ih h
theorem y_fX19_arrive_i150 {P : mwM → mwL → Prop} (hC : CPrb P) {fu : Nat} {a1 : Int32} {r150 : (Int32 × Int32 × Int32 × mwM × mwL) → Option (mwM × mwL)} {v3 : Int32} {v5 : Int32} {v6 : Int32} (hr150 : ∀ s, P s.2.2.2.1 s.2.2.2.2 → kq2 P (r150 s)) {M : mwM} {L : mwL} (h : P M L) : kq2 P (fX19_arrive_i150 fu a1 r150 v3 v5 v6 M L) := by
  unfold fX19_arrive_i150
  exact (kqI2 (kqB32 (y_DX17_frame hC h) (fun r31 M29 L30 h1 => (kqK2 (fun q2 => (kqI2 (kqK2 (fun q3 => (kqI2 (kqM2_rb hC h1 (by omega) (fun M36 h4 => (y_fX19_arrive_h255 hC _ (v5, 0, M36, L30) h4))) (y_fX19_arrive_b297 hC h1)))) (kqK2 (fun q5 => (kqB22 (y_DX19_serve hC h1) (fun M38 L39 h6 => (kqK2 (fun q7 => (kqB22 (y_DX19_say hC h6) (fun M41 L42 h8 => (y_fX19_arrive_b297 hC h8)))))))))))))) (kqB32 (y_DX17_got hC h) (fun r45 M43 L44 h9 => (kqK2 (fun q10 => (kqM2_rb hC h9 (by omega) (fun M47 h11 => (kqL2 (fun x48 => (hr150 (v3, v5, x48, M47, L44) h11))))))))))
theorem y_fX19_arrive_h150 {P : mwM → mwL → Prop} (hC : CPrb P) {fu : Nat} {a1 : Int32} : ∀ n s, P s.2.2.2.1 s.2.2.2.2 → kq2 P (fX19_arrive_h150 fu a1 n s) := by
  intro n
  induction n with
  | zero => intro s _; exact kqN2
  | succ n ih =>
    intro s h
    show kq2 P (fX19_arrive_i150 fu a1 (fX19_arrive_h150 fu a1 n) s.1 s.2.1 s.2.2.1 s.2.2.2.1 s.2.2.2.2)
    exact y_fX19_arrive_i150 hC ih h
theorem y_fX19_arrive_i55 {P : mwM → mwL → Prop} (hC : CPrb P) {fu : Nat} {a1 : Int32} {r55 : (Int32 × Int32 × mwM × mwL) → Option (mwM × mwL)} {v3 : Int32} {v4 : Int32} (hr55 : ∀ s, P s.2.2.1 s.2.2.2 → kq2 P (r55 s)) {M : mwM} {L : mwL} (h : P M L) : kq2 P (fX19_arrive_i55 fu a1 r55 v3 v4 M L) := by
  unfold fX19_arrive_i55
  exact (kqI2 (kqB32 (y_DX17_receive hC h) (fun r12 M10 L11 h1 => (kqB32 (y_DX17_ended hC h1) (fun r15 M13 L14 h2 => (kqI2 (kqS2 h2) (kqM2_rb hC h2 (by omega) (fun M17 h3 => (kqB32 (y_DX17_length hC h3) (fun r20 M18 L19 h4 => (y_fX19_arrive_h150 hC _ (v3, r20, 0, M18, L19) h4)))))))))) (kqK2 (fun q5 => (kqK2 (fun q6 => (kqM2_rb hC h (by omega) (fun M23 h7 => (kqK2 (fun q8 => (kqK2 (fun q9 => (kqM2_rb hC h7 (by omega) (fun M26 h10 => (kqL2 (fun x27 => (hr55 (v3, x27, M26, L) h10))))))))))))))))
theorem y_fX19_arrive_h55 {P : mwM → mwL → Prop} (hC : CPrb P) {fu : Nat} {a1 : Int32} : ∀ n s, P s.2.2.1 s.2.2.2 → kq2 P (fX19_arrive_h55 fu a1 n s) := by
  intro n
  induction n with
  | zero => intro s _; exact kqN2
  | succ n ih =>
    intro s h
    show kq2 P (fX19_arrive_i55 fu a1 (fX19_arrive_h55 fu a1 n) s.1 s.2.1 s.2.2.1 s.2.2.2)
    exact y_fX19_arrive_i55 hC ih h
theorem y_fX19_arrive_b26 {P : mwM → mwL → Prop} (hC : CPrb P) {fu : Nat} {a1 : Int32} {v2 : Int32} {M : mwM} {L : mwL} (h : P M L) : kq2 P (fX19_arrive_b26 fu a1 v2 M L) := by
  unfold fX19_arrive_b26
  exact (kqI2 (kqS2 h) (kqK2 (fun q1 => (kqL2 (fun x7 => (kqM2_rb hC h (by omega) (fun M8 h2 => (y_fX19_arrive_h55 hC _ (x7, v2, M8, L) h2))))))))
theorem y_fX19_arrive_i2 {P : mwM → mwL → Prop} (hC : CPrb P) {fu : Nat} {a1 : Int32} {r2 : (Int32 × mwM × mwL) → Option (mwM × mwL)} {v2 : Int32} (hr2 : ∀ s, P s.2.1 s.2.2 → kq2 P (r2 s)) {M : mwM} {L : mwL} (h : P M L) : kq2 P (fX19_arrive_i2 fu a1 r2 v2 M L) := by
  unfold fX19_arrive_i2
  exact (kqI2 (y_fX19_arrive_b26 hC h) (kqK2 (fun q1 => (kqI2 (y_fX19_arrive_b26 hC h) (kqL2 (fun x4 => (hr2 (x4, M, L) h)))))))
theorem y_fX19_arrive_h2 {P : mwM → mwL → Prop} (hC : CPrb P) {fu : Nat} {a1 : Int32} : ∀ n s, P s.2.1 s.2.2 → kq2 P (fX19_arrive_h2 fu a1 n s) := by
  intro n
  induction n with
  | zero => intro s _; exact kqN2
  | succ n ih =>
    intro s h
    show kq2 P (fX19_arrive_i2 fu a1 (fX19_arrive_h2 fu a1 n) s.1 s.2.1 s.2.2)
    exact y_fX19_arrive_i2 hC ih h
theorem y_DX19_arrive {P : mwM → mwL → Prop} (hC : CPrb P) {fu : Nat} {a1 : Int32} {M : mwM} {L : mwL} (h : P M L) : kq2 P (DX19_arrive fu a1 M L) := by
  unfold DX19_arrive
  exact (y_fX19_arrive_h2 hC _ (0, M, L) h)
theorem y_fX19_lookAt_b214 {P : mwM → mwL → Prop} (hC : CPrb P) {fu : Nat} {a1 : Int32} {r11 : (Int32 × mwM × mwL) → Option (mwM × mwL)} {v2 : Int32} (hr11 : ∀ s, P s.2.1 s.2.2 → kq2 P (r11 s)) {M : mwM} {L : mwL} (h : P M L) : kq2 P (fX19_lookAt_b214 fu a1 r11 v2 M L) := by
  unfold fX19_lookAt_b214
  exact (hr11 (v2, M, L) h)
theorem y_fX19_lookAt_b208 {P : mwM → mwL → Prop} (hC : CPrb P) {fu : Nat} {a1 : Int32} {r11 : (Int32 × mwM × mwL) → Option (mwM × mwL)} {v2 : Int32} {v4 : Int32} (hr11 : ∀ s, P s.2.1 s.2.2 → kq2 P (r11 s)) {M : mwM} {L : mwL} (h : P M L) : kq2 P (fX19_lookAt_b208 fu a1 r11 v2 v4 M L) := by
  unfold fX19_lookAt_b208
  exact (kqB22 (y_DX19_arrive hC h) (fun M38 L39 h1 => (y_fX19_lookAt_b214 hC hr11 h1)))
theorem y_fX19_lookAt_b174 {P : mwM → mwL → Prop} (hC : CPrb P) {fu : Nat} {a1 : Int32} {r11 : (Int32 × mwM × mwL) → Option (mwM × mwL)} {v2 : Int32} (hr11 : ∀ s, P s.2.1 s.2.2 → kq2 P (r11 s)) {M : mwM} {L : mwL} (h : P M L) : kq2 P (fX19_lookAt_b174 fu a1 r11 v2 M L) := by
  unfold fX19_lookAt_b174
  exact (y_fX19_lookAt_b214 hC hr11 h)
theorem y_fX19_lookAt_b168 {P : mwM → mwL → Prop} (hC : CPrb P) {fu : Nat} {a1 : Int32} {r11 : (Int32 × mwM × mwL) → Option (mwM × mwL)} {r126 : (Int32 × Int32 × Int32 × mwM × mwL) → Option (mwM × mwL)} {v2 : Int32} {v4 : Int32} {v5 : Int32} (hr11 : ∀ s, P s.2.1 s.2.2 → kq2 P (r11 s)) (hr126 : ∀ s, P s.2.2.2.1 s.2.2.2.2 → kq2 P (r126 s)) {M : mwM} {L : mwL} (h : P M L) : kq2 P (fX19_lookAt_b168 fu a1 r11 r126 v2 v4 v5 M L) := by
  unfold fX19_lookAt_b168
  exact (kqL2 (fun x37 => (hr126 (v2, v4, x37, M, L) h)))
theorem y_fX19_lookAt_i126 {P : mwM → mwL → Prop} (hC : CPrb P) {fu : Nat} {a1 : Int32} {r11 : (Int32 × mwM × mwL) → Option (mwM × mwL)} {r126 : (Int32 × Int32 × Int32 × mwM × mwL) → Option (mwM × mwL)} {v2 : Int32} {v4 : Int32} {v5 : Int32} (hr11 : ∀ s, P s.2.1 s.2.2 → kq2 P (r11 s)) (hr126 : ∀ s, P s.2.2.2.1 s.2.2.2.2 → kq2 P (r126 s)) {M : mwM} {L : mwL} (h : P M L) : kq2 P (fX19_lookAt_i126 fu a1 r11 r126 v2 v4 v5 M L) := by
  unfold fX19_lookAt_i126
  exact (kqI2 (y_fX19_lookAt_b174 hC hr11 h) (kqI2 (y_fX19_lookAt_b174 hC hr11 h) (kqK2 (fun q1 => (kqI2 (kqB22 (y_DX19_come hC h) (fun M35 L36 h2 => (y_fX19_lookAt_b168 hC hr11 hr126 h2))) (y_fX19_lookAt_b168 hC hr11 hr126 h))))))
theorem y_fX19_lookAt_h126 {P : mwM → mwL → Prop} (hC : CPrb P) {fu : Nat} {a1 : Int32} {r11 : (Int32 × mwM × mwL) → Option (mwM × mwL)} (hr11 : ∀ s, P s.2.1 s.2.2 → kq2 P (r11 s)) : ∀ n s, P s.2.2.2.1 s.2.2.2.2 → kq2 P (fX19_lookAt_h126 fu a1 r11 n s) := by
  intro n
  induction n with
  | zero => intro s _; exact kqN2
  | succ n ih =>
    intro s h
    show kq2 P (fX19_lookAt_i126 fu a1 r11 (fX19_lookAt_h126 fu a1 r11 n) s.1 s.2.1 s.2.2.1 s.2.2.2.1 s.2.2.2.2)
    exact y_fX19_lookAt_i126 hC hr11 ih h
theorem y_fX19_lookAt_i84 {P : mwM → mwL → Prop} (hC : CPrb P) {fu : Nat} {a1 : Int32} {r11 : (Int32 × mwM × mwL) → Option (mwM × mwL)} {r84 : (Int32 × Int32 × Int32 × Int32 × mwM × mwL) → Option (mwM × mwL)} {v2 : Int32} {v3 : Int32} {v4 : Int32} {v5 : Int32} (hr11 : ∀ s, P s.2.1 s.2.2 → kq2 P (r11 s)) (hr84 : ∀ s, P s.2.2.2.2.1 s.2.2.2.2.2 → kq2 P (r84 s)) {M : mwM} {L : mwL} (h : P M L) : kq2 P (fX19_lookAt_i84 fu a1 r11 r84 v2 v3 v4 v5 M L) := by
  unfold fX19_lookAt_i84
  exact (kqI2 (kqI2 (kqI2 (kqI2 (y_fX19_lookAt_b208 hC hr11 h) (y_fX19_lookAt_b214 hC hr11 h)) (kqI2 (y_fX19_lookAt_b208 hC hr11 h) (y_fX19_lookAt_b214 hC hr11 h))) (y_fX19_lookAt_h126 hC hr11 _ (v2, v4, 0, M, L) h)) (kqB32 (y_DX12_takenOctet hC h) (fun r27 M25 L26 h1 => (kqK2 (fun q2 => (kqM2_rb hC h1 (by omega) (fun M29 h3 => (kqL2 (fun x30 => (hr84 (v2, v3, v4, x30, M29, L26) h3))))))))))
theorem y_fX19_lookAt_h84 {P : mwM → mwL → Prop} (hC : CPrb P) {fu : Nat} {a1 : Int32} {r11 : (Int32 × mwM × mwL) → Option (mwM × mwL)} (hr11 : ∀ s, P s.2.1 s.2.2 → kq2 P (r11 s)) : ∀ n s, P s.2.2.2.2.1 s.2.2.2.2.2 → kq2 P (fX19_lookAt_h84 fu a1 r11 n s) := by
  intro n
  induction n with
  | zero => intro s _; exact kqN2
  | succ n ih =>
    intro s h
    show kq2 P (fX19_lookAt_i84 fu a1 r11 (fX19_lookAt_h84 fu a1 r11 n) s.1 s.2.1 s.2.2.1 s.2.2.2.1 s.2.2.2.2.1 s.2.2.2.2.2)
    exact y_fX19_lookAt_i84 hC hr11 ih h
theorem y_fX19_lookAt_i11 {P : mwM → mwL → Prop} (hC : CPrb P) {fu : Nat} {a1 : Int32} {r11 : (Int32 × mwM × mwL) → Option (mwM × mwL)} {v2 : Int32} (hr11 : ∀ s, P s.2.1 s.2.2 → kq2 P (r11 s)) {M : mwM} {L : mwL} (h : P M L) : kq2 P (fX19_lookAt_i11 fu a1 r11 v2 M L) := by
  unfold fX19_lookAt_i11
  exact (kqK2 (fun q1 => (kqI2 (kqS2 h) (kqK2 (fun q2 => (kqL2 (fun x4 => (kqK2 (fun q3 => (kqK2 (fun q4 => (kqM2_rb hC h (by omega) (fun M7 h5 => (kqB32 (y_DX12_taken hC h5) (fun r10 M8 L9 h6 => (kqB32 (y_DX12_taken hC h6) (fun r13 M11 L12 h7 => (kqI2 (kqB32 (y_DX12_taken hC h7) (fun r17 M15 L16 h8 => (kqI2 (y_fX19_lookAt_h84 hC hr11 _ (v2, x4, r10, 0, M15, L16) h8) (hr11 (v2, M15, L16) h8)))) (hr11 (v2, M11, L12) h7)))))))))))))))))))
theorem y_fX19_lookAt_h11 {P : mwM → mwL → Prop} (hC : CPrb P) {fu : Nat} {a1 : Int32} : ∀ n s, P s.2.1 s.2.2 → kq2 P (fX19_lookAt_h11 fu a1 n s) := by
  intro n
  induction n with
  | zero => intro s _; exact kqN2
  | succ n ih =>
    intro s h
    show kq2 P (fX19_lookAt_i11 fu a1 (fX19_lookAt_h11 fu a1 n) s.1 s.2.1 s.2.2)
    exact y_fX19_lookAt_i11 hC ih h
theorem y_DX19_lookAt {P : mwM → mwL → Prop} (hC : CPrb P) {fu : Nat} {a1 : Int32} {M : mwM} {L : mwL} (h : P M L) : kq2 P (DX19_lookAt fu a1 M L) := by
  unfold DX19_lookAt
  exact (kqB32 (y_DX12_taken hC h) (fun r42 M40 L41 h1 => (y_fX19_lookAt_h11 hC _ (r42, M40, L41) h1)))
theorem y_fX19_transferred_b350 {P : mwM → mwL → Prop} (hC : CPrb P) {fu : Nat} {v3 : Int32} {M : mwM} {L : mwL} (h : P M L) : kq2 P (fX19_transferred_b350 fu v3 M L) := by
  unfold fX19_transferred_b350
  exact (kqM2_rb hC h (by omega) (fun M59 h1 => (kqS2 h1)))
theorem y_fX19_transferred_i295 {P : mwM → mwL → Prop} (hC : CPrb P) {fu : Nat} {r295 : (Int32 × Int32 × mwM × mwL) → Option (mwM × mwL)} {v3 : Int32} {v4 : Int32} (hr295 : ∀ s, P s.2.2.1 s.2.2.2 → kq2 P (r295 s)) {M : mwM} {L : mwL} (h : P M L) : kq2 P (fX19_transferred_i295 fu r295 v3 v4 M L) := by
  unfold fX19_transferred_i295
  exact (kqI2 (kqI2 (y_fX19_transferred_b350 hC h) (kqI2 (y_fX19_transferred_b350 hC h) (kqM2_rb hC h (by omega) (fun M52 h1 => (kqM2_rb hC h1 (by omega) (fun M53 h2 => (y_fX19_transferred_b350 hC h2))))))) (kqB32 (y_DX17_ended hC h) (fun r56 M54 L55 h3 => (kqL2 (fun x57 => (kqL2 (fun x58 => (hr295 (x57, x58, M54, L55) h3))))))))
theorem y_fX19_transferred_h295 {P : mwM → mwL → Prop} (hC : CPrb P) {fu : Nat} : ∀ n s, P s.2.2.1 s.2.2.2 → kq2 P (fX19_transferred_h295 fu n s) := by
  intro n
  induction n with
  | zero => intro s _; exact kqN2
  | succ n ih =>
    intro s h
    show kq2 P (fX19_transferred_i295 fu (fX19_transferred_h295 fu n) s.1 s.2.1 s.2.2.1 s.2.2.2)
    exact y_fX19_transferred_i295 hC ih h
theorem y_fX19_transferred_b287 {P : mwM → mwL → Prop} (hC : CPrb P) {fu : Nat} {r23 : (Int32 × mwM × mwL) → Option (mwM × mwL)} {v2 : Int32} (hr23 : ∀ s, P s.2.1 s.2.2 → kq2 P (r23 s)) {M : mwM} {L : mwL} (h : P M L) : kq2 P (fX19_transferred_b287 fu r23 v2 M L) := by
  unfold fX19_transferred_b287
  exact (hr23 (v2, M, L) h)
theorem y_fX19_transferred_b263 {P : mwM → mwL → Prop} (hC : CPrb P) {fu : Nat} {r23 : (Int32 × mwM × mwL) → Option (mwM × mwL)} {v2 : Int32} {s1 : Int32} {s2 : Int32} {s3 : Int32} (hr23 : ∀ s, P s.2.1 s.2.2 → kq2 P (r23 s)) {M : mwM} {L : mwL} (h : P M L) : kq2 P (fX19_transferred_b263 fu r23 v2 s1 s2 s3 M L) := by
  unfold fX19_transferred_b263
  exact (kqB32 (y_DX19_put hC h) (fun r42 M40 L41 h1 => (kqI2 (kqB32 (y_DX17_lose hC h1) (fun r46 M44 L45 h2 => (y_fX19_transferred_b287 hC hr23 h2))) (y_fX19_transferred_b287 hC hr23 h1))))
theorem y_fX19_transferred_b235 {P : mwM → mwL → Prop} (hC : CPrb P) {fu : Nat} {r23 : (Int32 × mwM × mwL) → Option (mwM × mwL)} {v2 : Int32} {v4 : Int32} {v5 : Int32} {s0 : Int32} (hr23 : ∀ s, P s.2.1 s.2.2 → kq2 P (r23 s)) {M : mwM} {L : mwL} (h : P M L) : kq2 P (fX19_transferred_b235 fu r23 v2 v4 v5 s0 M L) := by
  unfold fX19_transferred_b235
  exact (kqK2 (fun q1 => (kqI2 (y_fX19_transferred_b263 hC hr23 h) (y_fX19_transferred_b263 hC hr23 h))))
theorem y_fX19_transferred_b214 {P : mwM → mwL → Prop} (hC : CPrb P) {fu : Nat} {r23 : (Int32 × mwM × mwL) → Option (mwM × mwL)} {v2 : Int32} {v4 : Int32} {s0 : Int32} (hr23 : ∀ s, P s.2.1 s.2.2 → kq2 P (r23 s)) {M : mwM} {L : mwL} (h : P M L) : kq2 P (fX19_transferred_b214 fu r23 v2 v4 s0 M L) := by
  unfold fX19_transferred_b214
  exact (kqI2 (kqK2 (fun q1 => (y_fX19_transferred_b235 hC hr23 h))) (y_fX19_transferred_b235 hC hr23 h))
theorem y_fX19_transferred_b177 {P : mwM → mwL → Prop} (hC : CPrb P) {fu : Nat} {r23 : (Int32 × mwM × mwL) → Option (mwM × mwL)} {r97 : (Int32 × Int32 × Int32 × Int32 × mwM × mwL) → Option (mwM × mwL)} {v2 : Int32} {v3 : Int32} {v4 : Int32} {v5 : Int32} {s1 : Int32} {s2 : Int32} (hr23 : ∀ s, P s.2.1 s.2.2 → kq2 P (r23 s)) (hr97 : ∀ s, P s.2.2.2.2.1 s.2.2.2.2.2 → kq2 P (r97 s)) {M : mwM} {L : mwL} (h : P M L) : kq2 P (fX19_transferred_b177 fu r23 r97 v2 v3 v4 v5 s1 s2 M L) := by
  unfold fX19_transferred_b177
  exact (kqK2 (fun q1 => (kqM2_rb hC h (by omega) (fun M34 h2 => (kqL2 (fun x35 => (hr97 (v2, v3, v4, x35, M34, L) h2)))))))
theorem y_fX19_transferred_i97 {P : mwM → mwL → Prop} (hC : CPrb P) {fu : Nat} {r23 : (Int32 × mwM × mwL) → Option (mwM × mwL)} {r97 : (Int32 × Int32 × Int32 × Int32 × mwM × mwL) → Option (mwM × mwL)} {v2 : Int32} {v3 : Int32} {v4 : Int32} {v5 : Int32} (hr23 : ∀ s, P s.2.1 s.2.2 → kq2 P (r23 s)) (hr97 : ∀ s, P s.2.2.2.2.1 s.2.2.2.2.2 → kq2 P (r97 s)) {M : mwM} {L : mwL} (h : P M L) : kq2 P (fX19_transferred_i97 fu r23 r97 v2 v3 v4 v5 M L) := by
  unfold fX19_transferred_i97
  exact (kqI2 (kqI2 (kqK2 (fun q1 => (kqI2 (y_fX19_transferred_b214 hC hr23 h) (y_fX19_transferred_b214 hC hr23 h)))) (kqK2 (fun q2 => (y_fX19_transferred_b214 hC hr23 h)))) (kqI2 (kqI2 (kqB32 (y_DX17_frame hC h) (fun r32 M30 L31 h3 => (y_fX19_transferred_b177 hC hr23 hr97 h3))) (kqI2 (kqB32 (y_DX17_frame hC h) (fun r29 M27 L28 h4 => (y_fX19_transferred_b177 hC hr23 hr97 h4))) (y_fX19_transferred_b177 hC hr23 hr97 h))) (kqB32 (y_DX17_frame hC h) (fun r24 M21 L22 h5 => (y_fX19_transferred_b177 hC hr23 hr97 h5)))))
theorem y_fX19_transferred_h97 {P : mwM → mwL → Prop} (hC : CPrb P) {fu : Nat} {r23 : (Int32 × mwM × mwL) → Option (mwM × mwL)} (hr23 : ∀ s, P s.2.1 s.2.2 → kq2 P (r23 s)) : ∀ n s, P s.2.2.2.2.1 s.2.2.2.2.2 → kq2 P (fX19_transferred_h97 fu r23 n s) := by
  intro n
  induction n with
  | zero => intro s _; exact kqN2
  | succ n ih =>
    intro s h
    show kq2 P (fX19_transferred_i97 fu r23 (fX19_transferred_h97 fu r23 n) s.1 s.2.1 s.2.2.1 s.2.2.2.1 s.2.2.2.2.1 s.2.2.2.2.2)
    exact y_fX19_transferred_i97 hC hr23 ih h
theorem y_fX19_transferred_i23 {P : mwM → mwL → Prop} (hC : CPrb P) {fu : Nat} {r23 : (Int32 × mwM × mwL) → Option (mwM × mwL)} {v2 : Int32} (hr23 : ∀ s, P s.2.1 s.2.2 → kq2 P (r23 s)) {M : mwM} {L : mwL} (h : P M L) : kq2 P (fX19_transferred_i23 fu r23 v2 M L) := by
  unfold fX19_transferred_i23
  exact (kqI2 (y_fX19_transferred_h295 hC _ (0, 1, M, L) h) (kqM2_rb hC h (by omega) (fun M2 h1 => (kqB32 (y_DX17_frame hC h1) (fun r5 M3 L4 h2 => (kqB32 (y_DX17_frame hC h2) (fun r8 M6 L7 h3 => (kqB32 (y_DX17_frame hC h3) (fun r11 M9 L10 h4 => (kqM2_rb hC h4 (by omega) (fun M14 h5 => (y_fX19_transferred_h97 hC hr23 _ (v2, r5, r8, 1, M14, L10) h5))))))))))))
theorem y_fX19_transferred_h23 {P : mwM → mwL → Prop} (hC : CPrb P) {fu : Nat} : ∀ n s, P s.2.1 s.2.2 → kq2 P (fX19_transferred_h23 fu n s) := by
  intro n
  induction n with
  | zero => intro s _; exact kqN2
  | succ n ih =>
    intro s h
    show kq2 P (fX19_transferred_i23 fu (fX19_transferred_h23 fu n) s.1 s.2.1 s.2.2)
    exact y_fX19_transferred_i23 hC ih h
theorem y_DX19_transferred {P : mwM → mwL → Prop} (hC : CPrb P) {fu : Nat} {M : mwM} {L : mwL} (h : P M L) : kq2 P (DX19_transferred fu M L) := by
  unfold DX19_transferred
  exact (kqB32 (y_DX17_tick hC h) (fun r62 M60 L61 h1 => (kqB32 (y_DX17_frame hC h1) (fun r65 M63 L64 h2 => (y_fX19_transferred_h23 hC _ (r65, M63, L64) h2)))))
theorem y_fX19_taskDone_b118 {P : mwM → mwL → Prop} (hC : CPrb P) {fu : Nat} {a1 : Int32} {r72 : (Int32 × Int32 × Int32 × mwM × mwL) → Option (mwM × mwL)} {v2 : Int32} {v3 : Int32} {v4 : Int32} (hr72 : ∀ s, P s.2.2.2.1 s.2.2.2.2 → kq2 P (r72 s)) {M : mwM} {L : mwL} (h : P M L) : kq2 P (fX19_taskDone_b118 fu a1 r72 v2 v3 v4 M L) := by
  unfold fX19_taskDone_b118
  exact (kqL2 (fun x11 => (hr72 (v2, v3, x11, M, L) h)))
theorem y_fX19_taskDone_i72 {P : mwM → mwL → Prop} (hC : CPrb P) {fu : Nat} {a1 : Int32} {r72 : (Int32 × Int32 × Int32 × mwM × mwL) → Option (mwM × mwL)} {v2 : Int32} {v3 : Int32} {v4 : Int32} (hr72 : ∀ s, P s.2.2.2.1 s.2.2.2.2 → kq2 P (r72 s)) {M : mwM} {L : mwL} (h : P M L) : kq2 P (fX19_taskDone_i72 fu a1 r72 v2 v3 v4 M L) := by
  unfold fX19_taskDone_i72
  exact (kqI2 (kqS2 h) (kqK2 (fun q1 => (kqK2 (fun q2 => (kqB32 (y_DX13_event hC (by omega) h) (fun r6 M4 L5 h3 => (kqI2 (kqK2 (fun q4 => (kqK2 (fun q5 => (kqM2_rb hC h3 (by omega) (fun M10 h6 => (y_fX19_taskDone_b118 hC hr72 h6))))))) (y_fX19_taskDone_b118 hC hr72 h3)))))))))
theorem y_fX19_taskDone_h72 {P : mwM → mwL → Prop} (hC : CPrb P) {fu : Nat} {a1 : Int32} : ∀ n s, P s.2.2.2.1 s.2.2.2.2 → kq2 P (fX19_taskDone_h72 fu a1 n s) := by
  intro n
  induction n with
  | zero => intro s _; exact kqN2
  | succ n ih =>
    intro s h
    show kq2 P (fX19_taskDone_i72 fu a1 (fX19_taskDone_h72 fu a1 n) s.1 s.2.1 s.2.2.1 s.2.2.2.1 s.2.2.2.2)
    exact y_fX19_taskDone_i72 hC ih h
theorem y_fX19_taskDone_b69 {P : mwM → mwL → Prop} (hC : CPrb P) {fu : Nat} {a1 : Int32} {v2 : Int32} {v3 : Int32} {M : mwM} {L : mwL} (h : P M L) : kq2 P (fX19_taskDone_b69 fu a1 v2 v3 M L) := by
  unfold fX19_taskDone_b69
  exact (y_fX19_taskDone_h72 hC _ (v2, v3, 0, M, L) h)
theorem y_DX19_taskDone {P : mwM → mwL → Prop} (hC : CPrb P) {fu : Nat} {a1 : Int32} {M : mwM} {L : mwL} (h : P M L) : kq2 P (DX19_taskDone fu a1 M L) := by
  unfold DX19_taskDone
  exact (kqK2 (fun q1 => (kqK2 (fun q2 => (kqM2_rb hC h (by omega) (fun M14 h3 => (kqK2 (fun q4 => (kqL2 (fun x16 => (kqI2 (kqK2 (fun q5 => (kqL2 (fun x19 => (kqK2 (fun q6 => (kqM2_rb hC h3 (by omega) (fun M21 h7 => (kqI2 (kqK2 (fun q8 => (kqB32 (y_DX13_event hC (by omega) h7) (fun r26 M24 L25 h9 => (kqI2 (kqK2 (fun q10 => (kqK2 (fun q11 => (kqM2_rb hC h9 (by omega) (fun M30 h12 => (y_fX19_taskDone_b69 hC h12))))))) (y_fX19_taskDone_b69 hC h9)))))) (y_fX19_taskDone_b69 hC h7)))))))))) (kqS2 h3))))))))))))
theorem y_fX19_microsecond_b268 {P : mwM → mwL → Prop} (hC : CPrb P) {fu : Nat} {r201 : (Int32 × mwM × mwL) → Option (mwM × mwL)} {v3 : Int32} (hr201 : ∀ s, P s.2.1 s.2.2 → kq2 P (r201 s)) {M : mwM} {L : mwL} (h : P M L) : kq2 P (fX19_microsecond_b268 fu r201 v3 M L) := by
  unfold fX19_microsecond_b268
  exact (kqL2 (fun x55 => (hr201 (x55, M, L) h)))
theorem y_fX19_microsecond_i201 {P : mwM → mwL → Prop} (hC : CPrb P) {fu : Nat} {r201 : (Int32 × mwM × mwL) → Option (mwM × mwL)} {v3 : Int32} (hr201 : ∀ s, P s.2.1 s.2.2 → kq2 P (r201 s)) {M : mwM} {L : mwL} (h : P M L) : kq2 P (fX19_microsecond_i201 fu r201 v3 M L) := by
  unfold fX19_microsecond_i201
  exact (kqI2 (kqB22 (y_DX19_transferred hC h) (fun M43 L44 h1 => (kqS2 h1))) (kqK2 (fun q2 => (kqK2 (fun q3 => (kqK2 (fun q4 => (kqI2 (y_fX19_microsecond_b268 hC hr201 h) (kqK2 (fun q5 => (kqW2_rb hC h (by omega) (fun L50 h6 => (kqK2 (fun q7 => (kqB32 (y_DX18_event hC h6) (fun r54 M52 L53 h8 => (y_fX19_microsecond_b268 hC hr201 h8)))))))))))))))))
theorem y_fX19_microsecond_h201 {P : mwM → mwL → Prop} (hC : CPrb P) {fu : Nat} : ∀ n s, P s.2.1 s.2.2 → kq2 P (fX19_microsecond_h201 fu n s) := by
  intro n
  induction n with
  | zero => intro s _; exact kqN2
  | succ n ih =>
    intro s h
    show kq2 P (fX19_microsecond_i201 fu (fX19_microsecond_h201 fu n) s.1 s.2.1 s.2.2)
    exact y_fX19_microsecond_i201 hC ih h
theorem y_fX19_microsecond_b193 {P : mwM → mwL → Prop} (hC : CPrb P) {fu : Nat} {r139 : (Int32 × mwM × mwL) → Option (mwM × mwL)} {v3 : Int32} (hr139 : ∀ s, P s.2.1 s.2.2 → kq2 P (r139 s)) {M : mwM} {L : mwL} (h : P M L) : kq2 P (fX19_microsecond_b193 fu r139 v3 M L) := by
  unfold fX19_microsecond_b193
  exact (kqL2 (fun x41 => (hr139 (x41, M, L) h)))
theorem y_fX19_microsecond_i139 {P : mwM → mwL → Prop} (hC : CPrb P) {fu : Nat} {r139 : (Int32 × mwM × mwL) → Option (mwM × mwL)} {v3 : Int32} (hr139 : ∀ s, P s.2.1 s.2.2 → kq2 P (r139 s)) {M : mwM} {L : mwL} (h : P M L) : kq2 P (fX19_microsecond_i139 fu r139 v3 M L) := by
  unfold fX19_microsecond_i139
  exact (kqI2 (y_fX19_microsecond_h201 hC _ (0, M, L) h) (kqB32 (y_DX15_used hC h) (fun r33 M31 L32 h1 => (kqK2 (fun q2 => (kqI2 (y_fX19_microsecond_b193 hC hr139 h1) (kqK2 (fun q3 => (kq_mnzL2 (kqI2 (kqB22 (y_DX19_taskDone hC h1) (fun M39 L40 h4 => (y_fX19_microsecond_b193 hC hr139 h4))) (y_fX19_microsecond_b193 hC hr139 h1)))))))))))
theorem y_fX19_microsecond_h139 {P : mwM → mwL → Prop} (hC : CPrb P) {fu : Nat} : ∀ n s, P s.2.1 s.2.2 → kq2 P (fX19_microsecond_h139 fu n s) := by
  intro n
  induction n with
  | zero => intro s _; exact kqN2
  | succ n ih =>
    intro s h
    show kq2 P (fX19_microsecond_i139 fu (fX19_microsecond_h139 fu n) s.1 s.2.1 s.2.2)
    exact y_fX19_microsecond_i139 hC ih h
theorem y_fX19_microsecond_i118 {P : mwM → mwL → Prop} (hC : CPrb P) {fu : Nat} {r118 : (Int32 × mwM × mwL) → Option (mwM × mwL)} {v3 : Int32} (hr118 : ∀ s, P s.2.1 s.2.2 → kq2 P (r118 s)) {M : mwM} {L : mwL} (h : P M L) : kq2 P (fX19_microsecond_i118 fu r118 v3 M L) := by
  unfold fX19_microsecond_i118
  exact (kqI2 (y_fX19_microsecond_h139 hC _ (0, M, L) h) (kqB22 (y_DX19_lookAt hC h) (fun M27 L28 h1 => (kqL2 (fun x29 => (hr118 (x29, M27, L28) h1))))))
theorem y_fX19_microsecond_h118 {P : mwM → mwL → Prop} (hC : CPrb P) {fu : Nat} : ∀ n s, P s.2.1 s.2.2 → kq2 P (fX19_microsecond_h118 fu n s) := by
  intro n
  induction n with
  | zero => intro s _; exact kqN2
  | succ n ih =>
    intro s h
    show kq2 P (fX19_microsecond_i118 fu (fX19_microsecond_h118 fu n) s.1 s.2.1 s.2.2)
    exact y_fX19_microsecond_i118 hC ih h
theorem y_fX19_microsecond_i67 {P : mwM → mwL → Prop} (hC : CPrb P) {fu : Nat} {r67 : (Int32 × mwM × mwL) → Option (mwM × mwL)} {v2 : Int32} (hr67 : ∀ s, P s.2.1 s.2.2 → kq2 P (r67 s)) {M : mwM} {L : mwL} (h : P M L) : kq2 P (fX19_microsecond_i67 fu r67 v2 M L) := by
  unfold fX19_microsecond_i67
  exact (kqI2 (kqB32 (y_DX15_run hC h) (fun r18 M16 L17 h1 => (kqM2_rb hC h1 (by omega) (fun M19 h2 => (y_fX19_microsecond_h118 hC _ (0, M19, L17) h2))))) (kqB32 (y_DX15_used hC h) (fun r22 M20 L21 h3 => (kqK2 (fun q4 => (kqW2_rb hC h3 (by omega) (fun L24 h5 => (kqL2 (fun x25 => (hr67 (x25, M20, L24) h5))))))))))
theorem y_fX19_microsecond_h67 {P : mwM → mwL → Prop} (hC : CPrb P) {fu : Nat} : ∀ n s, P s.2.1 s.2.2 → kq2 P (fX19_microsecond_h67 fu n s) := by
  intro n
  induction n with
  | zero => intro s _; exact kqN2
  | succ n ih =>
    intro s h
    show kq2 P (fX19_microsecond_i67 fu (fX19_microsecond_h67 fu n) s.1 s.2.1 s.2.2)
    exact y_fX19_microsecond_i67 hC ih h
theorem y_fX19_microsecond_b56 {P : mwM → mwL → Prop} (hC : CPrb P) {fu : Nat} {M : mwM} {L : mwL} (h : P M L) : kq2 P (fX19_microsecond_b56 fu M L) := by
  unfold fX19_microsecond_b56
  exact (kqB32 (y_DX12_run hC h) (fun r14 M12 L13 h1 => (y_fX19_microsecond_h67 hC _ (0, M12, L13) h1)))
