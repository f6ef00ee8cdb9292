/-! FRAMES: printed by frp.py -/
theorem y_fX13_choose_h128 {P : mwM → mwL → Prop} (hC : CPrb P) {fu : Nat} {k : Nat} {a1 : Int32} (hk_k : 964 ≤ k ∧ k < 1577 ∧ (k - 964) % 53 = 0) : ∀ n s, P s.2.1 s.2.2 → kq3 P (fX13_choose_h128 fu k a1 n s) := by
  intro n
  induction n with
  | zero => intro s _; exact kqN3
  | succ n ih =>
    intro s h
    show kq3 P (fX13_choose_i128 fu k a1 (fX13_choose_h128 fu k a1 n) s.1 s.2.1 s.2.2)
    exact y_fX13_choose_i128 hC ih hk_k h
theorem y_fX13_choose_i104 {P : mwM → mwL → Prop} (hC : CPrb P) {fu : Nat} {k : Nat} {a1 : Int32} {r104 : (Int32 × mwM × mwL) → Option (Int32 × mwM × mwL)} {v2 : Int32} (hr104 : ∀ s, P s.2.1 s.2.2 → kq3 P (r104 s)) (hk_k : 964 ≤ k ∧ k < 1577 ∧ (k - 964) % 53 = 0) {M : mwM} {L : mwL} (h : P M L) : kq3 P (fX13_choose_i104 fu k a1 r104 v2 M L) := by
  unfold fX13_choose_i104
  exact (kqI3 (y_fX13_choose_h128 hC (by omega) _ (41, M, L) h) (kqK3 (fun q1 => (kqM3_rb hC h (by omega) (fun M25 h2 => (kqL3 (fun x26 => (hr104 (x26, M25, L) h2))))))))
theorem y_fX13_choose_h104 {P : mwM → mwL → Prop} (hC : CPrb P) {fu : Nat} {k : Nat} {a1 : Int32} (hk_k : 964 ≤ k ∧ k < 1577 ∧ (k - 964) % 53 = 0) : ∀ n s, P s.2.1 s.2.2 → kq3 P (fX13_choose_h104 fu k a1 n s) := by
  intro n
  induction n with
  | zero => intro s _; exact kqN3
  | succ n ih =>
    intro s h
    show kq3 P (fX13_choose_i104 fu k a1 (fX13_choose_h104 fu k a1 n) s.1 s.2.1 s.2.2)
    exact y_fX13_choose_i104 hC ih hk_k h
theorem y_fX13_choose_b91 {P : mwM → mwL → Prop} (hC : CPrb P) {fu : Nat} {k : Nat} {a1 : Int32} {r7 : (Int32 × mwM × mwL) → Option (Int32 × mwM × mwL)} {v2 : Int32} (hr7 : ∀ s, P s.2.1 s.2.2 → kq3 P (r7 s)) {M : mwM} {L : mwL} (h : P M L) : kq3 P (fX13_choose_b91 fu k a1 r7 v2 M L) := by
  unfold fX13_choose_b91
  exact (kqL3 (fun x22 => (hr7 (x22, M, L) h)))
theorem y_fX13_choose_i7 {P : mwM → mwL → Prop} (hC : CPrb P) {fu : Nat} {k : Nat} {a1 : Int32} {r7 : (Int32 × mwM × mwL) → Option (Int32 × mwM × mwL)} {v2 : Int32} (hr7 : ∀ s, P s.2.1 s.2.2 → kq3 P (r7 s)) (hk_k : 964 ≤ k ∧ k < 1577 ∧ (k - 964) % 53 = 0) {M : mwM} {L : mwL} (h : P M L) : kq3 P (fX13_choose_i7 fu k a1 r7 v2 M L) := by
  unfold fX13_choose_i7
  exact (kqI3 (kqM3_rb hC h (by omega) (fun M2 h1 => (y_fX13_choose_h104 hC (by omega) _ (0, M2, L) h1))) (kqK3 (fun q2 => (kqI3 (kqK3 (fun q3 => (kqK3 (fun q4 => (kqI3 (y_fX13_choose_b91 hC hr7 h) (kqK3 (fun q5 => (kqK3 (fun q6 => (kqI3 (y_fX13_choose_b91 hC hr7 h) (kqB33 (y_DX13_waitsFor hC h) (fun r13 M11 L12 h7 => (kqI3 (y_fX13_choose_b91 hC hr7 h7) (kqB33 (y_DX13_holds hC (by omega) h7) (fun r17 M15 L16 h8 => (kqI3 (y_fX13_choose_b91 hC hr7 h8) (kqK3 (fun q9 => (kqM3_rb hC h8 (by omega) (fun M20 h10 => (kqM3_rb hC h10 (by omega) (fun M21 h11 => (y_fX13_choose_b91 hC hr7 h11))))))))))))))))))))))) (y_fX13_choose_b91 hC hr7 h)))))
theorem y_fX13_choose_h7 {P : mwM → mwL → Prop} (hC : CPrb P) {fu : Nat} {k : Nat} {a1 : Int32} (hk_k : 964 ≤ k ∧ k < 1577 ∧ (k - 964) % 53 = 0) : ∀ n s, P s.2.1 s.2.2 → kq3 P (fX13_choose_h7 fu k a1 n s) := by
  intro n
  induction n with
  | zero => intro s _; exact kqN3
  | succ n ih =>
    intro s h
    show kq3 P (fX13_choose_i7 fu k a1 (fX13_choose_h7 fu k a1 n) s.1 s.2.1 s.2.2)
    exact y_fX13_choose_i7 hC ih hk_k h
theorem y_DX13_choose {P : mwM → mwL → Prop} (hC : CPrb P) {fu : Nat} {k : Nat} {a1 : Int32} (hk_k : 964 ≤ k ∧ k < 1577 ∧ (k - 964) % 53 = 0) {M : mwM} {L : mwL} (h : P M L) : kq3 P (DX13_choose fu k a1 M L) := by
  unfold DX13_choose
  exact (kqM3_rb hC h (by omega) (fun M62 h1 => (y_fX13_choose_h7 hC (by omega) _ (1, M62, L) h1)))
theorem y_fX13_second_b50 {P : mwM → mwL → Prop} (hC : CPrb P) {fu : Nat} {k : Nat} {a1 : Int32} {r4 : (Int32 × Int32 × mwM × mwL) → Option (Int32 × mwM × mwL)} {v3 : Int32} {s0 : Int32} (hr4 : ∀ s, P s.2.2.1 s.2.2.2 → kq3 P (r4 s)) {M : mwM} {L : mwL} (h : P M L) : kq3 P (fX13_second_b50 fu k a1 r4 v3 s0 M L) := by
  unfold fX13_second_b50
  exact (kqL3 (fun x10 => (hr4 (s0, x10, M, L) h)))
theorem y_fX13_second_b49 {P : mwM → mwL → Prop} (hC : CPrb P) {fu : Nat} {k : Nat} {a1 : Int32} {r4 : (Int32 × Int32 × mwM × mwL) → Option (Int32 × mwM × mwL)} {v3 : Int32} (hr4 : ∀ s, P s.2.2.1 s.2.2.2 → kq3 P (r4 s)) {M : mwM} {L : mwL} (h : P M L) : kq3 P (fX13_second_b49 fu k a1 r4 v3 M L) := by
  unfold fX13_second_b49
  exact (y_fX13_second_b50 hC hr4 h)
theorem y_fX13_second_b45 {P : mwM → mwL → Prop} (hC : CPrb P) {fu : Nat} {k : Nat} {a1 : Int32} {r4 : (Int32 × Int32 × mwM × mwL) → Option (Int32 × mwM × mwL)} {v3 : Int32} (hr4 : ∀ s, P s.2.2.1 s.2.2.2 → kq3 P (r4 s)) {M : mwM} {L : mwL} (h : P M L) : kq3 P (fX13_second_b45 fu k a1 r4 v3 M L) := by
  unfold fX13_second_b45
  exact (y_fX13_second_b50 hC hr4 h)
theorem y_fX13_second_i4 {P : mwM → mwL → Prop} (hC : CPrb P) {fu : Nat} {k : Nat} {a1 : Int32} {r4 : (Int32 × Int32 × mwM × mwL) → Option (Int32 × mwM × mwL)} {v2 : Int32} {v3 : Int32} (hr4 : ∀ s, P s.2.2.1 s.2.2.2 → kq3 P (r4 s)) {M : mwM} {L : mwL} (h : P M L) : kq3 P (fX13_second_i4 fu k a1 r4 v2 v3 M L) := by
  unfold fX13_second_i4
  exact (kqI3 (kq_mzz3 (kqS3 h)) (kqI3 (kqI3 (y_fX13_second_b49 hC hr4 h) (kqK3 (fun q1 => (kqK3 (fun q2 => (kqI3 (kqK3 (fun q3 => (kqI3 (y_fX13_second_b49 hC hr4 h) (y_fX13_second_b45 hC hr4 h)))) (y_fX13_second_b49 hC hr4 h))))))) (y_fX13_second_b45 hC hr4 h)))
theorem y_fX13_second_h4 {P : mwM → mwL → Prop} (hC : CPrb P) {fu : Nat} {k : Nat} {a1 : Int32} : ∀ n s, P s.2.2.1 s.2.2.2 → kq3 P (fX13_second_h4 fu k a1 n s) := by
  intro n
  induction n with
  | zero => intro s _; exact kqN3
  | succ n ih =>
    intro s h
    show kq3 P (fX13_second_i4 fu k a1 (fX13_second_h4 fu k a1 n) s.1 s.2.1 s.2.2.1 s.2.2.2)
    exact y_fX13_second_i4 hC ih h
theorem y_DX13_second {P : mwM → mwL → Prop} (hC : CPrb P) {fu : Nat} {k : Nat} {a1 : Int32} {M : mwM} {L : mwL} (h : P M L) : kq3 P (DX13_second fu k a1 M L) := by
  unfold DX13_second
  exact (y_fX13_second_h4 hC _ (0, 1, M, L) h)
theorem y_fX13_aim_b173 {P : mwM → mwL → Prop} (hC : CPrb P) {fu : Nat} {k : Nat} {a1 : Int32} {a2 : Int32} {s1 : Int32} {s2 : Int32} (hk_k : 964 ≤ k ∧ k < 1577 ∧ (k - 964) % 53 = 0) {M : mwM} {L : mwL} (h : P M L) : kq2 P (fX13_aim_b173 fu k a1 a2 s1 s2 M L) := by
  unfold fX13_aim_b173
  exact (kqK2 (fun q1 => (kqM2_rb hC h (by omega) (fun M31 h2 => (kqS2 h2)))))
theorem y_fX13_aim_b168 {P : mwM → mwL → Prop} (hC : CPrb P) {fu : Nat} {k : Nat} {a1 : Int32} {a2 : Int32} {s1 : Int32} (hk_k : 964 ≤ k ∧ k < 1577 ∧ (k - 964) % 53 = 0) {M : mwM} {L : mwL} (h : P M L) : kq2 P (fX13_aim_b168 fu k a1 a2 s1 M L) := by
  unfold fX13_aim_b168
  exact (y_fX13_aim_b173 hC (by omega) h)
theorem y_fX13_aim_b133 {P : mwM → mwL → Prop} (hC : CPrb P) {fu : Nat} {k : Nat} {a1 : Int32} {a2 : Int32} {s1 : Int32} {s2 : Int32} (hk_k : 964 ≤ k ∧ k < 1577 ∧ (k - 964) % 53 = 0) {M : mwM} {L : mwL} (h : P M L) : kq2 P (fX13_aim_b133 fu k a1 a2 s1 s2 M L) := by
  unfold fX13_aim_b133
  exact (kqK2 (fun q1 => (kqM2_rb hC h (by omega) (fun M23 h2 => (kqK2 (fun q3 => (kqK2 (fun q4 => (kqK2 (fun q5 => (kqI2 (kqK2 (fun q6 => (kqI2 (y_fX13_aim_b168 hC (by omega) h2) (y_fX13_aim_b173 hC (by omega) h2)))) (y_fX13_aim_b168 hC (by omega) h2))))))))))))
theorem y_fX13_aim_b128 {P : mwM → mwL → Prop} (hC : CPrb P) {fu : Nat} {k : Nat} {a1 : Int32} {a2 : Int32} {s1 : Int32} (hk_k : 964 ≤ k ∧ k < 1577 ∧ (k - 964) % 53 = 0) {M : mwM} {L : mwL} (h : P M L) : kq2 P (fX13_aim_b128 fu k a1 a2 s1 M L) := by
  unfold fX13_aim_b128
  exact (y_fX13_aim_b133 hC (by omega) h)
theorem y_fX13_aim_i68 {P : mwM → mwL → Prop} (hC : CPrb P) {fu : Nat} {k : Nat} {a1 : Int32} {a2 : Int32} {r68 : (Int32 × mwM × mwL) → Option (mwM × mwL)} {v4 : Int32} (hr68 : ∀ s, P s.2.1 s.2.2 → kq2 P (r68 s)) (hk_k : 964 ≤ k ∧ k < 1577 ∧ (k - 964) % 53 = 0) {M : mwM} {L : mwL} (h : P M L) : kq2 P (fX13_aim_i68 fu k a1 a2 r68 v4 M L) := by
  unfold fX13_aim_i68
  exact (kqI2 (kqK2 (fun q1 => (kqK2 (fun q2 => (kqK2 (fun q3 => (kqI2 (kqK2 (fun q4 => (kqI2 (y_fX13_aim_b128 hC (by omega) h) (y_fX13_aim_b133 hC (by omega) h)))) (y_fX13_aim_b128 hC (by omega) h)))))))) (kqK2 (fun q5 => (kqM2_rb hC h (by omega) (fun M19 h6 => (kqK2 (fun q7 => (kqL2 (fun x21 => (hr68 (x21, M19, L) h6))))))))))
theorem y_fX13_aim_h68 {P : mwM → mwL → Prop} (hC : CPrb P) {fu : Nat} {k : Nat} {a1 : Int32} {a2 : Int32} (hk_k : 964 ≤ k ∧ k < 1577 ∧ (k - 964) % 53 = 0) : ∀ n s, P s.2.1 s.2.2 → kq2 P (fX13_aim_h68 fu k a1 a2 n s) := by
  intro n
  induction n with
  | zero => intro s _; exact kqN2
  | succ n ih =>
    intro s h
    show kq2 P (fX13_aim_i68 fu k a1 a2 (fX13_aim_h68 fu k a1 a2 n) s.1 s.2.1 s.2.2)
    exact y_fX13_aim_i68 hC ih hk_k h
theorem y_fX13_aim_b53 {P : mwM → mwL → Prop} (hC : CPrb P) {fu : Nat} {k : Nat} {a1 : Int32} {a2 : Int32} {r22 : (Int32 × Int32 × mwM × mwL) → Option (mwM × mwL)} {v3 : Int32} {v4 : Int32} (hr22 : ∀ s, P s.2.2.1 s.2.2.2 → kq2 P (r22 s)) {M : mwM} {L : mwL} (h : P M L) : kq2 P (fX13_aim_b53 fu k a1 a2 r22 v3 v4 M L) := by
  unfold fX13_aim_b53
  exact (kqK2 (fun q1 => (kqL2 (fun x10 => (hr22 (v3, x10, M, L) h)))))
theorem y_fX13_aim_i22 {P : mwM → mwL → Prop} (hC : CPrb P) {fu : Nat} {k : Nat} {a1 : Int32} {a2 : Int32} {r22 : (Int32 × Int32 × mwM × mwL) → Option (mwM × mwL)} {v3 : Int32} {v4 : Int32} (hr22 : ∀ s, P s.2.2.1 s.2.2.2 → kq2 P (r22 s)) (hk_k : 964 ≤ k ∧ k < 1577 ∧ (k - 964) % 53 = 0) {M : mwM} {L : mwL} (h : P M L) : kq2 P (fX13_aim_i22 fu k a1 a2 r22 v3 v4 M L) := by
  unfold fX13_aim_i22
  exact (kqI2 (y_fX13_aim_h68 hC (by omega) _ (v3, M, L) h) (kqK2 (fun q1 => (kqK2 (fun q2 => (kqI2 (kqB32 (y_DX13_second hC h) (fun r7 M5 L6 h3 => (kqI2 (y_fX13_aim_b53 hC hr22 h3) (kqS2 h3)))) (y_fX13_aim_b53 hC hr22 h)))))))
theorem y_fX13_aim_h22 {P : mwM → mwL → Prop} (hC : CPrb P) {fu : Nat} {k : Nat} {a1 : Int32} {a2 : Int32} (hk_k : 964 ≤ k ∧ k < 1577 ∧ (k - 964) % 53 = 0) : ∀ n s, P s.2.2.1 s.2.2.2 → kq2 P (fX13_aim_h22 fu k a1 a2 n s) := by
  intro n
  induction n with
  | zero => intro s _; exact kqN2
  | succ n ih =>
    intro s h
    show kq2 P (fX13_aim_i22 fu k a1 a2 (fX13_aim_h22 fu k a1 a2 n) s.1 s.2.1 s.2.2.1 s.2.2.2)
    exact y_fX13_aim_i22 hC ih hk_k h
theorem y_fX13_aim_b18 {P : mwM → mwL → Prop} (hC : CPrb P) {fu : Nat} {k : Nat} {a1 : Int32} {a2 : Int32} {s0 : Int32} (hk_k : 964 ≤ k ∧ k < 1577 ∧ (k - 964) % 53 = 0) {M : mwM} {L : mwL} (h : P M L) : kq2 P (fX13_aim_b18 fu k a1 a2 s0 M L) := by
  unfold fX13_aim_b18
  exact (y_fX13_aim_h22 hC (by omega) _ (s0, s0, M, L) h)
theorem y_DX13_aim {P : mwM → mwL → Prop} (hC : CPrb P) {fu : Nat} {k : Nat} {a1 : Int32} {a2 : Int32} (hk_k : 964 ≤ k ∧ k < 1577 ∧ (k - 964) % 53 = 0) {M : mwM} {L : mwL} (h : P M L) : kq2 P (DX13_aim fu k a1 a2 M L) := by
  unfold DX13_aim
  exact (kqB32 (y_DX13_mark hC h) (fun r34 M32 L33 h1 => (kqI2 (y_fX13_aim_b18 hC (by omega) h1) (kqK2 (fun q2 => (y_fX13_aim_b18 hC (by omega) h1))))))
theorem y_fX13_fill_b199 {P : mwM → mwL → Prop} (hC : CPrb P) {fu : Nat} {k : Nat} {a1 : Int32} {a2 : Int32} {M : mwM} {L : mwL} (h : P M L) : kq2 P (fX13_fill_b199 fu k a1 a2 M L) := by
  unfold fX13_fill_b199
  exact (kqS2 h)
theorem y_fX13_fill_b184 {P : mwM → mwL → Prop} (hC : CPrb P) {fu : Nat} {k : Nat} {a1 : Int32} {a2 : Int32} {s0 : Int32} (hk_k : 964 ≤ k ∧ k < 1577 ∧ (k - 964) % 53 = 0) {M : mwM} {L : mwL} (h : P M L) : kq2 P (fX13_fill_b184 fu k a1 a2 s0 M L) := by
  unfold fX13_fill_b184
  exact (kqI2 (y_fX13_fill_b199 hC h) (kqK2 (fun q1 => (kqM2_rb hC h (by omega) (fun M35 h2 => (y_fX13_fill_b199 hC h2))))))
theorem y_fX13_fill_b178 {P : mwM → mwL → Prop} (hC : CPrb P) {fu : Nat} {k : Nat} {a1 : Int32} {a2 : Int32} (hk_k : 964 ≤ k ∧ k < 1577 ∧ (k - 964) % 53 = 0) {M : mwM} {L : mwL} (h : P M L) : kq2 P (fX13_fill_b178 fu k a1 a2 M L) := by
  unfold fX13_fill_b178
  exact (kqB32 (y_DX13_child hC h) (fun r32 M30 L31 h1 => (y_fX13_fill_b184 hC (by omega) h1)))
theorem y_fX13_fill_b160 {P : mwM → mwL → Prop} (hC : CPrb P) {fu : Nat} {k : Nat} {a1 : Int32} {a2 : Int32} (hk_k : 964 ≤ k ∧ k < 1577 ∧ (k - 964) % 53 = 0) {M : mwM} {L : mwL} (h : P M L) : kq2 P (fX13_fill_b160 fu k a1 a2 M L) := by
  unfold fX13_fill_b160
  exact (kqK2 (fun q1 => (kqI2 (y_fX13_fill_b178 hC (by omega) h) (kqK2 (fun q2 => (y_fX13_fill_b184 hC (by omega) h))))))
theorem y_fX13_fill_b141 {P : mwM → mwL → Prop} (hC : CPrb P) {fu : Nat} {k : Nat} {a1 : Int32} {a2 : Int32} {M : mwM} {L : mwL} (h : P M L) : kq2 P (fX13_fill_b141 fu k a1 a2 M L) := by
  unfold fX13_fill_b141
  exact (kqS2 h)
theorem y_fX13_fill_b121 {P : mwM → mwL → Prop} (hC : CPrb P) {fu : Nat} {k : Nat} {a1 : Int32} {a2 : Int32} {r44 : (Int32 × Int32 × mwM × mwL) → Option (mwM × mwL)} {v4 : Int32} {s0 : Int32} (hr44 : ∀ s, P s.2.2.1 s.2.2.2 → kq2 P (r44 s)) {M : mwM} {L : mwL} (h : P M L) : kq2 P (fX13_fill_b121 fu k a1 a2 r44 v4 s0 M L) := by
  unfold fX13_fill_b121
  exact (kqL2 (fun x26 => (hr44 (s0, x26, M, L) h)))
theorem y_fX13_fill_b120 {P : mwM → mwL → Prop} (hC : CPrb P) {fu : Nat} {k : Nat} {a1 : Int32} {a2 : Int32} {r44 : (Int32 × Int32 × mwM × mwL) → Option (mwM × mwL)} {v4 : Int32} (hr44 : ∀ s, P s.2.2.1 s.2.2.2 → kq2 P (r44 s)) {M : mwM} {L : mwL} (h : P M L) : kq2 P (fX13_fill_b120 fu k a1 a2 r44 v4 M L) := by
  unfold fX13_fill_b120
  exact (y_fX13_fill_b121 hC hr44 h)
theorem y_fX13_fill_b116 {P : mwM → mwL → Prop} (hC : CPrb P) {fu : Nat} {k : Nat} {a1 : Int32} {a2 : Int32} {r44 : (Int32 × Int32 × mwM × mwL) → Option (mwM × mwL)} {v4 : Int32} (hr44 : ∀ s, P s.2.2.1 s.2.2.2 → kq2 P (r44 s)) {M : mwM} {L : mwL} (h : P M L) : kq2 P (fX13_fill_b116 fu k a1 a2 r44 v4 M L) := by
  unfold fX13_fill_b116
  exact (y_fX13_fill_b121 hC hr44 h)
theorem y_fX13_fill_b91 {P : mwM → mwL → Prop} (hC : CPrb P) {fu : Nat} {k : Nat} {a1 : Int32} {a2 : Int32} {r44 : (Int32 × Int32 × mwM × mwL) → Option (mwM × mwL)} {v3 : Int32} {v4 : Int32} (hr44 : ∀ s, P s.2.2.1 s.2.2.2 → kq2 P (r44 s)) {M : mwM} {L : mwL} (h : P M L) : kq2 P (fX13_fill_b91 fu k a1 a2 r44 v3 v4 M L) := by
  unfold fX13_fill_b91
  exact (kqI2 (kqK2 (fun q1 => (kqI2 (kqK2 (fun q2 => (kqI2 (y_fX13_fill_b120 hC hr44 h) (y_fX13_fill_b116 hC hr44 h)))) (y_fX13_fill_b120 hC hr44 h)))) (y_fX13_fill_b116 hC hr44 h))
theorem y_fX13_fill_i44 {P : mwM → mwL → Prop} (hC : CPrb P) {fu : Nat} {k : Nat} {a1 : Int32} {a2 : Int32} {r44 : (Int32 × Int32 × mwM × mwL) → Option (mwM × mwL)} {v3 : Int32} {v4 : Int32} (hr44 : ∀ s, P s.2.2.1 s.2.2.2 → kq2 P (r44 s)) (hk_k : 964 ≤ k ∧ k < 1577 ∧ (k - 964) % 53 = 0) {M : mwM} {L : mwL} (h : P M L) : kq2 P (fX13_fill_i44 fu k a1 a2 r44 v3 v4 M L) := by
  unfold fX13_fill_i44
  exact (kqI2 (kqI2 (kqK2 (fun q1 => (kqI2 (kqK2 (fun q2 => (kqI2 (kqK2 (fun q3 => (kqI2 (y_fX13_fill_b178 hC (by omega) h) (y_fX13_fill_b160 hC (by omega) h)))) (y_fX13_fill_b160 hC (by omega) h)))) (y_fX13_fill_b141 hC h)))) (y_fX13_fill_b141 hC h)) (kqK2 (fun q4 => (kqI2 (kqK2 (fun q5 => (kqI2 (kqB32 (y_DX13_mark hC h) (fun r17 M15 L16 h6 => (kqI2 (kqK2 (fun q7 => (kqM2_rb hC h6 (by omega) (fun M20 h8 => (y_fX13_fill_b91 hC hr44 h8))))) (y_fX13_fill_b91 hC hr44 h6)))) (y_fX13_fill_b91 hC hr44 h)))) (y_fX13_fill_b91 hC hr44 h)))))
theorem y_fX13_fill_h44 {P : mwM → mwL → Prop} (hC : CPrb P) {fu : Nat} {k : Nat} {a1 : Int32} {a2 : Int32} (hk_k : 964 ≤ k ∧ k < 1577 ∧ (k - 964) % 53 = 0) : ∀ n s, P s.2.2.1 s.2.2.2 → kq2 P (fX13_fill_h44 fu k a1 a2 n s) := by
  intro n
  induction n with
  | zero => intro s _; exact kqN2
  | succ n ih =>
    intro s h
    show kq2 P (fX13_fill_i44 fu k a1 a2 (fX13_fill_h44 fu k a1 a2 n) s.1 s.2.1 s.2.2.1 s.2.2.2)
    exact y_fX13_fill_i44 hC ih hk_k h
theorem y_fX13_fill_b38 {P : mwM → mwL → Prop} (hC : CPrb P) {fu : Nat} {k : Nat} {a1 : Int32} {a2 : Int32} {s2 : Int32} (hk_k : 964 ≤ k ∧ k < 1577 ∧ (k - 964) % 53 = 0) {M : mwM} {L : mwL} (h : P M L) : kq2 P (fX13_fill_b38 fu k a1 a2 s2 M L) := by
  unfold fX13_fill_b38
  exact (kqK2 (fun q1 => (kqM2_rb hC h (by omega) (fun M2 h2 => (y_fX13_fill_h44 hC (by omega) _ (0, 1, M2, L) h2)))))
theorem y_fX13_fill_b33 {P : mwM → mwL → Prop} (hC : CPrb P) {fu : Nat} {k : Nat} {a1 : Int32} {a2 : Int32} (hk_k : 964 ≤ k ∧ k < 1577 ∧ (k - 964) % 53 = 0) {M : mwM} {L : mwL} (h : P M L) : kq2 P (fX13_fill_b33 fu k a1 a2 M L) := by
  unfold fX13_fill_b33
  exact (y_fX13_fill_b38 hC (by omega) h)
theorem y_fX13_fill_b37 {P : mwM → mwL → Prop} (hC : CPrb P) {fu : Nat} {k : Nat} {a1 : Int32} {a2 : Int32} (hk_k : 964 ≤ k ∧ k < 1577 ∧ (k - 964) % 53 = 0) {M : mwM} {L : mwL} (h : P M L) : kq2 P (fX13_fill_b37 fu k a1 a2 M L) := by
  unfold fX13_fill_b37
  exact (y_fX13_fill_b38 hC (by omega) h)
theorem y_DX13_fill {P : mwM → mwL → Prop} (hC : CPrb P) {fu : Nat} {k : Nat} {a1 : Int32} {a2 : Int32} (hk_k : 964 ≤ k ∧ k < 1577 ∧ (k - 964) % 53 = 0) {M : mwM} {L : mwL} (h : P M L) : kq2 P (DX13_fill fu k a1 a2 M L) := by
  unfold DX13_fill
  exact (kqK2 (fun q1 => (kqI2 (kqI2 (y_fX13_fill_b37 hC (by omega) h) (kqK2 (fun q2 => (kqK2 (fun q3 => (kqI2 (y_fX13_fill_b37 hC (by omega) h) (y_fX13_fill_b33 hC (by omega) h))))))) (y_fX13_fill_b33 hC (by omega) h))))
theorem y_fX13_enter_b251 {P : mwM → mwL → Prop} (hC : CPrb P) {fu : Nat} {k : Nat} {a1 : Int32} {a2 : Int32} {a3 : Int64} {r163 : (Int32 × mwM × mwL) → Option (mwM × mwL)} {r173 : (Int32 × Int32 × mwM × mwL) → Option (mwM × mwL)} {v5 : Int32} {v6 : Int32} (hr163 : ∀ s, P s.2.1 s.2.2 → kq2 P (r163 s)) (hr173 : ∀ s, P s.2.2.1 s.2.2.2 → kq2 P (r173 s)) {M : mwM} {L : mwL} (h : P M L) : kq2 P (fX13_enter_b251 fu k a1 a2 a3 r163 r173 v5 v6 M L) := by
  unfold fX13_enter_b251
  exact (kqL2 (fun x51 => (hr173 (v5, x51, M, L) h)))
theorem y_fX13_enter_i173 {P : mwM → mwL → Prop} (hC : CPrb P) {fu : Nat} {k : Nat} {a1 : Int32} {a2 : Int32} {a3 : Int64} {r163 : (Int32 × mwM × mwL) → Option (mwM × mwL)} {r173 : (Int32 × Int32 × mwM × mwL) → Option (mwM × mwL)} {v5 : Int32} {v6 : Int32} (hr163 : ∀ s, P s.2.1 s.2.2 → kq2 P (r163 s)) (hr173 : ∀ s, P s.2.2.1 s.2.2.2 → kq2 P (r173 s)) (hk_k : 964 ≤ k ∧ k < 1577 ∧ (k - 964) % 53 = 0) {M : mwM} {L : mwL} (h : P M L) : kq2 P (fX13_enter_i173 fu k a1 a2 a3 r163 r173 v5 v6 M L) := by
  unfold fX13_enter_i173
  exact (kqI2 (kqL2 (fun x34 => (hr163 (x34, M, L) h))) (kqK2 (fun q1 => (kqI2 (y_fX13_enter_b251 hC hr163 hr173 h) (kqK2 (fun q2 => (kqI2 (kqB22 (y_DX13_note hC (by omega) h) (fun M39 L40 h3 => (kqK2 (fun q4 => (kqM2_rb hC h3 (by omega) (fun M42 h5 => (kqK2 (fun q6 => (kqW2_rb hC h5 (by omega) (fun L44 h7 => (kqK2 (fun q8 => (kqM2_rb hC h7 (by omega) (fun M46 h9 => (kqK2 (fun q10 => (kqM2_rb hC h9 (by omega) (fun M48 h11 => (kqB22 (y_DX13_doActs hC (by omega) h11) (fun M49 L50 h12 => (y_fX13_enter_b251 hC hr163 hr173 h12))))))))))))))))))))) (y_fX13_enter_b251 hC hr163 hr173 h))))))))
theorem y_fX13_enter_h173 {P : mwM → mwL → Prop} (hC : CPrb P) {fu : Nat} {k : Nat} {a1 : Int32} {a2 : Int32} {a3 : Int64} {r163 : (Int32 × mwM × mwL) → Option (mwM × mwL)} (hr163 : ∀ s, P s.2.1 s.2.2 → kq2 P (r163 s)) (hk_k : 964 ≤ k ∧ k < 1577 ∧ (k - 964) % 53 = 0) : ∀ n s, P s.2.2.1 s.2.2.2 → kq2 P (fX13_enter_h173 fu k a1 a2 a3 r163 n s) := by
  intro n
  induction n with
  | zero => intro s _; exact kqN2
  | succ n ih =>
    intro s h
    show kq2 P (fX13_enter_i173 fu k a1 a2 a3 r163 (fX13_enter_h173 fu k a1 a2 a3 r163 n) s.1 s.2.1 s.2.2.1 s.2.2.2)
    exact y_fX13_enter_i173 hC hr163 ih hk_k h
theorem y_fX13_enter_i163 {P : mwM → mwL → Prop} (hC : CPrb P) {fu : Nat} {k : Nat} {a1 : Int32} {a2 : Int32} {a3 : Int64} {r163 : (Int32 × mwM × mwL) → Option (mwM × mwL)} {v5 : Int32} (hr163 : ∀ s, P s.2.1 s.2.2 → kq2 P (r163 s)) (hk_k : 964 ≤ k ∧ k < 1577 ∧ (k - 964) % 53 = 0) {M : mwM} {L : mwL} (h : P M L) : kq2 P (fX13_enter_i163 fu k a1 a2 a3 r163 v5 M L) := by
  unfold fX13_enter_i163
  exact (kqI2 (kqS2 h) (y_fX13_enter_h173 hC hr163 (by omega) _ (v5, 1, M, L) h))
theorem y_fX13_enter_h163 {P : mwM → mwL → Prop} (hC : CPrb P) {fu : Nat} {k : Nat} {a1 : Int32} {a2 : Int32} {a3 : Int64} (hk_k : 964 ≤ k ∧ k < 1577 ∧ (k - 964) % 53 = 0) : ∀ n s, P s.2.1 s.2.2 → kq2 P (fX13_enter_h163 fu k a1 a2 a3 n s) := by
  intro n
  induction n with
  | zero => intro s _; exact kqN2
  | succ n ih =>
    intro s h
    show kq2 P (fX13_enter_i163 fu k a1 a2 a3 (fX13_enter_h163 fu k a1 a2 a3 n) s.1 s.2.1 s.2.2)
    exact y_fX13_enter_i163 hC ih hk_k h
theorem y_fX13_enter_b148 {P : mwM → mwL → Prop} (hC : CPrb P) {fu : Nat} {k : Nat} {a1 : Int32} {a2 : Int32} {a3 : Int64} {r94 : (Int32 × mwM × mwL) → Option (mwM × mwL)} {r104 : (Int32 × Int32 × mwM × mwL) → Option (mwM × mwL)} {v5 : Int32} {v6 : Int32} (hr94 : ∀ s, P s.2.1 s.2.2 → kq2 P (r94 s)) (hr104 : ∀ s, P s.2.2.1 s.2.2.2 → kq2 P (r104 s)) {M : mwM} {L : mwL} (h : P M L) : kq2 P (fX13_enter_b148 fu k a1 a2 a3 r94 r104 v5 v6 M L) := by
  unfold fX13_enter_b148
  exact (kqL2 (fun x31 => (hr104 (v5, x31, M, L) h)))
theorem y_fX13_enter_b141 {P : mwM → mwL → Prop} (hC : CPrb P) {fu : Nat} {k : Nat} {a1 : Int32} {a2 : Int32} {a3 : Int64} {r94 : (Int32 × mwM × mwL) → Option (mwM × mwL)} {r104 : (Int32 × Int32 × mwM × mwL) → Option (mwM × mwL)} {v5 : Int32} {v6 : Int32} (hr94 : ∀ s, P s.2.1 s.2.2 → kq2 P (r94 s)) (hr104 : ∀ s, P s.2.2.1 s.2.2.2 → kq2 P (r104 s)) (hk_k : 964 ≤ k ∧ k < 1577 ∧ (k - 964) % 53 = 0) {M : mwM} {L : mwL} (h : P M L) : kq2 P (fX13_enter_b141 fu k a1 a2 a3 r94 r104 v5 v6 M L) := by
  unfold fX13_enter_b141
  exact (kqB22 (y_DX13_fill hC (by omega) h) (fun M29 L30 h1 => (y_fX13_enter_b148 hC hr94 hr104 h1)))
theorem y_fX13_enter_i104 {P : mwM → mwL → Prop} (hC : CPrb P) {fu : Nat} {k : Nat} {a1 : Int32} {a2 : Int32} {a3 : Int64} {r94 : (Int32 × mwM × mwL) → Option (mwM × mwL)} {r104 : (Int32 × Int32 × mwM × mwL) → Option (mwM × mwL)} {v5 : Int32} {v6 : Int32} (hr94 : ∀ s, P s.2.1 s.2.2 → kq2 P (r94 s)) (hr104 : ∀ s, P s.2.2.1 s.2.2.2 → kq2 P (r104 s)) (hk_k : 964 ≤ k ∧ k < 1577 ∧ (k - 964) % 53 = 0) {M : mwM} {L : mwL} (h : P M L) : kq2 P (fX13_enter_i104 fu k a1 a2 a3 r94 r104 v5 v6 M L) := by
  unfold fX13_enter_i104
  exact (kqI2 (kqL2 (fun x23 => (hr94 (x23, M, L) h))) (kqK2 (fun q1 => (kqI2 (kqI2 (y_fX13_enter_b141 hC hr94 hr104 (by omega) h) (kqK2 (fun q2 => (kqI2 (y_fX13_enter_b148 hC hr94 hr104 h) (y_fX13_enter_b141 hC hr94 hr104 (by omega) h))))) (y_fX13_enter_b148 hC hr94 hr104 h)))))
theorem y_fX13_enter_h104 {P : mwM → mwL → Prop} (hC : CPrb P) {fu : Nat} {k : Nat} {a1 : Int32} {a2 : Int32} {a3 : Int64} {r94 : (Int32 × mwM × mwL) → Option (mwM × mwL)} (hr94 : ∀ s, P s.2.1 s.2.2 → kq2 P (r94 s)) (hk_k : 964 ≤ k ∧ k < 1577 ∧ (k - 964) % 53 = 0) : ∀ n s, P s.2.2.1 s.2.2.2 → kq2 P (fX13_enter_h104 fu k a1 a2 a3 r94 n s) := by
  intro n
  induction n with
  | zero => intro s _; exact kqN2
  | succ n ih =>
    intro s h
    show kq2 P (fX13_enter_i104 fu k a1 a2 a3 r94 (fX13_enter_h104 fu k a1 a2 a3 r94 n) s.1 s.2.1 s.2.2.1 s.2.2.2)
    exact y_fX13_enter_i104 hC hr94 ih hk_k h
theorem y_fX13_enter_i94 {P : mwM → mwL → Prop} (hC : CPrb P) {fu : Nat} {k : Nat} {a1 : Int32} {a2 : Int32} {a3 : Int64} {r94 : (Int32 × mwM × mwL) → Option (mwM × mwL)} {v5 : Int32} (hr94 : ∀ s, P s.2.1 s.2.2 → kq2 P (r94 s)) (hk_k : 964 ≤ k ∧ k < 1577 ∧ (k - 964) % 53 = 0) {M : mwM} {L : mwL} (h : P M L) : kq2 P (fX13_enter_i94 fu k a1 a2 a3 r94 v5 M L) := by
  unfold fX13_enter_i94
  exact (kqI2 (y_fX13_enter_h163 hC (by omega) _ (0, M, L) h) (y_fX13_enter_h104 hC hr94 (by omega) _ (v5, 0, M, L) h))
theorem y_fX13_enter_h94 {P : mwM → mwL → Prop} (hC : CPrb P) {fu : Nat} {k : Nat} {a1 : Int32} {a2 : Int32} {a3 : Int64} (hk_k : 964 ≤ k ∧ k < 1577 ∧ (k - 964) % 53 = 0) : ∀ n s, P s.2.1 s.2.2 → kq2 P (fX13_enter_h94 fu k a1 a2 a3 n s) := by
  intro n
  induction n with
  | zero => intro s _; exact kqN2
  | succ n ih =>
    intro s h
    show kq2 P (fX13_enter_i94 fu k a1 a2 a3 (fX13_enter_h94 fu k a1 a2 a3 n) s.1 s.2.1 s.2.2)
    exact y_fX13_enter_i94 hC ih hk_k h
theorem y_fX13_enter_b86 {P : mwM → mwL → Prop} (hC : CPrb P) {fu : Nat} {k : Nat} {a1 : Int32} {a2 : Int32} {a3 : Int64} (hk_k : 964 ≤ k ∧ k < 1577 ∧ (k - 964) % 53 = 0) {M : mwM} {L : mwL} (h : P M L) : kq2 P (fX13_enter_b86 fu k a1 a2 a3 M L) := by
  unfold fX13_enter_b86
  exact (kqK2 (fun q1 => (kqL2 (fun x20 => (y_fX13_enter_h94 hC (by omega) _ (x20, M, L) h)))))
theorem y_fX13_enter_b80 {P : mwM → mwL → Prop} (hC : CPrb P) {fu : Nat} {k : Nat} {a1 : Int32} {a2 : Int32} {a3 : Int64} {r45 : (Int32 × mwM × mwL) → Option (mwM × mwL)} {v5 : Int32} (hr45 : ∀ s, P s.2.1 s.2.2 → kq2 P (r45 s)) {M : mwM} {L : mwL} (h : P M L) : kq2 P (fX13_enter_b80 fu k a1 a2 a3 r45 v5 M L) := by
  unfold fX13_enter_b80
  exact (kqL2 (fun x18 => (hr45 (x18, M, L) h)))
theorem y_fX13_enter_i45 {P : mwM → mwL → Prop} (hC : CPrb P) {fu : Nat} {k : Nat} {a1 : Int32} {a2 : Int32} {a3 : Int64} {r45 : (Int32 × mwM × mwL) → Option (mwM × mwL)} {v5 : Int32} (hr45 : ∀ s, P s.2.1 s.2.2 → kq2 P (r45 s)) (hk_k : 964 ≤ k ∧ k < 1577 ∧ (k - 964) % 53 = 0) {M : mwM} {L : mwL} (h : P M L) : kq2 P (fX13_enter_i45 fu k a1 a2 a3 r45 v5 M L) := by
  unfold fX13_enter_i45
  exact (kqI2 (y_fX13_enter_b86 hC (by omega) h) (kqI2 (y_fX13_enter_b86 hC (by omega) h) (kqB32 (y_DX13_saysTarget hC h) (fun r13 M11 L12 h1 => (kqI2 (y_fX13_enter_b80 hC hr45 h1) (kqK2 (fun q2 => (kqB22 (y_DX13_aim hC (by omega) h1) (fun M16 L17 h3 => (y_fX13_enter_b80 hC hr45 h3))))))))))
theorem y_fX13_enter_h45 {P : mwM → mwL → Prop} (hC : CPrb P) {fu : Nat} {k : Nat} {a1 : Int32} {a2 : Int32} {a3 : Int64} (hk_k : 964 ≤ k ∧ k < 1577 ∧ (k - 964) % 53 = 0) : ∀ n s, P s.2.1 s.2.2 → kq2 P (fX13_enter_h45 fu k a1 a2 a3 n s) := by
  intro n
  induction n with
  | zero => intro s _; exact kqN2
  | succ n ih =>
    intro s h
    show kq2 P (fX13_enter_i45 fu k a1 a2 a3 (fX13_enter_h45 fu k a1 a2 a3 n) s.1 s.2.1 s.2.2)
    exact y_fX13_enter_i45 hC ih hk_k h
theorem y_fX13_enter_i3 {P : mwM → mwL → Prop} (hC : CPrb P) {fu : Nat} {k : Nat} {a1 : Int32} {a2 : Int32} {a3 : Int64} {r3 : (Int32 × mwM × mwL) → Option (mwM × mwL)} {v5 : Int32} (hr3 : ∀ s, P s.2.1 s.2.2 → kq2 P (r3 s)) (hk_k : 964 ≤ k ∧ k < 1577 ∧ (k - 964) % 53 = 0) {M : mwM} {L : mwL} (h : P M L) : kq2 P (fX13_enter_i3 fu k a1 a2 a3 r3 v5 M L) := by
  unfold fX13_enter_i3
  exact (kqI2 (y_fX13_enter_h45 hC (by omega) _ (1, M, L) h) (kqK2 (fun q1 => (kqM2_rb hC h (by omega) (fun M3 h2 => (kqK2 (fun q3 => (kqM2_rb hC h2 (by omega) (fun M5 h4 => (kqK2 (fun q5 => (kqM2_rb hC h4 (by omega) (fun M7 h6 => (kqL2 (fun x8 => (hr3 (x8, M7, L) h6))))))))))))))))
theorem y_fX13_enter_h3 {P : mwM → mwL → Prop} (hC : CPrb P) {fu : Nat} {k : Nat} {a1 : Int32} {a2 : Int32} {a3 : Int64} (hk_k : 964 ≤ k ∧ k < 1577 ∧ (k - 964) % 53 = 0) : ∀ n s, P s.2.1 s.2.2 → kq2 P (fX13_enter_h3 fu k a1 a2 a3 n s) := by
  intro n
  induction n with
  | zero => intro s _; exact kqN2
  | succ n ih =>
    intro s h
    show kq2 P (fX13_enter_i3 fu k a1 a2 a3 (fX13_enter_h3 fu k a1 a2 a3 n) s.1 s.2.1 s.2.2)
    exact y_fX13_enter_i3 hC ih hk_k h
theorem y_DX13_enter {P : mwM → mwL → Prop} (hC : CPrb P) {fu : Nat} {k : Nat} {a1 : Int32} {a2 : Int32} {a3 : Int64} (hk_k : 964 ≤ k ∧ k < 1577 ∧ (k - 964) % 53 = 0) {M : mwM} {L : mwL} (h : P M L) : kq2 P (DX13_enter fu k a1 a2 a3 M L) := by
  unfold DX13_enter
  exact (y_fX13_enter_h3 hC (by omega) _ (0, M, L) h)
theorem y_fX13_take_b145 {P : mwM → mwL → Prop} (hC : CPrb P) {fu : Nat} {k : Nat} {a1 : Int32} {a2 : Int64} {r83 : (Int32 × Int32 × mwM × mwL) → Option (mwM × mwL)} {r91 : (Int32 × Int32 × Int32 × mwM × mwL) → Option (mwM × mwL)} {v4 : Int32} {v5 : Int32} {v6 : Int32} (hr83 : ∀ s, P s.2.2.1 s.2.2.2 → kq2 P (r83 s)) (hr91 : ∀ s, P s.2.2.2.1 s.2.2.2.2 → kq2 P (r91 s)) {M : mwM} {L : mwL} (h : P M L) : kq2 P (fX13_take_b145 fu k a1 a2 r83 r91 v4 v5 v6 M L) := by
  unfold fX13_take_b145
  exact (kqL2 (fun x29 => (hr91 (v4, v5, x29, M, L) h)))
theorem y_fX13_take_i91 {P : mwM → mwL → Prop} (hC : CPrb P) {fu : Nat} {k : Nat} {a1 : Int32} {a2 : Int64} {r83 : (Int32 × Int32 × mwM × mwL) → Option (mwM × mwL)} {r91 : (Int32 × Int32 × Int32 × mwM × mwL) → Option (mwM × mwL)} {v4 : Int32} {v5 : Int32} {v6 : Int32} (hr83 : ∀ s, P s.2.2.1 s.2.2.2 → kq2 P (r83 s)) (hr91 : ∀ s, P s.2.2.2.1 s.2.2.2.2 → kq2 P (r91 s)) (hk_k : 964 ≤ k ∧ k < 1577 ∧ (k - 964) % 53 = 0) {M : mwM} {L : mwL} (h : P M L) : kq2 P (fX13_take_i91 fu k a1 a2 r83 r91 v4 v5 v6 M L) := by
  unfold fX13_take_i91
  exact (kqI2 (kqL2 (fun x18 => (hr83 (v4, x18, M, L) h))) (kqK2 (fun q1 => (kqI2 (y_fX13_take_b145 hC hr83 hr91 h) (kqK2 (fun q2 => (kqI2 (kqB22 (y_DX13_note hC (by omega) h) (fun M23 L24 h3 => (kqK2 (fun q4 => (kqM2_rb hC h3 (by omega) (fun M26 h5 => (kqB22 (y_DX13_doActs hC (by omega) h5) (fun M27 L28 h6 => (y_fX13_take_b145 hC hr83 hr91 h6))))))))) (y_fX13_take_b145 hC hr83 hr91 h))))))))
theorem y_fX13_take_h91 {P : mwM → mwL → Prop} (hC : CPrb P) {fu : Nat} {k : Nat} {a1 : Int32} {a2 : Int64} {r83 : (Int32 × Int32 × mwM × mwL) → Option (mwM × mwL)} (hr83 : ∀ s, P s.2.2.1 s.2.2.2 → kq2 P (r83 s)) (hk_k : 964 ≤ k ∧ k < 1577 ∧ (k - 964) % 53 = 0) : ∀ n s, P s.2.2.2.1 s.2.2.2.2 → kq2 P (fX13_take_h91 fu k a1 a2 r83 n s) := by
  intro n
  induction n with
  | zero => intro s _; exact kqN2
  | succ n ih =>
    intro s h
    show kq2 P (fX13_take_i91 fu k a1 a2 r83 (fX13_take_h91 fu k a1 a2 r83 n) s.1 s.2.1 s.2.2.1 s.2.2.2.1 s.2.2.2.2)
    exact y_fX13_take_i91 hC hr83 ih hk_k h
theorem y_fX13_take_i83 {P : mwM → mwL → Prop} (hC : CPrb P) {fu : Nat} {k : Nat} {a1 : Int32} {a2 : Int64} {r83 : (Int32 × Int32 × mwM × mwL) → Option (mwM × mwL)} {v4 : Int32} {v5 : Int32} (hr83 : ∀ s, P s.2.2.1 s.2.2.2 → kq2 P (r83 s)) (hk_k : 964 ≤ k ∧ k < 1577 ∧ (k - 964) % 53 = 0) {M : mwM} {L : mwL} (h : P M L) : kq2 P (fX13_take_i83 fu k a1 a2 r83 v4 v5 M L) := by
  unfold fX13_take_i83
  exact (kqI2 (kqB22 (y_DX13_doActs hC (by omega) h) (fun M13 L14 h1 => (kqB22 (y_DX13_enter hC (by omega) h1) (fun M15 L16 h2 => (kqS2 h2))))) (y_fX13_take_h91 hC hr83 (by omega) _ (v4, v5, 1, M, L) h))
theorem y_fX13_take_h83 {P : mwM → mwL → Prop} (hC : CPrb P) {fu : Nat} {k : Nat} {a1 : Int32} {a2 : Int64} (hk_k : 964 ≤ k ∧ k < 1577 ∧ (k - 964) % 53 = 0) : ∀ n s, P s.2.2.1 s.2.2.2 → kq2 P (fX13_take_h83 fu k a1 a2 n s) := by
  intro n
  induction n with
  | zero => intro s _; exact kqN2
  | succ n ih =>
    intro s h
    show kq2 P (fX13_take_i83 fu k a1 a2 (fX13_take_h83 fu k a1 a2 n) s.1 s.2.1 s.2.2.1 s.2.2.2)
    exact y_fX13_take_i83 hC ih hk_k h
theorem y_fX13_take_b73 {P : mwM → mwL → Prop} (hC : CPrb P) {fu : Nat} {k : Nat} {a1 : Int32} {a2 : Int64} {r30 : (Int32 × Int32 × mwM × mwL) → Option (mwM × mwL)} {v4 : Int32} {v5 : Int32} (hr30 : ∀ s, P s.2.2.1 s.2.2.2 → kq2 P (r30 s)) {M : mwM} {L : mwL} (h : P M L) : kq2 P (fX13_take_b73 fu k a1 a2 r30 v4 v5 M L) := by
  unfold fX13_take_b73
  exact (kqL2 (fun x11 => (hr30 (v4, x11, M, L) h)))
theorem y_fX13_take_i30 {P : mwM → mwL → Prop} (hC : CPrb P) {fu : Nat} {k : Nat} {a1 : Int32} {a2 : Int64} {r30 : (Int32 × Int32 × mwM × mwL) → Option (mwM × mwL)} {v4 : Int32} {v5 : Int32} (hr30 : ∀ s, P s.2.2.1 s.2.2.2 → kq2 P (r30 s)) (hk_k : 964 ≤ k ∧ k < 1577 ∧ (k - 964) % 53 = 0) {M : mwM} {L : mwL} (h : P M L) : kq2 P (fX13_take_i30 fu k a1 a2 r30 v4 v5 M L) := by
  unfold fX13_take_i30
  exact (kqI2 (y_fX13_take_h83 hC (by omega) _ (v4, 41, M, L) h) (kqK2 (fun q1 => (kqI2 (y_fX13_take_b73 hC hr30 h) (kqK2 (fun q2 => (kqI2 (kqB32 (y_DX13_child hC h) (fun r8 M6 L7 h3 => (kqK2 (fun q4 => (kqM2_rb hC h3 (by omega) (fun M10 h5 => (y_fX13_take_b73 hC hr30 h5))))))) (y_fX13_take_b73 hC hr30 h))))))))
theorem y_fX13_take_h30 {P : mwM → mwL → Prop} (hC : CPrb P) {fu : Nat} {k : Nat} {a1 : Int32} {a2 : Int64} (hk_k : 964 ≤ k ∧ k < 1577 ∧ (k - 964) % 53 = 0) : ∀ n s, P s.2.2.1 s.2.2.2 → kq2 P (fX13_take_h30 fu k a1 a2 n s) := by
  intro n
  induction n with
  | zero => intro s _; exact kqN2
  | succ n ih =>
    intro s h
    show kq2 P (fX13_take_i30 fu k a1 a2 (fX13_take_h30 fu k a1 a2 n) s.1 s.2.1 s.2.2.1 s.2.2.2)
    exact y_fX13_take_i30 hC ih hk_k h
theorem y_DX13_take {P : mwM → mwL → Prop} (hC : CPrb P) {fu : Nat} {k : Nat} {a1 : Int32} {a2 : Int64} (hk_k : 964 ≤ k ∧ k < 1577 ∧ (k - 964) % 53 = 0) {M : mwM} {L : mwL} (h : P M L) : kq2 P (DX13_take fu k a1 a2 M L) := by
  unfold DX13_take
  exact (kqB22 (y_DX13_note hC (by omega) h) (fun M30 L31 h1 => (kqK2 (fun q2 => (kqM2_rb hC h1 (by omega) (fun M33 h3 => (kqB32 (y_DX13_domain hC h3) (fun r36 M34 L35 h4 => (kqB22 (y_DX13_findExits hC (by omega) h4) (fun M37 L38 h5 => (y_fX13_take_h30 hC (by omega) _ (r36, 1, M37, L38) h5)))))))))))
theorem y_fX13_step_i2 {P : mwM → mwL → Prop} (hC : CPrb P) {fu : Nat} {k : Nat} {a1 : Int64} {r2 : (Int32 × mwM × mwL) → Option (Int32 × mwM × mwL)} {v3 : Int32} (hr2 : ∀ s, P s.2.1 s.2.2 → kq3 P (r2 s)) (hk_k : 964 ≤ k ∧ k < 1577 ∧ (k - 964) % 53 = 0) {M : mwM} {L : mwL} (h : P M L) : kq3 P (fX13_step_i2 fu k a1 r2 v3 M L) := by
  unfold fX13_step_i2
  exact (kqI3 (kqS3 h) (kqK3 (fun q1 => (kqB23 (y_DX13_take hC (by omega) h) (fun M3 L4 h2 => (kqL3 (fun x5 => (hr2 (x5, M3, L4) h2))))))))
theorem y_fX13_step_h2 {P : mwM → mwL → Prop} (hC : CPrb P) {fu : Nat} {k : Nat} {a1 : Int64} (hk_k : 964 ≤ k ∧ k < 1577 ∧ (k - 964) % 53 = 0) : ∀ n s, P s.2.1 s.2.2 → kq3 P (fX13_step_h2 fu k a1 n s) := by
  intro n
  induction n with
  | zero => intro s _; exact kqN3
  | succ n ih =>
    intro s h
    show kq3 P (fX13_step_i2 fu k a1 (fX13_step_h2 fu k a1 n) s.1 s.2.1 s.2.2)
    exact y_fX13_step_i2 hC ih hk_k h
theorem y_DX13_step {P : mwM → mwL → Prop} (hC : CPrb P) {fu : Nat} {k : Nat} {a1 : Int64} (hk_k : 964 ≤ k ∧ k < 1577 ∧ (k - 964) % 53 = 0) {M : mwM} {L : mwL} (h : P M L) : kq3 P (DX13_step fu k a1 M L) := by
  unfold DX13_step
  exact (y_fX13_step_h2 hC (by omega) _ (0, M, L) h)
theorem y_fX13_chain_i5 {P : mwM → mwL → Prop} (hC : CPrb P) {fu : Nat} {k : Nat} {a1 : Int64} {r5 : (Int32 × Int32 × mwM × mwL) → Option (Int32 × mwM × mwL)} {v3 : Int32} {v4 : Int32} (hr5 : ∀ s, P s.2.2.1 s.2.2.2 → kq3 P (r5 s)) (hk_k : 964 ≤ k ∧ k < 1577 ∧ (k - 964) % 53 = 0) {M : mwM} {L : mwL} (h : P M L) : kq3 P (fX13_chain_i5 fu k a1 r5 v3 v4 M L) := by
  unfold fX13_chain_i5
  exact (kqB33 (y_DX13_choose hC (by omega) h) (fun r3 M1 L2 h1 => (kqI3 (kqS3 h1) (kqI3 (kqB23 (y_DX13_note hC (by omega) h1) (fun M11 L12 h2 => (kqS3 h2))) (kqB33 (y_DX13_step hC (by omega) h1) (fun r8 M6 L7 h3 => (kqL3 (fun x9 => (kqL3 (fun x10 => (hr5 (x9, x10, M6, L7) h3)))))))))))
theorem y_fX13_chain_h5 {P : mwM → mwL → Prop} (hC : CPrb P) {fu : Nat} {k : Nat} {a1 : Int64} (hk_k : 964 ≤ k ∧ k < 1577 ∧ (k - 964) % 53 = 0) : ∀ n s, P s.2.2.1 s.2.2.2 → kq3 P (fX13_chain_h5 fu k a1 n s) := by
  intro n
  induction n with
  | zero => intro s _; exact kqN3
  | succ n ih =>
    intro s h
    show kq3 P (fX13_chain_i5 fu k a1 (fX13_chain_h5 fu k a1 n) s.1 s.2.1 s.2.2.1 s.2.2.2)
    exact y_fX13_chain_i5 hC ih hk_k h
theorem y_DX13_chain {P : mwM → mwL → Prop} (hC : CPrb P) {fu : Nat} {k : Nat} {a1 : Int64} (hk_k : 964 ≤ k ∧ k < 1577 ∧ (k - 964) % 53 = 0) {M : mwM} {L : mwL} (h : P M L) : kq3 P (DX13_chain fu k a1 M L) := by
  unfold DX13_chain
  exact (y_fX13_chain_h5 hC (by omega) _ (0, 0, M, L) h)
theorem y_fX13_due_b120 {P : mwM → mwL → Prop} (hC : CPrb P) {fu : Nat} {k : Nat} {a1 : Int64} {r5 : (Int32 × Int32 × mwM × mwL) → Option (Int32 × mwM × mwL)} {v4 : Int32} {s0 : Int32} (hr5 : ∀ s, P s.2.2.1 s.2.2.2 → kq3 P (r5 s)) {M : mwM} {L : mwL} (h : P M L) : kq3 P (fX13_due_b120 fu k a1 r5 v4 s0 M L) := by
  unfold fX13_due_b120
  exact (kqL3 (fun x18 => (hr5 (s0, x18, M, L) h)))
theorem y_fX13_due_b119 {P : mwM → mwL → Prop} (hC : CPrb P) {fu : Nat} {k : Nat} {a1 : Int64} {r5 : (Int32 × Int32 × mwM × mwL) → Option (Int32 × mwM × mwL)} {v3 : Int32} {v4 : Int32} (hr5 : ∀ s, P s.2.2.1 s.2.2.2 → kq3 P (r5 s)) {M : mwM} {L : mwL} (h : P M L) : kq3 P (fX13_due_b119 fu k a1 r5 v3 v4 M L) := by
  unfold fX13_due_b119
  exact (y_fX13_due_b120 hC hr5 h)
theorem y_fX13_due_b114 {P : mwM → mwL → Prop} (hC : CPrb P) {fu : Nat} {k : Nat} {a1 : Int64} {r5 : (Int32 × Int32 × mwM × mwL) → Option (Int32 × mwM × mwL)} {v4 : Int32} (hr5 : ∀ s, P s.2.2.1 s.2.2.2 → kq3 P (r5 s)) {M : mwM} {L : mwL} (h : P M L) : kq3 P (fX13_due_b114 fu k a1 r5 v4 M L) := by
  unfold fX13_due_b114
  exact (y_fX13_due_b120 hC hr5 h)
theorem y_fX13_due_b71 {P : mwM → mwL → Prop} (hC : CPrb P) {fu : Nat} {k : Nat} {a1 : Int64} {r5 : (Int32 × Int32 × mwM × mwL) → Option (Int32 × mwM × mwL)} {v3 : Int32} {v4 : Int32} {s0 : Int32} (hr5 : ∀ s, P s.2.2.1 s.2.2.2 → kq3 P (r5 s)) {M : mwM} {L : mwL} (h : P M L) : kq3 P (fX13_due_b71 fu k a1 r5 v3 v4 s0 M L) := by
  unfold fX13_due_b71
  exact (kqI3 (y_fX13_due_b119 hC hr5 h) (kqI3 (y_fX13_due_b114 hC hr5 h) (kqK3 (fun q1 => (kqK3 (fun q2 => (kqK3 (fun q3 => (kqK3 (fun q4 => (kqI3 (y_fX13_due_b119 hC hr5 h) (y_fX13_due_b114 hC hr5 h))))))))))))
theorem y_fX13_due_b70 {P : mwM → mwL → Prop} (hC : CPrb P) {fu : Nat} {k : Nat} {a1 : Int64} {r5 : (Int32 × Int32 × mwM × mwL) → Option (Int32 × mwM × mwL)} {v3 : Int32} {v4 : Int32} (hr5 : ∀ s, P s.2.2.1 s.2.2.2 → kq3 P (r5 s)) {M : mwM} {L : mwL} (h : P M L) : kq3 P (fX13_due_b70 fu k a1 r5 v3 v4 M L) := by
  unfold fX13_due_b70
  exact (y_fX13_due_b71 hC hr5 h)
theorem y_fX13_due_i5 {P : mwM → mwL → Prop} (hC : CPrb P) {fu : Nat} {k : Nat} {a1 : Int64} {r5 : (Int32 × Int32 × mwM × mwL) → Option (Int32 × mwM × mwL)} {v3 : Int32} {v4 : Int32} (hr5 : ∀ s, P s.2.2.1 s.2.2.2 → kq3 P (r5 s)) {M : mwM} {L : mwL} (h : P M L) : kq3 P (fX13_due_i5 fu k a1 r5 v3 v4 M L) := by
  unfold fX13_due_i5
  exact (kqI3 (kqS3 h) (kqK3 (fun q1 => (kqI3 (y_fX13_due_b70 hC hr5 h) (kqK3 (fun q2 => (kqI3 (y_fX13_due_b70 hC hr5 h) (kqK3 (fun q3 => (kqI3 (kqK3 (fun q4 => (kqK3 (fun q5 => (kqI3 (y_fX13_due_b70 hC hr5 h) (y_fX13_due_b71 hC hr5 h)))))) (y_fX13_due_b70 hC hr5 h)))))))))))
theorem y_fX13_due_h5 {P : mwM → mwL → Prop} (hC : CPrb P) {fu : Nat} {k : Nat} {a1 : Int64} : ∀ n s, P s.2.2.1 s.2.2.2 → kq3 P (fX13_due_h5 fu k a1 n s) := by
  intro n
  induction n with
  | zero => intro s _; exact kqN3
  | succ n ih =>
    intro s h
    show kq3 P (fX13_due_i5 fu k a1 (fX13_due_h5 fu k a1 n) s.1 s.2.1 s.2.2.1 s.2.2.2)
    exact y_fX13_due_i5 hC ih h
theorem y_DX13_due {P : mwM → mwL → Prop} (hC : CPrb P) {fu : Nat} {k : Nat} {a1 : Int64} {M : mwM} {L : mwL} (h : P M L) : kq3 P (DX13_due fu k a1 M L) := by
  unfold DX13_due
  exact (y_fX13_due_h5 hC _ (0, 1, M, L) h)
theorem y_fX13_event_b39 {P : mwM → mwL → Prop} (hC : CPrb P) {fu : Nat} {k : Nat} {a1 : Int32} {a2 : Int64} {M : mwM} {L : mwL} (h : P M L) : kq3 P (fX13_event_b39 fu k a1 a2 M L) := by
  unfold fX13_event_b39
  exact (kqS3 h)
theorem y_fX13_event_b290 {P : mwM → mwL → Prop} (hC : CPrb P) {fu : Nat} {k : Nat} {a1 : Int32} {a2 : Int64} {s0 : Int32} {M : mwM} {L : mwL} (h : P M L) : kq3 P (fX13_event_b290 fu k a1 a2 s0 M L) := by
  unfold fX13_event_b290
  exact (kqS3 h)
theorem y_fX13_event_b256 {P : mwM → mwL → Prop} (hC : CPrb P) {fu : Nat} {k : Nat} {a1 : Int32} {a2 : Int64} {v4 : Int32} {s1 : Int32} (hk_k : 964 ≤ k ∧ k < 1577 ∧ (k - 964) % 53 = 0) {M : mwM} {L : mwL} (h : P M L) : kq3 P (fX13_event_b256 fu k a1 a2 v4 s1 M L) := by
  unfold fX13_event_b256
  exact (kqM3_rb hC h (by omega) (fun M34 h1 => (kqB33 (y_DX13_step hC (by omega) h1) (fun r37 M35 L36 h2 => (kqL3 (fun x38 => (kqB33 (y_DX13_chain hC (by omega) h2) (fun r41 M39 L40 h3 => (kqI3 (y_fX13_event_b290 hC h3) (y_fX13_event_b290 hC h3))))))))))
theorem y_fX13_event_i117 {P : mwM → mwL → Prop} (hC : CPrb P) {fu : Nat} {k : Nat} {a1 : Int32} {a2 : Int64} {r117 : (Int32 × Int32 × Int32 × mwM × mwL) → Option (Int32 × mwM × mwL)} {v4 : Int32} {v5 : Int32} {v6 : Int32} (hr117 : ∀ s, P s.2.2.2.1 s.2.2.2.2 → kq3 P (r117 s)) (hk_k : 964 ≤ k ∧ k < 1577 ∧ (k - 964) % 53 = 0) {M : mwM} {L : mwL} (h : P M L) : kq3 P (fX13_event_i117 fu k a1 a2 r117 v4 v5 v6 M L) := by
  unfold fX13_event_i117
  exact (kqI3 (kqI3 (kqS3 h) (kqB33 (y_DX13_choose hC (by omega) h) (fun r8 M6 L7 h1 => (kqI3 (y_fX13_event_b256 hC (by omega) h1) (y_fX13_event_b256 hC (by omega) h1))))) (kqI3 (kqB23 (y_DX13_note hC (by omega) h) (fun M32 L33 h2 => (kqS3 h2))) (kqL3 (fun x11 => (kqK3 (fun q3 => (kqM3_rb hC h (by omega) (fun M13 h4 => (kqK3 (fun q5 => (kqK3 (fun q6 => (kqL3 (fun x16 => (kqB33 (y_DX13_choose hC (by omega) h4) (fun r19 M17 L18 h7 => (kqB33 (y_DX13_step hC (by omega) h7) (fun r22 M20 L21 h8 => (kqL3 (fun x23 => (kqB33 (y_DX13_chain hC (by omega) h8) (fun r26 M24 L25 h9 => (kqI3 (kqL3 (fun x28 => (kqB33 (y_DX13_due hC h9) (fun r31 M29 L30 h10 => (hr117 (x28, r31, x11, M29, L30) h10))))) (kqS3 h9))))))))))))))))))))))))
theorem y_fX13_event_h117 {P : mwM → mwL → Prop} (hC : CPrb P) {fu : Nat} {k : Nat} {a1 : Int32} {a2 : Int64} (hk_k : 964 ≤ k ∧ k < 1577 ∧ (k - 964) % 53 = 0) : ∀ n s, P s.2.2.2.1 s.2.2.2.2 → kq3 P (fX13_event_h117 fu k a1 a2 n s) := by
  intro n
  induction n with
  | zero => intro s _; exact kqN3
  | succ n ih =>
    intro s h
    show kq3 P (fX13_event_i117 fu k a1 a2 (fX13_event_h117 fu k a1 a2 n) s.1 s.2.1 s.2.2.1 s.2.2.2.1 s.2.2.2.2)
    exact y_fX13_event_i117 hC ih hk_k h
theorem y_fX13_event_b107 {P : mwM → mwL → Prop} (hC : CPrb P) {fu : Nat} {k : Nat} {a1 : Int32} {a2 : Int64} {v4 : Int32} (hk_k : 964 ≤ k ∧ k < 1577 ∧ (k - 964) % 53 = 0) {M : mwM} {L : mwL} (h : P M L) : kq3 P (fX13_event_b107 fu k a1 a2 v4 M L) := by
  unfold fX13_event_b107
  exact (kqB33 (y_DX13_due hC h) (fun r3 M1 L2 h1 => (y_fX13_event_h117 hC (by omega) _ (v4, r3, 0, M1, L2) h1)))
theorem y_DX13_event {P : mwM → mwL → Prop} (hC : CPrb P) {fu : Nat} {k : Nat} {a1 : Int32} {a2 : Int64} (hk_k : 964 ≤ k ∧ k < 1577 ∧ (k - 964) % 53 = 0) {M : mwM} {L : mwL} (h : P M L) : kq3 P (DX13_event fu k a1 a2 M L) := by
  unfold DX13_event
  exact (kqM3_rb hC h (by omega) (fun M43 h1 => (kqI3 (y_fX13_event_b39 hC h1) (kqI3 (y_fX13_event_b39 hC h1) (kqI3 (y_fX13_event_b39 hC h1) (kqI3 (y_fX13_event_b39 hC h1) (kqI3 (kqB33 (y_DX13_child hC h1) (fun r51 M49 L50 h2 => (kqI3 (kqS3 h2) (kqM3_rb hC h2 (by omega) (fun M53 h3 => (kqW3_rb hC h3 (by omega) (fun L54 h4 => (kqI3 (kqM3_rb hC h4 (by omega) (fun M56 h5 => (kqM3_rb hC h5 (by omega) (fun M58 h6 => (kqB23 (y_DX13_enter hC (by omega) h6) (fun M59 L60 h7 => (kqB33 (y_DX13_chain hC (by omega) h7) (fun r63 M61 L62 h8 => (kqI3 (y_fX13_event_b107 hC (by omega) h8) (kqS3 h8)))))))))) (y_fX13_event_b107 hC (by omega) h4))))))))) (y_fX13_event_b39 hC h1))))))))
theorem y_fX13_active_b66 {P : mwM → mwL → Prop} (hC : CPrb P) {fu : Nat} {k : Nat} {a1 : Int32} {v2 : Int32} {M : mwM} {L : mwL} (h : P M L) : kq3 P (fX13_active_b66 fu k a1 v2 M L) := by
  unfold fX13_active_b66
  exact (kqS3 h)
theorem y_fX13_active_i38 {P : mwM → mwL → Prop} (hC : CPrb P) {fu : Nat} {k : Nat} {a1 : Int32} {r38 : (Int32 × mwM × mwL) → Option (Int32 × mwM × mwL)} {v2 : Int32} (hr38 : ∀ s, P s.2.1 s.2.2 → kq3 P (r38 s)) {M : mwM} {L : mwL} (h : P M L) : kq3 P (fX13_active_i38 fu k a1 r38 v2 M L) := by
  unfold fX13_active_i38
  exact (kqK3 (fun q1 => (kqI3 (kqB33 (y_DX13_child hC h) (fun r5 M3 L4 h2 => (kqI3 (y_fX13_active_b66 hC h2) (kqB33 (y_DX13_child hC h2) (fun r9 M7 L8 h3 => (hr38 (r9, M7, L8) h3)))))) (y_fX13_active_b66 hC h))))
theorem y_fX13_active_h38 {P : mwM → mwL → Prop} (hC : CPrb P) {fu : Nat} {k : Nat} {a1 : Int32} : ∀ n s, P s.2.1 s.2.2 → kq3 P (fX13_active_h38 fu k a1 n s) := by
  intro n
  induction n with
  | zero => intro s _; exact kqN3
  | succ n ih =>
    intro s h
    show kq3 P (fX13_active_i38 fu k a1 (fX13_active_h38 fu k a1 n) s.1 s.2.1 s.2.2)
    exact y_fX13_active_i38 hC ih h
theorem y_DX13_active {P : mwM → mwL → Prop} (hC : CPrb P) {fu : Nat} {k : Nat} {a1 : Int32} (hk_k : 964 ≤ k ∧ k < 1577 ∧ (k - 964) % 53 = 0) {M : mwM} {L : mwL} (h : P M L) : kq3 P (DX13_active fu k a1 M L) := by
  unfold DX13_active
  exact (kqM3_rb hC h (by omega) (fun M10 h1 => (kqB33 (y_DX13_none hC h1) (fun r13 M11 L12 h2 => (kqI3 (kqI3 (kqS3 h2) (kqK3 (fun q3 => (kqI3 (kqS3 h2) (y_fX13_active_h38 hC _ (a1, M11, L12) h2))))) (kqS3 h2))))))
theorem y_fX13_value_b25 {P : mwM → mwL → Prop} (hC : CPrb P) {fu : Nat} {k : Nat} {a1 : Int32} {s0 : Int64} {M : mwM} {L : mwL} (h : P M L) : kq3 P (fX13_value_b25 fu k a1 s0 M L) := by
  unfold fX13_value_b25
  exact (kqS3 h)
theorem y_fX13_value_b15 {P : mwM → mwL → Prop} (hC : CPrb P) {fu : Nat} {k : Nat} {a1 : Int32} {M : mwM} {L : mwL} (h : P M L) : kq3 P (fX13_value_b15 fu k a1 M L) := by
  unfold fX13_value_b15
  exact (y_fX13_value_b25 hC h)
theorem y_DX13_value {P : mwM → mwL → Prop} (hC : CPrb P) {fu : Nat} {k : Nat} {a1 : Int32} (hk_k : 964 ≤ k ∧ k < 1577 ∧ (k - 964) % 53 = 0) {M : mwM} {L : mwL} (h : P M L) : kq3 P (DX13_value fu k a1 M L) := by
  unfold DX13_value
  exact (kqM3_rb hC h (by omega) (fun M1 h1 => (kqI3 (y_fX13_value_b15 hC h1) (kqI3 (kqK3 (fun q2 => (y_fX13_value_b25 hC h1))) (y_fX13_value_b15 hC h1)))))
theorem y_DX13_dropped {P : mwM → mwL → Prop} (hC : CPrb P) {fu : Nat} {k : Nat} (hk_k : 964 ≤ k ∧ k < 1577 ∧ (k - 964) % 53 = 0) {M : mwM} {L : mwL} (h : P M L) : kq3 P (DX13_dropped fu k M L) := by
  unfold DX13_dropped
  exact (kqM3_rb hC h (by omega) (fun M1 h1 => (kqS3 h1)))
theorem y_fX13_covered_b14 {P : mwM → mwL → Prop} (hC : CPrb P) {fu : Nat} {k : Nat} {a1 : Int32} {M : mwM} {L : mwL} (h : P M L) : kq3 P (fX13_covered_b14 fu k a1 M L) := by
  unfold fX13_covered_b14
  exact (kqS3 h)
theorem y_fX13_covered_b137 {P : mwM → mwL → Prop} (hC : CPrb P) {fu : Nat} {k : Nat} {a1 : Int32} {v2 : Int32} {M : mwM} {L : mwL} (h : P M L) : kq3 P (fX13_covered_b137 fu k a1 v2 M L) := by
  unfold fX13_covered_b137
  exact (kqS3 h)
theorem y_fX13_covered_b130 {P : mwM → mwL → Prop} (hC : CPrb P) {fu : Nat} {k : Nat} {a1 : Int32} {r68 : (Int32 × Int32 × mwM × mwL) → Option (Int32 × mwM × mwL)} {v3 : Int32} {s0 : Int32} (hr68 : ∀ s, P s.2.2.1 s.2.2.2 → kq3 P (r68 s)) {M : mwM} {L : mwL} (h : P M L) : kq3 P (fX13_covered_b130 fu k a1 r68 v3 s0 M L) := by
  unfold fX13_covered_b130
  exact (kqL3 (fun x16 => (hr68 (s0, x16, M, L) h)))
theorem y_fX13_covered_b129 {P : mwM → mwL → Prop} (hC : CPrb P) {fu : Nat} {k : Nat} {a1 : Int32} {r68 : (Int32 × Int32 × mwM × mwL) → Option (Int32 × mwM × mwL)} {v2 : Int32} {v3 : Int32} (hr68 : ∀ s, P s.2.2.1 s.2.2.2 → kq3 P (r68 s)) {M : mwM} {L : mwL} (h : P M L) : kq3 P (fX13_covered_b129 fu k a1 r68 v2 v3 M L) := by
  unfold fX13_covered_b129
  exact (y_fX13_covered_b130 hC hr68 h)
theorem y_fX13_covered_b123 {P : mwM → mwL → Prop} (hC : CPrb P) {fu : Nat} {k : Nat} {a1 : Int32} {r68 : (Int32 × Int32 × mwM × mwL) → Option (Int32 × mwM × mwL)} {v2 : Int32} {v3 : Int32} (hr68 : ∀ s, P s.2.2.1 s.2.2.2 → kq3 P (r68 s)) {M : mwM} {L : mwL} (h : P M L) : kq3 P (fX13_covered_b123 fu k a1 r68 v2 v3 M L) := by
  unfold fX13_covered_b123
  exact (y_fX13_covered_b130 hC hr68 h)
theorem y_fX13_covered_i68 {P : mwM → mwL → Prop} (hC : CPrb P) {fu : Nat} {k : Nat} {a1 : Int32} {r68 : (Int32 × Int32 × mwM × mwL) → Option (Int32 × mwM × mwL)} {v2 : Int32} {v3 : Int32} (hr68 : ∀ s, P s.2.2.1 s.2.2.2 → kq3 P (r68 s)) {M : mwM} {L : mwL} (h : P M L) : kq3 P (fX13_covered_i68 fu k a1 r68 v2 v3 M L) := by
  unfold fX13_covered_i68
  exact (kqI3 (y_fX13_covered_b137 hC h) (kqI3 (y_fX13_covered_b137 hC h) (kqI3 (kqK3 (fun q1 => (kqI3 (y_fX13_covered_b129 hC hr68 h) (y_fX13_covered_b123 hC hr68 h)))) (kqI3 (kqK3 (fun q2 => (kqI3 (y_fX13_covered_b129 hC hr68 h) (y_fX13_covered_b123 hC hr68 h)))) (kqK3 (fun q3 => (kqI3 (y_fX13_covered_b129 hC hr68 h) (y_fX13_covered_b123 hC hr68 h))))))))
theorem y_fX13_covered_h68 {P : mwM → mwL → Prop} (hC : CPrb P) {fu : Nat} {k : Nat} {a1 : Int32} : ∀ n s, P s.2.2.1 s.2.2.2 → kq3 P (fX13_covered_h68 fu k a1 n s) := by
  intro n
  induction n with
  | zero => intro s _; exact kqN3
  | succ n ih =>
    intro s h
    show kq3 P (fX13_covered_i68 fu k a1 (fX13_covered_h68 fu k a1 n) s.1 s.2.1 s.2.2.1 s.2.2.2)
    exact y_fX13_covered_i68 hC ih h
theorem y_fX13_covered_b66 {P : mwM → mwL → Prop} (hC : CPrb P) {fu : Nat} {k : Nat} {a1 : Int32} {v2 : Int32} {M : mwM} {L : mwL} (h : P M L) : kq3 P (fX13_covered_b66 fu k a1 v2 M L) := by
  unfold fX13_covered_b66
  exact (y_fX13_covered_h68 hC _ (v2, 1, M, L) h)
theorem y_fX13_covered_b59 {P : mwM → mwL → Prop} (hC : CPrb P) {fu : Nat} {k : Nat} {a1 : Int32} {r31 : (Int32 × Int32 × mwM × mwL) → Option (Int32 × mwM × mwL)} {v3 : Int32} {s0 : Int32} (hr31 : ∀ s, P s.2.2.1 s.2.2.2 → kq3 P (r31 s)) {M : mwM} {L : mwL} (h : P M L) : kq3 P (fX13_covered_b59 fu k a1 r31 v3 s0 M L) := by
  unfold fX13_covered_b59
  exact (kqL3 (fun x5 => (hr31 (s0, x5, M, L) h)))
theorem y_fX13_covered_i31 {P : mwM → mwL → Prop} (hC : CPrb P) {fu : Nat} {k : Nat} {a1 : Int32} {r31 : (Int32 × Int32 × mwM × mwL) → Option (Int32 × mwM × mwL)} {v2 : Int32} {v3 : Int32} (hr31 : ∀ s, P s.2.2.1 s.2.2.2 → kq3 P (r31 s)) {M : mwM} {L : mwL} (h : P M L) : kq3 P (fX13_covered_i31 fu k a1 r31 v2 v3 M L) := by
  unfold fX13_covered_i31
  exact (kqI3 (y_fX13_covered_b66 hC h) (kqI3 (kqK3 (fun q1 => (kqI3 (y_fX13_covered_b59 hC hr31 h) (y_fX13_covered_b59 hC hr31 h)))) (y_fX13_covered_b66 hC h)))
theorem y_fX13_covered_h31 {P : mwM → mwL → Prop} (hC : CPrb P) {fu : Nat} {k : Nat} {a1 : Int32} : ∀ n s, P s.2.2.1 s.2.2.2 → kq3 P (fX13_covered_h31 fu k a1 n s) := by
  intro n
  induction n with
  | zero => intro s _; exact kqN3
  | succ n ih =>
    intro s h
    show kq3 P (fX13_covered_i31 fu k a1 (fX13_covered_h31 fu k a1 n) s.1 s.2.1 s.2.2.1 s.2.2.2)
    exact y_fX13_covered_i31 hC ih h
theorem y_DX13_covered {P : mwM → mwL → Prop} (hC : CPrb P) {fu : Nat} {k : Nat} {a1 : Int32} (hk_k : 964 ≤ k ∧ k < 1577 ∧ (k - 964) % 53 = 0) {M : mwM} {L : mwL} (h : P M L) : kq3 P (DX13_covered fu k a1 M L) := by
  unfold DX13_covered
  exact (kqM3_rb hC h (by omega) (fun M17 h1 => (kqI3 (y_fX13_covered_b14 hC h1) (kqI3 (kqI3 (kqS3 h1) (y_fX13_covered_h31 hC _ (0, 1, M17, L) h1)) (y_fX13_covered_b14 hC h1)))))
theorem y_DX14_substitute {P : mwM → mwL → Prop} (hC : CPrb P) {fu : Nat} {a1 : Int32} {M : mwM} {L : mwL} (h : P M L) : kq3 P (DX14_substitute fu a1 M L) := by
  unfold DX14_substitute
  exact (kqK3 (fun q1 => (kqS3 h)))
theorem y_fX14_noKey_b23 {P : mwM → mwL → Prop} (hC : CPrb P) {fu : Nat} {a1 : Int32} {s0 : Int32} {M : mwM} {L : mwL} (h : P M L) : kq3 P (fX14_noKey_b23 fu a1 s0 M L) := by
  unfold fX14_noKey_b23
  exact (kq_mzz3 (kqS3 h))
theorem y_fX14_noKey_b18 {P : mwM → mwL → Prop} (hC : CPrb P) {fu : Nat} {a1 : Int32} {M : mwM} {L : mwL} (h : P M L) : kq3 P (fX14_noKey_b18 fu a1 M L) := by
  unfold fX14_noKey_b18
  exact (y_fX14_noKey_b23 hC h)
theorem y_DX14_noKey {P : mwM → mwL → Prop} (hC : CPrb P) {fu : Nat} {a1 : Int32} {M : mwM} {L : mwL} (h : P M L) : kq3 P (DX14_noKey fu a1 M L) := by
  unfold DX14_noKey
  exact (kqM3_rb hC h (by omega) (fun M2 h1 => (kqI3 (y_fX14_noKey_b18 hC h1) (kqI3 (y_fX14_noKey_b23 hC h1) (y_fX14_noKey_b18 hC h1)))))
theorem y_fX14_product_b54 {P : mwM → mwL → Prop} (hC : CPrb P) {fu : Nat} {a1 : Int32} {a2 : Int32} {r7 : (Int32 × Int32 × Int32 × mwM × mwL) → Option (Int32 × mwM × mwL)} {v2 : Int32} {v4 : Int32} {s0 : Int32} (hr7 : ∀ s, P s.2.2.2.1 s.2.2.2.2 → kq3 P (r7 s)) {M : mwM} {L : mwL} (h : P M L) : kq3 P (fX14_product_b54 fu a1 a2 r7 v2 v4 s0 M L) := by
  unfold fX14_product_b54
  exact (kqL3 (fun x4 => (hr7 (v2, s0, x4, M, L) h)))
theorem y_fX14_product_b31 {P : mwM → mwL → Prop} (hC : CPrb P) {fu : Nat} {a1 : Int32} {a2 : Int32} {r7 : (Int32 × Int32 × Int32 × mwM × mwL) → Option (Int32 × mwM × mwL)} {v3 : Int32} {v4 : Int32} {s0 : Int32} (hr7 : ∀ s, P s.2.2.2.1 s.2.2.2.2 → kq3 P (r7 s)) {M : mwM} {L : mwL} (h : P M L) : kq3 P (fX14_product_b31 fu a1 a2 r7 v3 v4 s0 M L) := by
  unfold fX14_product_b31
  exact (kqI3 (y_fX14_product_b54 hC hr7 h) (y_fX14_product_b54 hC hr7 h))
theorem y_fX14_product_i7 {P : mwM → mwL → Prop} (hC : CPrb P) {fu : Nat} {a1 : Int32} {a2 : Int32} {r7 : (Int32 × Int32 × Int32 × mwM × mwL) → Option (Int32 × mwM × mwL)} {v2 : Int32} {v3 : Int32} {v4 : Int32} (hr7 : ∀ s, P s.2.2.2.1 s.2.2.2.2 → kq3 P (r7 s)) {M : mwM} {L : mwL} (h : P M L) : kq3 P (fX14_product_i7 fu a1 a2 r7 v2 v3 v4 M L) := by
  unfold fX14_product_i7
  exact (kqI3 (kqS3 h) (kqI3 (y_fX14_product_b31 hC hr7 h) (y_fX14_product_b31 hC hr7 h)))
theorem y_fX14_product_h7 {P : mwM → mwL → Prop} (hC : CPrb P) {fu : Nat} {a1 : Int32} {a2 : Int32} : ∀ n s, P s.2.2.2.1 s.2.2.2.2 → kq3 P (fX14_product_h7 fu a1 a2 n s) := by
  intro n
  induction n with
  | zero => intro s _; exact kqN3
  | succ n ih =>
    intro s h
    show kq3 P (fX14_product_i7 fu a1 a2 (fX14_product_h7 fu a1 a2 n) s.1 s.2.1 s.2.2.1 s.2.2.2.1 s.2.2.2.2)
    exact y_fX14_product_i7 hC ih h
theorem y_DX14_product {P : mwM → mwL → Prop} (hC : CPrb P) {fu : Nat} {a1 : Int32} {a2 : Int32} {M : mwM} {L : mwL} (h : P M L) : kq3 P (DX14_product fu a1 a2 M L) := by
  unfold DX14_product
  exact (y_fX14_product_h7 hC _ (0, a1, 0, M, L) h)
theorem y_fX14_substituteOf_i26 {P : mwM → mwL → Prop} (hC : CPrb P) {fu : Nat} {a1 : Int32} {r26 : (Int32 × Int32 × Int32 × mwM × mwL) → Option (Int32 × mwM × mwL)} {v1 : Int32} {v2 : Int32} {v3 : Int32} (hr26 : ∀ s, P s.2.2.2.1 s.2.2.2.2 → kq3 P (r26 s)) {M : mwM} {L : mwL} (h : P M L) : kq3 P (fX14_substituteOf_i26 fu a1 r26 v1 v2 v3 M L) := by
  unfold fX14_substituteOf_i26
  exact (kqI3 (kqS3 h) (kqL3 (fun x8 => (kqL3 (fun x9 => (hr26 (v1, x8, x9, M, L) h))))))
theorem y_fX14_substituteOf_h26 {P : mwM → mwL → Prop} (hC : CPrb P) {fu : Nat} {a1 : Int32} : ∀ n s, P s.2.2.2.1 s.2.2.2.2 → kq3 P (fX14_substituteOf_h26 fu a1 n s) := by
  intro n
  induction n with
  | zero => intro s _; exact kqN3
  | succ n ih =>
    intro s h
    show kq3 P (fX14_substituteOf_i26 fu a1 (fX14_substituteOf_h26 fu a1 n) s.1 s.2.1 s.2.2.1 s.2.2.2.1 s.2.2.2.2)
    exact y_fX14_substituteOf_i26 hC ih h
theorem y_fX14_substituteOf_b21 {P : mwM → mwL → Prop} (hC : CPrb P) {fu : Nat} {a1 : Int32} {v1 : Int32} {M : mwM} {L : mwL} (h : P M L) : kq3 P (fX14_substituteOf_b21 fu a1 v1 M L) := by
  unfold fX14_substituteOf_b21
  exact (y_fX14_substituteOf_h26 hC _ (v1, 99, 0, M, L) h)
theorem y_fX14_substituteOf_i2 {P : mwM → mwL → Prop} (hC : CPrb P) {fu : Nat} {a1 : Int32} {r2 : (Int32 × mwM × mwL) → Option (Int32 × mwM × mwL)} {v1 : Int32} (hr2 : ∀ s, P s.2.1 s.2.2 → kq3 P (r2 s)) {M : mwM} {L : mwL} (h : P M L) : kq3 P (fX14_substituteOf_i2 fu a1 r2 v1 M L) := by
  unfold fX14_substituteOf_i2
  exact (kqI3 (y_fX14_substituteOf_b21 hC h) (kqB33 (y_DX14_product hC h) (fun r4 M2 L3 h1 => (kqI3 (y_fX14_substituteOf_b21 hC h1) (kqL3 (fun x6 => (hr2 (x6, M2, L3) h1)))))))
theorem y_fX14_substituteOf_h2 {P : mwM → mwL → Prop} (hC : CPrb P) {fu : Nat} {a1 : Int32} : ∀ n s, P s.2.1 s.2.2 → kq3 P (fX14_substituteOf_h2 fu a1 n s) := by
  intro n
  induction n with
  | zero => intro s _; exact kqN3
  | succ n ih =>
    intro s h
    show kq3 P (fX14_substituteOf_i2 fu a1 (fX14_substituteOf_h2 fu a1 n) s.1 s.2.1 s.2.2)
    exact y_fX14_substituteOf_i2 hC ih h
theorem y_DX14_substituteOf {P : mwM → mwL → Prop} (hC : CPrb P) {fu : Nat} {a1 : Int32} {M : mwM} {L : mwL} (h : P M L) : kq3 P (DX14_substituteOf fu a1 M L) := by
  unfold DX14_substituteOf
  exact (y_fX14_substituteOf_h2 hC _ (0, M, L) h)
theorem y_fX14_makeRound_b140 {P : mwM → mwL → Prop} (hC : CPrb P) {fu : Nat} {a1 : Int32} {r33 : (Int32 × Int32 × mwM × mwL) → Option (mwM × mwL)} {v3 : Int32} {v6 : Int32} {s0 : Int32} (hr33 : ∀ s, P s.2.2.1 s.2.2.2 → kq2 P (r33 s)) {M : mwM} {L : mwL} (h : P M L) : kq2 P (fX14_makeRound_b140 fu a1 r33 v3 v6 s0 M L) := by
  unfold fX14_makeRound_b140
  exact (kqK2 (fun q1 => (kqK2 (fun q2 => (kqM2_rb hC h (by omega) (fun M27 h3 => (kqL2 (fun x28 => (hr33 (s0, x28, M27, L) h3)))))))))
theorem y_fX14_makeRound_b139 {P : mwM → mwL → Prop} (hC : CPrb P) {fu : Nat} {a1 : Int32} {r33 : (Int32 × Int32 × mwM × mwL) → Option (mwM × mwL)} {v2 : Int32} {v3 : Int32} {v6 : Int32} (hr33 : ∀ s, P s.2.2.1 s.2.2.2 → kq2 P (r33 s)) {M : mwM} {L : mwL} (h : P M L) : kq2 P (fX14_makeRound_b139 fu a1 r33 v2 v3 v6 M L) := by
  unfold fX14_makeRound_b139
  exact (y_fX14_makeRound_b140 hC hr33 h)
theorem y_fX14_makeRound_b119 {P : mwM → mwL → Prop} (hC : CPrb P) {fu : Nat} {a1 : Int32} {r33 : (Int32 × Int32 × mwM × mwL) → Option (mwM × mwL)} {v2 : Int32} {v3 : Int32} {v4 : Int32} {v5 : Int32} {s0 : Int32} (hr33 : ∀ s, P s.2.2.1 s.2.2.2 → kq2 P (r33 s)) {M : mwM} {L : mwL} (h : P M L) : kq2 P (fX14_makeRound_b119 fu a1 r33 v2 v3 v4 v5 s0 M L) := by
  unfold fX14_makeRound_b119
  exact (kqI2 (y_fX14_makeRound_b139 hC hr33 h) (kqI2 (kqB32 (y_DX14_product hC h) (fun r24 M22 L23 h1 => (y_fX14_makeRound_b140 hC hr33 h1))) (y_fX14_makeRound_b139 hC hr33 h)))
theorem y_fX14_makeRound_b117 {P : mwM → mwL → Prop} (hC : CPrb P) {fu : Nat} {a1 : Int32} {r33 : (Int32 × Int32 × mwM × mwL) → Option (mwM × mwL)} {v2 : Int32} {v3 : Int32} {v4 : Int32} {v5 : Int32} {v6 : Int32} (hr33 : ∀ s, P s.2.2.1 s.2.2.2 → kq2 P (r33 s)) {M : mwM} {L : mwL} (h : P M L) : kq2 P (fX14_makeRound_b117 fu a1 r33 v2 v3 v4 v5 v6 M L) := by
  unfold fX14_makeRound_b117
  exact (y_fX14_makeRound_b119 hC hr33 h)
theorem y_fX14_makeRound_b98 {P : mwM → mwL → Prop} (hC : CPrb P) {fu : Nat} {a1 : Int32} {r33 : (Int32 × Int32 × mwM × mwL) → Option (mwM × mwL)} {v2 : Int32} {v3 : Int32} {v4 : Int32} {v5 : Int32} {s0 : Int32} (hr33 : ∀ s, P s.2.2.1 s.2.2.2 → kq2 P (r33 s)) {M : mwM} {L : mwL} (h : P M L) : kq2 P (fX14_makeRound_b98 fu a1 r33 v2 v3 v4 v5 s0 M L) := by
  unfold fX14_makeRound_b98
  exact (kqI2 (y_fX14_makeRound_b117 hC hr33 h) (kqI2 (y_fX14_makeRound_b119 hC hr33 h) (y_fX14_makeRound_b117 hC hr33 h)))
theorem y_fX14_makeRound_b58 {P : mwM → mwL → Prop} (hC : CPrb P) {fu : Nat} {a1 : Int32} {r33 : (Int32 × Int32 × mwM × mwL) → Option (mwM × mwL)} {v2 : Int32} {v3 : Int32} {v4 : Int32} {s0 : Int32} (hr33 : ∀ s, P s.2.2.1 s.2.2.2 → kq2 P (r33 s)) {M : mwM} {L : mwL} (h : P M L) : kq2 P (fX14_makeRound_b58 fu a1 r33 v2 v3 v4 s0 M L) := by
  unfold fX14_makeRound_b58
  exact (kqI2 (kqK2 (fun q1 => (y_fX14_makeRound_b98 hC hr33 h))) (kqK2 (fun q2 => (kqB32 (y_DX14_substitute hC h) (fun r17 M15 L16 h3 => (y_fX14_makeRound_b98 hC hr33 h3))))))
theorem y_fX14_makeRound_i33 {P : mwM → mwL → Prop} (hC : CPrb P) {fu : Nat} {a1 : Int32} {r33 : (Int32 × Int32 × mwM × mwL) → Option (mwM × mwL)} {v2 : Int32} {v3 : Int32} (hr33 : ∀ s, P s.2.2.1 s.2.2.2 → kq2 P (r33 s)) {M : mwM} {L : mwL} (h : P M L) : kq2 P (fX14_makeRound_i33 fu a1 r33 v2 v3 M L) := by
  unfold fX14_makeRound_i33
  exact (kqI2 (kqS2 h) (kqL2 (fun x8 => (kqI2 (y_fX14_makeRound_b58 hC hr33 h) (y_fX14_makeRound_b58 hC hr33 h)))))
theorem y_fX14_makeRound_h33 {P : mwM → mwL → Prop} (hC : CPrb P) {fu : Nat} {a1 : Int32} : ∀ n s, P s.2.2.1 s.2.2.2 → kq2 P (fX14_makeRound_h33 fu a1 n s) := by
  intro n
  induction n with
  | zero => intro s _; exact kqN2
  | succ n ih =>
    intro s h
    show kq2 P (fX14_makeRound_i33 fu a1 (fX14_makeRound_h33 fu a1 n) s.1 s.2.1 s.2.2.1 s.2.2.2)
    exact y_fX14_makeRound_i33 hC ih h
theorem y_fX14_makeRound_i2 {P : mwM → mwL → Prop} (hC : CPrb P) {fu : Nat} {a1 : Int32} {r2 : (Int32 × mwM × mwL) → Option (mwM × mwL)} {v2 : Int32} (hr2 : ∀ s, P s.2.1 s.2.2 → kq2 P (r2 s)) {M : mwM} {L : mwL} (h : P M L) : kq2 P (fX14_makeRound_i2 fu a1 r2 v2 M L) := by
  unfold fX14_makeRound_i2
  exact (kqI2 (y_fX14_makeRound_h33 hC _ (1, 16, M, L) h) (kqK2 (fun q1 => (kqK2 (fun q2 => (kqM2_rb hC h (by omega) (fun M4 h3 => (kqL2 (fun x5 => (hr2 (x5, M4, L) h3))))))))))
theorem y_fX14_makeRound_h2 {P : mwM → mwL → Prop} (hC : CPrb P) {fu : Nat} {a1 : Int32} : ∀ n s, P s.2.1 s.2.2 → kq2 P (fX14_makeRound_h2 fu a1 n s) := by
  intro n
  induction n with
  | zero => intro s _; exact kqN2
  | succ n ih =>
    intro s h
    show kq2 P (fX14_makeRound_i2 fu a1 (fX14_makeRound_h2 fu a1 n) s.1 s.2.1 s.2.2)
    exact y_fX14_makeRound_i2 hC ih h
theorem y_DX14_makeRound {P : mwM → mwL → Prop} (hC : CPrb P) {fu : Nat} {a1 : Int32} {M : mwM} {L : mwL} (h : P M L) : kq2 P (DX14_makeRound fu a1 M L) := by
  unfold DX14_makeRound
  exact (y_fX14_makeRound_h2 hC _ (0, M, L) h)
theorem y_fX14_cipher_b200 {P : mwM → mwL → Prop} (hC : CPrb P) {fu : Nat} {a1 : Int32} {r40 : (Int32 × mwM × mwL) → Option (mwM × mwL)} {r107 : (Int32 × Int32 × mwM × mwL) → Option (mwM × mwL)} {r115 : (Int32 × Int32 × Int32 × mwM × mwL) → Option (mwM × mwL)} {v2 : Int32} {v3 : Int32} {v4 : Int32} {v5 : Int32} (hr40 : ∀ s, P s.2.1 s.2.2 → kq2 P (r40 s)) (hr107 : ∀ s, P s.2.2.1 s.2.2.2 → kq2 P (r107 s)) (hr115 : ∀ s, P s.2.2.2.1 s.2.2.2.2 → kq2 P (r115 s)) {M : mwM} {L : mwL} (h : P M L) : kq2 P (fX14_cipher_b200 fu a1 r40 r107 r115 v2 v3 v4 v5 M L) := by
  unfold fX14_cipher_b200
  exact (kqK2 (fun q1 => (kqK2 (fun q2 => (kqM2_rb hC h (by omega) (fun M41 h3 => (kqL2 (fun x42 => (hr115 (v2, v3, x42, M41, L) h3)))))))))
theorem y_fX14_cipher_i115 {P : mwM → mwL → Prop} (hC : CPrb P) {fu : Nat} {a1 : Int32} {r40 : (Int32 × mwM × mwL) → Option (mwM × mwL)} {r107 : (Int32 × Int32 × mwM × mwL) → Option (mwM × mwL)} {r115 : (Int32 × Int32 × Int32 × mwM × mwL) → Option (mwM × mwL)} {v2 : Int32} {v3 : Int32} {v4 : Int32} (hr40 : ∀ s, P s.2.1 s.2.2 → kq2 P (r40 s)) (hr107 : ∀ s, P s.2.2.1 s.2.2.2 → kq2 P (r107 s)) (hr115 : ∀ s, P s.2.2.2.1 s.2.2.2.2 → kq2 P (r115 s)) {M : mwM} {L : mwL} (h : P M L) : kq2 P (fX14_cipher_i115 fu a1 r40 r107 r115 v2 v3 v4 M L) := by
  unfold fX14_cipher_i115
  exact (kqI2 (kqL2 (fun x22 => (hr107 (v2, x22, M, L) h))) (kqK2 (fun q1 => (kqL2 (fun x24 => (kqI2 (y_fX14_cipher_b200 hC hr40 hr107 hr115 h) (kqB32 (y_DX14_product hC h) (fun r28 M26 L27 h2 => (kqK2 (fun q3 => (kqB32 (y_DX14_product hC h2) (fun r33 M31 L32 h4 => (kqK2 (fun q5 => (kqK2 (fun q6 => (kqL2 (fun x38 => (y_fX14_cipher_b200 hC hr40 hr107 hr115 h4)))))))))))))))))))
theorem y_fX14_cipher_h115 {P : mwM → mwL → Prop} (hC : CPrb P) {fu : Nat} {a1 : Int32} {r40 : (Int32 × mwM × mwL) → Option (mwM × mwL)} {r107 : (Int32 × Int32 × mwM × mwL) → Option (mwM × mwL)} (hr40 : ∀ s, P s.2.1 s.2.2 → kq2 P (r40 s)) (hr107 : ∀ s, P s.2.2.1 s.2.2.2 → kq2 P (r107 s)) : ∀ n s, P s.2.2.2.1 s.2.2.2.2 → kq2 P (fX14_cipher_h115 fu a1 r40 r107 n s) := by
  intro n
  induction n with
  | zero => intro s _; exact kqN2
  | succ n ih =>
    intro s h
    show kq2 P (fX14_cipher_i115 fu a1 r40 r107 (fX14_cipher_h115 fu a1 r40 r107 n) s.1 s.2.1 s.2.2.1 s.2.2.2.1 s.2.2.2.2)
    exact y_fX14_cipher_i115 hC hr40 hr107 ih h
theorem y_fX14_cipher_i107 {P : mwM → mwL → Prop} (hC : CPrb P) {fu : Nat} {a1 : Int32} {r40 : (Int32 × mwM × mwL) → Option (mwM × mwL)} {r107 : (Int32 × Int32 × mwM × mwL) → Option (mwM × mwL)} {v2 : Int32} {v3 : Int32} (hr40 : ∀ s, P s.2.1 s.2.2 → kq2 P (r40 s)) (hr107 : ∀ s, P s.2.2.1 s.2.2.2 → kq2 P (r107 s)) {M : mwM} {L : mwL} (h : P M L) : kq2 P (fX14_cipher_i107 fu a1 r40 r107 v2 v3 M L) := by
  unfold fX14_cipher_i107
  exact (kqI2 (kqL2 (fun x20 => (hr40 (x20, M, L) h))) (y_fX14_cipher_h115 hC hr40 hr107 _ (v2, v3, 0, M, L) h))
theorem y_fX14_cipher_h107 {P : mwM → mwL → Prop} (hC : CPrb P) {fu : Nat} {a1 : Int32} {r40 : (Int32 × mwM × mwL) → Option (mwM × mwL)} (hr40 : ∀ s, P s.2.1 s.2.2 → kq2 P (r40 s)) : ∀ n s, P s.2.2.1 s.2.2.2 → kq2 P (fX14_cipher_h107 fu a1 r40 n s) := by
  intro n
  induction n with
  | zero => intro s _; exact kqN2
  | succ n ih =>
    intro s h
    show kq2 P (fX14_cipher_i107 fu a1 r40 (fX14_cipher_h107 fu a1 r40 n) s.1 s.2.1 s.2.2.1 s.2.2.2)
    exact y_fX14_cipher_i107 hC hr40 ih h
theorem y_fX14_cipher_i56 {P : mwM → mwL → Prop} (hC : CPrb P) {fu : Nat} {a1 : Int32} {r40 : (Int32 × mwM × mwL) → Option (mwM × mwL)} {r48 : (Int32 × Int32 × mwM × mwL) → Option (mwM × mwL)} {r56 : (Int32 × Int32 × Int32 × mwM × mwL) → Option (mwM × mwL)} {v2 : Int32} {v3 : Int32} {v4 : Int32} (hr40 : ∀ s, P s.2.1 s.2.2 → kq2 P (r40 s)) (hr48 : ∀ s, P s.2.2.1 s.2.2.2 → kq2 P (r48 s)) (hr56 : ∀ s, P s.2.2.2.1 s.2.2.2.2 → kq2 P (r56 s)) {M : mwM} {L : mwL} (h : P M L) : kq2 P (fX14_cipher_i56 fu a1 r40 r48 r56 v2 v3 v4 M L) := by
  unfold fX14_cipher_i56
  exact (kqI2 (kqL2 (fun x10 => (hr48 (v2, x10, M, L) h))) (kqK2 (fun q1 => (kqB32 (y_DX14_substitute hC h) (fun r15 M13 L14 h2 => (kqK2 (fun q3 => (kqM2_rb hC h2 (by omega) (fun M17 h4 => (kqL2 (fun x18 => (hr56 (v2, v3, x18, M17, L14) h4))))))))))))
theorem y_fX14_cipher_h56 {P : mwM → mwL → Prop} (hC : CPrb P) {fu : Nat} {a1 : Int32} {r40 : (Int32 × mwM × mwL) → Option (mwM × mwL)} {r48 : (Int32 × Int32 × mwM × mwL) → Option (mwM × mwL)} (hr40 : ∀ s, P s.2.1 s.2.2 → kq2 P (r40 s)) (hr48 : ∀ s, P s.2.2.1 s.2.2.2 → kq2 P (r48 s)) : ∀ n s, P s.2.2.2.1 s.2.2.2.2 → kq2 P (fX14_cipher_h56 fu a1 r40 r48 n s) := by
  intro n
  induction n with
  | zero => intro s _; exact kqN2
  | succ n ih =>
    intro s h
    show kq2 P (fX14_cipher_i56 fu a1 r40 r48 (fX14_cipher_h56 fu a1 r40 r48 n) s.1 s.2.1 s.2.2.1 s.2.2.2.1 s.2.2.2.2)
    exact y_fX14_cipher_i56 hC hr40 hr48 ih h
theorem y_fX14_cipher_i48 {P : mwM → mwL → Prop} (hC : CPrb P) {fu : Nat} {a1 : Int32} {r40 : (Int32 × mwM × mwL) → Option (mwM × mwL)} {r48 : (Int32 × Int32 × mwM × mwL) → Option (mwM × mwL)} {v2 : Int32} {v3 : Int32} (hr40 : ∀ s, P s.2.1 s.2.2 → kq2 P (r40 s)) (hr48 : ∀ s, P s.2.2.1 s.2.2.2 → kq2 P (r48 s)) {M : mwM} {L : mwL} (h : P M L) : kq2 P (fX14_cipher_i48 fu a1 r40 r48 v2 v3 M L) := by
  unfold fX14_cipher_i48
  exact (kqI2 (y_fX14_cipher_h107 hC hr40 _ (v2, 0, M, L) h) (y_fX14_cipher_h56 hC hr40 hr48 _ (v2, v3, 0, M, L) h))
theorem y_fX14_cipher_h48 {P : mwM → mwL → Prop} (hC : CPrb P) {fu : Nat} {a1 : Int32} {r40 : (Int32 × mwM × mwL) → Option (mwM × mwL)} (hr40 : ∀ s, P s.2.1 s.2.2 → kq2 P (r40 s)) : ∀ n s, P s.2.2.1 s.2.2.2 → kq2 P (fX14_cipher_h48 fu a1 r40 n s) := by
  intro n
  induction n with
  | zero => intro s _; exact kqN2
  | succ n ih =>
    intro s h
    show kq2 P (fX14_cipher_i48 fu a1 r40 (fX14_cipher_h48 fu a1 r40 n) s.1 s.2.1 s.2.2.1 s.2.2.2)
    exact y_fX14_cipher_i48 hC hr40 ih h
theorem y_fX14_cipher_i40 {P : mwM → mwL → Prop} (hC : CPrb P) {fu : Nat} {a1 : Int32} {r40 : (Int32 × mwM × mwL) → Option (mwM × mwL)} {v2 : Int32} (hr40 : ∀ s, P s.2.1 s.2.2 → kq2 P (r40 s)) {M : mwM} {L : mwL} (h : P M L) : kq2 P (fX14_cipher_i40 fu a1 r40 v2 M L) := by
  unfold fX14_cipher_i40
  exact (kqI2 (kqS2 h) (y_fX14_cipher_h48 hC hr40 _ (v2, 0, M, L) h))
theorem y_fX14_cipher_h40 {P : mwM → mwL → Prop} (hC : CPrb P) {fu : Nat} {a1 : Int32} : ∀ n s, P s.2.1 s.2.2 → kq2 P (fX14_cipher_h40 fu a1 n s) := by
  intro n
  induction n with
  | zero => intro s _; exact kqN2
  | succ n ih =>
    intro s h
    show kq2 P (fX14_cipher_i40 fu a1 (fX14_cipher_h40 fu a1 n) s.1 s.2.1 s.2.2)
    exact y_fX14_cipher_i40 hC ih h
theorem y_fX14_cipher_i7 {P : mwM → mwL → Prop} (hC : CPrb P) {fu : Nat} {a1 : Int32} {r7 : (Int32 × mwM × mwL) → Option (mwM × mwL)} {v2 : Int32} (hr7 : ∀ s, P s.2.1 s.2.2 → kq2 P (r7 s)) {M : mwM} {L : mwL} (h : P M L) : kq2 P (fX14_cipher_i7 fu a1 r7 v2 M L) := by
  unfold fX14_cipher_i7
  exact (kqI2 (y_fX14_cipher_h40 hC _ (1, M, L) h) (kqK2 (fun q1 => (kqK2 (fun q2 => (kqK2 (fun q3 => (kqM2_rb hC h (by omega) (fun M5 h4 => (kqL2 (fun x6 => (hr7 (x6, M5, L) h4))))))))))))
theorem y_fX14_cipher_h7 {P : mwM → mwL → Prop} (hC : CPrb P) {fu : Nat} {a1 : Int32} : ∀ n s, P s.2.1 s.2.2 → kq2 P (fX14_cipher_h7 fu a1 n s) := by
  intro n
  induction n with
  | zero => intro s _; exact kqN2
  | succ n ih =>
    intro s h
    show kq2 P (fX14_cipher_i7 fu a1 (fX14_cipher_h7 fu a1 n) s.1 s.2.1 s.2.2)
    exact y_fX14_cipher_i7 hC ih h
theorem y_DX14_cipher {P : mwM → mwL → Prop} (hC : CPrb P) {fu : Nat} {a1 : Int32} {M : mwM} {L : mwL} (h : P M L) : kq2 P (DX14_cipher fu a1 M L) := by
  unfold DX14_cipher
  exact (kqB22 (y_DX14_makeRound hC h) (fun M43 L44 h1 => (y_fX14_cipher_h7 hC _ (0, M43, L44) h1)))
theorem y_fX14_doubled_i5 {P : mwM → mwL → Prop} (hC : CPrb P) {fu : Nat} {r5 : (Int32 × Int32 × mwM × mwL) → Option (mwM × mwL)} {v1 : Int32} {v2 : Int32} (hr5 : ∀ s, P s.2.2.1 s.2.2.2 → kq2 P (r5 s)) {M : mwM} {L : mwL} (h : P M L) : kq2 P (fX14_doubled_i5 fu r5 v1 v2 M L) := by
  unfold fX14_doubled_i5
  exact (kqI2 (kqM2_rb hC h (by omega) (fun M4 h1 => (kqS2 h1))) (kqK2 (fun q2 => (kqL2 (fun x6 => (kqK2 (fun q3 => (kqM2_rb hC h (by omega) (fun M8 h4 => (kqL2 (fun x9 => (kqL2 (fun x10 => (hr5 (x9, x10, M8, L) h4))))))))))))))
theorem y_fX14_doubled_h5 {P : mwM → mwL → Prop} (hC : CPrb P) {fu : Nat} : ∀ n s, P s.2.2.1 s.2.2.2 → kq2 P (fX14_doubled_h5 fu n s) := by
  intro n
  induction n with
  | zero => intro s _; exact kqN2
  | succ n ih =>
    intro s h
    show kq2 P (fX14_doubled_i5 fu (fX14_doubled_h5 fu n) s.1 s.2.1 s.2.2.1 s.2.2.2)
    exact y_fX14_doubled_i5 hC ih h
theorem y_DX14_doubled {P : mwM → mwL → Prop} (hC : CPrb P) {fu : Nat} {M : mwM} {L : mwL} (h : P M L) : kq2 P (DX14_doubled fu M L) := by
  unfold DX14_doubled
  exact (y_fX14_doubled_h5 hC _ (0, 15, M, L) h)
theorem y_fX14_codeOf_b234 {P : mwM → mwL → Prop} (hC : CPrb P) {fu : Nat} {a1 : Int32} {a2 : Int32} {r128 : (Int32 × Int32 × mwM × mwL) → Option (mwM × mwL)} {r138 : (Int32 × Int32 × Int32 × mwM × mwL) → Option (mwM × mwL)} {v4 : Int32} {v5 : Int32} {v6 : Int32} (hr128 : ∀ s, P s.2.2.1 s.2.2.2 → kq2 P (r128 s)) (hr138 : ∀ s, P s.2.2.2.1 s.2.2.2.2 → kq2 P (r138 s)) {M : mwM} {L : mwL} (h : P M L) : kq2 P (fX14_codeOf_b234 fu a1 a2 r128 r138 v4 v5 v6 M L) := by
  unfold fX14_codeOf_b234
  exact (kqL2 (fun x42 => (hr138 (v4, v5, x42, M, L) h)))
theorem y_fX14_codeOf_b183 {P : mwM → mwL → Prop} (hC : CPrb P) {fu : Nat} {a1 : Int32} {a2 : Int32} {r128 : (Int32 × Int32 × mwM × mwL) → Option (mwM × mwL)} {r138 : (Int32 × Int32 × Int32 × mwM × mwL) → Option (mwM × mwL)} {v4 : Int32} {v5 : Int32} {v6 : Int32} {s0 : Int32} (hr128 : ∀ s, P s.2.2.1 s.2.2.2 → kq2 P (r128 s)) (hr138 : ∀ s, P s.2.2.2.1 s.2.2.2.2 → kq2 P (r138 s)) {M : mwM} {L : mwL} (h : P M L) : kq2 P (fX14_codeOf_b183 fu a1 a2 r128 r138 v4 v5 v6 s0 M L) := by
  unfold fX14_codeOf_b183
  exact (kqK2 (fun q1 => (kqK2 (fun q2 => (kqM2_rb hC h (by omega) (fun M36 h3 => (kqI2 (kqK2 (fun q4 => (kqK2 (fun q5 => (kqK2 (fun q6 => (kqM2_rb hC h3 (by omega) (fun M41 h7 => (y_fX14_codeOf_b234 hC hr128 hr138 h7))))))))) (y_fX14_codeOf_b234 hC hr128 hr138 h3))))))))
theorem y_fX14_codeOf_i138 {P : mwM → mwL → Prop} (hC : CPrb P) {fu : Nat} {a1 : Int32} {a2 : Int32} {r128 : (Int32 × Int32 × mwM × mwL) → Option (mwM × mwL)} {r138 : (Int32 × Int32 × Int32 × mwM × mwL) → Option (mwM × mwL)} {v4 : Int32} {v5 : Int32} {v6 : Int32} (hr128 : ∀ s, P s.2.2.1 s.2.2.2 → kq2 P (r128 s)) (hr138 : ∀ s, P s.2.2.2.1 s.2.2.2.2 → kq2 P (r138 s)) {M : mwM} {L : mwL} (h : P M L) : kq2 P (fX14_codeOf_i138 fu a1 a2 r128 r138 v4 v5 v6 M L) := by
  unfold fX14_codeOf_i138
  exact (kqI2 (kqB22 (y_DX14_cipher hC h) (fun M28 L29 h1 => (kqL2 (fun x30 => (hr128 (v4, x30, M28, L29) h1))))) (kqI2 (kqI2 (y_fX14_codeOf_b183 hC hr128 hr138 h) (y_fX14_codeOf_b183 hC hr128 hr138 h)) (kqK2 (fun q2 => (y_fX14_codeOf_b183 hC hr128 hr138 h)))))
theorem y_fX14_codeOf_h138 {P : mwM → mwL → Prop} (hC : CPrb P) {fu : Nat} {a1 : Int32} {a2 : Int32} {r128 : (Int32 × Int32 × mwM × mwL) → Option (mwM × mwL)} (hr128 : ∀ s, P s.2.2.1 s.2.2.2 → kq2 P (r128 s)) : ∀ n s, P s.2.2.2.1 s.2.2.2.2 → kq2 P (fX14_codeOf_h138 fu a1 a2 r128 n s) := by
  intro n
  induction n with
  | zero => intro s _; exact kqN2
  | succ n ih =>
    intro s h
    show kq2 P (fX14_codeOf_i138 fu a1 a2 r128 (fX14_codeOf_h138 fu a1 a2 r128 n) s.1 s.2.1 s.2.2.1 s.2.2.2.1 s.2.2.2.2)
    exact y_fX14_codeOf_i138 hC hr128 ih h
theorem y_fX14_codeOf_i128 {P : mwM → mwL → Prop} (hC : CPrb P) {fu : Nat} {a1 : Int32} {a2 : Int32} {r128 : (Int32 × Int32 × mwM × mwL) → Option (mwM × mwL)} {v4 : Int32} {v5 : Int32} (hr128 : ∀ s, P s.2.2.1 s.2.2.2 → kq2 P (r128 s)) {M : mwM} {L : mwL} (h : P M L) : kq2 P (fX14_codeOf_i128 fu a1 a2 r128 v4 v5 M L) := by
  unfold fX14_codeOf_i128
  exact (kqI2 (kqS2 h) (y_fX14_codeOf_h138 hC hr128 _ (v4, v5, 0, M, L) h))
theorem y_fX14_codeOf_h128 {P : mwM → mwL → Prop} (hC : CPrb P) {fu : Nat} {a1 : Int32} {a2 : Int32} : ∀ n s, P s.2.2.1 s.2.2.2 → kq2 P (fX14_codeOf_h128 fu a1 a2 n s) := by
  intro n
  induction n with
  | zero => intro s _; exact kqN2
  | succ n ih =>
    intro s h
    show kq2 P (fX14_codeOf_i128 fu a1 a2 (fX14_codeOf_h128 fu a1 a2 n) s.1 s.2.1 s.2.2.1 s.2.2.2)
    exact y_fX14_codeOf_i128 hC ih h
theorem y_fX14_codeOf_i104 {P : mwM → mwL → Prop} (hC : CPrb P) {fu : Nat} {a1 : Int32} {a2 : Int32} {r104 : (Int32 × Int32 × mwM × mwL) → Option (mwM × mwL)} {v4 : Int32} {v5 : Int32} (hr104 : ∀ s, P s.2.2.1 s.2.2.2 → kq2 P (r104 s)) {M : mwM} {L : mwL} (h : P M L) : kq2 P (fX14_codeOf_i104 fu a1 a2 r104 v4 v5 M L) := by
  unfold fX14_codeOf_i104
  exact (kqI2 (y_fX14_codeOf_h128 hC _ (v4, 0, M, L) h) (kqK2 (fun q1 => (kqM2_rb hC h (by omega) (fun M24 h2 => (kqL2 (fun x25 => (hr104 (v4, x25, M24, L) h2))))))))
theorem y_fX14_codeOf_h104 {P : mwM → mwL → Prop} (hC : CPrb P) {fu : Nat} {a1 : Int32} {a2 : Int32} : ∀ n s, P s.2.2.1 s.2.2.2 → kq2 P (fX14_codeOf_h104 fu a1 a2 n s) := by
  intro n
  induction n with
  | zero => intro s _; exact kqN2
  | succ n ih =>
    intro s h
    show kq2 P (fX14_codeOf_i104 fu a1 a2 (fX14_codeOf_h104 fu a1 a2 n) s.1 s.2.1 s.2.2.1 s.2.2.2)
    exact y_fX14_codeOf_i104 hC ih h
theorem y_fX14_codeOf_b99 {P : mwM → mwL → Prop} (hC : CPrb P) {fu : Nat} {a1 : Int32} {a2 : Int32} {s0 : Int32} {M : mwM} {L : mwL} (h : P M L) : kq2 P (fX14_codeOf_b99 fu a1 a2 s0 M L) := by
  unfold fX14_codeOf_b99
  exact (y_fX14_codeOf_h104 hC _ (s0, 0, M, L) h)
theorem y_fX14_codeOf_b81 {P : mwM → mwL → Prop} (hC : CPrb P) {fu : Nat} {a1 : Int32} {a2 : Int32} {v3 : Int32} {M : mwM} {L : mwL} (h : P M L) : kq2 P (fX14_codeOf_b81 fu a1 a2 v3 M L) := by
  unfold fX14_codeOf_b81
  exact (kqI2 (y_fX14_codeOf_b99 hC h) (y_fX14_codeOf_b99 hC h))
theorem y_fX14_codeOf_b72 {P : mwM → mwL → Prop} (hC : CPrb P) {fu : Nat} {a1 : Int32} {a2 : Int32} {s0 : Int32} {M : mwM} {L : mwL} (h : P M L) : kq2 P (fX14_codeOf_b72 fu a1 a2 s0 M L) := by
  unfold fX14_codeOf_b72
  exact (kqI2 (kqB22 (y_DX14_doubled hC h) (fun M18 L19 h1 => (y_fX14_codeOf_b81 hC h1))) (y_fX14_codeOf_b81 hC h))
theorem y_fX14_codeOf_b71 {P : mwM → mwL → Prop} (hC : CPrb P) {fu : Nat} {a1 : Int32} {a2 : Int32} {M : mwM} {L : mwL} (h : P M L) : kq2 P (fX14_codeOf_b71 fu a1 a2 M L) := by
  unfold fX14_codeOf_b71
  exact (y_fX14_codeOf_b72 hC h)
theorem y_fX14_codeOf_i28 {P : mwM → mwL → Prop} (hC : CPrb P) {fu : Nat} {a1 : Int32} {a2 : Int32} {r28 : (Int32 × mwM × mwL) → Option (mwM × mwL)} {v3 : Int32} (hr28 : ∀ s, P s.2.1 s.2.2 → kq2 P (r28 s)) {M : mwM} {L : mwL} (h : P M L) : kq2 P (fX14_codeOf_i28 fu a1 a2 r28 v3 M L) := by
  unfold fX14_codeOf_i28
  exact (kqI2 (kqB22 (y_DX14_doubled hC h) (fun M8 L9 h1 => (kqI2 (y_fX14_codeOf_b71 hC h1) (kqI2 (y_fX14_codeOf_b72 hC h1) (y_fX14_codeOf_b71 hC h1))))) (kqK2 (fun q2 => (kqK2 (fun q3 => (kqM2_rb hC h (by omega) (fun M15 h4 => (kqL2 (fun x16 => (hr28 (x16, M15, L) h4))))))))))
theorem y_fX14_codeOf_h28 {P : mwM → mwL → Prop} (hC : CPrb P) {fu : Nat} {a1 : Int32} {a2 : Int32} : ∀ n s, P s.2.1 s.2.2 → kq2 P (fX14_codeOf_h28 fu a1 a2 n s) := by
  intro n
  induction n with
  | zero => intro s _; exact kqN2
  | succ n ih =>
    intro s h
    show kq2 P (fX14_codeOf_i28 fu a1 a2 (fX14_codeOf_h28 fu a1 a2 n) s.1 s.2.1 s.2.2)
    exact y_fX14_codeOf_i28 hC ih h
theorem y_fX14_codeOf_i2 {P : mwM → mwL → Prop} (hC : CPrb P) {fu : Nat} {a1 : Int32} {a2 : Int32} {r2 : (Int32 × mwM × mwL) → Option (mwM × mwL)} {v3 : Int32} (hr2 : ∀ s, P s.2.1 s.2.2 → kq2 P (r2 s)) {M : mwM} {L : mwL} (h : P M L) : kq2 P (fX14_codeOf_i2 fu a1 a2 r2 v3 M L) := by
  unfold fX14_codeOf_i2
  exact (kqI2 (kqB22 (y_DX14_cipher hC h) (fun M2 L3 h1 => (y_fX14_codeOf_h28 hC _ (0, M2, L3) h1))) (kqK2 (fun q2 => (kqM2_rb hC h (by omega) (fun M5 h3 => (kqL2 (fun x6 => (hr2 (x6, M5, L) h3))))))))
theorem y_fX14_codeOf_h2 {P : mwM → mwL → Prop} (hC : CPrb P) {fu : Nat} {a1 : Int32} {a2 : Int32} : ∀ n s, P s.2.1 s.2.2 → kq2 P (fX14_codeOf_h2 fu a1 a2 n s) := by
  intro n
  induction n with
  | zero => intro s _; exact kqN2
  | succ n ih =>
    intro s h
    show kq2 P (fX14_codeOf_i2 fu a1 a2 (fX14_codeOf_h2 fu a1 a2 n) s.1 s.2.1 s.2.2)
    exact y_fX14_codeOf_i2 hC ih h
theorem y_DX14_codeOf {P : mwM → mwL → Prop} (hC : CPrb P) {fu : Nat} {a1 : Int32} {a2 : Int32} {M : mwM} {L : mwL} (h : P M L) : kq2 P (DX14_codeOf fu a1 a2 M L) := by
  unfold DX14_codeOf
  exact (y_fX14_codeOf_h2 hC _ (0, M, L) h)
theorem y_DX14_key {P : mwM → mwL → Prop} (hC : CPrb P) {fu : Nat} {M : mwM} {L : mwL} (h : P M L) : kq3 P (DX14_key fu M L) := by
  unfold DX14_key
  exact (kqM3_rb hC h (by omega) (fun M1 h1 => (kqI3 (kqS3 h1) (kqM3_rb hC h1 (by omega) (fun M3 h2 => (kqS3 h2))))))
theorem y_DX14_keyByte {P : mwM → mwL → Prop} (hC : CPrb P) {fu : Nat} {a1 : Int32} {a2 : Int32} {M : mwM} {L : mwL} (h : P M L) : kq2 P (DX14_keyByte fu a1 a2 M L) := by
  unfold DX14_keyByte
  exact (kqB32 (y_DX14_noKey hC h) (fun r3 M1 L2 h1 => (kqI2 (kqK2 (fun q2 => (kqK2 (fun q3 => (kqM2_rb hC h1 (by omega) (fun M7 h4 => (kqK2 (fun q5 => (kqK2 (fun q6 => (kqM2_rb hC h4 (by omega) (fun M11 h7 => (kqS2 h7))))))))))))) (kqS2 h1))))
theorem y_DX14_octet {P : mwM → mwL → Prop} (hC : CPrb P) {fu : Nat} {a1 : Int32} {M : mwM} {L : mwL} (h : P M L) : kq2 P (DX14_octet fu a1 M L) := by
  unfold DX14_octet
  exact (kqM2_rb hC h (by omega) (fun M1 h1 => (kqI2 (kqS2 h1) (kqK2 (fun q2 => (kqM2_rb hC h1 (by omega) (fun M4 h3 => (kqM2_rb hC h3 (by omega) (fun M5 h4 => (kqS2 h4))))))))))
theorem y_fX14_tell_i2 {P : mwM → mwL → Prop} (hC : CPrb P) {fu : Nat} {a1 : Int32} {r2 : (Int32 × mwM × mwL) → Option (Int32 × mwM × mwL)} {v2 : Int32} (hr2 : ∀ s, P s.2.1 s.2.2 → kq3 P (r2 s)) {M : mwM} {L : mwL} (h : P M L) : kq3 P (fX14_tell_i2 fu a1 r2 v2 M L) := by
  unfold fX14_tell_i2
  exact (kqI3 (kqM3_rb hC h (by omega) (fun M2 h1 => (kqM3_rb hC h1 (by omega) (fun M3 h2 => (kqS3 h2))))) (kqK3 (fun q3 => (kqK3 (fun q4 => (kqM3_rb hC h (by omega) (fun M6 h5 => (kqL3 (fun x7 => (hr2 (x7, M6, L) h5))))))))))
theorem y_fX14_tell_h2 {P : mwM → mwL → Prop} (hC : CPrb P) {fu : Nat} {a1 : Int32} : ∀ n s, P s.2.1 s.2.2 → kq3 P (fX14_tell_h2 fu a1 n s) := by
  intro n
  induction n with
  | zero => intro s _; exact kqN3
  | succ n ih =>
    intro s h
    show kq3 P (fX14_tell_i2 fu a1 (fX14_tell_h2 fu a1 n) s.1 s.2.1 s.2.2)
    exact y_fX14_tell_i2 hC ih h
theorem y_DX14_tell {P : mwM → mwL → Prop} (hC : CPrb P) {fu : Nat} {a1 : Int32} {M : mwM} {L : mwL} (h : P M L) : kq3 P (DX14_tell fu a1 M L) := by
  unfold DX14_tell
  exact (y_fX14_tell_h2 hC _ (0, M, L) h)
theorem y_fX14_code_b23 {P : mwM → mwL → Prop} (hC : CPrb P) {fu : Nat} {a1 : Int32} {a2 : Int32} {M : mwM} {L : mwL} (h : P M L) : kq3 P (fX14_code_b23 fu a1 a2 M L) := by
  unfold fX14_code_b23
  exact (kqS3 h)
theorem y_fX14_code_i81 {P : mwM → mwL → Prop} (hC : CPrb P) {fu : Nat} {a1 : Int32} {a2 : Int32} {r81 : (Int32 × Int32 × mwM × mwL) → Option (Int32 × mwM × mwL)} {v3 : Int32} {v4 : Int32} (hr81 : ∀ s, P s.2.2.1 s.2.2.2 → kq3 P (r81 s)) {M : mwM} {L : mwL} (h : P M L) : kq3 P (fX14_code_i81 fu a1 a2 r81 v3 v4 M L) := by
  unfold fX14_code_i81
  exact (kqI3 (kqS3 h) (kqK3 (fun q1 => (kqK3 (fun q2 => (kqM3_rb hC h (by omega) (fun M16 h3 => (kqL3 (fun x17 => (hr81 (v3, x17, M16, L) h3))))))))))
theorem y_fX14_code_h81 {P : mwM → mwL → Prop} (hC : CPrb P) {fu : Nat} {a1 : Int32} {a2 : Int32} : ∀ n s, P s.2.2.1 s.2.2.2 → kq3 P (fX14_code_h81 fu a1 a2 n s) := by
  intro n
  induction n with
  | zero => intro s _; exact kqN3
  | succ n ih =>
    intro s h
    show kq3 P (fX14_code_i81 fu a1 a2 (fX14_code_h81 fu a1 a2 n) s.1 s.2.1 s.2.2.1 s.2.2.2)
    exact y_fX14_code_i81 hC ih h
theorem y_fX14_code_i28 {P : mwM → mwL → Prop} (hC : CPrb P) {fu : Nat} {a1 : Int32} {a2 : Int32} {r28 : (Int32 × mwM × mwL) → Option (Int32 × mwM × mwL)} {v3 : Int32} (hr28 : ∀ s, P s.2.1 s.2.2 → kq3 P (r28 s)) {M : mwM} {L : mwL} (h : P M L) : kq3 P (fX14_code_i28 fu a1 a2 r28 v3 M L) := by
  unfold fX14_code_i28
  exact (kqI3 (kqB23 (y_DX14_codeOf hC h) (fun M2 L3 h1 => (kqB33 (y_DX14_tell hC h1) (fun r7 M5 L6 h2 => (y_fX14_code_h81 hC _ (r7, a2, M5, L6) h2))))) (kqK3 (fun q3 => (kqK3 (fun q4 => (kqM3_rb hC h (by omega) (fun M10 h5 => (kqL3 (fun x11 => (hr28 (x11, M10, L) h5))))))))))
theorem y_fX14_code_h28 {P : mwM → mwL → Prop} (hC : CPrb P) {fu : Nat} {a1 : Int32} {a2 : Int32} : ∀ n s, P s.2.1 s.2.2 → kq3 P (fX14_code_h28 fu a1 a2 n s) := by
  intro n
  induction n with
  | zero => intro s _; exact kqN3
  | succ n ih =>
    intro s h
    show kq3 P (fX14_code_i28 fu a1 a2 (fX14_code_h28 fu a1 a2 n) s.1 s.2.1 s.2.2)
    exact y_fX14_code_i28 hC ih h
theorem y_DX14_code {P : mwM → mwL → Prop} (hC : CPrb P) {fu : Nat} {a1 : Int32} {a2 : Int32} {M : mwM} {L : mwL} (h : P M L) : kq3 P (DX14_code fu a1 a2 M L) := by
  unfold DX14_code
  exact (kqB33 (y_DX14_noKey hC h) (fun r20 M18 L19 h1 => (kqI3 (kqI3 (y_fX14_code_b23 hC h1) (kqI3 (y_fX14_code_h28 hC _ (0, M18, L19) h1) (y_fX14_code_b23 hC h1))) (kqS3 h1))))
theorem y_fX14_out_b39 {P : mwM → mwL → Prop} (hC : CPrb P) {fu : Nat} {a1 : Int32} {s0 : Int32} {M : mwM} {L : mwL} (h : P M L) : kq3 P (fX14_out_b39 fu a1 s0 M L) := by
  unfold fX14_out_b39
  exact (kq_mbb3 (kqS3 h))
theorem y_fX14_out_b18 {P : mwM → mwL → Prop} (hC : CPrb P) {fu : Nat} {a1 : Int32} {s1 : Int32} {M : mwM} {L : mwL} (h : P M L) : kq3 P (fX14_out_b18 fu a1 s1 M L) := by
  unfold fX14_out_b18
  exact (kqM3_rb hC h (by omega) (fun M1 h1 => (kqI3 (kqK3 (fun q2 => (y_fX14_out_b39 hC h1))) (y_fX14_out_b39 hC h1))))
theorem y_fX14_out_b13 {P : mwM → mwL → Prop} (hC : CPrb P) {fu : Nat} {a1 : Int32} {M : mwM} {L : mwL} (h : P M L) : kq3 P (fX14_out_b13 fu a1 M L) := by
  unfold fX14_out_b13
  exact (y_fX14_out_b18 hC h)
theorem y_DX14_out {P : mwM → mwL → Prop} (hC : CPrb P) {fu : Nat} {a1 : Int32} {M : mwM} {L : mwL} (h : P M L) : kq3 P (DX14_out fu a1 M L) := by
  unfold DX14_out
  exact (kqI3 (y_fX14_out_b13 hC h) (kqI3 (y_fX14_out_b18 hC h) (y_fX14_out_b13 hC h)))
theorem y_fX15_anew_i162 {P : mwM → mwL → Prop} (hC : CPrb P) {fu : Nat} {a1 : Int32} {r162 : (Int32 × mwM × mwL) → Option (mwM × mwL)} {v2 : Int32} (hr162 : ∀ s, P s.2.1 s.2.2 → kq2 P (r162 s)) {M : mwM} {L : mwL} (h : P M L) : kq2 P (fX15_anew_i162 fu a1 r162 v2 M L) := by
  unfold fX15_anew_i162
  exact (kqI2 (kqS2 h) (kqK2 (fun q1 => (kqM2_rb hC h (by omega) (fun M29 h2 => (kqL2 (fun x30 => (hr162 (x30, M29, L) h2))))))))
theorem y_fX15_anew_h162 {P : mwM → mwL → Prop} (hC : CPrb P) {fu : Nat} {a1 : Int32} : ∀ n s, P s.2.1 s.2.2 → kq2 P (fX15_anew_h162 fu a1 n s) := by
  intro n
  induction n with
  | zero => intro s _; exact kqN2
  | succ n ih =>
    intro s h
    show kq2 P (fX15_anew_i162 fu a1 (fX15_anew_h162 fu a1 n) s.1 s.2.1 s.2.2)
    exact y_fX15_anew_i162 hC ih h
theorem y_fX15_anew_i141 {P : mwM → mwL → Prop} (hC : CPrb P) {fu : Nat} {a1 : Int32} {r141 : (Int32 × mwM × mwL) → Option (mwM × mwL)} {v2 : Int32} (hr141 : ∀ s, P s.2.1 s.2.2 → kq2 P (r141 s)) {M : mwM} {L : mwL} (h : P M L) : kq2 P (fX15_anew_i141 fu a1 r141 v2 M L) := by
  unfold fX15_anew_i141
  exact (kqI2 (y_fX15_anew_h162 hC _ (0, M, L) h) (kqK2 (fun q1 => (kqM2_rb hC h (by omega) (fun M25 h2 => (kqL2 (fun x26 => (hr141 (x26, M25, L) h2))))))))
theorem y_fX15_anew_h141 {P : mwM → mwL → Prop} (hC : CPrb P) {fu : Nat} {a1 : Int32} : ∀ n s, P s.2.1 s.2.2 → kq2 P (fX15_anew_h141 fu a1 n s) := by
  intro n
  induction n with
  | zero => intro s _; exact kqN2
  | succ n ih =>
    intro s h
    show kq2 P (fX15_anew_i141 fu a1 (fX15_anew_h141 fu a1 n) s.1 s.2.1 s.2.2)
    exact y_fX15_anew_i141 hC ih h
theorem y_fX15_anew_i57 {P : mwM → mwL → Prop} (hC : CPrb P) {fu : Nat} {a1 : Int32} {r57 : (Int32 × mwM × mwL) → Option (mwM × mwL)} {v2 : Int32} (hr57 : ∀ s, P s.2.1 s.2.2 → kq2 P (r57 s)) {M : mwM} {L : mwL} (h : P M L) : kq2 P (fX15_anew_i57 fu a1 r57 v2 M L) := by
  unfold fX15_anew_i57
  exact (kqI2 (y_fX15_anew_h141 hC _ (0, M, L) h) (kqK2 (fun q1 => (kqM2_rb hC h (by omega) (fun M3 h2 => (kqK2 (fun q3 => (kqM2_rb hC h2 (by omega) (fun M5 h4 => (kqK2 (fun q5 => (kqM2_rb hC h4 (by omega) (fun M7 h6 => (kqK2 (fun q7 => (kqW2_rb hC h6 (by omega) (fun L9 h8 => (kqK2 (fun q9 => (kqM2_rb hC h8 (by omega) (fun M11 h10 => (kqK2 (fun q11 => (kqM2_rb hC h10 (by omega) (fun M13 h12 => (kqK2 (fun q13 => (kqM2_rb hC h12 (by omega) (fun M15 h14 => (kqK2 (fun q15 => (kqM2_rb hC h14 (by omega) (fun M17 h16 => (kqK2 (fun q17 => (kqW2_rb hC h16 (by omega) (fun L19 h18 => (kqK2 (fun q19 => (kqM2_rb hC h18 (by omega) (fun M21 h20 => (kqL2 (fun x22 => (hr57 (x22, M21, L19) h20))))))))))))))))))))))))))))))))))))))))))))
theorem y_fX15_anew_h57 {P : mwM → mwL → Prop} (hC : CPrb P) {fu : Nat} {a1 : Int32} : ∀ n s, P s.2.1 s.2.2 → kq2 P (fX15_anew_h57 fu a1 n s) := by
  intro n
  induction n with
  | zero => intro s _; exact kqN2
  | succ n ih =>
    intro s h
    show kq2 P (fX15_anew_i57 fu a1 (fX15_anew_h57 fu a1 n) s.1 s.2.1 s.2.2)
    exact y_fX15_anew_i57 hC ih h
theorem y_DX15_anew {P : mwM → mwL → Prop} (hC : CPrb P) {fu : Nat} {a1 : Int32} {M : mwM} {L : mwL} (h : P M L) : kq2 P (DX15_anew fu a1 M L) := by
  unfold DX15_anew
  exact (kqM2_rb hC h (by omega) (fun M31 h1 => (kqM2_rb hC h1 (by omega) (fun M32 h2 => (kqM2_rb hC h2 (by omega) (fun M33 h3 => (kqW2_rb hC h3 (by omega) (fun L34 h4 => (kqW2_rb hC h4 (by omega) (fun L35 h5 => (kqM2_rb hC h5 (by omega) (fun M36 h6 => (kqM2_rb hC h6 (by omega) (fun M37 h7 => (kqM2_rb hC h7 (by omega) (fun M38 h8 => (kqM2_rb hC h8 (by omega) (fun M39 h9 => (kqM2_rb hC h9 (by omega) (fun M40 h10 => (kqW2_rb hC h10 (by omega) (fun L41 h11 => (y_fX15_anew_h57 hC _ (0, M40, L41) h11)))))))))))))))))))))))
theorem y_fX15_no_b18 {P : mwM → mwL → Prop} (hC : CPrb P) {fu : Nat} {a1 : Int32} {s0 : Int32} {M : mwM} {L : mwL} (h : P M L) : kq3 P (fX15_no_b18 fu a1 s0 M L) := by
  unfold fX15_no_b18
  exact (kq_mzz3 (kqS3 h))
theorem y_fX15_no_b13 {P : mwM → mwL → Prop} (hC : CPrb P) {fu : Nat} {a1 : Int32} {M : mwM} {L : mwL} (h : P M L) : kq3 P (fX15_no_b13 fu a1 M L) := by
  unfold fX15_no_b13
  exact (y_fX15_no_b18 hC h)
theorem y_DX15_no {P : mwM → mwL → Prop} (hC : CPrb P) {fu : Nat} {a1 : Int32} {M : mwM} {L : mwL} (h : P M L) : kq3 P (DX15_no fu a1 M L) := by
  unfold DX15_no
  exact (kqI3 (y_fX15_no_b13 hC h) (kqI3 (y_fX15_no_b18 hC h) (y_fX15_no_b13 hC h)))
theorem y_fX15_task_b12 {P : mwM → mwL → Prop} (hC : CPrb P) {fu : Nat} {a1 : Int32} {a2 : Int32} {a3 : Int32} {a4 : Int32} {M : mwM} {L : mwL} (h : P M L) : kq3 P (fX15_task_b12 fu a1 a2 a3 a4 M L) := by
  unfold fX15_task_b12
  exact (kqS3 h)
theorem y_fX15_task_b46 {P : mwM → mwL → Prop} (hC : CPrb P) {fu : Nat} {a1 : Int32} {a2 : Int32} {a3 : Int32} {a4 : Int32} {M : mwM} {L : mwL} (h : P M L) : kq3 P (fX15_task_b46 fu a1 a2 a3 a4 M L) := by
  unfold fX15_task_b46
  exact (kqS3 h)
theorem y_fX15_task_b49 {P : mwM → mwL → Prop} (hC : CPrb P) {fu : Nat} {a1 : Int32} {a2 : Int32} {a3 : Int32} {a4 : Int32} {M : mwM} {L : mwL} (h : P M L) : kq3 P (fX15_task_b49 fu a1 a2 a3 a4 M L) := by
  unfold fX15_task_b49
  exact (kqI3 (kqI3 (kqS3 h) (kqM3_rb hC h (by omega) (fun M3 h1 => (kqK3 (fun q2 => (kqM3_rb hC h1 (by omega) (fun M5 h3 => (kqK3 (fun q4 => (kqM3_rb hC h3 (by omega) (fun M7 h5 => (kqK3 (fun q6 => (kqM3_rb hC h5 (by omega) (fun M9 h7 => (kqK3 (fun q8 => (kqM3_rb hC h7 (by omega) (fun M11 h9 => (kqK3 (fun q10 => (kqM3_rb hC h9 (by omega) (fun M13 h11 => (kqS3 h11)))))))))))))))))))))))) (kqS3 h))
theorem y_DX15_task {P : mwM → mwL → Prop} (hC : CPrb P) {fu : Nat} {a1 : Int32} {a2 : Int32} {a3 : Int32} {a4 : Int32} {M : mwM} {L : mwL} (h : P M L) : kq3 P (DX15_task fu a1 a2 a3 a4 M L) := by
  unfold DX15_task
  exact (kqI3 (y_fX15_task_b12 hC h) (kqI3 (kqI3 (y_fX15_task_b46 hC h) (kqI3 (y_fX15_task_b46 hC h) (kqI3 (y_fX15_task_b46 hC h) (kqI3 (y_fX15_task_b46 hC h) (kqI3 (y_fX15_task_b49 hC h) (kqI3 (y_fX15_task_b49 hC h) (y_fX15_task_b46 hC h))))))) (y_fX15_task_b12 hC h)))
theorem y_fX15_good_b29 {P : mwM → mwL → Prop} (hC : CPrb P) {fu : Nat} {a1 : Int32} {a2 : Int64} {s0 : Int32} {M : mwM} {L : mwL} (h : P M L) : kq3 P (fX15_good_b29 fu a1 a2 s0 M L) := by
  unfold fX15_good_b29
  exact (kq_mzz3 (kqS3 h))
theorem y_fX15_good_b28 {P : mwM → mwL → Prop} (hC : CPrb P) {fu : Nat} {a1 : Int32} {a2 : Int64} {M : mwM} {L : mwL} (h : P M L) : kq3 P (fX15_good_b28 fu a1 a2 M L) := by
  unfold fX15_good_b28
  exact (y_fX15_good_b29 hC h)
theorem y_fX15_good_b10 {P : mwM → mwL → Prop} (hC : CPrb P) {fu : Nat} {a1 : Int32} {a2 : Int64} {M : mwM} {L : mwL} (h : P M L) : kq3 P (fX15_good_b10 fu a1 a2 M L) := by
  unfold fX15_good_b10
  exact (kqI3 (y_fX15_good_b28 hC h) (kqI3 (y_fX15_good_b28 hC h) (y_fX15_good_b29 hC h)))
theorem y_fX15_good_b59 {P : mwM → mwL → Prop} (hC : CPrb P) {fu : Nat} {a1 : Int32} {a2 : Int64} {s0 : Int32} {M : mwM} {L : mwL} (h : P M L) : kq3 P (fX15_good_b59 fu a1 a2 s0 M L) := by
  unfold fX15_good_b59
  exact (kq_mzz3 (kqS3 h))
theorem y_fX15_good_b58 {P : mwM → mwL → Prop} (hC : CPrb P) {fu : Nat} {a1 : Int32} {a2 : Int64} {M : mwM} {L : mwL} (h : P M L) : kq3 P (fX15_good_b58 fu a1 a2 M L) := by
  unfold fX15_good_b58
  exact (y_fX15_good_b59 hC h)
theorem y_fX15_good_b40 {P : mwM → mwL → Prop} (hC : CPrb P) {fu : Nat} {a1 : Int32} {a2 : Int64} {M : mwM} {L : mwL} (h : P M L) : kq3 P (fX15_good_b40 fu a1 a2 M L) := by
  unfold fX15_good_b40
  exact (kqI3 (y_fX15_good_b58 hC h) (kqI3 (y_fX15_good_b58 hC h) (y_fX15_good_b59 hC h)))
theorem y_fX15_good_b89 {P : mwM → mwL → Prop} (hC : CPrb P) {fu : Nat} {a1 : Int32} {a2 : Int64} {s0 : Int32} {M : mwM} {L : mwL} (h : P M L) : kq3 P (fX15_good_b89 fu a1 a2 s0 M L) := by
  unfold fX15_good_b89
  exact (kq_mzz3 (kqS3 h))
theorem y_fX15_good_b88 {P : mwM → mwL → Prop} (hC : CPrb P) {fu : Nat} {a1 : Int32} {a2 : Int64} {M : mwM} {L : mwL} (h : P M L) : kq3 P (fX15_good_b88 fu a1 a2 M L) := by
  unfold fX15_good_b88
  exact (y_fX15_good_b89 hC h)
theorem y_fX15_good_b70 {P : mwM → mwL → Prop} (hC : CPrb P) {fu : Nat} {a1 : Int32} {a2 : Int64} {M : mwM} {L : mwL} (h : P M L) : kq3 P (fX15_good_b70 fu a1 a2 M L) := by
  unfold fX15_good_b70
  exact (kqI3 (y_fX15_good_b88 hC h) (kqI3 (y_fX15_good_b88 hC h) (y_fX15_good_b89 hC h)))
theorem y_fX15_good_b126 {P : mwM → mwL → Prop} (hC : CPrb P) {fu : Nat} {a1 : Int32} {a2 : Int64} {s0 : Int32} {M : mwM} {L : mwL} (h : P M L) : kq3 P (fX15_good_b126 fu a1 a2 s0 M L) := by
  unfold fX15_good_b126
  exact (kq_mzz3 (kqS3 h))
theorem y_fX15_good_b125 {P : mwM → mwL → Prop} (hC : CPrb P) {fu : Nat} {a1 : Int32} {a2 : Int64} {M : mwM} {L : mwL} (h : P M L) : kq3 P (fX15_good_b125 fu a1 a2 M L) := by
  unfold fX15_good_b125
  exact (y_fX15_good_b126 hC h)
theorem y_fX15_good_b158 {P : mwM → mwL → Prop} (hC : CPrb P) {fu : Nat} {a1 : Int32} {a2 : Int64} {s0 : Int32} {M : mwM} {L : mwL} (h : P M L) : kq3 P (fX15_good_b158 fu a1 a2 s0 M L) := by
  unfold fX15_good_b158
  exact (kq_mzz3 (kqS3 h))
theorem y_fX15_good_b157 {P : mwM → mwL → Prop} (hC : CPrb P) {fu : Nat} {a1 : Int32} {a2 : Int64} {M : mwM} {L : mwL} (h : P M L) : kq3 P (fX15_good_b157 fu a1 a2 M L) := by
  unfold fX15_good_b157
  exact (y_fX15_good_b158 hC h)
theorem y_fX15_good_b139 {P : mwM → mwL → Prop} (hC : CPrb P) {fu : Nat} {a1 : Int32} {a2 : Int64} {M : mwM} {L : mwL} (h : P M L) : kq3 P (fX15_good_b139 fu a1 a2 M L) := by
  unfold fX15_good_b139
  exact (kqI3 (y_fX15_good_b157 hC h) (kqI3 (y_fX15_good_b157 hC h) (y_fX15_good_b158 hC h)))
theorem y_fX15_good_b190 {P : mwM → mwL → Prop} (hC : CPrb P) {fu : Nat} {a1 : Int32} {a2 : Int64} {s0 : Int32} {M : mwM} {L : mwL} (h : P M L) : kq3 P (fX15_good_b190 fu a1 a2 s0 M L) := by
  unfold fX15_good_b190
  exact (kq_mzz3 (kqS3 h))
theorem y_fX15_good_b189 {P : mwM → mwL → Prop} (hC : CPrb P) {fu : Nat} {a1 : Int32} {a2 : Int64} {M : mwM} {L : mwL} (h : P M L) : kq3 P (fX15_good_b189 fu a1 a2 M L) := by
  unfold fX15_good_b189
  exact (y_fX15_good_b190 hC h)
theorem y_fX15_good_b171 {P : mwM → mwL → Prop} (hC : CPrb P) {fu : Nat} {a1 : Int32} {a2 : Int64} {M : mwM} {L : mwL} (h : P M L) : kq3 P (fX15_good_b171 fu a1 a2 M L) := by
  unfold fX15_good_b171
  exact (kqI3 (y_fX15_good_b189 hC h) (kqI3 (y_fX15_good_b189 hC h) (y_fX15_good_b190 hC h)))
theorem y_fX15_good_b202 {P : mwM → mwL → Prop} (hC : CPrb P) {fu : Nat} {a1 : Int32} {a2 : Int64} {s0 : Int32} {M : mwM} {L : mwL} (h : P M L) : kq3 P (fX15_good_b202 fu a1 a2 s0 M L) := by
  unfold fX15_good_b202
  exact (kq_mzz3 (kqS3 h))
theorem y_DX15_good {P : mwM → mwL → Prop} (hC : CPrb P) {fu : Nat} {a1 : Int32} {a2 : Int64} {M : mwM} {L : mwL} (h : P M L) : kq3 P (DX15_good fu a1 a2 M L) := by
  unfold DX15_good
  exact (kqI3 (y_fX15_good_b10 hC h) (kqI3 (y_fX15_good_b10 hC h) (kqI3 (y_fX15_good_b40 hC h) (kqI3 (y_fX15_good_b40 hC h) (kqI3 (y_fX15_good_b70 hC h) (kqI3 (y_fX15_good_b70 hC h) (kqI3 (kqI3 (y_fX15_good_b125 hC h) (kqI3 (y_fX15_good_b125 hC h) (kq_mnzL3 (kqI3 (y_fX15_good_b125 hC h) (y_fX15_good_b126 hC h))))) (kqI3 (y_fX15_good_b139 hC h) (kqI3 (y_fX15_good_b139 hC h) (kqI3 (y_fX15_good_b171 hC h) (kqI3 (y_fX15_good_b171 hC h) (kqI3 (y_fX15_good_b202 hC h) (y_fX15_good_b202 hC h)))))))))))))
theorem y_fX15_part_b28 {P : mwM → mwL → Prop} (hC : CPrb P) {fu : Nat} {a1 : Int32} {a2 : Int32} {a3 : Int64} {M : mwM} {L : mwL} (h : P M L) : kq3 P (fX15_part_b28 fu a1 a2 a3 M L) := by
  unfold fX15_part_b28
  exact (kqS3 h)
theorem y_fX15_part_b131 {P : mwM → mwL → Prop} (hC : CPrb P) {fu : Nat} {a1 : Int32} {a2 : Int32} {a3 : Int64} {r102 : (Int32 × Int32 × mwM × mwL) → Option (Int32 × mwM × mwL)} {v6 : Int32} {s0 : Int32} (hr102 : ∀ s, P s.2.2.1 s.2.2.2 → kq3 P (r102 s)) {M : mwM} {L : mwL} (h : P M L) : kq3 P (fX15_part_b131 fu a1 a2 a3 r102 v6 s0 M L) := by
  unfold fX15_part_b131
  exact (kqL3 (fun x4 => (hr102 (s0, x4, M, L) h)))
theorem y_fX15_part_i102 {P : mwM → mwL → Prop} (hC : CPrb P) {fu : Nat} {a1 : Int32} {a2 : Int32} {a3 : Int64} {r102 : (Int32 × Int32 × mwM × mwL) → Option (Int32 × mwM × mwL)} {v5 : Int32} {v6 : Int32} (hr102 : ∀ s, P s.2.2.1 s.2.2.2 → kq3 P (r102 s)) {M : mwM} {L : mwL} (h : P M L) : kq3 P (fX15_part_i102 fu a1 a2 a3 r102 v5 v6 M L) := by
  unfold fX15_part_i102
  exact (kqI3 (kqS3 h) (kqK3 (fun q1 => (kqI3 (y_fX15_part_b131 hC hr102 h) (y_fX15_part_b131 hC hr102 h)))))
theorem y_fX15_part_h102 {P : mwM → mwL → Prop} (hC : CPrb P) {fu : Nat} {a1 : Int32} {a2 : Int32} {a3 : Int64} : ∀ n s, P s.2.2.1 s.2.2.2 → kq3 P (fX15_part_h102 fu a1 a2 a3 n s) := by
  intro n
  induction n with
  | zero => intro s _; exact kqN3
  | succ n ih =>
    intro s h
    show kq3 P (fX15_part_i102 fu a1 a2 a3 (fX15_part_h102 fu a1 a2 a3 n) s.1 s.2.1 s.2.2.1 s.2.2.2)
    exact y_fX15_part_i102 hC ih h
theorem y_DX15_part {P : mwM → mwL → Prop} (hC : CPrb P) {fu : Nat} {a1 : Int32} {a2 : Int32} {a3 : Int64} {M : mwM} {L : mwL} (h : P M L) : kq3 P (DX15_part fu a1 a2 a3 M L) := by
  unfold DX15_part
  exact (kqB33 (y_DX15_no hC h) (fun r7 M5 L6 h1 => (kqI3 (kqI3 (y_fX15_part_b28 hC h1) (kqI3 (y_fX15_part_b28 hC h1) (kqB33 (y_DX15_good hC h1) (fun r13 M11 L12 h2 => (kqI3 (y_fX15_part_b28 hC h2) (kqI3 (kqI3 (kqS3 h2) (kqK3 (fun q3 => (kqM3_rb hC h2 (by omega) (fun M18 h4 => (kqK3 (fun q5 => (kqM3_rb hC h4 (by omega) (fun M20 h6 => (kqK3 (fun q7 => (kqW3_rb hC h6 (by omega) (fun L22 h8 => (kqM3_rb hC h8 (by omega) (fun M23 h9 => (y_fX15_part_h102 hC _ (0, 0, M23, L22) h9)))))))))))))))) (kqS3 h2))))))) (kqS3 h1))))
theorem y_fX15_activate_b27 {P : mwM → mwL → Prop} (hC : CPrb P) {fu : Nat} {a1 : Int32} {a2 : Int64} {M : mwM} {L : mwL} (h : P M L) : kq3 P (fX15_activate_b27 fu a1 a2 M L) := by
  unfold fX15_activate_b27
  exact (kqS3 h)
theorem y_DX15_activate {P : mwM → mwL → Prop} (hC : CPrb P) {fu : Nat} {a1 : Int32} {a2 : Int64} {M : mwM} {L : mwL} (h : P M L) : kq3 P (DX15_activate fu a1 a2 M L) := by
  unfold DX15_activate
  exact (kqB33 (y_DX15_no hC h) (fun r3 M1 L2 h1 => (kqI3 (kqI3 (y_fX15_activate_b27 hC h1) (kqI3 (kqI3 (kqS3 h1) (kqK3 (fun q2 => (kqM3_rb hC h1 (by omega) (fun M9 h3 => (kqK3 (fun q4 => (kqW3_rb hC h3 (by omega) (fun L11 h5 => (kqM3_rb hC h5 (by omega) (fun M12 h6 => (kqS3 h6)))))))))))) (y_fX15_activate_b27 hC h1))) (kqS3 h1))))
theorem y_fX15_tell_b43 {P : mwM → mwL → Prop} (hC : CPrb P) {fu : Nat} {a1 : Int32} {a2 : Int32} {M : mwM} {L : mwL} (h : P M L) : kq2 P (fX15_tell_b43 fu a1 a2 M L) := by
  unfold fX15_tell_b43
  exact (kqM2_rb hC h (by omega) (fun M1 h1 => (kqS2 h1)))
theorem y_DX15_tell {P : mwM → mwL → Prop} (hC : CPrb P) {fu : Nat} {a1 : Int32} {a2 : Int32} {M : mwM} {L : mwL} (h : P M L) : kq2 P (DX15_tell fu a1 a2 M L) := by
  unfold DX15_tell
  exact (kqI2 (y_fX15_tell_b43 hC h) (kqK2 (fun q1 => (kqM2_rb hC h (by omega) (fun M4 h2 => (kqK2 (fun q3 => (kqM2_rb hC h2 (by omega) (fun M6 h4 => (kqK2 (fun q5 => (kqW2_rb hC h4 (by omega) (fun L8 h6 => (y_fX15_tell_b43 hC h6))))))))))))))
theorem y_DX15_ready {P : mwM → mwL → Prop} (hC : CPrb P) {fu : Nat} {a1 : Int32} {M : mwM} {L : mwL} (h : P M L) : kq2 P (DX15_ready fu a1 M L) := by
  unfold DX15_ready
  exact (kqW2_rb hC h (by omega) (fun L1 h1 => (kqK2 (fun q2 => (kqW2_rb hC h1 (by omega) (fun L3 h3 => (kqK2 (fun q4 => (kqM2_rb hC h3 (by omega) (fun M5 h5 => (kqS2 h5)))))))))))
theorem y_fX15_begin_b45 {P : mwM → mwL → Prop} (hC : CPrb P) {fu : Nat} {a1 : Int32} {M : mwM} {L : mwL} (h : P M L) : kq2 P (fX15_begin_b45 fu a1 M L) := by
  unfold fX15_begin_b45
  exact (kqS2 h)
theorem y_DX15_begin {P : mwM → mwL → Prop} (hC : CPrb P) {fu : Nat} {a1 : Int32} {M : mwM} {L : mwL} (h : P M L) : kq2 P (DX15_begin fu a1 M L) := by
  unfold DX15_begin
  exact (kqK2 (fun q1 => (kqI2 (kqB22 (y_DX15_ready hC h) (fun M3 L4 h2 => (kqK2 (fun q3 => (kqM2_rb hC h2 (by omega) (fun M6 h4 => (kqK2 (fun q5 => (kqM2_rb hC h4 (by omega) (fun M8 h6 => (kqK2 (fun q7 => (kqW2_rb hC h6 (by omega) (fun L10 h8 => (kqK2 (fun q9 => (kqM2_rb hC h8 (by omega) (fun M12 h10 => (kqS2 h10))))))))))))))))))) (kqK2 (fun q11 => (kqK2 (fun q12 => (kqI2 (kqK2 (fun q13 => (kqK2 (fun q14 => (kqM2_rb hC h (by omega) (fun M18 h15 => (y_fX15_begin_b45 hC h15))))))) (kqB22 (y_DX15_tell hC h) (fun M19 L20 h16 => (y_fX15_begin_b45 hC h16)))))))))))
theorem y_fX15_set_b18 {P : mwM → mwL → Prop} (hC : CPrb P) {fu : Nat} {a1 : Int32} {a2 : Int32} {M : mwM} {L : mwL} (h : P M L) : kq3 P (fX15_set_b18 fu a1 a2 M L) := by
  unfold fX15_set_b18
  exact (kqS3 h)
theorem y_fX15_set_b65 {P : mwM → mwL → Prop} (hC : CPrb P) {fu : Nat} {a1 : Int32} {a2 : Int32} {M : mwM} {L : mwL} (h : P M L) : kq3 P (fX15_set_b65 fu a1 a2 M L) := by
  unfold fX15_set_b65
  exact (kqS3 h)
theorem y_DX15_set {P : mwM → mwL → Prop} (hC : CPrb P) {fu : Nat} {a1 : Int32} {a2 : Int32} {M : mwM} {L : mwL} (h : P M L) : kq3 P (DX15_set fu a1 a2 M L) := by
  unfold DX15_set
  exact (kqK3 (fun q1 => (kqI3 (y_fX15_set_b18 hC h) (kqK3 (fun q2 => (kqI3 (y_fX15_set_b18 hC h) (kqK3 (fun q3 => (kqK3 (fun q4 => (kqM3_rb hC h (by omega) (fun M7 h5 => (kqK3 (fun q6 => (kqI3 (kqK3 (fun q7 => (kqK3 (fun q8 => (kqI3 (y_fX15_set_b65 hC h5) (kqB23 (y_DX15_ready hC h5) (fun M13 L14 h9 => (y_fX15_set_b65 hC h9)))))))) (y_fX15_set_b65 hC h5))))))))))))))))
theorem y_fX15_unlock_b51 {P : mwM → mwL → Prop} (hC : CPrb P) {fu : Nat} {a1 : Int32} {r11 : (Int32 × Int32 × mwM × mwL) → Option (mwM × mwL)} {v2 : Int32} {v3 : Int32} (hr11 : ∀ s, P s.2.2.1 s.2.2.2 → kq2 P (r11 s)) {M : mwM} {L : mwL} (h : P M L) : kq2 P (fX15_unlock_b51 fu a1 r11 v2 v3 M L) := by
  unfold fX15_unlock_b51
  exact (kqL2 (fun x16 => (hr11 (v2, x16, M, L) h)))
theorem y_fX15_unlock_b49 {P : mwM → mwL → Prop} (hC : CPrb P) {fu : Nat} {a1 : Int32} {r11 : (Int32 × Int32 × mwM × mwL) → Option (mwM × mwL)} {v3 : Int32} (hr11 : ∀ s, P s.2.2.1 s.2.2.2 → kq2 P (r11 s)) {M : mwM} {L : mwL} (h : P M L) : kq2 P (fX15_unlock_b49 fu a1 r11 v3 M L) := by
  unfold fX15_unlock_b49
  exact (y_fX15_unlock_b51 hC hr11 h)
theorem y_fX15_unlock_i11 {P : mwM → mwL → Prop} (hC : CPrb P) {fu : Nat} {a1 : Int32} {r11 : (Int32 × Int32 × mwM × mwL) → Option (mwM × mwL)} {v2 : Int32} {v3 : Int32} (hr11 : ∀ s, P s.2.2.1 s.2.2.2 → kq2 P (r11 s)) {M : mwM} {L : mwL} (h : P M L) : kq2 P (fX15_unlock_i11 fu a1 r11 v2 v3 M L) := by
  unfold fX15_unlock_i11
  exact (kqI2 (kqI2 (kqS2 h) (kqK2 (fun q1 => (kqM2_rb hC h (by omega) (fun M4 h2 => (kqK2 (fun q3 => (kqM2_rb hC h2 (by omega) (fun M6 h4 => (kqK2 (fun q5 => (kqK2 (fun q6 => (kqM2_rb hC h4 (by omega) (fun M9 h7 => (kqS2 h7)))))))))))))))) (kqK2 (fun q8 => (kqI2 (kqI2 (y_fX15_unlock_b49 hC hr11 h) (kqK2 (fun q9 => (kqK2 (fun q10 => (kqI2 (y_fX15_unlock_b51 hC hr11 h) (y_fX15_unlock_b49 hC hr11 h))))))) (y_fX15_unlock_b51 hC hr11 h)))))
theorem y_fX15_unlock_h11 {P : mwM → mwL → Prop} (hC : CPrb P) {fu : Nat} {a1 : Int32} : ∀ n s, P s.2.2.1 s.2.2.2 → kq2 P (fX15_unlock_h11 fu a1 n s) := by
  intro n
  induction n with
  | zero => intro s _; exact kqN2
  | succ n ih =>
    intro s h
    show kq2 P (fX15_unlock_i11 fu a1 (fX15_unlock_h11 fu a1 n) s.1 s.2.1 s.2.2.1 s.2.2.2)
    exact y_fX15_unlock_i11 hC ih h
theorem y_DX15_unlock {P : mwM → mwL → Prop} (hC : CPrb P) {fu : Nat} {a1 : Int32} {M : mwM} {L : mwL} (h : P M L) : kq2 P (DX15_unlock fu a1 M L) := by
  unfold DX15_unlock
  exact (kqK2 (fun q1 => (kqM2_rb hC h (by omega) (fun M18 h2 => (y_fX15_unlock_h11 hC _ (0, 1, M18, L) h2)))))
theorem y_fX15_holdsSome_b63 {P : mwM → mwL → Prop} (hC : CPrb P) {fu : Nat} {a1 : Int32} {r38 : (Int32 × Int32 × mwM × mwL) → Option (Int32 × mwM × mwL)} {v3 : Int32} {s0 : Int32} (hr38 : ∀ s, P s.2.2.1 s.2.2.2 → kq3 P (r38 s)) {M : mwM} {L : mwL} (h : P M L) : kq3 P (fX15_holdsSome_b63 fu a1 r38 v3 s0 M L) := by
  unfold fX15_holdsSome_b63
  exact (kqL3 (fun x11 => (hr38 (s0, x11, M, L) h)))
theorem y_fX15_holdsSome_b58 {P : mwM → mwL → Prop} (hC : CPrb P) {fu : Nat} {a1 : Int32} {r38 : (Int32 × Int32 × mwM × mwL) → Option (Int32 × mwM × mwL)} {v3 : Int32} (hr38 : ∀ s, P s.2.2.1 s.2.2.2 → kq3 P (r38 s)) {M : mwM} {L : mwL} (h : P M L) : kq3 P (fX15_holdsSome_b58 fu a1 r38 v3 M L) := by
  unfold fX15_holdsSome_b58
  exact (y_fX15_holdsSome_b63 hC hr38 h)
theorem y_fX15_holdsSome_i38 {P : mwM → mwL → Prop} (hC : CPrb P) {fu : Nat} {a1 : Int32} {r38 : (Int32 × Int32 × mwM × mwL) → Option (Int32 × mwM × mwL)} {v2 : Int32} {v3 : Int32} (hr38 : ∀ s, P s.2.2.1 s.2.2.2 → kq3 P (r38 s)) {M : mwM} {L : mwL} (h : P M L) : kq3 P (fX15_holdsSome_i38 fu a1 r38 v2 v3 M L) := by
  unfold fX15_holdsSome_i38
  exact (kqI3 (kq_mzz3 (kqS3 h)) (kqI3 (kqK3 (fun q1 => (kqI3 (y_fX15_holdsSome_b58 hC hr38 h) (y_fX15_holdsSome_b63 hC hr38 h)))) (y_fX15_holdsSome_b58 hC hr38 h)))
theorem y_fX15_holdsSome_h38 {P : mwM → mwL → Prop} (hC : CPrb P) {fu : Nat} {a1 : Int32} : ∀ n s, P s.2.2.1 s.2.2.2 → kq3 P (fX15_holdsSome_h38 fu a1 n s) := by
  intro n
  induction n with
  | zero => intro s _; exact kqN3
  | succ n ih =>
    intro s h
    show kq3 P (fX15_holdsSome_i38 fu a1 (fX15_holdsSome_h38 fu a1 n) s.1 s.2.1 s.2.2.1 s.2.2.2)
    exact y_fX15_holdsSome_i38 hC ih h
theorem y_fX15_holdsSome_b29 {P : mwM → mwL → Prop} (hC : CPrb P) {fu : Nat} {a1 : Int32} {r4 : (Int32 × Int32 × mwM × mwL) → Option (Int32 × mwM × mwL)} {v3 : Int32} {s0 : Int32} (hr4 : ∀ s, P s.2.2.1 s.2.2.2 → kq3 P (r4 s)) {M : mwM} {L : mwL} (h : P M L) : kq3 P (fX15_holdsSome_b29 fu a1 r4 v3 s0 M L) := by
  unfold fX15_holdsSome_b29
  exact (kqL3 (fun x5 => (hr4 (s0, x5, M, L) h)))
theorem y_fX15_holdsSome_b24 {P : mwM → mwL → Prop} (hC : CPrb P) {fu : Nat} {a1 : Int32} {r4 : (Int32 × Int32 × mwM × mwL) → Option (Int32 × mwM × mwL)} {v3 : Int32} (hr4 : ∀ s, P s.2.2.1 s.2.2.2 → kq3 P (r4 s)) {M : mwM} {L : mwL} (h : P M L) : kq3 P (fX15_holdsSome_b24 fu a1 r4 v3 M L) := by
  unfold fX15_holdsSome_b24
  exact (y_fX15_holdsSome_b29 hC hr4 h)
theorem y_fX15_holdsSome_i4 {P : mwM → mwL → Prop} (hC : CPrb P) {fu : Nat} {a1 : Int32} {r4 : (Int32 × Int32 × mwM × mwL) → Option (Int32 × mwM × mwL)} {v2 : Int32} {v3 : Int32} (hr4 : ∀ s, P s.2.2.1 s.2.2.2 → kq3 P (r4 s)) {M : mwM} {L : mwL} (h : P M L) : kq3 P (fX15_holdsSome_i4 fu a1 r4 v2 v3 M L) := by
  unfold fX15_holdsSome_i4
  exact (kqI3 (y_fX15_holdsSome_h38 hC _ (v2, 1, M, L) h) (kqI3 (kqK3 (fun q1 => (kqI3 (y_fX15_holdsSome_b24 hC hr4 h) (y_fX15_holdsSome_b29 hC hr4 h)))) (y_fX15_holdsSome_b24 hC hr4 h)))
theorem y_fX15_holdsSome_h4 {P : mwM → mwL → Prop} (hC : CPrb P) {fu : Nat} {a1 : Int32} : ∀ n s, P s.2.2.1 s.2.2.2 → kq3 P (fX15_holdsSome_h4 fu a1 n s) := by
  intro n
  induction n with
  | zero => intro s _; exact kqN3
  | succ n ih =>
    intro s h
    show kq3 P (fX15_holdsSome_i4 fu a1 (fX15_holdsSome_h4 fu a1 n) s.1 s.2.1 s.2.2.1 s.2.2.2)
    exact y_fX15_holdsSome_i4 hC ih h
theorem y_DX15_holdsSome {P : mwM → mwL → Prop} (hC : CPrb P) {fu : Nat} {a1 : Int32} {M : mwM} {L : mwL} (h : P M L) : kq3 P (DX15_holdsSome fu a1 M L) := by
  unfold DX15_holdsSome
  exact (y_fX15_holdsSome_h4 hC _ (0, 1, M, L) h)
theorem y_fX15_free_b121 {P : mwM → mwL → Prop} (hC : CPrb P) {fu : Nat} {a1 : Int32} {M : mwM} {L : mwL} (h : P M L) : kq2 P (fX15_free_b121 fu a1 M L) := by
  unfold fX15_free_b121
  exact (kqK2 (fun q1 => (kqM2_rb hC h (by omega) (fun M20 h2 => (kqK2 (fun q3 => (kqM2_rb hC h2 (by omega) (fun M22 h4 => (kqS2 h4)))))))))
theorem y_fX15_free_b108 {P : mwM → mwL → Prop} (hC : CPrb P) {fu : Nat} {a1 : Int32} {v2 : Int32} {s1 : Int32} {M : mwM} {L : mwL} (h : P M L) : kq2 P (fX15_free_b108 fu a1 v2 s1 M L) := by
  unfold fX15_free_b108
  exact (kqM2_rb hC h (by omega) (fun M15 h1 => (kqI2 (y_fX15_free_b121 hC h1) (kqB22 (y_DX15_tell hC h1) (fun M17 L18 h2 => (y_fX15_free_b121 hC h2))))))
theorem y_fX15_free_b85 {P : mwM → mwL → Prop} (hC : CPrb P) {fu : Nat} {a1 : Int32} {r64 : (Int32 × Int32 × mwM × mwL) → Option (mwM × mwL)} {v2 : Int32} {v3 : Int32} (hr64 : ∀ s, P s.2.2.1 s.2.2.2 → kq2 P (r64 s)) {M : mwM} {L : mwL} (h : P M L) : kq2 P (fX15_free_b85 fu a1 r64 v2 v3 M L) := by
  unfold fX15_free_b85
  exact (kqL2 (fun x14 => (hr64 (v2, x14, M, L) h)))
theorem y_fX15_free_i64 {P : mwM → mwL → Prop} (hC : CPrb P) {fu : Nat} {a1 : Int32} {r64 : (Int32 × Int32 × mwM × mwL) → Option (mwM × mwL)} {v2 : Int32} {v3 : Int32} (hr64 : ∀ s, P s.2.2.1 s.2.2.2 → kq2 P (r64 s)) {M : mwM} {L : mwL} (h : P M L) : kq2 P (fX15_free_i64 fu a1 r64 v2 v3 M L) := by
  unfold fX15_free_i64
  exact (kqI2 (kqI2 (y_fX15_free_b108 hC h) (y_fX15_free_b108 hC h)) (kqK2 (fun q1 => (kqI2 (kqB22 (y_DX15_unlock hC h) (fun M12 L13 h2 => (y_fX15_free_b85 hC hr64 h2))) (y_fX15_free_b85 hC hr64 h)))))
theorem y_fX15_free_h64 {P : mwM → mwL → Prop} (hC : CPrb P) {fu : Nat} {a1 : Int32} : ∀ n s, P s.2.2.1 s.2.2.2 → kq2 P (fX15_free_h64 fu a1 n s) := by
  intro n
  induction n with
  | zero => intro s _; exact kqN2
  | succ n ih =>
    intro s h
    show kq2 P (fX15_free_i64 fu a1 (fX15_free_h64 fu a1 n) s.1 s.2.1 s.2.2.1 s.2.2.2)
    exact y_fX15_free_i64 hC ih h
theorem y_fX15_free_b55 {P : mwM → mwL → Prop} (hC : CPrb P) {fu : Nat} {a1 : Int32} {r24 : (Int32 × Int32 × mwM × mwL) → Option (mwM × mwL)} {v2 : Int32} {v3 : Int32} {s1 : Int32} {s2 : Int32} (hr24 : ∀ s, P s.2.2.1 s.2.2.2 → kq2 P (r24 s)) {M : mwM} {L : mwL} (h : P M L) : kq2 P (fX15_free_b55 fu a1 r24 v2 v3 s1 s2 M L) := by
  unfold fX15_free_b55
  exact (kqK2 (fun q1 => (kqM2_rb hC h (by omega) (fun M6 h2 => (kqL2 (fun x7 => (hr24 (v2, x7, M6, L) h2)))))))
theorem y_fX15_free_i24 {P : mwM → mwL → Prop} (hC : CPrb P) {fu : Nat} {a1 : Int32} {r24 : (Int32 × Int32 × mwM × mwL) → Option (mwM × mwL)} {v2 : Int32} {v3 : Int32} (hr24 : ∀ s, P s.2.2.1 s.2.2.2 → kq2 P (r24 s)) {M : mwM} {L : mwL} (h : P M L) : kq2 P (fX15_free_i24 fu a1 r24 v2 v3 M L) := by
  unfold fX15_free_i24
  exact (kqI2 (y_fX15_free_h64 hC _ (v2, 1, M, L) h) (kqK2 (fun q1 => (kqI2 (y_fX15_free_b55 hC hr24 h) (kqK2 (fun q2 => (y_fX15_free_b55 hC hr24 h)))))))
theorem y_fX15_free_h24 {P : mwM → mwL → Prop} (hC : CPrb P) {fu : Nat} {a1 : Int32} : ∀ n s, P s.2.2.1 s.2.2.2 → kq2 P (fX15_free_h24 fu a1 n s) := by
  intro n
  induction n with
  | zero => intro s _; exact kqN2
  | succ n ih =>
    intro s h
    show kq2 P (fX15_free_i24 fu a1 (fX15_free_h24 fu a1 n) s.1 s.2.1 s.2.2.1 s.2.2.2)
    exact y_fX15_free_i24 hC ih h
theorem y_fX15_free_b21 {P : mwM → mwL → Prop} (hC : CPrb P) {fu : Nat} {a1 : Int32} {s0 : Int32} {M : mwM} {L : mwL} (h : P M L) : kq2 P (fX15_free_b21 fu a1 s0 M L) := by
  unfold fX15_free_b21
  exact (y_fX15_free_h24 hC _ (s0, 1, M, L) h)
theorem y_fX15_free_b16 {P : mwM → mwL → Prop} (hC : CPrb P) {fu : Nat} {a1 : Int32} {M : mwM} {L : mwL} (h : P M L) : kq2 P (fX15_free_b16 fu a1 M L) := by
  unfold fX15_free_b16
  exact (y_fX15_free_b21 hC h)
theorem y_DX15_free {P : mwM → mwL → Prop} (hC : CPrb P) {fu : Nat} {a1 : Int32} {M : mwM} {L : mwL} (h : P M L) : kq2 P (DX15_free fu a1 M L) := by
  unfold DX15_free
  exact (kqB32 (y_DX15_holdsSome hC h) (fun r25 M23 L24 h1 => (kqI2 (kqI2 (y_fX15_free_b16 hC h1) (y_fX15_free_b21 hC h1)) (y_fX15_free_b16 hC h1))))
theorem y_DX15_ends {P : mwM → mwL → Prop} (hC : CPrb P) {fu : Nat} {a1 : Int32} {M : mwM} {L : mwL} (h : P M L) : kq2 P (DX15_ends fu a1 M L) := by
  unfold DX15_ends
  exact (kqB22 (y_DX15_free hC h) (fun M1 L2 h1 => (kqK2 (fun q2 => (kqI2 (kqS2 h1) (kqK2 (fun q3 => (kqK2 (fun q4 => (kqM2_rb hC h1 (by omega) (fun M7 h5 => (kqB22 (y_DX15_begin hC h5) (fun M8 L9 h6 => (kqS2 h6))))))))))))))
theorem y_fX15_nextPart_b37 {P : mwM → mwL → Prop} (hC : CPrb P) {fu : Nat} {a1 : Int32} {r4 : (Int32 × Int32 × mwM × mwL) → Option (Int32 × mwM × mwL)} {v2 : Int32} {v3 : Int32} (hr4 : ∀ s, P s.2.2.1 s.2.2.2 → kq3 P (r4 s)) {M : mwM} {L : mwL} (h : P M L) : kq3 P (fX15_nextPart_b37 fu a1 r4 v2 v3 M L) := by
  unfold fX15_nextPart_b37
  exact (kqL3 (fun x7 => (hr4 (v2, x7, M, L) h)))
theorem y_fX15_nextPart_i4 {P : mwM → mwL → Prop} (hC : CPrb P) {fu : Nat} {a1 : Int32} {r4 : (Int32 × Int32 × mwM × mwL) → Option (Int32 × mwM × mwL)} {v2 : Int32} {v3 : Int32} (hr4 : ∀ s, P s.2.2.1 s.2.2.2 → kq3 P (r4 s)) {M : mwM} {L : mwL} (h : P M L) : kq3 P (fX15_nextPart_i4 fu a1 r4 v2 v3 M L) := by
  unfold fX15_nextPart_i4
  exact (kqI3 (kqS3 h) (kqK3 (fun q1 => (kqI3 (kqK3 (fun q2 => (kqI3 (kqS3 h) (kqL3 (fun x6 => (y_fX15_nextPart_b37 hC hr4 h)))))) (y_fX15_nextPart_b37 hC hr4 h)))))
theorem y_fX15_nextPart_h4 {P : mwM → mwL → Prop} (hC : CPrb P) {fu : Nat} {a1 : Int32} : ∀ n s, P s.2.2.1 s.2.2.2 → kq3 P (fX15_nextPart_h4 fu a1 n s) := by
  intro n
  induction n with
  | zero => intro s _; exact kqN3
  | succ n ih =>
    intro s h
    show kq3 P (fX15_nextPart_i4 fu a1 (fX15_nextPart_h4 fu a1 n) s.1 s.2.1 s.2.2.1 s.2.2.2)
    exact y_fX15_nextPart_i4 hC ih h
theorem y_DX15_nextPart {P : mwM → mwL → Prop} (hC : CPrb P) {fu : Nat} {a1 : Int32} {M : mwM} {L : mwL} (h : P M L) : kq3 P (DX15_nextPart fu a1 M L) := by
  unfold DX15_nextPart
  exact (y_fX15_nextPart_h4 hC _ (0, 0, M, L) h)
theorem y_fX15_chain_b46 {P : mwM → mwL → Prop} (hC : CPrb P) {fu : Nat} {a1 : Int32} {a2 : Int32} {M : mwM} {L : mwL} (h : P M L) : kq2 P (fX15_chain_b46 fu a1 a2 M L) := by
  unfold fX15_chain_b46
  exact (kqS2 h)
theorem y_fX15_chain_b33 {P : mwM → mwL → Prop} (hC : CPrb P) {fu : Nat} {a1 : Int32} {a2 : Int32} {M : mwM} {L : mwL} (h : P M L) : kq2 P (fX15_chain_b33 fu a1 a2 M L) := by
  unfold fX15_chain_b33
  exact (kqB32 (y_DX15_no hC h) (fun r8 M6 L7 h1 => (kqI2 (kqB22 (y_DX15_begin hC h1) (fun M10 L11 h2 => (y_fX15_chain_b46 hC h2))) (y_fX15_chain_b46 hC h1))))
theorem y_fX15_chain_b15 {P : mwM → mwL → Prop} (hC : CPrb P) {fu : Nat} {a1 : Int32} {a2 : Int32} {M : mwM} {L : mwL} (h : P M L) : kq2 P (fX15_chain_b15 fu a1 a2 M L) := by
  unfold fX15_chain_b15
  exact (kqI2 (kqB22 (y_DX15_free hC h) (fun M4 L5 h1 => (y_fX15_chain_b33 hC h1))) (kqB22 (y_DX15_ends hC h) (fun M2 L3 h2 => (y_fX15_chain_b33 hC h2))))
theorem y_DX15_chain {P : mwM → mwL → Prop} (hC : CPrb P) {fu : Nat} {a1 : Int32} {a2 : Int32} {M : mwM} {L : mwL} (h : P M L) : kq2 P (DX15_chain fu a1 a2 M L) := by
  unfold DX15_chain
  exact (kqB32 (y_DX15_no hC h) (fun r14 M12 L13 h1 => (kqI2 (y_fX15_chain_b15 hC h1) (kqB22 (y_DX15_tell hC h1) (fun M16 L17 h2 => (y_fX15_chain_b15 hC h2))))))
theorem y_fX15_act_b666 {P : mwM → mwL → Prop} (hC : CPrb P) {fu : Nat} {a1 : Int32} {a2 : Int32} {a3 : Int64} {M : mwM} {L : mwL} (h : P M L) : kq2 P (fX15_act_b666 fu a1 a2 a3 M L) := by
  unfold fX15_act_b666
  exact (kqS2 h)
theorem y_fX15_act_b654 {P : mwM → mwL → Prop} (hC : CPrb P) {fu : Nat} {a1 : Int32} {a2 : Int32} {a3 : Int64} {v6 : Int32} {M : mwM} {L : mwL} (h : P M L) : kq2 P (fX15_act_b654 fu a1 a2 a3 v6 M L) := by
  unfold fX15_act_b654
  exact (kqI2 (y_fX15_act_b666 hC h) (kqB22 (y_DX15_tell hC h) (fun M96 L97 h1 => (y_fX15_act_b666 hC h1))))
theorem y_fX15_act_b159 {P : mwM → mwL → Prop} (hC : CPrb P) {fu : Nat} {a1 : Int32} {a2 : Int32} {a3 : Int64} {v5 : Int32} {s0 : Int32} {M : mwM} {L : mwL} (h : P M L) : kq2 P (fX15_act_b159 fu a1 a2 a3 v5 s0 M L) := by
  unfold fX15_act_b159
  exact (kqI2 (kqK2 (fun q1 => (kqI2 (kqK2 (fun q2 => (kqM2_rb hC h (by omega) (fun M59 h3 => (kqK2 (fun q4 => (kqM2_rb hC h3 (by omega) (fun M61 h5 => (y_fX15_act_b654 hC h5))))))))) (y_fX15_act_b654 hC h)))) (y_fX15_act_b654 hC h))
theorem y_fX15_act_b241 {P : mwM → mwL → Prop} (hC : CPrb P) {fu : Nat} {a1 : Int32} {a2 : Int32} {a3 : Int64} {s0 : Int32} {M : mwM} {L : mwL} (h : P M L) : kq2 P (fX15_act_b241 fu a1 a2 a3 s0 M L) := by
  unfold fX15_act_b241
  exact (y_fX15_act_b654 hC h)
theorem y_fX15_act_b297 {P : mwM → mwL → Prop} (hC : CPrb P) {fu : Nat} {a1 : Int32} {a2 : Int32} {a3 : Int64} {v6 : Int32} {s2 : Int32} {M : mwM} {L : mwL} (h : P M L) : kq2 P (fX15_act_b297 fu a1 a2 a3 v6 s2 M L) := by
  unfold fX15_act_b297
  exact (kqK2 (fun q1 => (kqM2_rb hC h (by omega) (fun M66 h2 => (y_fX15_act_b654 hC h2)))))
theorem y_fX15_act_b265 {P : mwM → mwL → Prop} (hC : CPrb P) {fu : Nat} {a1 : Int32} {a2 : Int32} {a3 : Int64} {v5 : Int32} {s0 : Int32} {M : mwM} {L : mwL} (h : P M L) : kq2 P (fX15_act_b265 fu a1 a2 a3 v5 s0 M L) := by
  unfold fX15_act_b265
  exact (kqI2 (kqK2 (fun q1 => (y_fX15_act_b297 hC h))) (kqK2 (fun q2 => (y_fX15_act_b297 hC h))))
theorem y_fX15_act_b322 {P : mwM → mwL → Prop} (hC : CPrb P) {fu : Nat} {a1 : Int32} {a2 : Int32} {a3 : Int64} {v5 : Int32} {s0 : Int32} {M : mwM} {L : mwL} (h : P M L) : kq2 P (fX15_act_b322 fu a1 a2 a3 v5 s0 M L) := by
  unfold fX15_act_b322
  exact (kqI2 (kqW2_rb hC h (by omega) (fun L68 h1 => (kqK2 (fun q2 => (kqM2_rb hC h1 (by omega) (fun M70 h3 => (kqK2 (fun q4 => (kqW2_rb hC h3 (by omega) (fun L72 h5 => (y_fX15_act_b654 hC h5))))))))))) (y_fX15_act_b654 hC h))
theorem y_fX15_act_b460 {P : mwM → mwL → Prop} (hC : CPrb P) {fu : Nat} {a1 : Int32} {a2 : Int32} {a3 : Int64} {v6 : Int32} {s1 : Int32} {s2 : Int32} {M : mwM} {L : mwL} (h : P M L) : kq2 P (fX15_act_b460 fu a1 a2 a3 v6 s1 s2 M L) := by
  unfold fX15_act_b460
  exact (kqK2 (fun q1 => (kqM2_rb hC h (by omega) (fun M83 h2 => (y_fX15_act_b654 hC h2)))))
theorem y_fX15_act_b430 {P : mwM → mwL → Prop} (hC : CPrb P) {fu : Nat} {a1 : Int32} {a2 : Int32} {a3 : Int64} {r388 : (Int32 × Int32 × Int32 × mwM × mwL) → Option (mwM × mwL)} {v5 : Int32} {v7 : Int32} {s0 : Int32} (hr388 : ∀ s, P s.2.2.2.1 s.2.2.2.2 → kq2 P (r388 s)) {M : mwM} {L : mwL} (h : P M L) : kq2 P (fX15_act_b430 fu a1 a2 a3 r388 v5 v7 s0 M L) := by
  unfold fX15_act_b430
  exact (kqL2 (fun x81 => (hr388 (v5, s0, x81, M, L) h)))
theorem y_fX15_act_b428 {P : mwM → mwL → Prop} (hC : CPrb P) {fu : Nat} {a1 : Int32} {a2 : Int32} {a3 : Int64} {r388 : (Int32 × Int32 × Int32 × mwM × mwL) → Option (mwM × mwL)} {v5 : Int32} {v6 : Int32} {v7 : Int32} (hr388 : ∀ s, P s.2.2.2.1 s.2.2.2.2 → kq2 P (r388 s)) {M : mwM} {L : mwL} (h : P M L) : kq2 P (fX15_act_b428 fu a1 a2 a3 r388 v5 v6 v7 M L) := by
  unfold fX15_act_b428
  exact (y_fX15_act_b430 hC hr388 h)
theorem y_fX15_act_i388 {P : mwM → mwL → Prop} (hC : CPrb P) {fu : Nat} {a1 : Int32} {a2 : Int32} {a3 : Int64} {r388 : (Int32 × Int32 × Int32 × mwM × mwL) → Option (mwM × mwL)} {v5 : Int32} {v6 : Int32} {v7 : Int32} (hr388 : ∀ s, P s.2.2.2.1 s.2.2.2.2 → kq2 P (r388 s)) {M : mwM} {L : mwL} (h : P M L) : kq2 P (fX15_act_i388 fu a1 a2 a3 r388 v5 v6 v7 M L) := by
  unfold fX15_act_i388
  exact (kqI2 (kqI2 (y_fX15_act_b460 hC h) (kqK2 (fun q1 => (y_fX15_act_b460 hC h)))) (kqK2 (fun q2 => (kqI2 (kqK2 (fun q3 => (kqK2 (fun q4 => (kqI2 (y_fX15_act_b428 hC hr388 h) (y_fX15_act_b430 hC hr388 h)))))) (y_fX15_act_b428 hC hr388 h)))))
theorem y_fX15_act_h388 {P : mwM → mwL → Prop} (hC : CPrb P) {fu : Nat} {a1 : Int32} {a2 : Int32} {a3 : Int64} : ∀ n s, P s.2.2.2.1 s.2.2.2.2 → kq2 P (fX15_act_h388 fu a1 a2 a3 n s) := by
  intro n
  induction n with
  | zero => intro s _; exact kqN2
  | succ n ih =>
    intro s h
    show kq2 P (fX15_act_i388 fu a1 a2 a3 (fX15_act_h388 fu a1 a2 a3 n) s.1 s.2.1 s.2.2.1 s.2.2.2.1 s.2.2.2.2)
    exact y_fX15_act_i388 hC ih h
theorem y_fX15_act_b383 {P : mwM → mwL → Prop} (hC : CPrb P) {fu : Nat} {a1 : Int32} {a2 : Int32} {a3 : Int64} {v5 : Int32} {s0 : Int32} {M : mwM} {L : mwL} (h : P M L) : kq2 P (fX15_act_b383 fu a1 a2 a3 v5 s0 M L) := by
  unfold fX15_act_b383
  exact (y_fX15_act_h388 hC _ (v5, s0, 1, M, L) h)
theorem y_fX15_act_b487 {P : mwM → mwL → Prop} (hC : CPrb P) {fu : Nat} {a1 : Int32} {a2 : Int32} {a3 : Int64} {v5 : Int32} {s0 : Int32} {M : mwM} {L : mwL} (h : P M L) : kq2 P (fX15_act_b487 fu a1 a2 a3 v5 s0 M L) := by
  unfold fX15_act_b487
  exact (kqK2 (fun q1 => (kqM2_rb hC h (by omega) (fun M85 h2 => (y_fX15_act_b654 hC h2)))))
theorem y_fX15_act_b523 {P : mwM → mwL → Prop} (hC : CPrb P) {fu : Nat} {a1 : Int32} {a2 : Int32} {a3 : Int64} {v5 : Int32} {s0 : Int32} {M : mwM} {L : mwL} (h : P M L) : kq2 P (fX15_act_b523 fu a1 a2 a3 v5 s0 M L) := by
  unfold fX15_act_b523
  exact (kqI2 (kqB22 (y_DX15_unlock hC h) (fun M87 L88 h1 => (y_fX15_act_b654 hC h1))) (y_fX15_act_b654 hC h))
theorem y_fX15_act_b583 {P : mwM → mwL → Prop} (hC : CPrb P) {fu : Nat} {a1 : Int32} {a2 : Int32} {a3 : Int64} {s0 : Int32} {M : mwM} {L : mwL} (h : P M L) : kq2 P (fX15_act_b583 fu a1 a2 a3 s0 M L) := by
  unfold fX15_act_b583
  exact (kqI2 (kqM2_rb hC h (by omega) (fun M90 h1 => (kqW2_rb hC h1 (by omega) (fun L91 h2 => (kqM2_rb hC h2 (by omega) (fun M92 h3 => (y_fX15_act_b654 hC h3))))))) (y_fX15_act_b654 hC h))
theorem y_fX15_act_b577 {P : mwM → mwL → Prop} (hC : CPrb P) {fu : Nat} {a1 : Int32} {a2 : Int32} {a3 : Int64} {M : mwM} {L : mwL} (h : P M L) : kq2 P (fX15_act_b577 fu a1 a2 a3 M L) := by
  unfold fX15_act_b577
  exact (y_fX15_act_b583 hC h)
theorem y_fX15_act_b651 {P : mwM → mwL → Prop} (hC : CPrb P) {fu : Nat} {a1 : Int32} {a2 : Int32} {a3 : Int64} {v6 : Int32} {s1 : Int32} {M : mwM} {L : mwL} (h : P M L) : kq2 P (fX15_act_b651 fu a1 a2 a3 v6 s1 M L) := by
  unfold fX15_act_b651
  exact (kqM2_rb hC h (by omega) (fun M94 h1 => (y_fX15_act_b654 hC h1)))
theorem y_fX15_act_b635 {P : mwM → mwL → Prop} (hC : CPrb P) {fu : Nat} {a1 : Int32} {a2 : Int32} {a3 : Int64} {s0 : Int32} {M : mwM} {L : mwL} (h : P M L) : kq2 P (fX15_act_b635 fu a1 a2 a3 s0 M L) := by
  unfold fX15_act_b635
  exact (kqI2 (y_fX15_act_b651 hC h) (y_fX15_act_b651 hC h))
theorem y_fX15_act_b629 {P : mwM → mwL → Prop} (hC : CPrb P) {fu : Nat} {a1 : Int32} {a2 : Int32} {a3 : Int64} {M : mwM} {L : mwL} (h : P M L) : kq2 P (fX15_act_b629 fu a1 a2 a3 M L) := by
  unfold fX15_act_b629
  exact (y_fX15_act_b635 hC h)
theorem y_fX15_act_b88 {P : mwM → mwL → Prop} (hC : CPrb P) {fu : Nat} {a1 : Int32} {a2 : Int32} {a3 : Int64} {v5 : Int32} {v6 : Int32} {M : mwM} {L : mwL} (h : P M L) : kq2 P (fX15_act_b88 fu a1 a2 a3 v5 v6 M L) := by
  unfold fX15_act_b88
  exact (kqK2 (fun q1 => (kqK2 (fun q2 => (kqM2_rb hC h (by omega) (fun M3 h3 => (kqI2 (kqB32 (y_DX15_no hC h3) (fun r51 M49 L50 h4 => (kqI2 (kqB22 (y_DX15_begin hC h4) (fun M53 L54 h5 => (y_fX15_act_b654 hC h5))) (y_fX15_act_b654 hC h4)))) (kqI2 (kqK2 (fun q6 => (kqI2 (y_fX15_act_b159 hC h3) (kqB32 (y_DX15_holdsSome hC h3) (fun r47 M45 L46 h7 => (kqI2 (y_fX15_act_b159 hC h7) (y_fX15_act_b159 hC h7))))))) (kqI2 (kqL2 (fun x33 => (kqB32 (y_DX15_no hC h3) (fun r36 M34 L35 h8 => (kqI2 (kqB32 (y_DX15_set hC h8) (fun r41 M39 L40 h9 => (kqI2 (y_fX15_act_b241 hC h9) (y_fX15_act_b241 hC h9)))) (y_fX15_act_b241 hC h8)))))) (kqI2 (kqK2 (fun q10 => (kqI2 (y_fX15_act_b265 hC h3) (y_fX15_act_b265 hC h3)))) (kqI2 (kqK2 (fun q11 => (kqI2 (y_fX15_act_b322 hC h3) (y_fX15_act_b322 hC h3)))) (kqI2 (kqK2 (fun q12 => (kqI2 (y_fX15_act_b383 hC h3) (y_fX15_act_b383 hC h3)))) (kqI2 (kqK2 (fun q13 => (kqI2 (y_fX15_act_b487 hC h3) (y_fX15_act_b487 hC h3)))) (kqI2 (kqK2 (fun q14 => (kqI2 (y_fX15_act_b523 hC h3) (y_fX15_act_b523 hC h3)))) (kqI2 (kqK2 (fun q15 => (kqM2_rb hC h3 (by omega) (fun M21 h16 => (y_fX15_act_b654 hC h16))))) (kqI2 (kqK2 (fun q17 => (kqI2 (kqI2 (y_fX15_act_b583 hC h3) (y_fX15_act_b577 hC h3)) (y_fX15_act_b577 hC h3)))) (kqK2 (fun q18 => (kqI2 (kqI2 (y_fX15_act_b629 hC h3) (y_fX15_act_b635 hC h3)) (y_fX15_act_b629 hC h3))))))))))))))))))))
theorem y_DX15_act {P : mwM → mwL → Prop} (hC : CPrb P) {fu : Nat} {a1 : Int32} {a2 : Int32} {a3 : Int64} {M : mwM} {L : mwL} (h : P M L) : kq2 P (DX15_act fu a1 a2 a3 M L) := by
  unfold DX15_act
  exact (kqL2 (fun x98 => (kqI2 (kqB22 (y_DX15_chain hC h) (fun M113 L114 h1 => (kqS2 h1))) (kqI2 (kqB22 (y_DX15_ends hC h) (fun M111 L112 h2 => (kqS2 h2))) (kqI2 (kqK2 (fun q3 => (kqI2 (y_fX15_act_b88 hC h) (kqK2 (fun q4 => (kqI2 (y_fX15_act_b88 hC h) (kqW2_rb hC h (by omega) (fun L106 h5 => (kqK2 (fun q6 => (kqM2_rb hC h5 (by omega) (fun M108 h7 => (kqK2 (fun q8 => (kqW2_rb hC h7 (by omega) (fun L110 h9 => (kqS2 h9))))))))))))))))) (y_fX15_act_b88 hC h))))))
theorem y_fX15_height_b45 {P : mwM → mwL → Prop} (hC : CPrb P) {fu : Nat} {a1 : Int32} {r9 : (Int32 × Int32 × mwM × mwL) → Option (Int32 × mwM × mwL)} {v3 : Int32} {s0 : Int32} (hr9 : ∀ s, P s.2.2.1 s.2.2.2 → kq3 P (r9 s)) {M : mwM} {L : mwL} (h : P M L) : kq3 P (fX15_height_b45 fu a1 r9 v3 s0 M L) := by
  unfold fX15_height_b45
  exact (kqL3 (fun x7 => (hr9 (s0, x7, M, L) h)))
theorem y_fX15_height_b44 {P : mwM → mwL → Prop} (hC : CPrb P) {fu : Nat} {a1 : Int32} {r9 : (Int32 × Int32 × mwM × mwL) → Option (Int32 × mwM × mwL)} {v2 : Int32} {v3 : Int32} (hr9 : ∀ s, P s.2.2.1 s.2.2.2 → kq3 P (r9 s)) {M : mwM} {L : mwL} (h : P M L) : kq3 P (fX15_height_b44 fu a1 r9 v2 v3 M L) := by
  unfold fX15_height_b44
  exact (y_fX15_height_b45 hC hr9 h)
theorem y_fX15_height_i9 {P : mwM → mwL → Prop} (hC : CPrb P) {fu : Nat} {a1 : Int32} {r9 : (Int32 × Int32 × mwM × mwL) → Option (Int32 × mwM × mwL)} {v2 : Int32} {v3 : Int32} (hr9 : ∀ s, P s.2.2.1 s.2.2.2 → kq3 P (r9 s)) {M : mwM} {L : mwL} (h : P M L) : kq3 P (fX15_height_i9 fu a1 r9 v2 v3 M L) := by
  unfold fX15_height_i9
  exact (kqI3 (kqS3 h) (kqK3 (fun q1 => (kqI3 (kqK3 (fun q2 => (kqI3 (y_fX15_height_b44 hC hr9 h) (kqK3 (fun q3 => (y_fX15_height_b45 hC hr9 h)))))) (y_fX15_height_b44 hC hr9 h)))))
theorem y_fX15_height_h9 {P : mwM → mwL → Prop} (hC : CPrb P) {fu : Nat} {a1 : Int32} : ∀ n s, P s.2.2.1 s.2.2.2 → kq3 P (fX15_height_h9 fu a1 n s) := by
  intro n
  induction n with
  | zero => intro s _; exact kqN3
  | succ n ih =>
    intro s h
    show kq3 P (fX15_height_i9 fu a1 (fX15_height_h9 fu a1 n) s.1 s.2.1 s.2.2.1 s.2.2.2)
    exact y_fX15_height_i9 hC ih h
theorem y_DX15_height {P : mwM → mwL → Prop} (hC : CPrb P) {fu : Nat} {a1 : Int32} {M : mwM} {L : mwL} (h : P M L) : kq3 P (DX15_height fu a1 M L) := by
  unfold DX15_height
  exact (kqK3 (fun q1 => (kqL3 (fun x9 => (y_fX15_height_h9 hC _ (x9, 1, M, L) h)))))
theorem y_fX15_findCeilings_b87 {P : mwM → mwL → Prop} (hC : CPrb P) {fu : Nat} {r23 : (Int32 × mwM × mwL) → Option (mwM × mwL)} {v1 : Int32} (hr23 : ∀ s, P s.2.1 s.2.2 → kq2 P (r23 s)) {M : mwM} {L : mwL} (h : P M L) : kq2 P (fX15_findCeilings_b87 fu r23 v1 M L) := by
  unfold fX15_findCeilings_b87
  exact (kqL2 (fun x18 => (hr23 (x18, M, L) h)))
theorem y_fX15_findCeilings_i23 {P : mwM → mwL → Prop} (hC : CPrb P) {fu : Nat} {r23 : (Int32 × mwM × mwL) → Option (mwM × mwL)} {v1 : Int32} (hr23 : ∀ s, P s.2.1 s.2.2 → kq2 P (r23 s)) {M : mwM} {L : mwL} (h : P M L) : kq2 P (fX15_findCeilings_i23 fu r23 v1 M L) := by
  unfold fX15_findCeilings_i23
  exact (kqI2 (kqS2 h) (kqK2 (fun q1 => (kqL2 (fun x7 => (kqK2 (fun q2 => (kqI2 (kqK2 (fun q3 => (kqK2 (fun q4 => (kqK2 (fun q5 => (kqI2 (y_fX15_findCeilings_b87 hC hr23 h) (kqK2 (fun q6 => (kqK2 (fun q7 => (kqK2 (fun q8 => (kqM2_rb hC h (by omega) (fun M17 h9 => (y_fX15_findCeilings_b87 hC hr23 h9)))))))))))))))) (y_fX15_findCeilings_b87 hC hr23 h)))))))))
theorem y_fX15_findCeilings_h23 {P : mwM → mwL → Prop} (hC : CPrb P) {fu : Nat} : ∀ n s, P s.2.1 s.2.2 → kq2 P (fX15_findCeilings_h23 fu n s) := by
  intro n
  induction n with
  | zero => intro s _; exact kqN2
  | succ n ih =>
    intro s h
    show kq2 P (fX15_findCeilings_i23 fu (fX15_findCeilings_h23 fu n) s.1 s.2.1 s.2.2)
    exact y_fX15_findCeilings_i23 hC ih h
theorem y_fX15_findCeilings_i2 {P : mwM → mwL → Prop} (hC : CPrb P) {fu : Nat} {r2 : (Int32 × mwM × mwL) → Option (mwM × mwL)} {v1 : Int32} (hr2 : ∀ s, P s.2.1 s.2.2 → kq2 P (r2 s)) {M : mwM} {L : mwL} (h : P M L) : kq2 P (fX15_findCeilings_i2 fu r2 v1 M L) := by
  unfold fX15_findCeilings_i2
  exact (kqI2 (y_fX15_findCeilings_h23 hC _ (0, M, L) h) (kqK2 (fun q1 => (kqM2_rb hC h (by omega) (fun M3 h2 => (kqL2 (fun x4 => (hr2 (x4, M3, L) h2))))))))
theorem y_fX15_findCeilings_h2 {P : mwM → mwL → Prop} (hC : CPrb P) {fu : Nat} : ∀ n s, P s.2.1 s.2.2 → kq2 P (fX15_findCeilings_h2 fu n s) := by
  intro n
  induction n with
  | zero => intro s _; exact kqN2
  | succ n ih =>
    intro s h
    show kq2 P (fX15_findCeilings_i2 fu (fX15_findCeilings_h2 fu n) s.1 s.2.1 s.2.2)
    exact y_fX15_findCeilings_i2 hC ih h
theorem y_DX15_findCeilings {P : mwM → mwL → Prop} (hC : CPrb P) {fu : Nat} {M : mwM} {L : mwL} (h : P M L) : kq2 P (DX15_findCeilings fu M L) := by
  unfold DX15_findCeilings
  exact (y_fX15_findCeilings_h2 hC _ (1, M, L) h)
theorem y_fX15_runningOf_b37 {P : mwM → mwL → Prop} (hC : CPrb P) {fu : Nat} {a1 : Int32} {r4 : (Int32 × Int32 × mwM × mwL) → Option (Int32 × mwM × mwL)} {v3 : Int32} {s0 : Int32} (hr4 : ∀ s, P s.2.2.1 s.2.2.2 → kq3 P (r4 s)) {M : mwM} {L : mwL} (h : P M L) : kq3 P (fX15_runningOf_b37 fu a1 r4 v3 s0 M L) := by
  unfold fX15_runningOf_b37
  exact (kqL3 (fun x6 => (hr4 (s0, x6, M, L) h)))
theorem y_fX15_runningOf_b36 {P : mwM → mwL → Prop} (hC : CPrb P) {fu : Nat} {a1 : Int32} {r4 : (Int32 × Int32 × mwM × mwL) → Option (Int32 × mwM × mwL)} {v2 : Int32} {v3 : Int32} (hr4 : ∀ s, P s.2.2.1 s.2.2.2 → kq3 P (r4 s)) {M : mwM} {L : mwL} (h : P M L) : kq3 P (fX15_runningOf_b36 fu a1 r4 v2 v3 M L) := by
  unfold fX15_runningOf_b36
  exact (y_fX15_runningOf_b37 hC hr4 h)
theorem y_fX15_runningOf_i4 {P : mwM → mwL → Prop} (hC : CPrb P) {fu : Nat} {a1 : Int32} {r4 : (Int32 × Int32 × mwM × mwL) → Option (Int32 × mwM × mwL)} {v2 : Int32} {v3 : Int32} (hr4 : ∀ s, P s.2.2.1 s.2.2.2 → kq3 P (r4 s)) {M : mwM} {L : mwL} (h : P M L) : kq3 P (fX15_runningOf_i4 fu a1 r4 v2 v3 M L) := by
  unfold fX15_runningOf_i4
  exact (kqI3 (kqS3 h) (kqK3 (fun q1 => (kqI3 (kqK3 (fun q2 => (kqI3 (y_fX15_runningOf_b37 hC hr4 h) (y_fX15_runningOf_b36 hC hr4 h)))) (y_fX15_runningOf_b36 hC hr4 h)))))
theorem y_fX15_runningOf_h4 {P : mwM → mwL → Prop} (hC : CPrb P) {fu : Nat} {a1 : Int32} : ∀ n s, P s.2.2.1 s.2.2.2 → kq3 P (fX15_runningOf_h4 fu a1 n s) := by
  intro n
  induction n with
  | zero => intro s _; exact kqN3
  | succ n ih =>
    intro s h
    show kq3 P (fX15_runningOf_i4 fu a1 (fX15_runningOf_h4 fu a1 n) s.1 s.2.1 s.2.2.1 s.2.2.2)
    exact y_fX15_runningOf_i4 hC ih h
theorem y_DX15_runningOf {P : mwM → mwL → Prop} (hC : CPrb P) {fu : Nat} {a1 : Int32} {M : mwM} {L : mwL} (h : P M L) : kq3 P (DX15_runningOf fu a1 M L) := by
  unfold DX15_runningOf
  exact (y_fX15_runningOf_h4 hC _ (0, 1, M, L) h)
theorem y_fX15_choose_b170 {P : mwM → mwL → Prop} (hC : CPrb P) {fu : Nat} {a1 : Int32} {v3 : Int32} {M : mwM} {L : mwL} (h : P M L) : kq3 P (fX15_choose_b170 fu a1 v3 M L) := by
  unfold fX15_choose_b170
  exact (kqS3 h)
theorem y_fX15_choose_b159 {P : mwM → mwL → Prop} (hC : CPrb P) {fu : Nat} {a1 : Int32} {v3 : Int32} {M : mwM} {L : mwL} (h : P M L) : kq3 P (fX15_choose_b159 fu a1 v3 M L) := by
  unfold fX15_choose_b159
  exact (kqI3 (y_fX15_choose_b170 hC h) (kqK3 (fun q1 => (kqM3_rb hC h (by omega) (fun M27 h2 => (y_fX15_choose_b170 hC h2))))))
theorem y_fX15_choose_b135 {P : mwM → mwL → Prop} (hC : CPrb P) {fu : Nat} {a1 : Int32} {r50 : (Int32 × Int32 × Int32 × Int32 × mwM × mwL) → Option (Int32 × mwM × mwL)} {v2 : Int32} {v3 : Int32} {v4 : Int32} {v5 : Int32} (hr50 : ∀ s, P s.2.2.2.2.1 s.2.2.2.2.2 → kq3 P (r50 s)) {M : mwM} {L : mwL} (h : P M L) : kq3 P (fX15_choose_b135 fu a1 r50 v2 v3 v4 v5 M L) := by
  unfold fX15_choose_b135
  exact (kqL3 (fun x24 => (hr50 (v2, v3, v4, x24, M, L) h)))
theorem y_fX15_choose_b128 {P : mwM → mwL → Prop} (hC : CPrb P) {fu : Nat} {a1 : Int32} {r50 : (Int32 × Int32 × Int32 × Int32 × mwM × mwL) → Option (Int32 × mwM × mwL)} {v2 : Int32} {v5 : Int32} {v6 : Int32} (hr50 : ∀ s, P s.2.2.2.2.1 s.2.2.2.2.2 → kq3 P (r50 s)) {M : mwM} {L : mwL} (h : P M L) : kq3 P (fX15_choose_b128 fu a1 r50 v2 v5 v6 M L) := by
  unfold fX15_choose_b128
  exact (y_fX15_choose_b135 hC hr50 h)
theorem y_fX15_choose_i50 {P : mwM → mwL → Prop} (hC : CPrb P) {fu : Nat} {a1 : Int32} {r50 : (Int32 × Int32 × Int32 × Int32 × mwM × mwL) → Option (Int32 × mwM × mwL)} {v2 : Int32} {v3 : Int32} {v4 : Int32} {v5 : Int32} (hr50 : ∀ s, P s.2.2.2.2.1 s.2.2.2.2.2 → kq3 P (r50 s)) {M : mwM} {L : mwL} (h : P M L) : kq3 P (fX15_choose_i50 fu a1 r50 v2 v3 v4 v5 M L) := by
  unfold fX15_choose_i50
  exact (kqI3 (kqI3 (y_fX15_choose_b159 hC h) (kqK3 (fun q1 => (kqM3_rb hC h (by omega) (fun M8 h2 => (kqK3 (fun q3 => (kqM3_rb hC h2 (by omega) (fun M10 h4 => (y_fX15_choose_b159 hC h4)))))))))) (kqK3 (fun q5 => (kqI3 (kqK3 (fun q6 => (kqI3 (kqB33 (y_DX15_height hC h) (fun r17 M15 L16 h7 => (kqI3 (y_fX15_choose_b128 hC hr50 h7) (kqI3 (kqI3 (y_fX15_choose_b135 hC hr50 h7) (kqK3 (fun q8 => (kqK3 (fun q9 => (kqI3 (y_fX15_choose_b135 hC hr50 h7) (y_fX15_choose_b128 hC hr50 h7))))))) (y_fX15_choose_b135 hC hr50 h7))))) (y_fX15_choose_b135 hC hr50 h)))) (y_fX15_choose_b135 hC hr50 h)))))
theorem y_fX15_choose_h50 {P : mwM → mwL → Prop} (hC : CPrb P) {fu : Nat} {a1 : Int32} : ∀ n s, P s.2.2.2.2.1 s.2.2.2.2.2 → kq3 P (fX15_choose_h50 fu a1 n s) := by
  intro n
  induction n with
  | zero => intro s _; exact kqN3
  | succ n ih =>
    intro s h
    show kq3 P (fX15_choose_i50 fu a1 (fX15_choose_h50 fu a1 n) s.1 s.2.1 s.2.2.1 s.2.2.2.1 s.2.2.2.2.1 s.2.2.2.2.2)
    exact y_fX15_choose_i50 hC ih h
theorem y_fX15_choose_b45 {P : mwM → mwL → Prop} (hC : CPrb P) {fu : Nat} {a1 : Int32} {v2 : Int32} {v3 : Int32} {s0 : Int32} {M : mwM} {L : mwL} (h : P M L) : kq3 P (fX15_choose_b45 fu a1 v2 v3 s0 M L) := by
  unfold fX15_choose_b45
  exact (y_fX15_choose_h50 hC _ (v2, v3, s0, 1, M, L) h)
theorem y_fX15_choose_b30 {P : mwM → mwL → Prop} (hC : CPrb P) {fu : Nat} {a1 : Int32} {v2 : Int32} {M : mwM} {L : mwL} (h : P M L) : kq3 P (fX15_choose_b30 fu a1 v2 M L) := by
  unfold fX15_choose_b30
  exact (kqI3 (y_fX15_choose_b45 hC h) (kqB33 (y_DX15_height hC h) (fun r4 M2 L3 h1 => (y_fX15_choose_b45 hC h1))))
theorem y_DX15_choose {P : mwM → mwL → Prop} (hC : CPrb P) {fu : Nat} {a1 : Int32} {M : mwM} {L : mwL} (h : P M L) : kq3 P (DX15_choose fu a1 M L) := by
  unfold DX15_choose
  exact (kqB33 (y_DX15_runningOf hC h) (fun r30 M28 L29 h1 => (kqI3 (y_fX15_choose_b30 hC h1) (kqK3 (fun q2 => (kqI3 (kqK3 (fun q3 => (kqI3 (kqS3 h1) (y_fX15_choose_b30 hC h1)))) (y_fX15_choose_b30 hC h1)))))))
theorem y_fX15_atHand_b86 {P : mwM → mwL → Prop} (hC : CPrb P) {fu : Nat} {r4 : (Int32 × Int32 × mwM × mwL) → Option (Int32 × mwM × mwL)} {v1 : Int32} {v2 : Int32} (hr4 : ∀ s, P s.2.2.1 s.2.2.2 → kq3 P (r4 s)) {M : mwM} {L : mwL} (h : P M L) : kq3 P (fX15_atHand_b86 fu r4 v1 v2 M L) := by
  unfold fX15_atHand_b86
  exact (kqL3 (fun x14 => (hr4 (v1, x14, M, L) h)))
theorem y_fX15_atHand_b84 {P : mwM → mwL → Prop} (hC : CPrb P) {fu : Nat} {r4 : (Int32 × Int32 × mwM × mwL) → Option (Int32 × mwM × mwL)} {v2 : Int32} (hr4 : ∀ s, P s.2.2.1 s.2.2.2 → kq3 P (r4 s)) {M : mwM} {L : mwL} (h : P M L) : kq3 P (fX15_atHand_b84 fu r4 v2 M L) := by
  unfold fX15_atHand_b84
  exact (y_fX15_atHand_b86 hC hr4 h)
theorem y_fX15_atHand_b60 {P : mwM → mwL → Prop} (hC : CPrb P) {fu : Nat} {r4 : (Int32 × Int32 × mwM × mwL) → Option (Int32 × mwM × mwL)} {v1 : Int32} {v2 : Int32} {s0 : Int32} (hr4 : ∀ s, P s.2.2.1 s.2.2.2 → kq3 P (r4 s)) {M : mwM} {L : mwL} (h : P M L) : kq3 P (fX15_atHand_b60 fu r4 v1 v2 s0 M L) := by
  unfold fX15_atHand_b60
  exact (kqI3 (y_fX15_atHand_b86 hC hr4 h) (kqI3 (y_fX15_atHand_b84 hC hr4 h) (kqK3 (fun q1 => (kqK3 (fun q2 => (kqI3 (y_fX15_atHand_b86 hC hr4 h) (y_fX15_atHand_b84 hC hr4 h))))))))
theorem y_fX15_atHand_b59 {P : mwM → mwL → Prop} (hC : CPrb P) {fu : Nat} {r4 : (Int32 × Int32 × mwM × mwL) → Option (Int32 × mwM × mwL)} {v1 : Int32} {v2 : Int32} (hr4 : ∀ s, P s.2.2.1 s.2.2.2 → kq3 P (r4 s)) {M : mwM} {L : mwL} (h : P M L) : kq3 P (fX15_atHand_b59 fu r4 v1 v2 M L) := by
  unfold fX15_atHand_b59
  exact (y_fX15_atHand_b60 hC hr4 h)
theorem y_fX15_atHand_b55 {P : mwM → mwL → Prop} (hC : CPrb P) {fu : Nat} {r4 : (Int32 × Int32 × mwM × mwL) → Option (Int32 × mwM × mwL)} {v1 : Int32} {v2 : Int32} (hr4 : ∀ s, P s.2.2.1 s.2.2.2 → kq3 P (r4 s)) {M : mwM} {L : mwL} (h : P M L) : kq3 P (fX15_atHand_b55 fu r4 v1 v2 M L) := by
  unfold fX15_atHand_b55
  exact (y_fX15_atHand_b60 hC hr4 h)
theorem y_fX15_atHand_i4 {P : mwM → mwL → Prop} (hC : CPrb P) {fu : Nat} {r4 : (Int32 × Int32 × mwM × mwL) → Option (Int32 × mwM × mwL)} {v1 : Int32} {v2 : Int32} (hr4 : ∀ s, P s.2.2.1 s.2.2.2 → kq3 P (r4 s)) {M : mwM} {L : mwL} (h : P M L) : kq3 P (fX15_atHand_i4 fu r4 v1 v2 M L) := by
  unfold fX15_atHand_i4
  exact (kqI3 (kqS3 h) (kqK3 (fun q1 => (kqI3 (y_fX15_atHand_b59 hC hr4 h) (kqK3 (fun q2 => (kqI3 (y_fX15_atHand_b59 hC hr4 h) (kqK3 (fun q3 => (kqI3 (y_fX15_atHand_b55 hC hr4 h) (kqI3 (y_fX15_atHand_b55 hC hr4 h) (y_fX15_atHand_b59 hC hr4 h))))))))))))
theorem y_fX15_atHand_h4 {P : mwM → mwL → Prop} (hC : CPrb P) {fu : Nat} : ∀ n s, P s.2.2.1 s.2.2.2 → kq3 P (fX15_atHand_h4 fu n s) := by
  intro n
  induction n with
  | zero => intro s _; exact kqN3
  | succ n ih =>
    intro s h
    show kq3 P (fX15_atHand_i4 fu (fX15_atHand_h4 fu n) s.1 s.2.1 s.2.2.1 s.2.2.2)
    exact y_fX15_atHand_i4 hC ih h
theorem y_DX15_atHand {P : mwM → mwL → Prop} (hC : CPrb P) {fu : Nat} {M : mwM} {L : mwL} (h : P M L) : kq3 P (DX15_atHand fu M L) := by
  unfold DX15_atHand
  exact (y_fX15_atHand_h4 hC _ (((-1)), 0, M, L) h)
theorem y_fX15_step_b41 {P : mwM → mwL → Prop} (hC : CPrb P) {fu : Nat} {a1 : Int32} {M : mwM} {L : mwL} (h : P M L) : kq3 P (fX15_step_b41 fu a1 M L) := by
  unfold fX15_step_b41
  exact (kqS3 h)
theorem y_fX15_step_b93 {P : mwM → mwL → Prop} (hC : CPrb P) {fu : Nat} {a1 : Int32} {M : mwM} {L : mwL} (h : P M L) : kq3 P (fX15_step_b93 fu a1 M L) := by
  unfold fX15_step_b93
  exact (kqS3 h)
theorem y_fX15_step_b64 {P : mwM → mwL → Prop} (hC : CPrb P) {fu : Nat} {a1 : Int32} {v2 : Int32} {v3 : Int32} {M : mwM} {L : mwL} (h : P M L) : kq3 P (fX15_step_b64 fu a1 v2 v3 M L) := by
  unfold fX15_step_b64
  exact (kqI3 (kqK3 (fun q1 => (kqK3 (fun q2 => (kqB23 (y_DX15_act hC h) (fun M18 L19 h3 => (y_fX15_step_b93 hC h3))))))) (kqB23 (y_DX15_ends hC h) (fun M20 L21 h4 => (y_fX15_step_b93 hC h4))))
theorem y_fX15_step_b13 {P : mwM → mwL → Prop} (hC : CPrb P) {fu : Nat} {a1 : Int32} {M : mwM} {L : mwL} (h : P M L) : kq3 P (fX15_step_b13 fu a1 M L) := by
  unfold fX15_step_b13
  exact (kqB33 (y_DX15_choose hC h) (fun r3 M1 L2 h1 => (kqI3 (y_fX15_step_b41 hC h1) (kqK3 (fun q2 => (kqI3 (kqK3 (fun q3 => (kqI3 (kqB33 (y_DX15_nextPart hC h1) (fun r11 M9 L10 h4 => (kqI3 (y_fX15_step_b64 hC h4) (kqK3 (fun q5 => (kqI3 (kqS3 h4) (y_fX15_step_b64 hC h4))))))) (y_fX15_step_b41 hC h1)))) (y_fX15_step_b41 hC h1)))))))
theorem y_DX15_step {P : mwM → mwL → Prop} (hC : CPrb P) {fu : Nat} {a1 : Int32} {M : mwM} {L : mwL} (h : P M L) : kq3 P (DX15_step fu a1 M L) := by
  unfold DX15_step
  exact (kqI3 (kqB33 (y_DX15_atHand hC h) (fun r25 M23 L24 h1 => (kqI3 (y_fX15_step_b13 hC h1) (kqS3 h1)))) (y_fX15_step_b13 hC h))
theorem y_fX15_pass_b73 {P : mwM → mwL → Prop} (hC : CPrb P) {fu : Nat} {a1 : Int32} {M : mwM} {L : mwL} (h : P M L) : kq2 P (fX15_pass_b73 fu a1 M L) := by
  unfold fX15_pass_b73
  exact (kqK2 (fun q1 => (kqK2 (fun q2 => (kqW2_rb hC h (by omega) (fun L3 h3 => (kqK2 (fun q4 => (kqI2 (kqK2 (fun q5 => (kqW2_rb hC h3 (by omega) (fun L7 h6 => (kqK2 (fun q7 => (kqK2 (fun q8 => (kqM2_rb hC h6 (by omega) (fun M10 h9 => (kqS2 h9))))))))))) (kqS2 h3))))))))))
theorem y_DX15_pass {P : mwM → mwL → Prop} (hC : CPrb P) {fu : Nat} {a1 : Int32} {M : mwM} {L : mwL} (h : P M L) : kq2 P (DX15_pass fu a1 M L) := by
  unfold DX15_pass
  exact (kqK2 (fun q1 => (kqK2 (fun q2 => (kqW2_rb hC h (by omega) (fun L13 h3 => (kqK2 (fun q4 => (kqI2 (kqK2 (fun q5 => (kqI2 (kqK2 (fun q6 => (kqI2 (y_fX15_pass_b73 hC h3) (kqB32 (y_DX15_nextPart hC h3) (fun r22 M20 L21 h7 => (kqK2 (fun q8 => (kqK2 (fun q9 => (kqW2_rb hC h7 (by omega) (fun L25 h10 => (y_fX15_pass_b73 hC h10)))))))))))) (kqK2 (fun q11 => (kqM2_rb hC h3 (by omega) (fun M27 h12 => (kqK2 (fun q13 => (kqW2_rb hC h12 (by omega) (fun L29 h14 => (kqS2 h14)))))))))))) (kqS2 h3))))))))))
theorem y_fX15_microsecond_b274 {P : mwM → mwL → Prop} (hC : CPrb P) {fu : Nat} {r125 : (Int32 × Int32 × mwM × mwL) → Option (Int32 × mwM × mwL)} {v2 : Int32} {v3 : Int32} (hr125 : ∀ s, P s.2.2.1 s.2.2.2 → kq3 P (r125 s)) {M : mwM} {L : mwL} (h : P M L) : kq3 P (fX15_microsecond_b274 fu r125 v2 v3 M L) := by
  unfold fX15_microsecond_b274
  exact (kqL3 (fun x44 => (hr125 (v2, x44, M, L) h)))
theorem y_fX15_microsecond_b243 {P : mwM → mwL → Prop} (hC : CPrb P) {fu : Nat} {r125 : (Int32 × Int32 × mwM × mwL) → Option (Int32 × mwM × mwL)} {v3 : Int32} {v4 : Int32} {v5 : Int32} {s0 : Int32} (hr125 : ∀ s, P s.2.2.1 s.2.2.2 → kq3 P (r125 s)) {M : mwM} {L : mwL} (h : P M L) : kq3 P (fX15_microsecond_b243 fu r125 v3 v4 v5 s0 M L) := by
  unfold fX15_microsecond_b243
  exact (kqI3 (kqI3 (y_fX15_microsecond_b274 hC hr125 h) (kqB23 (y_DX15_pass hC h) (fun M39 L40 h1 => (y_fX15_microsecond_b274 hC hr125 h1)))) (kqK3 (fun q2 => (kqK3 (fun q3 => (kqW3_rb hC h (by omega) (fun L43 h4 => (y_fX15_microsecond_b274 hC hr125 h4))))))))
theorem y_fX15_microsecond_b227 {P : mwM → mwL → Prop} (hC : CPrb P) {fu : Nat} {r125 : (Int32 × Int32 × mwM × mwL) → Option (Int32 × mwM × mwL)} {v2 : Int32} {v3 : Int32} {v4 : Int32} {v5 : Int32} {v6 : Int32} {s0 : Int32} (hr125 : ∀ s, P s.2.2.1 s.2.2.2 → kq3 P (r125 s)) {M : mwM} {L : mwL} (h : P M L) : kq3 P (fX15_microsecond_b227 fu r125 v2 v3 v4 v5 v6 s0 M L) := by
  unfold fX15_microsecond_b227
  exact (kqI3 (y_fX15_microsecond_b243 hC hr125 h) (y_fX15_microsecond_b243 hC hr125 h))
theorem y_fX15_microsecond_b175 {P : mwM → mwL → Prop} (hC : CPrb P) {fu : Nat} {r125 : (Int32 × Int32 × mwM × mwL) → Option (Int32 × mwM × mwL)} {v2 : Int32} {v3 : Int32} {v4 : Int32} {v5 : Int32} {s0 : Int32} (hr125 : ∀ s, P s.2.2.1 s.2.2.2 → kq3 P (r125 s)) {M : mwM} {L : mwL} (h : P M L) : kq3 P (fX15_microsecond_b175 fu r125 v2 v3 v4 v5 s0 M L) := by
  unfold fX15_microsecond_b175
  exact (kqK3 (fun q1 => (kqM3_rb hC h (by omega) (fun M33 h2 => (kqI3 (y_fX15_microsecond_b227 hC hr125 h2) (kqK3 (fun q3 => (y_fX15_microsecond_b227 hC hr125 h2))))))))
theorem y_fX15_microsecond_b152 {P : mwM → mwL → Prop} (hC : CPrb P) {fu : Nat} {r125 : (Int32 × Int32 × mwM × mwL) → Option (Int32 × mwM × mwL)} {v2 : Int32} {v3 : Int32} {v4 : Int32} {s0 : Int32} (hr125 : ∀ s, P s.2.2.1 s.2.2.2 → kq3 P (r125 s)) {M : mwM} {L : mwL} (h : P M L) : kq3 P (fX15_microsecond_b152 fu r125 v2 v3 v4 s0 M L) := by
  unfold fX15_microsecond_b152
  exact (kqI3 (y_fX15_microsecond_b175 hC hr125 h) (kqK3 (fun q1 => (y_fX15_microsecond_b175 hC hr125 h))))
theorem y_fX15_microsecond_i125 {P : mwM → mwL → Prop} (hC : CPrb P) {fu : Nat} {r125 : (Int32 × Int32 × mwM × mwL) → Option (Int32 × mwM × mwL)} {v2 : Int32} {v3 : Int32} (hr125 : ∀ s, P s.2.2.1 s.2.2.2 → kq3 P (r125 s)) {M : mwM} {L : mwL} (h : P M L) : kq3 P (fX15_microsecond_i125 fu r125 v2 v3 M L) := by
  unfold fX15_microsecond_i125
  exact (kqI3 (kqW3_rb hC h (by omega) (fun L22 h1 => (kqS3 h1))) (kqB33 (y_DX15_choose hC h) (fun r25 M23 L24 h2 => (kqI3 (kqB33 (y_DX15_atHand hC h2) (fun r29 M27 L28 h3 => (y_fX15_microsecond_b152 hC hr125 h3))) (y_fX15_microsecond_b152 hC hr125 h2)))))
theorem y_fX15_microsecond_h125 {P : mwM → mwL → Prop} (hC : CPrb P) {fu : Nat} : ∀ n s, P s.2.2.1 s.2.2.2 → kq3 P (fX15_microsecond_h125 fu n s) := by
  intro n
  induction n with
  | zero => intro s _; exact kqN3
  | succ n ih =>
    intro s h
    show kq3 P (fX15_microsecond_i125 fu (fX15_microsecond_h125 fu n) s.1 s.2.1 s.2.2.1 s.2.2.2)
    exact y_fX15_microsecond_i125 hC ih h
theorem y_fX15_microsecond_b121 {P : mwM → mwL → Prop} (hC : CPrb P) {fu : Nat} {M : mwM} {L : mwL} (h : P M L) : kq3 P (fX15_microsecond_b121 fu M L) := by
  unfold fX15_microsecond_b121
  exact (y_fX15_microsecond_h125 hC _ (0, 0, M, L) h)
theorem y_fX15_microsecond_i58 {P : mwM → mwL → Prop} (hC : CPrb P) {fu : Nat} {r42 : (Int32 × mwM × mwL) → Option (Int32 × mwM × mwL)} {r50 : (Int32 × Int32 × mwM × mwL) → Option (Int32 × mwM × mwL)} {r58 : (Int32 × Int32 × mwM × mwL) → Option (Int32 × mwM × mwL)} {v1 : Int32} {v2 : Int32} (hr42 : ∀ s, P s.2.1 s.2.2 → kq3 P (r42 s)) (hr50 : ∀ s, P s.2.2.1 s.2.2.2 → kq3 P (r50 s)) (hr58 : ∀ s, P s.2.2.1 s.2.2.2 → kq3 P (r58 s)) {M : mwM} {L : mwL} (h : P M L) : kq3 P (fX15_microsecond_i58 fu r42 r50 r58 v1 v2 M L) := by
  unfold fX15_microsecond_i58
  exact (kqB33 (y_DX15_step hC h) (fun r18 M16 L17 h1 => (kqI3 (kqL3 (fun x20 => (hr50 (v1, x20, M16, L17) h1))) (hr58 (1, v2, M16, L17) h1))))
theorem y_fX15_microsecond_h58 {P : mwM → mwL → Prop} (hC : CPrb P) {fu : Nat} {r42 : (Int32 × mwM × mwL) → Option (Int32 × mwM × mwL)} {r50 : (Int32 × Int32 × mwM × mwL) → Option (Int32 × mwM × mwL)} (hr42 : ∀ s, P s.2.1 s.2.2 → kq3 P (r42 s)) (hr50 : ∀ s, P s.2.2.1 s.2.2.2 → kq3 P (r50 s)) : ∀ n s, P s.2.2.1 s.2.2.2 → kq3 P (fX15_microsecond_h58 fu r42 r50 n s) := by
  intro n
  induction n with
  | zero => intro s _; exact kqN3
  | succ n ih =>
    intro s h
    show kq3 P (fX15_microsecond_i58 fu r42 r50 (fX15_microsecond_h58 fu r42 r50 n) s.1 s.2.1 s.2.2.1 s.2.2.2)
    exact y_fX15_microsecond_i58 hC hr42 hr50 ih h
theorem y_fX15_microsecond_i50 {P : mwM → mwL → Prop} (hC : CPrb P) {fu : Nat} {r42 : (Int32 × mwM × mwL) → Option (Int32 × mwM × mwL)} {r50 : (Int32 × Int32 × mwM × mwL) → Option (Int32 × mwM × mwL)} {v1 : Int32} {v2 : Int32} (hr42 : ∀ s, P s.2.1 s.2.2 → kq3 P (r42 s)) (hr50 : ∀ s, P s.2.2.1 s.2.2.2 → kq3 P (r50 s)) {M : mwM} {L : mwL} (h : P M L) : kq3 P (fX15_microsecond_i50 fu r42 r50 v1 v2 M L) := by
  unfold fX15_microsecond_i50
  exact (kqI3 (hr42 (v1, M, L) h) (y_fX15_microsecond_h58 hC hr42 hr50 _ (v1, v2, M, L) h))
theorem y_fX15_microsecond_h50 {P : mwM → mwL → Prop} (hC : CPrb P) {fu : Nat} {r42 : (Int32 × mwM × mwL) → Option (Int32 × mwM × mwL)} (hr42 : ∀ s, P s.2.1 s.2.2 → kq3 P (r42 s)) : ∀ n s, P s.2.2.1 s.2.2.2 → kq3 P (fX15_microsecond_h50 fu r42 n s) := by
  intro n
  induction n with
  | zero => intro s _; exact kqN3
  | succ n ih =>
    intro s h
    show kq3 P (fX15_microsecond_i50 fu r42 (fX15_microsecond_h50 fu r42 n) s.1 s.2.1 s.2.2.1 s.2.2.2)
    exact y_fX15_microsecond_i50 hC hr42 ih h
theorem y_fX15_microsecond_i42 {P : mwM → mwL → Prop} (hC : CPrb P) {fu : Nat} {r42 : (Int32 × mwM × mwL) → Option (Int32 × mwM × mwL)} {v1 : Int32} (hr42 : ∀ s, P s.2.1 s.2.2 → kq3 P (r42 s)) {M : mwM} {L : mwL} (h : P M L) : kq3 P (fX15_microsecond_i42 fu r42 v1 M L) := by
  unfold fX15_microsecond_i42
  exact (kqI3 (kqI3 (y_fX15_microsecond_b121 hC h) (kqI3 (kqI3 (y_fX15_microsecond_b121 hC h) (kqB23 (y_DX15_tell hC h) (fun M12 L13 h1 => (kqM3_rb hC h1 (by omega) (fun M14 h2 => (y_fX15_microsecond_b121 hC h2)))))) (y_fX15_microsecond_b121 hC h))) (y_fX15_microsecond_h50 hC hr42 _ (0, 0, M, L) h))
theorem y_fX15_microsecond_h42 {P : mwM → mwL → Prop} (hC : CPrb P) {fu : Nat} : ∀ n s, P s.2.1 s.2.2 → kq3 P (fX15_microsecond_h42 fu n s) := by
  intro n
  induction n with
  | zero => intro s _; exact kqN3
  | succ n ih =>
    intro s h
    show kq3 P (fX15_microsecond_i42 fu (fX15_microsecond_h42 fu n) s.1 s.2.1 s.2.2)
    exact y_fX15_microsecond_i42 hC ih h
theorem y_fX15_microsecond_b34 {P : mwM → mwL → Prop} (hC : CPrb P) {fu : Nat} {r2 : (Int32 × mwM × mwL) → Option (Int32 × mwM × mwL)} {v1 : Int32} (hr2 : ∀ s, P s.2.1 s.2.2 → kq3 P (r2 s)) {M : mwM} {L : mwL} (h : P M L) : kq3 P (fX15_microsecond_b34 fu r2 v1 M L) := by
  unfold fX15_microsecond_b34
  exact (kqL3 (fun x7 => (hr2 (x7, M, L) h)))
theorem y_fX15_microsecond_i2 {P : mwM → mwL → Prop} (hC : CPrb P) {fu : Nat} {r2 : (Int32 × mwM × mwL) → Option (Int32 × mwM × mwL)} {v1 : Int32} (hr2 : ∀ s, P s.2.1 s.2.2 → kq3 P (r2 s)) {M : mwM} {L : mwL} (h : P M L) : kq3 P (fX15_microsecond_i2 fu r2 v1 M L) := by
  unfold fX15_microsecond_i2
  exact (kqI3 (y_fX15_microsecond_h42 hC _ (1, M, L) h) (kqK3 (fun q1 => (kqI3 (kqK3 (fun q2 => (kqB23 (y_DX15_begin hC h) (fun M5 L6 h3 => (y_fX15_microsecond_b34 hC hr2 h3))))) (y_fX15_microsecond_b34 hC hr2 h)))))
theorem y_fX15_microsecond_h2 {P : mwM → mwL → Prop} (hC : CPrb P) {fu : Nat} : ∀ n s, P s.2.1 s.2.2 → kq3 P (fX15_microsecond_h2 fu n s) := by
  intro n
  induction n with
  | zero => intro s _; exact kqN3
  | succ n ih =>
    intro s h
    show kq3 P (fX15_microsecond_i2 fu (fX15_microsecond_h2 fu n) s.1 s.2.1 s.2.2)
    exact y_fX15_microsecond_i2 hC ih h
theorem y_DX15_microsecond {P : mwM → mwL → Prop} (hC : CPrb P) {fu : Nat} {M : mwM} {L : mwL} (h : P M L) : kq3 P (DX15_microsecond fu M L) := by
  unfold DX15_microsecond
  exact (y_fX15_microsecond_h2 hC _ (0, M, L) h)
theorem y_fX15_run_b19 {P : mwM → mwL → Prop} (hC : CPrb P) {fu : Nat} {a1 : Int64} {M : mwM} {L : mwL} (h : P M L) : kq3 P (fX15_run_b19 fu a1 M L) := by
  unfold fX15_run_b19
  exact (kqS3 h)
theorem y_fX15_run_i31 {P : mwM → mwL → Prop} (hC : CPrb P) {fu : Nat} {a1 : Int64} {r31 : (Int32 × Int64 × mwM × mwL) → Option (Int32 × mwM × mwL)} {v3 : Int32} {v4 : Int64} (hr31 : ∀ s, P s.2.2.1 s.2.2.2 → kq3 P (r31 s)) {M : mwM} {L : mwL} (h : P M L) : kq3 P (fX15_run_i31 fu a1 r31 v3 v4 M L) := by
  unfold fX15_run_i31
  exact (kqI3 (kqS3 h) (kqB33 (y_DX15_microsecond hC h) (fun r4 M2 L3 h1 => (kqL3 (fun x5 => (kqL3 (fun x6 => (hr31 (x5, x6, M2, L3) h1))))))))
theorem y_fX15_run_h31 {P : mwM → mwL → Prop} (hC : CPrb P) {fu : Nat} {a1 : Int64} : ∀ n s, P s.2.2.1 s.2.2.2 → kq3 P (fX15_run_h31 fu a1 n s) := by
  intro n
  induction n with
  | zero => intro s _; exact kqN3
  | succ n ih =>
    intro s h
    show kq3 P (fX15_run_i31 fu a1 (fX15_run_h31 fu a1 n) s.1 s.2.1 s.2.2.1 s.2.2.2)
    exact y_fX15_run_i31 hC ih h
theorem y_DX15_run {P : mwM → mwL → Prop} (hC : CPrb P) {fu : Nat} {a1 : Int64} {M : mwM} {L : mwL} (h : P M L) : kq3 P (DX15_run fu a1 M L) := by
  unfold DX15_run
  exact (kqI3 (y_fX15_run_b19 hC h) (kqI3 (kqB23 (y_DX15_findCeilings hC h) (fun M9 L10 h1 => (y_fX15_run_h31 hC _ (0, 0, M9, L10) h1))) (y_fX15_run_b19 hC h)))
theorem y_fX15_running_b12 {P : mwM → mwL → Prop} (hC : CPrb P) {fu : Nat} {a1 : Int32} {a2 : Int64} {M : mwM} {L : mwL} (h : P M L) : kq3 P (fX15_running_b12 fu a1 a2 M L) := by
  unfold fX15_running_b12
  exact (kqS3 h)
theorem y_fX15_running_b29 {P : mwM → mwL → Prop} (hC : CPrb P) {fu : Nat} {a1 : Int32} {a2 : Int64} {M : mwM} {L : mwL} (h : P M L) : kq3 P (fX15_running_b29 fu a1 a2 M L) := by
  unfold fX15_running_b29
  exact (kqS3 h)
theorem y_DX15_running {P : mwM → mwL → Prop} (hC : CPrb P) {fu : Nat} {a1 : Int32} {a2 : Int64} {M : mwM} {L : mwL} (h : P M L) : kq3 P (DX15_running fu a1 a2 M L) := by
  unfold DX15_running
  exact (kqI3 (y_fX15_running_b12 hC h) (kqI3 (kqI3 (y_fX15_running_b29 hC h) (kqI3 (kqK3 (fun q1 => (kqS3 h))) (y_fX15_running_b29 hC h))) (y_fX15_running_b12 hC h)))
theorem y_fX15_used_b20 {P : mwM → mwL → Prop} (hC : CPrb P) {fu : Nat} {a1 : Int32} {s0 : Int64} {M : mwM} {L : mwL} (h : P M L) : kq3 P (fX15_used_b20 fu a1 s0 M L) := by
  unfold fX15_used_b20
  exact (kqS3 h)
theorem y_DX15_used {P : mwM → mwL → Prop} (hC : CPrb P) {fu : Nat} {a1 : Int32} {M : mwM} {L : mwL} (h : P M L) : kq3 P (DX15_used fu a1 M L) := by
  unfold DX15_used
  exact (kqB33 (y_DX15_no hC h) (fun r3 M1 L2 h1 => (kqI3 (kqK3 (fun q2 => (y_fX15_used_b20 hC h1))) (y_fX15_used_b20 hC h1))))
theorem y_fX15_state_b18 {P : mwM → mwL → Prop} (hC : CPrb P) {fu : Nat} {a1 : Int32} {s0 : Int32} {M : mwM} {L : mwL} (h : P M L) : kq3 P (fX15_state_b18 fu a1 s0 M L) := by
  unfold fX15_state_b18
  exact (kqS3 h)
theorem y_DX15_state {P : mwM → mwL → Prop} (hC : CPrb P) {fu : Nat} {a1 : Int32} {M : mwM} {L : mwL} (h : P M L) : kq3 P (DX15_state fu a1 M L) := by
  unfold DX15_state
  exact (kqB33 (y_DX15_no hC h) (fun r3 M1 L2 h1 => (kqI3 (kqK3 (fun q2 => (y_fX15_state_b18 hC h1))) (y_fX15_state_b18 hC h1))))
theorem y_fX16_anew_i22 {P : mwM → mwL → Prop} (hC : CPrb P) {fu : Nat} {k : Nat} {a1 : Int32} {r22 : (Int32 × mwM × mwL) → Option (mwM × mwL)} {v2 : Int32} (hr22 : ∀ s, P s.2.1 s.2.2 → kq2 P (r22 s)) (hk_k : 941 ≤ k ∧ k < 1577 ∧ (k - 941) % 53 = 0) {M : mwM} {L : mwL} (h : P M L) : kq2 P (fX16_anew_i22 fu k a1 r22 v2 M L) := by
  unfold fX16_anew_i22
  exact (kqI2 (kqS2 h) (kqK2 (fun q1 => (kqM2_rb hC h (by omega) (fun M3 h2 => (kqL2 (fun x4 => (hr22 (x4, M3, L) h2))))))))
theorem y_fX16_anew_h22 {P : mwM → mwL → Prop} (hC : CPrb P) {fu : Nat} {k : Nat} {a1 : Int32} (hk_k : 941 ≤ k ∧ k < 1577 ∧ (k - 941) % 53 = 0) : ∀ n s, P s.2.1 s.2.2 → kq2 P (fX16_anew_h22 fu k a1 n s) := by
  intro n
  induction n with
  | zero => intro s _; exact kqN2
  | succ n ih =>
    intro s h
    show kq2 P (fX16_anew_i22 fu k a1 (fX16_anew_h22 fu k a1 n) s.1 s.2.1 s.2.2)
    exact y_fX16_anew_i22 hC ih hk_k h
